/-! decode rows (given text, the bytes named by mB) -/
theorem dX0_init_0 : decode cX0_init 0 = .ok (.aload_n 0, 1) := by decide +kernel
theorem dX0_init_1 : decode cX0_init 1 = .ok (.invokespecial 3, 3) := by decide +kernel
theorem dX0_init_4 : decode cX0_init 4 = .ok (.aload_n 0, 1) := by decide +kernel
theorem dX0_init_5 : decode cX0_init 5 = .ok (.new 9, 3) := by decide +kernel
theorem dX0_init_8 : decode cX0_init 8 = .ok (.dup, 1) := by decide +kernel
theorem dX0_init_9 : decode cX0_init 9 = .ok (.bipush 100, 2) := by decide +kernel
theorem dX0_init_11 : decode cX0_init 11 = .ok (.invokespecial 11, 3) := by decide +kernel
theorem dX0_init_14 : decode cX0_init 14 = .ok (.putfield 14, 3) := by decide +kernel
theorem dX0_init_17 : decode cX0_init 17 = .ok (.aload_n 0, 1) := by decide +kernel
theorem dX0_init_18 : decode cX0_init 18 = .ok (.bipush 100, 2) := by decide +kernel
theorem dX0_init_20 : decode cX0_init 20 = .ok (.newarray .int, 2) := by decide +kernel
theorem dX0_init_22 : decode cX0_init 22 = .ok (.putfield 20, 3) := by decide +kernel
theorem dX0_init_25 : decode cX0_init 25 = .ok (.aload_n 0, 1) := by decide +kernel
theorem dX0_init_26 : decode cX0_init 26 = .ok (.bipush 100, 2) := by decide +kernel
theorem dX0_init_28 : decode cX0_init 28 = .ok (.newarray .int, 2) := by decide +kernel
theorem dX0_init_30 : decode cX0_init 30 = .ok (.putfield 24, 3) := by decide +kernel
theorem dX0_init_33 : decode cX0_init 33 = .ok (.aload_n 0, 1) := by decide +kernel
theorem dX0_init_34 : decode cX0_init 34 = .ok (.bipush 100, 2) := by decide +kernel
theorem dX0_init_36 : decode cX0_init 36 = .ok (.newarray .int, 2) := by decide +kernel
theorem dX0_init_38 : decode cX0_init 38 = .ok (.putfield 27, 3) := by decide +kernel
theorem dX0_init_41 : decode cX0_init 41 = .ok (.aload_n 0, 1) := by decide +kernel
theorem dX0_init_42 : decode cX0_init 42 = .ok (.bipush 100, 2) := by decide +kernel
theorem dX0_init_44 : decode cX0_init 44 = .ok (.newarray .int, 2) := by decide +kernel
theorem dX0_init_46 : decode cX0_init 46 = .ok (.putfield 30, 3) := by decide +kernel
theorem dX0_init_49 : decode cX0_init 49 = .ok (.aload_n 0, 1) := by decide +kernel
theorem dX0_init_50 : decode cX0_init 50 = .ok (.bipush 20, 2) := by decide +kernel
theorem dX0_init_52 : decode cX0_init 52 = .ok (.putfield 33, 3) := by decide +kernel
theorem dX0_init_55 : decode cX0_init 55 = .ok (.aload_n 0, 1) := by decide +kernel
theorem dX0_init_56 : decode cX0_init 56 = .ok (.iconst 0, 1) := by decide +kernel
theorem dX0_init_57 : decode cX0_init 57 = .ok (.putfield 37, 3) := by decide +kernel
theorem dX0_init_60 : decode cX0_init 60 = .ok (.aload_n 0, 1) := by decide +kernel
theorem dX0_init_61 : decode cX0_init 61 = .ok (.iconst 0, 1) := by decide +kernel
theorem dX0_init_62 : decode cX0_init 62 = .ok (.putfield 40, 3) := by decide +kernel
theorem dX0_init_65 : decode cX0_init 65 = .ok (.aload_n 0, 1) := by decide +kernel
theorem dX0_init_66 : decode cX0_init 66 = .ok (.iconst 0, 1) := by decide +kernel
theorem dX0_init_67 : decode cX0_init 67 = .ok (.putfield 43, 3) := by decide +kernel
theorem dX0_init_70 : decode cX0_init 70 = .ok (.aload_n 0, 1) := by decide +kernel
theorem dX0_init_71 : decode cX0_init 71 = .ok (.iconst 0, 1) := by decide +kernel
theorem dX0_init_72 : decode cX0_init 72 = .ok (.putfield 46, 3) := by decide +kernel
theorem dX0_init_75 : decode cX0_init 75 = .ok (.aload_n 0, 1) := by decide +kernel
theorem dX0_init_76 : decode cX0_init 76 = .ok (.iconst 0, 1) := by decide +kernel
theorem dX0_init_77 : decode cX0_init 77 = .ok (.putfield 49, 3) := by decide +kernel
theorem dX0_init_80 : decode cX0_init 80 = .ok (.return_, 1) := by decide +kernel
theorem dX0_add_0 : decode (mB 0) 0 = .ok (.aload_n 0, 1) := by decide +kernel
theorem dX0_add_1 : decode (mB 0) 1 = .ok (.getfield 14, 3) := by decide +kernel
theorem dX0_add_4 : decode (mB 0) 4 = .ok (.invokevirtual 52, 3) := by decide +kernel
theorem dX0_add_7 : decode (mB 0) 7 = .ok (.istore_n 2, 1) := by decide +kernel
theorem dX0_add_8 : decode (mB 0) 8 = .ok (.iload_n 2, 1) := by decide +kernel
theorem dX0_add_9 : decode (mB 0) 9 = .ok (.iconst (-1), 1) := by decide +kernel
theorem dX0_add_10 : decode (mB 0) 10 = .ok (.if_icmp .ne 5, 3) := by decide +kernel
theorem dX0_add_13 : decode (mB 0) 13 = .ok (.iconst (-1), 1) := by decide +kernel
theorem dX0_add_14 : decode (mB 0) 14 = .ok (.ireturn, 1) := by decide +kernel
theorem dX0_add_15 : decode (mB 0) 15 = .ok (.aload_n 0, 1) := by decide +kernel
theorem dX0_add_16 : decode (mB 0) 16 = .ok (.getfield 20, 3) := by decide +kernel
theorem dX0_add_19 : decode (mB 0) 19 = .ok (.iload_n 2, 1) := by decide +kernel
theorem dX0_add_20 : decode (mB 0) 20 = .ok (.iload_n 1, 1) := by decide +kernel
theorem dX0_add_21 : decode (mB 0) 21 = .ok (.iastore, 1) := by decide +kernel
theorem dX0_add_22 : decode (mB 0) 22 = .ok (.aload_n 0, 1) := by decide +kernel
theorem dX0_add_23 : decode (mB 0) 23 = .ok (.getfield 24, 3) := by decide +kernel
theorem dX0_add_26 : decode (mB 0) 26 = .ok (.iload_n 2, 1) := by decide +kernel
theorem dX0_add_27 : decode (mB 0) 27 = .ok (.iconst (-1), 1) := by decide +kernel
theorem dX0_add_28 : decode (mB 0) 28 = .ok (.iastore, 1) := by decide +kernel
theorem dX0_add_29 : decode (mB 0) 29 = .ok (.aload_n 0, 1) := by decide +kernel
theorem dX0_add_30 : decode (mB 0) 30 = .ok (.getfield 30, 3) := by decide +kernel
theorem dX0_add_33 : decode (mB 0) 33 = .ok (.iload_n 2, 1) := by decide +kernel
theorem dX0_add_34 : decode (mB 0) 34 = .ok (.iconst 0, 1) := by decide +kernel
theorem dX0_add_35 : decode (mB 0) 35 = .ok (.iastore, 1) := by decide +kernel
theorem dX0_add_36 : decode (mB 0) 36 = .ok (.iload_n 2, 1) := by decide +kernel
theorem dX0_add_37 : decode (mB 0) 37 = .ok (.ireturn, 1) := by decide +kernel
theorem dX0_copyFrom_0 : decode (mB 1) 0 = .ok (.aload_n 0, 1) := by decide +kernel
theorem dX0_copyFrom_1 : decode (mB 1) 1 = .ok (.getfield 14, 3) := by decide +kernel
theorem dX0_copyFrom_4 : decode (mB 1) 4 = .ok (.aload_n 1, 1) := by decide +kernel
theorem dX0_copyFrom_5 : decode (mB 1) 5 = .ok (.getfield 14, 3) := by decide +kernel
theorem dX0_copyFrom_8 : decode (mB 1) 8 = .ok (.invokevirtual 56, 3) := by decide +kernel
theorem dX0_copyFrom_11 : decode (mB 1) 11 = .ok (.aload_n 1, 1) := by decide +kernel
theorem dX0_copyFrom_12 : decode (mB 1) 12 = .ok (.getfield 20, 3) := by decide +kernel
theorem dX0_copyFrom_15 : decode (mB 1) 15 = .ok (.iconst 0, 1) := by decide +kernel
theorem dX0_copyFrom_16 : decode (mB 1) 16 = .ok (.aload_n 0, 1) := by decide +kernel
theorem dX0_copyFrom_17 : decode (mB 1) 17 = .ok (.getfield 20, 3) := by decide +kernel
theorem dX0_copyFrom_20 : decode (mB 1) 20 = .ok (.iconst 0, 1) := by decide +kernel
theorem dX0_copyFrom_21 : decode (mB 1) 21 = .ok (.bipush 100, 2) := by decide +kernel
theorem dX0_copyFrom_23 : decode (mB 1) 23 = .ok (.invokestatic 60, 3) := by decide +kernel
theorem dX0_copyFrom_26 : decode (mB 1) 26 = .ok (.aload_n 1, 1) := by decide +kernel
theorem dX0_copyFrom_27 : decode (mB 1) 27 = .ok (.getfield 24, 3) := by decide +kernel
theorem dX0_copyFrom_30 : decode (mB 1) 30 = .ok (.iconst 0, 1) := by decide +kernel
theorem dX0_copyFrom_31 : decode (mB 1) 31 = .ok (.aload_n 0, 1) := by decide +kernel
theorem dX0_copyFrom_32 : decode (mB 1) 32 = .ok (.getfield 24, 3) := by decide +kernel
theorem dX0_copyFrom_35 : decode (mB 1) 35 = .ok (.iconst 0, 1) := by decide +kernel
theorem dX0_copyFrom_36 : decode (mB 1) 36 = .ok (.bipush 100, 2) := by decide +kernel
theorem dX0_copyFrom_38 : decode (mB 1) 38 = .ok (.invokestatic 60, 3) := by decide +kernel
theorem dX0_copyFrom_41 : decode (mB 1) 41 = .ok (.aload_n 1, 1) := by decide +kernel
theorem dX0_copyFrom_42 : decode (mB 1) 42 = .ok (.getfield 27, 3) := by decide +kernel
theorem dX0_copyFrom_45 : decode (mB 1) 45 = .ok (.iconst 0, 1) := by decide +kernel
theorem dX0_copyFrom_46 : decode (mB 1) 46 = .ok (.aload_n 0, 1) := by decide +kernel
theorem dX0_copyFrom_47 : decode (mB 1) 47 = .ok (.getfield 27, 3) := by decide +kernel
theorem dX0_copyFrom_50 : decode (mB 1) 50 = .ok (.iconst 0, 1) := by decide +kernel
theorem dX0_copyFrom_51 : decode (mB 1) 51 = .ok (.bipush 100, 2) := by decide +kernel
theorem dX0_copyFrom_53 : decode (mB 1) 53 = .ok (.invokestatic 60, 3) := by decide +kernel
theorem dX0_copyFrom_56 : decode (mB 1) 56 = .ok (.aload_n 1, 1) := by decide +kernel
theorem dX0_copyFrom_57 : decode (mB 1) 57 = .ok (.getfield 30, 3) := by decide +kernel
theorem dX0_copyFrom_60 : decode (mB 1) 60 = .ok (.iconst 0, 1) := by decide +kernel
theorem dX0_copyFrom_61 : decode (mB 1) 61 = .ok (.aload_n 0, 1) := by decide +kernel
theorem dX0_copyFrom_62 : decode (mB 1) 62 = .ok (.getfield 30, 3) := by decide +kernel
theorem dX0_copyFrom_65 : decode (mB 1) 65 = .ok (.iconst 0, 1) := by decide +kernel
theorem dX0_copyFrom_66 : decode (mB 1) 66 = .ok (.bipush 100, 2) := by decide +kernel
theorem dX0_copyFrom_68 : decode (mB 1) 68 = .ok (.invokestatic 60, 3) := by decide +kernel
theorem dX0_copyFrom_71 : decode (mB 1) 71 = .ok (.aload_n 0, 1) := by decide +kernel
theorem dX0_copyFrom_72 : decode (mB 1) 72 = .ok (.aload_n 1, 1) := by decide +kernel
theorem dX0_copyFrom_73 : decode (mB 1) 73 = .ok (.getfield 33, 3) := by decide +kernel
theorem dX0_copyFrom_76 : decode (mB 1) 76 = .ok (.putfield 33, 3) := by decide +kernel
theorem dX0_copyFrom_79 : decode (mB 1) 79 = .ok (.aload_n 0, 1) := by decide +kernel
theorem dX0_copyFrom_80 : decode (mB 1) 80 = .ok (.aload_n 1, 1) := by decide +kernel
theorem dX0_copyFrom_81 : decode (mB 1) 81 = .ok (.getfield 37, 3) := by decide +kernel
theorem dX0_copyFrom_84 : decode (mB 1) 84 = .ok (.putfield 37, 3) := by decide +kernel
theorem dX0_copyFrom_87 : decode (mB 1) 87 = .ok (.aload_n 0, 1) := by decide +kernel
theorem dX0_copyFrom_88 : decode (mB 1) 88 = .ok (.aload_n 1, 1) := by decide +kernel
theorem dX0_copyFrom_89 : decode (mB 1) 89 = .ok (.getfield 40, 3) := by decide +kernel
theorem dX0_copyFrom_92 : decode (mB 1) 92 = .ok (.putfield 40, 3) := by decide +kernel
theorem dX0_copyFrom_95 : decode (mB 1) 95 = .ok (.aload_n 0, 1) := by decide +kernel
theorem dX0_copyFrom_96 : decode (mB 1) 96 = .ok (.aload_n 1, 1) := by decide +kernel
theorem dX0_copyFrom_97 : decode (mB 1) 97 = .ok (.getfield 43, 3) := by decide +kernel
theorem dX0_copyFrom_100 : decode (mB 1) 100 = .ok (.putfield 43, 3) := by decide +kernel
theorem dX0_copyFrom_103 : decode (mB 1) 103 = .ok (.aload_n 0, 1) := by decide +kernel
theorem dX0_copyFrom_104 : decode (mB 1) 104 = .ok (.aload_n 1, 1) := by decide +kernel
theorem dX0_copyFrom_105 : decode (mB 1) 105 = .ok (.getfield 46, 3) := by decide +kernel
theorem dX0_copyFrom_108 : decode (mB 1) 108 = .ok (.putfield 46, 3) := by decide +kernel
theorem dX0_copyFrom_111 : decode (mB 1) 111 = .ok (.aload_n 0, 1) := by decide +kernel
theorem dX0_copyFrom_112 : decode (mB 1) 112 = .ok (.aload_n 1, 1) := by decide +kernel
theorem dX0_copyFrom_113 : decode (mB 1) 113 = .ok (.getfield 49, 3) := by decide +kernel
theorem dX0_copyFrom_116 : decode (mB 1) 116 = .ok (.putfield 49, 3) := by decide +kernel
theorem dX0_copyFrom_119 : decode (mB 1) 119 = .ok (.return_, 1) := by decide +kernel
theorem dX1_init_0 : decode cX1_init 0 = .ok (.aload_n 0, 1) := by decide +kernel
theorem dX1_init_1 : decode cX1_init 1 = .ok (.invokespecial 3, 3) := by decide +kernel
theorem dX1_init_4 : decode cX1_init 4 = .ok (.aload_n 0, 1) := by decide +kernel
theorem dX1_init_5 : decode cX1_init 5 = .ok (.bipush 6, 2) := by decide +kernel
theorem dX1_init_7 : decode cX1_init 7 = .ok (.anewarray 9, 3) := by decide +kernel
theorem dX1_init_10 : decode cX1_init 10 = .ok (.putfield 11, 3) := by decide +kernel
theorem dX1_init_13 : decode cX1_init 13 = .ok (.aload_n 0, 1) := by decide +kernel
theorem dX1_init_14 : decode cX1_init 14 = .ok (.iconst 0, 1) := by decide +kernel
theorem dX1_init_15 : decode cX1_init 15 = .ok (.putfield 17, 3) := by decide +kernel
theorem dX1_init_18 : decode cX1_init 18 = .ok (.aload_n 0, 1) := by decide +kernel
theorem dX1_init_19 : decode cX1_init 19 = .ok (.iconst 0, 1) := by decide +kernel
theorem dX1_init_20 : decode cX1_init 20 = .ok (.putfield 21, 3) := by decide +kernel
theorem dX1_init_23 : decode cX1_init 23 = .ok (.aload_n 0, 1) := by decide +kernel
theorem dX1_init_24 : decode cX1_init 24 = .ok (.iconst 1, 1) := by decide +kernel
theorem dX1_init_25 : decode cX1_init 25 = .ok (.putfield 24, 3) := by decide +kernel
theorem dX1_init_28 : decode cX1_init 28 = .ok (.aload_n 0, 1) := by decide +kernel
theorem dX1_init_29 : decode cX1_init 29 = .ok (.iconst 0, 1) := by decide +kernel
theorem dX1_init_30 : decode cX1_init 30 = .ok (.putfield 28, 3) := by decide +kernel
theorem dX1_init_33 : decode cX1_init 33 = .ok (.aload_n 0, 1) := by decide +kernel
theorem dX1_init_34 : decode cX1_init 34 = .ok (.new 31, 3) := by decide +kernel
theorem dX1_init_37 : decode cX1_init 37 = .ok (.dup, 1) := by decide +kernel
theorem dX1_init_38 : decode cX1_init 38 = .ok (.invokespecial 33, 3) := by decide +kernel
theorem dX1_init_41 : decode cX1_init 41 = .ok (.putfield 34, 3) := by decide +kernel
theorem dX1_init_44 : decode cX1_init 44 = .ok (.aload_n 0, 1) := by decide +kernel
theorem dX1_init_45 : decode cX1_init 45 = .ok (.new 38, 3) := by decide +kernel
theorem dX1_init_48 : decode cX1_init 48 = .ok (.dup, 1) := by decide +kernel
theorem dX1_init_49 : decode cX1_init 49 = .ok (.invokespecial 40, 3) := by decide +kernel
theorem dX1_init_52 : decode cX1_init 52 = .ok (.putfield 41, 3) := by decide +kernel
theorem dX1_init_55 : decode cX1_init 55 = .ok (.aload_n 0, 1) := by decide +kernel
theorem dX1_init_56 : decode cX1_init 56 = .ok (.new 45, 3) := by decide +kernel
theorem dX1_init_59 : decode cX1_init 59 = .ok (.dup, 1) := by decide +kernel
theorem dX1_init_60 : decode cX1_init 60 = .ok (.invokespecial 47, 3) := by decide +kernel
theorem dX1_init_63 : decode cX1_init 63 = .ok (.putfield 48, 3) := by decide +kernel
theorem dX1_init_66 : decode cX1_init 66 = .ok (.aload_n 0, 1) := by decide +kernel
theorem dX1_init_67 : decode cX1_init 67 = .ok (.new 52, 3) := by decide +kernel
theorem dX1_init_70 : decode cX1_init 70 = .ok (.dup, 1) := by decide +kernel
theorem dX1_init_71 : decode cX1_init 71 = .ok (.invokespecial 54, 3) := by decide +kernel
theorem dX1_init_74 : decode cX1_init 74 = .ok (.putfield 55, 3) := by decide +kernel
theorem dX1_init_77 : decode cX1_init 77 = .ok (.aload_n 0, 1) := by decide +kernel
theorem dX1_init_78 : decode cX1_init 78 = .ok (.bipush 120, 2) := by decide +kernel
theorem dX1_init_80 : decode cX1_init 80 = .ok (.newarray .int, 2) := by decide +kernel
theorem dX1_init_82 : decode cX1_init 82 = .ok (.putfield 59, 3) := by decide +kernel
theorem dX1_init_85 : decode cX1_init 85 = .ok (.aload_n 0, 1) := by decide +kernel
theorem dX1_init_86 : decode cX1_init 86 = .ok (.iconst 0, 1) := by decide +kernel
theorem dX1_init_87 : decode cX1_init 87 = .ok (.putfield 63, 3) := by decide +kernel
theorem dX1_init_90 : decode cX1_init 90 = .ok (.aload_n 0, 1) := by decide +kernel
theorem dX1_init_91 : decode cX1_init 91 = .ok (.iconst (-1), 1) := by decide +kernel
theorem dX1_init_92 : decode cX1_init 92 = .ok (.putfield 66, 3) := by decide +kernel
theorem dX1_init_95 : decode cX1_init 95 = .ok (.aload_n 0, 1) := by decide +kernel
theorem dX1_init_96 : decode cX1_init 96 = .ok (.iconst 0, 1) := by decide +kernel
theorem dX1_init_97 : decode cX1_init 97 = .ok (.putfield 69, 3) := by decide +kernel
theorem dX1_init_100 : decode cX1_init 100 = .ok (.iconst 0, 1) := by decide +kernel
theorem dX1_init_101 : decode cX1_init 101 = .ok (.istore_n 1, 1) := by decide +kernel
theorem dX1_init_102 : decode cX1_init 102 = .ok (.iload_n 1, 1) := by decide +kernel
theorem dX1_init_103 : decode cX1_init 103 = .ok (.bipush 6, 2) := by decide +kernel
theorem dX1_init_105 : decode cX1_init 105 = .ok (.if_icmp .ge 22, 3) := by decide +kernel
theorem dX1_init_108 : decode cX1_init 108 = .ok (.aload_n 0, 1) := by decide +kernel
theorem dX1_init_109 : decode cX1_init 109 = .ok (.getfield 11, 3) := by decide +kernel
theorem dX1_init_112 : decode cX1_init 112 = .ok (.iload_n 1, 1) := by decide +kernel
theorem dX1_init_113 : decode cX1_init 113 = .ok (.new 9, 3) := by decide +kernel
theorem dX1_init_116 : decode cX1_init 116 = .ok (.dup, 1) := by decide +kernel
theorem dX1_init_117 : decode cX1_init 117 = .ok (.invokespecial 72, 3) := by decide +kernel
theorem dX1_init_120 : decode cX1_init 120 = .ok (.aastore, 1) := by decide +kernel
theorem dX1_init_121 : decode cX1_init 121 = .ok (.iinc 1 1, 3) := by decide +kernel
theorem dX1_init_124 : decode cX1_init 124 = .ok (.goto (-22), 3) := by decide +kernel
theorem dX1_init_127 : decode cX1_init 127 = .ok (.return_, 1) := by decide +kernel
theorem dX1_addService_0 : decode (mB 2) 0 = .ok (.aload_n 0, 1) := by decide +kernel
theorem dX1_addService_1 : decode (mB 2) 1 = .ok (.getfield 17, 3) := by decide +kernel
theorem dX1_addService_4 : decode (mB 2) 4 = .ok (.bipush 6, 2) := by decide +kernel
theorem dX1_addService_6 : decode (mB 2) 6 = .ok (.if_icmp .lt 6, 3) := by decide +kernel
theorem dX1_addService_9 : decode (mB 2) 9 = .ok (.bipush (-2), 2) := by decide +kernel
theorem dX1_addService_11 : decode (mB 2) 11 = .ok (.ireturn, 1) := by decide +kernel
theorem dX1_addService_12 : decode (mB 2) 12 = .ok (.aload_n 0, 1) := by decide +kernel
theorem dX1_addService_13 : decode (mB 2) 13 = .ok (.getfield 11, 3) := by decide +kernel
theorem dX1_addService_16 : decode (mB 2) 16 = .ok (.aload_n 0, 1) := by decide +kernel
theorem dX1_addService_17 : decode (mB 2) 17 = .ok (.getfield 17, 3) := by decide +kernel
theorem dX1_addService_20 : decode (mB 2) 20 = .ok (.aaload, 1) := by decide +kernel
theorem dX1_addService_21 : decode (mB 2) 21 = .ok (.getfield 73, 3) := by decide +kernel
theorem dX1_addService_24 : decode (mB 2) 24 = .ok (.astore 4, 2) := by decide +kernel
theorem dX1_addService_26 : decode (mB 2) 26 = .ok (.aload 4, 2) := by decide +kernel
theorem dX1_addService_28 : decode (mB 2) 28 = .ok (.bipush 7, 2) := by decide +kernel
theorem dX1_addService_30 : decode (mB 2) 30 = .ok (.iload_n 1, 1) := by decide +kernel
theorem dX1_addService_31 : decode (mB 2) 31 = .ok (.iastore, 1) := by decide +kernel
theorem dX1_addService_32 : decode (mB 2) 32 = .ok (.aload 4, 2) := by decide +kernel
theorem dX1_addService_34 : decode (mB 2) 34 = .ok (.bipush 9, 2) := by decide +kernel
theorem dX1_addService_36 : decode (mB 2) 36 = .ok (.iload_n 2, 1) := by decide +kernel
theorem dX1_addService_37 : decode (mB 2) 37 = .ok (.iastore, 1) := by decide +kernel
theorem dX1_addService_38 : decode (mB 2) 38 = .ok (.aload 4, 2) := by decide +kernel
theorem dX1_addService_40 : decode (mB 2) 40 = .ok (.bipush 8, 2) := by decide +kernel
theorem dX1_addService_42 : decode (mB 2) 42 = .ok (.iload_n 3, 1) := by decide +kernel
theorem dX1_addService_43 : decode (mB 2) 43 = .ok (.iastore, 1) := by decide +kernel
theorem dX1_addService_44 : decode (mB 2) 44 = .ok (.aload_n 0, 1) := by decide +kernel
theorem dX1_addService_45 : decode (mB 2) 45 = .ok (.dup, 1) := by decide +kernel
theorem dX1_addService_46 : decode (mB 2) 46 = .ok (.getfield 17, 3) := by decide +kernel
theorem dX1_addService_49 : decode (mB 2) 49 = .ok (.iconst 1, 1) := by decide +kernel
theorem dX1_addService_50 : decode (mB 2) 50 = .ok (.iadd, 1) := by decide +kernel
theorem dX1_addService_51 : decode (mB 2) 51 = .ok (.putfield 17, 3) := by decide +kernel
theorem dX1_addService_54 : decode (mB 2) 54 = .ok (.aload_n 0, 1) := by decide +kernel
theorem dX1_addService_55 : decode (mB 2) 55 = .ok (.getfield 17, 3) := by decide +kernel
theorem dX1_addService_58 : decode (mB 2) 58 = .ok (.iconst 1, 1) := by decide +kernel
theorem dX1_addService_59 : decode (mB 2) 59 = .ok (.isub, 1) := by decide +kernel
theorem dX1_addService_60 : decode (mB 2) 60 = .ok (.ireturn, 1) := by decide +kernel
theorem dX1_step_0 : decode (mB 3) 0 = .ok (.aload_n 0, 1) := by decide +kernel
theorem dX1_step_1 : decode (mB 3) 1 = .ok (.dup, 1) := by decide +kernel
theorem dX1_step_2 : decode (mB 3) 2 = .ok (.getfield 21, 3) := by decide +kernel
theorem dX1_step_5 : decode (mB 3) 5 = .ok (.iconst 1, 1) := by decide +kernel
theorem dX1_step_6 : decode (mB 3) 6 = .ok (.iadd, 1) := by decide +kernel
theorem dX1_step_7 : decode (mB 3) 7 = .ok (.putfield 21, 3) := by decide +kernel
theorem dX1_step_10 : decode (mB 3) 10 = .ok (.aload_n 0, 1) := by decide +kernel
theorem dX1_step_11 : decode (mB 3) 11 = .ok (.iconst 1, 1) := by decide +kernel
theorem dX1_step_12 : decode (mB 3) 12 = .ok (.putfield 24, 3) := by decide +kernel
theorem dX1_step_15 : decode (mB 3) 15 = .ok (.aload_n 0, 1) := by decide +kernel
theorem dX1_step_16 : decode (mB 3) 16 = .ok (.invokevirtual 76, 3) := by decide +kernel
theorem dX1_step_19 : decode (mB 3) 19 = .ok (.aload_n 0, 1) := by decide +kernel
theorem dX1_step_20 : decode (mB 3) 20 = .ok (.invokevirtual 79, 3) := by decide +kernel
theorem dX1_step_23 : decode (mB 3) 23 = .ok (.aload_n 0, 1) := by decide +kernel
theorem dX1_step_24 : decode (mB 3) 24 = .ok (.invokevirtual 82, 3) := by decide +kernel
theorem dX1_step_27 : decode (mB 3) 27 = .ok (.aload_n 0, 1) := by decide +kernel
theorem dX1_step_28 : decode (mB 3) 28 = .ok (.invokevirtual 85, 3) := by decide +kernel
theorem dX1_step_31 : decode (mB 3) 31 = .ok (.aload_n 0, 1) := by decide +kernel
theorem dX1_step_32 : decode (mB 3) 32 = .ok (.invokevirtual 88, 3) := by decide +kernel
theorem dX1_step_35 : decode (mB 3) 35 = .ok (.aload_n 0, 1) := by decide +kernel
theorem dX1_step_36 : decode (mB 3) 36 = .ok (.invokevirtual 91, 3) := by decide +kernel
theorem dX1_step_39 : decode (mB 3) 39 = .ok (.iconst 0, 1) := by decide +kernel
theorem dX1_step_40 : decode (mB 3) 40 = .ok (.istore_n 1, 1) := by decide +kernel
theorem dX1_step_41 : decode (mB 3) 41 = .ok (.iload_n 1, 1) := by decide +kernel
theorem dX1_step_42 : decode (mB 3) 42 = .ok (.aload_n 0, 1) := by decide +kernel
theorem dX1_step_43 : decode (mB 3) 43 = .ok (.getfield 48, 3) := by decide +kernel
theorem dX1_step_46 : decode (mB 3) 46 = .ok (.getfield 94, 3) := by decide +kernel
theorem dX1_step_49 : decode (mB 3) 49 = .ok (.if_icmp .ge 34, 3) := by decide +kernel
theorem dX1_step_52 : decode (mB 3) 52 = .ok (.aload_n 0, 1) := by decide +kernel
theorem dX1_step_53 : decode (mB 3) 53 = .ok (.aload_n 0, 1) := by decide +kernel
theorem dX1_step_54 : decode (mB 3) 54 = .ok (.getfield 48, 3) := by decide +kernel
theorem dX1_step_57 : decode (mB 3) 57 = .ok (.getfield 97, 3) := by decide +kernel
theorem dX1_step_60 : decode (mB 3) 60 = .ok (.iload_n 1, 1) := by decide +kernel
theorem dX1_step_61 : decode (mB 3) 61 = .ok (.iaload, 1) := by decide +kernel
theorem dX1_step_62 : decode (mB 3) 62 = .ok (.aload_n 0, 1) := by decide +kernel
theorem dX1_step_63 : decode (mB 3) 63 = .ok (.getfield 48, 3) := by decide +kernel
theorem dX1_step_66 : decode (mB 3) 66 = .ok (.aload_n 0, 1) := by decide +kernel
theorem dX1_step_67 : decode (mB 3) 67 = .ok (.getfield 21, 3) := by decide +kernel
theorem dX1_step_70 : decode (mB 3) 70 = .ok (.iload_n 1, 1) := by decide +kernel
theorem dX1_step_71 : decode (mB 3) 71 = .ok (.invokevirtual 100, 3) := by decide +kernel
theorem dX1_step_74 : decode (mB 3) 74 = .ok (.invokevirtual 104, 3) := by decide +kernel
theorem dX1_step_77 : decode (mB 3) 77 = .ok (.iinc 1 1, 3) := by decide +kernel
theorem dX1_step_80 : decode (mB 3) 80 = .ok (.goto (-39), 3) := by decide +kernel
theorem dX1_step_83 : decode (mB 3) 83 = .ok (.aload_n 0, 1) := by decide +kernel
theorem dX1_step_84 : decode (mB 3) 84 = .ok (.getfield 48, 3) := by decide +kernel
theorem dX1_step_87 : decode (mB 3) 87 = .ok (.aload_n 0, 1) := by decide +kernel
theorem dX1_step_88 : decode (mB 3) 88 = .ok (.getfield 21, 3) := by decide +kernel
theorem dX1_step_91 : decode (mB 3) 91 = .ok (.invokevirtual 108, 3) := by decide +kernel
theorem dX1_step_94 : decode (mB 3) 94 = .ok (.aload_n 0, 1) := by decide +kernel
theorem dX1_step_95 : decode (mB 3) 95 = .ok (.getfield 55, 3) := by decide +kernel
theorem dX1_step_98 : decode (mB 3) 98 = .ok (.aload_n 0, 1) := by decide +kernel
theorem dX1_step_99 : decode (mB 3) 99 = .ok (.getfield 21, 3) := by decide +kernel
theorem dX1_step_102 : decode (mB 3) 102 = .ok (.invokevirtual 112, 3) := by decide +kernel
theorem dX1_step_105 : decode (mB 3) 105 = .ok (.istore_n 1, 1) := by decide +kernel
theorem dX1_step_106 : decode (mB 3) 106 = .ok (.aload_n 0, 1) := by decide +kernel
theorem dX1_step_107 : decode (mB 3) 107 = .ok (.aload_n 0, 1) := by decide +kernel
theorem dX1_step_108 : decode (mB 3) 108 = .ok (.getfield 55, 3) := by decide +kernel
theorem dX1_step_111 : decode (mB 3) 111 = .ok (.getfield 116, 3) := by decide +kernel
theorem dX1_step_114 : decode (mB 3) 114 = .ok (.iload_n 1, 1) := by decide +kernel
theorem dX1_step_115 : decode (mB 3) 115 = .ok (.iaload, 1) := by decide +kernel
theorem dX1_step_116 : decode (mB 3) 116 = .ok (.aload_n 0, 1) := by decide +kernel
theorem dX1_step_117 : decode (mB 3) 117 = .ok (.getfield 55, 3) := by decide +kernel
theorem dX1_step_120 : decode (mB 3) 120 = .ok (.getfield 117, 3) := by decide +kernel
theorem dX1_step_123 : decode (mB 3) 123 = .ok (.iload_n 1, 1) := by decide +kernel
theorem dX1_step_124 : decode (mB 3) 124 = .ok (.iaload, 1) := by decide +kernel
theorem dX1_step_125 : decode (mB 3) 125 = .ok (.invokevirtual 104, 3) := by decide +kernel
theorem dX1_step_128 : decode (mB 3) 128 = .ok (.return_, 1) := by decide +kernel
theorem dX1_findDueJobs_0 : decode (mB 4) 0 = .ok (.aload_n 0, 1) := by decide +kernel
theorem dX1_findDueJobs_1 : decode (mB 4) 1 = .ok (.iconst 0, 1) := by decide +kernel
theorem dX1_findDueJobs_2 : decode (mB 4) 2 = .ok (.putfield 63, 3) := by decide +kernel
theorem dX1_findDueJobs_5 : decode (mB 4) 5 = .ok (.aload_n 0, 1) := by decide +kernel
theorem dX1_findDueJobs_6 : decode (mB 4) 6 = .ok (.getfield 34, 3) := by decide +kernel
theorem dX1_findDueJobs_9 : decode (mB 4) 9 = .ok (.getfield 120, 3) := by decide +kernel
theorem dX1_findDueJobs_12 : decode (mB 4) 12 = .ok (.getfield 124, 3) := by decide +kernel
theorem dX1_findDueJobs_15 : decode (mB 4) 15 = .ok (.istore_n 1, 1) := by decide +kernel
theorem dX1_findDueJobs_16 : decode (mB 4) 16 = .ok (.iconst 0, 1) := by decide +kernel
theorem dX1_findDueJobs_17 : decode (mB 4) 17 = .ok (.istore_n 2, 1) := by decide +kernel
theorem dX1_findDueJobs_18 : decode (mB 4) 18 = .ok (.iload_n 2, 1) := by decide +kernel
theorem dX1_findDueJobs_19 : decode (mB 4) 19 = .ok (.bipush 120, 2) := by decide +kernel
theorem dX1_findDueJobs_21 : decode (mB 4) 21 = .ok (.if_icmp .ge 63, 3) := by decide +kernel
theorem dX1_findDueJobs_24 : decode (mB 4) 24 = .ok (.iload_n 1, 1) := by decide +kernel
theorem dX1_findDueJobs_25 : decode (mB 4) 25 = .ok (.iconst (-1), 1) := by decide +kernel
theorem dX1_findDueJobs_26 : decode (mB 4) 26 = .ok (.if_icmp .eq 58, 3) := by decide +kernel
theorem dX1_findDueJobs_29 : decode (mB 4) 29 = .ok (.aload_n 0, 1) := by decide +kernel
theorem dX1_findDueJobs_30 : decode (mB 4) 30 = .ok (.getfield 34, 3) := by decide +kernel
theorem dX1_findDueJobs_33 : decode (mB 4) 33 = .ok (.getfield 129, 3) := by decide +kernel
theorem dX1_findDueJobs_36 : decode (mB 4) 36 = .ok (.iload_n 1, 1) := by decide +kernel
theorem dX1_findDueJobs_37 : decode (mB 4) 37 = .ok (.iaload, 1) := by decide +kernel
theorem dX1_findDueJobs_38 : decode (mB 4) 38 = .ok (.aload_n 0, 1) := by decide +kernel
theorem dX1_findDueJobs_39 : decode (mB 4) 39 = .ok (.getfield 21, 3) := by decide +kernel
theorem dX1_findDueJobs_42 : decode (mB 4) 42 = .ok (.if_icmp .ne 23, 3) := by decide +kernel
theorem dX1_findDueJobs_45 : decode (mB 4) 45 = .ok (.aload_n 0, 1) := by decide +kernel
theorem dX1_findDueJobs_46 : decode (mB 4) 46 = .ok (.getfield 59, 3) := by decide +kernel
theorem dX1_findDueJobs_49 : decode (mB 4) 49 = .ok (.aload_n 0, 1) := by decide +kernel
theorem dX1_findDueJobs_50 : decode (mB 4) 50 = .ok (.getfield 63, 3) := by decide +kernel
theorem dX1_findDueJobs_53 : decode (mB 4) 53 = .ok (.iload_n 1, 1) := by decide +kernel
theorem dX1_findDueJobs_54 : decode (mB 4) 54 = .ok (.iastore, 1) := by decide +kernel
theorem dX1_findDueJobs_55 : decode (mB 4) 55 = .ok (.aload_n 0, 1) := by decide +kernel
theorem dX1_findDueJobs_56 : decode (mB 4) 56 = .ok (.dup, 1) := by decide +kernel
theorem dX1_findDueJobs_57 : decode (mB 4) 57 = .ok (.getfield 63, 3) := by decide +kernel
theorem dX1_findDueJobs_60 : decode (mB 4) 60 = .ok (.iconst 1, 1) := by decide +kernel
theorem dX1_findDueJobs_61 : decode (mB 4) 61 = .ok (.iadd, 1) := by decide +kernel
theorem dX1_findDueJobs_62 : decode (mB 4) 62 = .ok (.putfield 63, 3) := by decide +kernel
theorem dX1_findDueJobs_65 : decode (mB 4) 65 = .ok (.aload_n 0, 1) := by decide +kernel
theorem dX1_findDueJobs_66 : decode (mB 4) 66 = .ok (.getfield 34, 3) := by decide +kernel
theorem dX1_findDueJobs_69 : decode (mB 4) 69 = .ok (.getfield 120, 3) := by decide +kernel
theorem dX1_findDueJobs_72 : decode (mB 4) 72 = .ok (.getfield 132, 3) := by decide +kernel
theorem dX1_findDueJobs_75 : decode (mB 4) 75 = .ok (.iload_n 1, 1) := by decide +kernel
theorem dX1_findDueJobs_76 : decode (mB 4) 76 = .ok (.iaload, 1) := by decide +kernel
theorem dX1_findDueJobs_77 : decode (mB 4) 77 = .ok (.istore_n 1, 1) := by decide +kernel
theorem dX1_findDueJobs_78 : decode (mB 4) 78 = .ok (.iinc 2 1, 3) := by decide +kernel
theorem dX1_findDueJobs_81 : decode (mB 4) 81 = .ok (.goto (-63), 3) := by decide +kernel
theorem dX1_findDueJobs_84 : decode (mB 4) 84 = .ok (.return_, 1) := by decide +kernel
theorem dX1_endWork_0 : decode (mB 5) 0 = .ok (.iconst 0, 1) := by decide +kernel
theorem dX1_endWork_1 : decode (mB 5) 1 = .ok (.istore_n 1, 1) := by decide +kernel
theorem dX1_endWork_2 : decode (mB 5) 2 = .ok (.iload_n 1, 1) := by decide +kernel
theorem dX1_endWork_3 : decode (mB 5) 3 = .ok (.aload_n 0, 1) := by decide +kernel
theorem dX1_endWork_4 : decode (mB 5) 4 = .ok (.getfield 63, 3) := by decide +kernel
theorem dX1_endWork_7 : decode (mB 5) 7 = .ok (.if_icmp .ge 68, 3) := by decide +kernel
theorem dX1_endWork_10 : decode (mB 5) 10 = .ok (.aload_n 0, 1) := by decide +kernel
theorem dX1_endWork_11 : decode (mB 5) 11 = .ok (.getfield 59, 3) := by decide +kernel
theorem dX1_endWork_14 : decode (mB 5) 14 = .ok (.iload_n 1, 1) := by decide +kernel
theorem dX1_endWork_15 : decode (mB 5) 15 = .ok (.iaload, 1) := by decide +kernel
theorem dX1_endWork_16 : decode (mB 5) 16 = .ok (.istore_n 2, 1) := by decide +kernel
theorem dX1_endWork_17 : decode (mB 5) 17 = .ok (.aload_n 0, 1) := by decide +kernel
theorem dX1_endWork_18 : decode (mB 5) 18 = .ok (.getfield 34, 3) := by decide +kernel
theorem dX1_endWork_21 : decode (mB 5) 21 = .ok (.iload_n 2, 1) := by decide +kernel
theorem dX1_endWork_22 : decode (mB 5) 22 = .ok (.iconst 1, 1) := by decide +kernel
theorem dX1_endWork_23 : decode (mB 5) 23 = .ok (.aload_n 0, 1) := by decide +kernel
theorem dX1_endWork_24 : decode (mB 5) 24 = .ok (.getfield 21, 3) := by decide +kernel
theorem dX1_endWork_27 : decode (mB 5) 27 = .ok (.invokevirtual 135, 3) := by decide +kernel
theorem dX1_endWork_30 : decode (mB 5) 30 = .ok (.ifCond .eq 39, 3) := by decide +kernel
theorem dX1_endWork_33 : decode (mB 5) 33 = .ok (.aload_n 0, 1) := by decide +kernel
theorem dX1_endWork_34 : decode (mB 5) 34 = .ok (.getfield 34, 3) := by decide +kernel
theorem dX1_endWork_37 : decode (mB 5) 37 = .ok (.getfield 139, 3) := by decide +kernel
theorem dX1_endWork_40 : decode (mB 5) 40 = .ok (.iload_n 2, 1) := by decide +kernel
theorem dX1_endWork_41 : decode (mB 5) 41 = .ok (.iaload, 1) := by decide +kernel
theorem dX1_endWork_42 : decode (mB 5) 42 = .ok (.iconst 1, 1) := by decide +kernel
theorem dX1_endWork_43 : decode (mB 5) 43 = .ok (.iadd, 1) := by decide +kernel
theorem dX1_endWork_44 : decode (mB 5) 44 = .ok (.aload_n 0, 1) := by decide +kernel
theorem dX1_endWork_45 : decode (mB 5) 45 = .ok (.getfield 17, 3) := by decide +kernel
theorem dX1_endWork_48 : decode (mB 5) 48 = .ok (.if_icmp .ge 11, 3) := by decide +kernel
theorem dX1_endWork_51 : decode (mB 5) 51 = .ok (.aload_n 0, 1) := by decide +kernel
theorem dX1_endWork_52 : decode (mB 5) 52 = .ok (.iload_n 2, 1) := by decide +kernel
theorem dX1_endWork_53 : decode (mB 5) 53 = .ok (.invokevirtual 142, 3) := by decide +kernel
theorem dX1_endWork_56 : decode (mB 5) 56 = .ok (.goto 9, 3) := by decide +kernel
theorem dX1_endWork_59 : decode (mB 5) 59 = .ok (.aload_n 0, 1) := by decide +kernel
theorem dX1_endWork_60 : decode (mB 5) 60 = .ok (.iload_n 2, 1) := by decide +kernel
theorem dX1_endWork_61 : decode (mB 5) 61 = .ok (.iconst 1, 1) := by decide +kernel
theorem dX1_endWork_62 : decode (mB 5) 62 = .ok (.invokevirtual 145, 3) := by decide +kernel
theorem dX1_endWork_65 : decode (mB 5) 65 = .ok (.aload_n 0, 1) := by decide +kernel
theorem dX1_endWork_66 : decode (mB 5) 66 = .ok (.invokevirtual 149, 3) := by decide +kernel
theorem dX1_endWork_69 : decode (mB 5) 69 = .ok (.iinc 1 1, 3) := by decide +kernel
theorem dX1_endWork_72 : decode (mB 5) 72 = .ok (.goto (-70), 3) := by decide +kernel
theorem dX1_endWork_75 : decode (mB 5) 75 = .ok (.return_, 1) := by decide +kernel
theorem dX1_endPauses_0 : decode (mB 6) 0 = .ok (.iconst 0, 1) := by decide +kernel
theorem dX1_endPauses_1 : decode (mB 6) 1 = .ok (.istore_n 1, 1) := by decide +kernel
theorem dX1_endPauses_2 : decode (mB 6) 2 = .ok (.iload_n 1, 1) := by decide +kernel
theorem dX1_endPauses_3 : decode (mB 6) 3 = .ok (.aload_n 0, 1) := by decide +kernel
theorem dX1_endPauses_4 : decode (mB 6) 4 = .ok (.getfield 63, 3) := by decide +kernel
theorem dX1_endPauses_7 : decode (mB 6) 7 = .ok (.if_icmp .ge 54, 3) := by decide +kernel
theorem dX1_endPauses_10 : decode (mB 6) 10 = .ok (.aload_n 0, 1) := by decide +kernel
theorem dX1_endPauses_11 : decode (mB 6) 11 = .ok (.getfield 59, 3) := by decide +kernel
theorem dX1_endPauses_14 : decode (mB 6) 14 = .ok (.iload_n 1, 1) := by decide +kernel
theorem dX1_endPauses_15 : decode (mB 6) 15 = .ok (.iaload, 1) := by decide +kernel
theorem dX1_endPauses_16 : decode (mB 6) 16 = .ok (.istore_n 2, 1) := by decide +kernel
theorem dX1_endPauses_17 : decode (mB 6) 17 = .ok (.aload_n 0, 1) := by decide +kernel
theorem dX1_endPauses_18 : decode (mB 6) 18 = .ok (.getfield 34, 3) := by decide +kernel
theorem dX1_endPauses_21 : decode (mB 6) 21 = .ok (.iload_n 2, 1) := by decide +kernel
theorem dX1_endPauses_22 : decode (mB 6) 22 = .ok (.iconst 3, 1) := by decide +kernel
theorem dX1_endPauses_23 : decode (mB 6) 23 = .ok (.aload_n 0, 1) := by decide +kernel
theorem dX1_endPauses_24 : decode (mB 6) 24 = .ok (.getfield 21, 3) := by decide +kernel
theorem dX1_endPauses_27 : decode (mB 6) 27 = .ok (.invokevirtual 135, 3) := by decide +kernel
theorem dX1_endPauses_30 : decode (mB 6) 30 = .ok (.ifCond .eq 25, 3) := by decide +kernel
theorem dX1_endPauses_33 : decode (mB 6) 33 = .ok (.aload_n 0, 1) := by decide +kernel
theorem dX1_endPauses_34 : decode (mB 6) 34 = .ok (.getfield 34, 3) := by decide +kernel
theorem dX1_endPauses_37 : decode (mB 6) 37 = .ok (.getfield 152, 3) := by decide +kernel
theorem dX1_endPauses_40 : decode (mB 6) 40 = .ok (.iload_n 2, 1) := by decide +kernel
theorem dX1_endPauses_41 : decode (mB 6) 41 = .ok (.dup2, 1) := by decide +kernel
theorem dX1_endPauses_42 : decode (mB 6) 42 = .ok (.iaload, 1) := by decide +kernel
theorem dX1_endPauses_43 : decode (mB 6) 43 = .ok (.iconst 1, 1) := by decide +kernel
theorem dX1_endPauses_44 : decode (mB 6) 44 = .ok (.iadd, 1) := by decide +kernel
theorem dX1_endPauses_45 : decode (mB 6) 45 = .ok (.iastore, 1) := by decide +kernel
theorem dX1_endPauses_46 : decode (mB 6) 46 = .ok (.aload_n 0, 1) := by decide +kernel
theorem dX1_endPauses_47 : decode (mB 6) 47 = .ok (.iload_n 2, 1) := by decide +kernel
theorem dX1_endPauses_48 : decode (mB 6) 48 = .ok (.invokevirtual 142, 3) := by decide +kernel
theorem dX1_endPauses_51 : decode (mB 6) 51 = .ok (.aload_n 0, 1) := by decide +kernel
theorem dX1_endPauses_52 : decode (mB 6) 52 = .ok (.invokevirtual 149, 3) := by decide +kernel
theorem dX1_endPauses_55 : decode (mB 6) 55 = .ok (.iinc 1 1, 3) := by decide +kernel
theorem dX1_endPauses_58 : decode (mB 6) 58 = .ok (.goto (-56), 3) := by decide +kernel
theorem dX1_endPauses_61 : decode (mB 6) 61 = .ok (.return_, 1) := by decide +kernel
theorem dX1_endAsking_0 : decode (mB 7) 0 = .ok (.iconst 0, 1) := by decide +kernel
theorem dX1_endAsking_1 : decode (mB 7) 1 = .ok (.istore_n 1, 1) := by decide +kernel
theorem dX1_endAsking_2 : decode (mB 7) 2 = .ok (.iload_n 1, 1) := by decide +kernel
theorem dX1_endAsking_3 : decode (mB 7) 3 = .ok (.aload_n 0, 1) := by decide +kernel
theorem dX1_endAsking_4 : decode (mB 7) 4 = .ok (.getfield 63, 3) := by decide +kernel
theorem dX1_endAsking_7 : decode (mB 7) 7 = .ok (.if_icmp .ge 63, 3) := by decide +kernel
theorem dX1_endAsking_10 : decode (mB 7) 10 = .ok (.aload_n 0, 1) := by decide +kernel
theorem dX1_endAsking_11 : decode (mB 7) 11 = .ok (.getfield 59, 3) := by decide +kernel
theorem dX1_endAsking_14 : decode (mB 7) 14 = .ok (.iload_n 1, 1) := by decide +kernel
theorem dX1_endAsking_15 : decode (mB 7) 15 = .ok (.iaload, 1) := by decide +kernel
theorem dX1_endAsking_16 : decode (mB 7) 16 = .ok (.istore_n 2, 1) := by decide +kernel
theorem dX1_endAsking_17 : decode (mB 7) 17 = .ok (.aload_n 0, 1) := by decide +kernel
theorem dX1_endAsking_18 : decode (mB 7) 18 = .ok (.getfield 34, 3) := by decide +kernel
theorem dX1_endAsking_21 : decode (mB 7) 21 = .ok (.iload_n 2, 1) := by decide +kernel
theorem dX1_endAsking_22 : decode (mB 7) 22 = .ok (.iconst 2, 1) := by decide +kernel
theorem dX1_endAsking_23 : decode (mB 7) 23 = .ok (.aload_n 0, 1) := by decide +kernel
theorem dX1_endAsking_24 : decode (mB 7) 24 = .ok (.getfield 21, 3) := by decide +kernel
theorem dX1_endAsking_27 : decode (mB 7) 27 = .ok (.invokevirtual 135, 3) := by decide +kernel
theorem dX1_endAsking_30 : decode (mB 7) 30 = .ok (.ifCond .eq 34, 3) := by decide +kernel
theorem dX1_endAsking_33 : decode (mB 7) 33 = .ok (.aload_n 0, 1) := by decide +kernel
theorem dX1_endAsking_34 : decode (mB 7) 34 = .ok (.aload_n 0, 1) := by decide +kernel
theorem dX1_endAsking_35 : decode (mB 7) 35 = .ok (.getfield 34, 3) := by decide +kernel
theorem dX1_endAsking_38 : decode (mB 7) 38 = .ok (.getfield 155, 3) := by decide +kernel
theorem dX1_endAsking_41 : decode (mB 7) 41 = .ok (.iload_n 2, 1) := by decide +kernel
theorem dX1_endAsking_42 : decode (mB 7) 42 = .ok (.iaload, 1) := by decide +kernel
theorem dX1_endAsking_43 : decode (mB 7) 43 = .ok (.invokevirtual 158, 3) := by decide +kernel
theorem dX1_endAsking_46 : decode (mB 7) 46 = .ok (.aload_n 0, 1) := by decide +kernel
theorem dX1_endAsking_47 : decode (mB 7) 47 = .ok (.iload_n 2, 1) := by decide +kernel
theorem dX1_endAsking_48 : decode (mB 7) 48 = .ok (.invokevirtual 161, 3) := by decide +kernel
theorem dX1_endAsking_51 : decode (mB 7) 51 = .ok (.ifCond .ne 9, 3) := by decide +kernel
theorem dX1_endAsking_54 : decode (mB 7) 54 = .ok (.aload_n 0, 1) := by decide +kernel
theorem dX1_endAsking_55 : decode (mB 7) 55 = .ok (.iload_n 2, 1) := by decide +kernel
theorem dX1_endAsking_56 : decode (mB 7) 56 = .ok (.iconst 0, 1) := by decide +kernel
theorem dX1_endAsking_57 : decode (mB 7) 57 = .ok (.invokevirtual 145, 3) := by decide +kernel
theorem dX1_endAsking_60 : decode (mB 7) 60 = .ok (.aload_n 0, 1) := by decide +kernel
theorem dX1_endAsking_61 : decode (mB 7) 61 = .ok (.invokevirtual 149, 3) := by decide +kernel
theorem dX1_endAsking_64 : decode (mB 7) 64 = .ok (.iinc 1 1, 3) := by decide +kernel
theorem dX1_endAsking_67 : decode (mB 7) 67 = .ok (.goto (-65), 3) := by decide +kernel
theorem dX1_endAsking_70 : decode (mB 7) 70 = .ok (.return_, 1) := by decide +kernel
theorem dX1_endPatience_0 : decode (mB 8) 0 = .ok (.aload_n 0, 1) := by decide +kernel
theorem dX1_endPatience_1 : decode (mB 8) 1 = .ok (.getfield 41, 3) := by decide +kernel
theorem dX1_endPatience_4 : decode (mB 8) 4 = .ok (.getfield 165, 3) := by decide +kernel
theorem dX1_endPatience_7 : decode (mB 8) 7 = .ok (.getfield 124, 3) := by decide +kernel
theorem dX1_endPatience_10 : decode (mB 8) 10 = .ok (.istore_n 1, 1) := by decide +kernel
theorem dX1_endPatience_11 : decode (mB 8) 11 = .ok (.iconst 0, 1) := by decide +kernel
theorem dX1_endPatience_12 : decode (mB 8) 12 = .ok (.istore_n 2, 1) := by decide +kernel
theorem dX1_endPatience_13 : decode (mB 8) 13 = .ok (.iload_n 2, 1) := by decide +kernel
theorem dX1_endPatience_14 : decode (mB 8) 14 = .ok (.bipush 100, 2) := by decide +kernel
theorem dX1_endPatience_16 : decode (mB 8) 16 = .ok (.if_icmp .ge 154, 3) := by decide +kernel
theorem dX1_endPatience_19 : decode (mB 8) 19 = .ok (.iload_n 1, 1) := by decide +kernel
theorem dX1_endPatience_20 : decode (mB 8) 20 = .ok (.iconst (-1), 1) := by decide +kernel
theorem dX1_endPatience_21 : decode (mB 8) 21 = .ok (.if_icmp .eq 149, 3) := by decide +kernel
theorem dX1_endPatience_24 : decode (mB 8) 24 = .ok (.aload_n 0, 1) := by decide +kernel
theorem dX1_endPatience_25 : decode (mB 8) 25 = .ok (.getfield 41, 3) := by decide +kernel
theorem dX1_endPatience_28 : decode (mB 8) 28 = .ok (.getfield 165, 3) := by decide +kernel
theorem dX1_endPatience_31 : decode (mB 8) 31 = .ok (.getfield 132, 3) := by decide +kernel
theorem dX1_endPatience_34 : decode (mB 8) 34 = .ok (.iload_n 1, 1) := by decide +kernel
theorem dX1_endPatience_35 : decode (mB 8) 35 = .ok (.iaload, 1) := by decide +kernel
theorem dX1_endPatience_36 : decode (mB 8) 36 = .ok (.istore_n 3, 1) := by decide +kernel
theorem dX1_endPatience_37 : decode (mB 8) 37 = .ok (.aload_n 0, 1) := by decide +kernel
theorem dX1_endPatience_38 : decode (mB 8) 38 = .ok (.getfield 41, 3) := by decide +kernel
theorem dX1_endPatience_41 : decode (mB 8) 41 = .ok (.getfield 166, 3) := by decide +kernel
theorem dX1_endPatience_44 : decode (mB 8) 44 = .ok (.iload_n 1, 1) := by decide +kernel
theorem dX1_endPatience_45 : decode (mB 8) 45 = .ok (.iaload, 1) := by decide +kernel
theorem dX1_endPatience_46 : decode (mB 8) 46 = .ok (.aload_n 0, 1) := by decide +kernel
theorem dX1_endPatience_47 : decode (mB 8) 47 = .ok (.getfield 21, 3) := by decide +kernel
theorem dX1_endPatience_50 : decode (mB 8) 50 = .ok (.if_icmp .ne 112, 3) := by decide +kernel
theorem dX1_endPatience_53 : decode (mB 8) 53 = .ok (.aload_n 0, 1) := by decide +kernel
theorem dX1_endPatience_54 : decode (mB 8) 54 = .ok (.aload_n 0, 1) := by decide +kernel
theorem dX1_endPatience_55 : decode (mB 8) 55 = .ok (.getfield 41, 3) := by decide +kernel
theorem dX1_endPatience_58 : decode (mB 8) 58 = .ok (.getfield 169, 3) := by decide +kernel
theorem dX1_endPatience_61 : decode (mB 8) 61 = .ok (.iload_n 1, 1) := by decide +kernel
theorem dX1_endPatience_62 : decode (mB 8) 62 = .ok (.iaload, 1) := by decide +kernel
theorem dX1_endPatience_63 : decode (mB 8) 63 = .ok (.invokevirtual 158, 3) := by decide +kernel
theorem dX1_endPatience_66 : decode (mB 8) 66 = .ok (.aload_n 0, 1) := by decide +kernel
theorem dX1_endPatience_67 : decode (mB 8) 67 = .ok (.getfield 41, 3) := by decide +kernel
theorem dX1_endPatience_70 : decode (mB 8) 70 = .ok (.getfield 169, 3) := by decide +kernel
theorem dX1_endPatience_73 : decode (mB 8) 73 = .ok (.iload_n 1, 1) := by decide +kernel
theorem dX1_endPatience_74 : decode (mB 8) 74 = .ok (.iconst (-1), 1) := by decide +kernel
theorem dX1_endPatience_75 : decode (mB 8) 75 = .ok (.iastore, 1) := by decide +kernel
theorem dX1_endPatience_76 : decode (mB 8) 76 = .ok (.aload_n 0, 1) := by decide +kernel
theorem dX1_endPatience_77 : decode (mB 8) 77 = .ok (.iconst 0, 1) := by decide +kernel
theorem dX1_endPatience_78 : decode (mB 8) 78 = .ok (.putfield 24, 3) := by decide +kernel
theorem dX1_endPatience_81 : decode (mB 8) 81 = .ok (.aload_n 0, 1) := by decide +kernel
theorem dX1_endPatience_82 : decode (mB 8) 82 = .ok (.getfield 41, 3) := by decide +kernel
theorem dX1_endPatience_85 : decode (mB 8) 85 = .ok (.getfield 172, 3) := by decide +kernel
theorem dX1_endPatience_88 : decode (mB 8) 88 = .ok (.iload_n 1, 1) := by decide +kernel
theorem dX1_endPatience_89 : decode (mB 8) 89 = .ok (.iaload, 1) := by decide +kernel
theorem dX1_endPatience_90 : decode (mB 8) 90 = .ok (.aload_n 0, 1) := by decide +kernel
theorem dX1_endPatience_91 : decode (mB 8) 91 = .ok (.getfield 41, 3) := by decide +kernel
theorem dX1_endPatience_94 : decode (mB 8) 94 = .ok (.getfield 173, 3) := by decide +kernel
theorem dX1_endPatience_97 : decode (mB 8) 97 = .ok (.if_icmp .ge 41, 3) := by decide +kernel
theorem dX1_endPatience_100 : decode (mB 8) 100 = .ok (.aload_n 0, 1) := by decide +kernel
theorem dX1_endPatience_101 : decode (mB 8) 101 = .ok (.getfield 41, 3) := by decide +kernel
theorem dX1_endPatience_104 : decode (mB 8) 104 = .ok (.getfield 172, 3) := by decide +kernel
theorem dX1_endPatience_107 : decode (mB 8) 107 = .ok (.iload_n 1, 1) := by decide +kernel
theorem dX1_endPatience_108 : decode (mB 8) 108 = .ok (.dup2, 1) := by decide +kernel
theorem dX1_endPatience_109 : decode (mB 8) 109 = .ok (.iaload, 1) := by decide +kernel
theorem dX1_endPatience_110 : decode (mB 8) 110 = .ok (.iconst 1, 1) := by decide +kernel
theorem dX1_endPatience_111 : decode (mB 8) 111 = .ok (.iadd, 1) := by decide +kernel
theorem dX1_endPatience_112 : decode (mB 8) 112 = .ok (.iastore, 1) := by decide +kernel
theorem dX1_endPatience_113 : decode (mB 8) 113 = .ok (.aload_n 0, 1) := by decide +kernel
theorem dX1_endPatience_114 : decode (mB 8) 114 = .ok (.getfield 41, 3) := by decide +kernel
theorem dX1_endPatience_117 : decode (mB 8) 117 = .ok (.dup, 1) := by decide +kernel
theorem dX1_endPatience_118 : decode (mB 8) 118 = .ok (.getfield 176, 3) := by decide +kernel
theorem dX1_endPatience_121 : decode (mB 8) 121 = .ok (.iconst 1, 1) := by decide +kernel
theorem dX1_endPatience_122 : decode (mB 8) 122 = .ok (.iadd, 1) := by decide +kernel
theorem dX1_endPatience_123 : decode (mB 8) 123 = .ok (.putfield 176, 3) := by decide +kernel
theorem dX1_endPatience_126 : decode (mB 8) 126 = .ok (.aload_n 0, 1) := by decide +kernel
theorem dX1_endPatience_127 : decode (mB 8) 127 = .ok (.iload_n 1, 1) := by decide +kernel
theorem dX1_endPatience_128 : decode (mB 8) 128 = .ok (.invokevirtual 179, 3) := by decide +kernel
theorem dX1_endPatience_131 : decode (mB 8) 131 = .ok (.aload_n 0, 1) := by decide +kernel
theorem dX1_endPatience_132 : decode (mB 8) 132 = .ok (.invokevirtual 149, 3) := by decide +kernel
theorem dX1_endPatience_135 : decode (mB 8) 135 = .ok (.goto 27, 3) := by decide +kernel
theorem dX1_endPatience_138 : decode (mB 8) 138 = .ok (.aload_n 0, 1) := by decide +kernel
theorem dX1_endPatience_139 : decode (mB 8) 139 = .ok (.getfield 41, 3) := by decide +kernel
theorem dX1_endPatience_142 : decode (mB 8) 142 = .ok (.dup, 1) := by decide +kernel
theorem dX1_endPatience_143 : decode (mB 8) 143 = .ok (.getfield 182, 3) := by decide +kernel
theorem dX1_endPatience_146 : decode (mB 8) 146 = .ok (.iconst 1, 1) := by decide +kernel
theorem dX1_endPatience_147 : decode (mB 8) 147 = .ok (.iadd, 1) := by decide +kernel
theorem dX1_endPatience_148 : decode (mB 8) 148 = .ok (.putfield 182, 3) := by decide +kernel
theorem dX1_endPatience_151 : decode (mB 8) 151 = .ok (.aload_n 0, 1) := by decide +kernel
theorem dX1_endPatience_152 : decode (mB 8) 152 = .ok (.getfield 41, 3) := by decide +kernel
theorem dX1_endPatience_155 : decode (mB 8) 155 = .ok (.getfield 165, 3) := by decide +kernel
theorem dX1_endPatience_158 : decode (mB 8) 158 = .ok (.iload_n 1, 1) := by decide +kernel
theorem dX1_endPatience_159 : decode (mB 8) 159 = .ok (.invokevirtual 185, 3) := by decide +kernel
theorem dX1_endPatience_162 : decode (mB 8) 162 = .ok (.iload_n 3, 1) := by decide +kernel
theorem dX1_endPatience_163 : decode (mB 8) 163 = .ok (.istore_n 1, 1) := by decide +kernel
theorem dX1_endPatience_164 : decode (mB 8) 164 = .ok (.iinc 2 1, 3) := by decide +kernel
theorem dX1_endPatience_167 : decode (mB 8) 167 = .ok (.goto (-154), 3) := by decide +kernel
theorem dX1_endPatience_170 : decode (mB 8) 170 = .ok (.return_, 1) := by decide +kernel
theorem dX1_fillHands_0 : decode (mB 9) 0 = .ok (.iconst 0, 1) := by decide +kernel
theorem dX1_fillHands_1 : decode (mB 9) 1 = .ok (.istore_n 1, 1) := by decide +kernel
theorem dX1_fillHands_2 : decode (mB 9) 2 = .ok (.iload_n 1, 1) := by decide +kernel
theorem dX1_fillHands_3 : decode (mB 9) 3 = .ok (.aload_n 0, 1) := by decide +kernel
theorem dX1_fillHands_4 : decode (mB 9) 4 = .ok (.getfield 17, 3) := by decide +kernel
theorem dX1_fillHands_7 : decode (mB 9) 7 = .ok (.if_icmp .ge 60, 3) := by decide +kernel
theorem dX1_fillHands_10 : decode (mB 9) 10 = .ok (.iconst 0, 1) := by decide +kernel
theorem dX1_fillHands_11 : decode (mB 9) 11 = .ok (.istore_n 2, 1) := by decide +kernel
theorem dX1_fillHands_12 : decode (mB 9) 12 = .ok (.iload_n 2, 1) := by decide +kernel
theorem dX1_fillHands_13 : decode (mB 9) 13 = .ok (.bipush 20, 2) := by decide +kernel
theorem dX1_fillHands_15 : decode (mB 9) 15 = .ok (.if_icmp .ge 46, 3) := by decide +kernel
theorem dX1_fillHands_18 : decode (mB 9) 18 = .ok (.aload_n 0, 1) := by decide +kernel
theorem dX1_fillHands_19 : decode (mB 9) 19 = .ok (.getfield 11, 3) := by decide +kernel
theorem dX1_fillHands_22 : decode (mB 9) 22 = .ok (.iload_n 1, 1) := by decide +kernel
theorem dX1_fillHands_23 : decode (mB 9) 23 = .ok (.aaload, 1) := by decide +kernel
theorem dX1_fillHands_24 : decode (mB 9) 24 = .ok (.getfield 188, 3) := by decide +kernel
theorem dX1_fillHands_27 : decode (mB 9) 27 = .ok (.ifCond .le 34, 3) := by decide +kernel
theorem dX1_fillHands_30 : decode (mB 9) 30 = .ok (.aload_n 0, 1) := by decide +kernel
theorem dX1_fillHands_31 : decode (mB 9) 31 = .ok (.getfield 11, 3) := by decide +kernel
theorem dX1_fillHands_34 : decode (mB 9) 34 = .ok (.iload_n 1, 1) := by decide +kernel
theorem dX1_fillHands_35 : decode (mB 9) 35 = .ok (.aaload, 1) := by decide +kernel
theorem dX1_fillHands_36 : decode (mB 9) 36 = .ok (.invokevirtual 191, 3) := by decide +kernel
theorem dX1_fillHands_39 : decode (mB 9) 39 = .ok (.ifCond .eq 22, 3) := by decide +kernel
theorem dX1_fillHands_42 : decode (mB 9) 42 = .ok (.aload_n 0, 1) := by decide +kernel
theorem dX1_fillHands_43 : decode (mB 9) 43 = .ok (.aload_n 0, 1) := by decide +kernel
theorem dX1_fillHands_44 : decode (mB 9) 44 = .ok (.getfield 11, 3) := by decide +kernel
theorem dX1_fillHands_47 : decode (mB 9) 47 = .ok (.iload_n 1, 1) := by decide +kernel
theorem dX1_fillHands_48 : decode (mB 9) 48 = .ok (.aaload, 1) := by decide +kernel
theorem dX1_fillHands_49 : decode (mB 9) 49 = .ok (.invokevirtual 195, 3) := by decide +kernel
theorem dX1_fillHands_52 : decode (mB 9) 52 = .ok (.invokevirtual 199, 3) := by decide +kernel
theorem dX1_fillHands_55 : decode (mB 9) 55 = .ok (.iinc 2 1, 3) := by decide +kernel
theorem dX1_fillHands_58 : decode (mB 9) 58 = .ok (.goto (-46), 3) := by decide +kernel
theorem dX1_fillHands_61 : decode (mB 9) 61 = .ok (.iinc 1 1, 3) := by decide +kernel
theorem dX1_fillHands_64 : decode (mB 9) 64 = .ok (.goto (-62), 3) := by decide +kernel
theorem dX1_fillHands_67 : decode (mB 9) 67 = .ok (.return_, 1) := by decide +kernel
theorem dX1_guestsCome_0 : decode (mB 10) 0 = .ok (.iconst 0, 1) := by decide +kernel
theorem dX1_guestsCome_1 : decode (mB 10) 1 = .ok (.istore_n 3, 1) := by decide +kernel
theorem dX1_guestsCome_2 : decode (mB 10) 2 = .ok (.iload_n 3, 1) := by decide +kernel
theorem dX1_guestsCome_3 : decode (mB 10) 3 = .ok (.iload_n 2, 1) := by decide +kernel
theorem dX1_guestsCome_4 : decode (mB 10) 4 = .ok (.if_icmp .ge 69, 3) := by decide +kernel
theorem dX1_guestsCome_7 : decode (mB 10) 7 = .ok (.aload_n 0, 1) := by decide +kernel
theorem dX1_guestsCome_8 : decode (mB 10) 8 = .ok (.getfield 41, 3) := by decide +kernel
theorem dX1_guestsCome_11 : decode (mB 10) 11 = .ok (.dup, 1) := by decide +kernel
theorem dX1_guestsCome_12 : decode (mB 10) 12 = .ok (.getfield 202, 3) := by decide +kernel
theorem dX1_guestsCome_15 : decode (mB 10) 15 = .ok (.iconst 1, 1) := by decide +kernel
theorem dX1_guestsCome_16 : decode (mB 10) 16 = .ok (.iadd, 1) := by decide +kernel
theorem dX1_guestsCome_17 : decode (mB 10) 17 = .ok (.putfield 202, 3) := by decide +kernel
theorem dX1_guestsCome_20 : decode (mB 10) 20 = .ok (.aload_n 0, 1) := by decide +kernel
theorem dX1_guestsCome_21 : decode (mB 10) 21 = .ok (.getfield 41, 3) := by decide +kernel
theorem dX1_guestsCome_24 : decode (mB 10) 24 = .ok (.iload_n 1, 1) := by decide +kernel
theorem dX1_guestsCome_25 : decode (mB 10) 25 = .ok (.invokevirtual 205, 3) := by decide +kernel
theorem dX1_guestsCome_28 : decode (mB 10) 28 = .ok (.istore 4, 2) := by decide +kernel
theorem dX1_guestsCome_30 : decode (mB 10) 30 = .ok (.iload 4, 2) := by decide +kernel
theorem dX1_guestsCome_32 : decode (mB 10) 32 = .ok (.iconst (-1), 1) := by decide +kernel
theorem dX1_guestsCome_33 : decode (mB 10) 33 = .ok (.if_icmp .ne 24, 3) := by decide +kernel
theorem dX1_guestsCome_36 : decode (mB 10) 36 = .ok (.aload_n 0, 1) := by decide +kernel
theorem dX1_guestsCome_37 : decode (mB 10) 37 = .ok (.getfield 41, 3) := by decide +kernel
theorem dX1_guestsCome_40 : decode (mB 10) 40 = .ok (.dup, 1) := by decide +kernel
theorem dX1_guestsCome_41 : decode (mB 10) 41 = .ok (.getfield 182, 3) := by decide +kernel
theorem dX1_guestsCome_44 : decode (mB 10) 44 = .ok (.iconst 1, 1) := by decide +kernel
theorem dX1_guestsCome_45 : decode (mB 10) 45 = .ok (.iadd, 1) := by decide +kernel
theorem dX1_guestsCome_46 : decode (mB 10) 46 = .ok (.putfield 182, 3) := by decide +kernel
theorem dX1_guestsCome_49 : decode (mB 10) 49 = .ok (.aload_n 0, 1) := by decide +kernel
theorem dX1_guestsCome_50 : decode (mB 10) 50 = .ok (.iconst 0, 1) := by decide +kernel
theorem dX1_guestsCome_51 : decode (mB 10) 51 = .ok (.putfield 24, 3) := by decide +kernel
theorem dX1_guestsCome_54 : decode (mB 10) 54 = .ok (.goto 13, 3) := by decide +kernel
theorem dX1_guestsCome_57 : decode (mB 10) 57 = .ok (.aload_n 0, 1) := by decide +kernel
theorem dX1_guestsCome_58 : decode (mB 10) 58 = .ok (.iload 4, 2) := by decide +kernel
theorem dX1_guestsCome_60 : decode (mB 10) 60 = .ok (.invokevirtual 179, 3) := by decide +kernel
theorem dX1_guestsCome_63 : decode (mB 10) 63 = .ok (.aload_n 0, 1) := by decide +kernel
theorem dX1_guestsCome_64 : decode (mB 10) 64 = .ok (.invokevirtual 149, 3) := by decide +kernel
theorem dX1_guestsCome_67 : decode (mB 10) 67 = .ok (.iinc 3 1, 3) := by decide +kernel
theorem dX1_guestsCome_70 : decode (mB 10) 70 = .ok (.goto (-68), 3) := by decide +kernel
theorem dX1_guestsCome_73 : decode (mB 10) 73 = .ok (.return_, 1) := by decide +kernel
theorem dX1_guestAsks_0 : decode (mB 11) 0 = .ok (.aload_n 0, 1) := by decide +kernel
theorem dX1_guestAsks_1 : decode (mB 11) 1 = .ok (.getfield 41, 3) := by decide +kernel
theorem dX1_guestAsks_4 : decode (mB 11) 4 = .ok (.getfield 166, 3) := by decide +kernel
theorem dX1_guestAsks_7 : decode (mB 11) 7 = .ok (.iload_n 1, 1) := by decide +kernel
theorem dX1_guestAsks_8 : decode (mB 11) 8 = .ok (.aload_n 0, 1) := by decide +kernel
theorem dX1_guestAsks_9 : decode (mB 11) 9 = .ok (.getfield 21, 3) := by decide +kernel
theorem dX1_guestAsks_12 : decode (mB 11) 12 = .ok (.aload_n 0, 1) := by decide +kernel
theorem dX1_guestAsks_13 : decode (mB 11) 13 = .ok (.getfield 41, 3) := by decide +kernel
theorem dX1_guestAsks_16 : decode (mB 11) 16 = .ok (.getfield 208, 3) := by decide +kernel
theorem dX1_guestAsks_19 : decode (mB 11) 19 = .ok (.iadd, 1) := by decide +kernel
theorem dX1_guestAsks_20 : decode (mB 11) 20 = .ok (.iastore, 1) := by decide +kernel
theorem dX1_guestAsks_21 : decode (mB 11) 21 = .ok (.aload_n 0, 1) := by decide +kernel
theorem dX1_guestAsks_22 : decode (mB 11) 22 = .ok (.iconst 0, 1) := by decide +kernel
theorem dX1_guestAsks_23 : decode (mB 11) 23 = .ok (.aload_n 0, 1) := by decide +kernel
theorem dX1_guestAsks_24 : decode (mB 11) 24 = .ok (.getfield 41, 3) := by decide +kernel
theorem dX1_guestAsks_27 : decode (mB 11) 27 = .ok (.getfield 211, 3) := by decide +kernel
theorem dX1_guestAsks_30 : decode (mB 11) 30 = .ok (.iload_n 1, 1) := by decide +kernel
theorem dX1_guestAsks_31 : decode (mB 11) 31 = .ok (.iaload, 1) := by decide +kernel
theorem dX1_guestAsks_32 : decode (mB 11) 32 = .ok (.sipush 1000, 3) := by decide +kernel
theorem dX1_guestAsks_35 : decode (mB 11) 35 = .ok (.iload_n 1, 1) := by decide +kernel
theorem dX1_guestAsks_36 : decode (mB 11) 36 = .ok (.iadd, 1) := by decide +kernel
theorem dX1_guestAsks_37 : decode (mB 11) 37 = .ok (.invokevirtual 214, 3) := by decide +kernel
theorem dX1_guestAsks_40 : decode (mB 11) 40 = .ok (.return_, 1) := by decide +kernel
theorem dX1_toAsk_0 : decode (mB 12) 0 = .ok (.aload_n 0, 1) := by decide +kernel
theorem dX1_toAsk_1 : decode (mB 12) 1 = .ok (.getfield 11, 3) := by decide +kernel
theorem dX1_toAsk_4 : decode (mB 12) 4 = .ok (.aload_n 0, 1) := by decide +kernel
theorem dX1_toAsk_5 : decode (mB 12) 5 = .ok (.getfield 34, 3) := by decide +kernel
theorem dX1_toAsk_8 : decode (mB 12) 8 = .ok (.getfield 139, 3) := by decide +kernel
theorem dX1_toAsk_11 : decode (mB 12) 11 = .ok (.iload_n 1, 1) := by decide +kernel
theorem dX1_toAsk_12 : decode (mB 12) 12 = .ok (.iaload, 1) := by decide +kernel
theorem dX1_toAsk_13 : decode (mB 12) 13 = .ok (.aaload, 1) := by decide +kernel
theorem dX1_toAsk_14 : decode (mB 12) 14 = .ok (.astore_n 2, 1) := by decide +kernel
theorem dX1_toAsk_15 : decode (mB 12) 15 = .ok (.aload_n 2, 1) := by decide +kernel
theorem dX1_toAsk_16 : decode (mB 12) 16 = .ok (.aload_n 0, 1) := by decide +kernel
theorem dX1_toAsk_17 : decode (mB 12) 17 = .ok (.getfield 21, 3) := by decide +kernel
theorem dX1_toAsk_20 : decode (mB 12) 20 = .ok (.invokevirtual 218, 3) := by decide +kernel
theorem dX1_toAsk_23 : decode (mB 12) 23 = .ok (.ifCond .eq 12, 3) := by decide +kernel
theorem dX1_toAsk_26 : decode (mB 12) 26 = .ok (.aload_n 0, 1) := by decide +kernel
theorem dX1_toAsk_27 : decode (mB 12) 27 = .ok (.iload_n 1, 1) := by decide +kernel
theorem dX1_toAsk_28 : decode (mB 12) 28 = .ok (.iconst 0, 1) := by decide +kernel
theorem dX1_toAsk_29 : decode (mB 12) 29 = .ok (.invokevirtual 145, 3) := by decide +kernel
theorem dX1_toAsk_32 : decode (mB 12) 32 = .ok (.goto 48, 3) := by decide +kernel
theorem dX1_toAsk_35 : decode (mB 12) 35 = .ok (.aload_n 0, 1) := by decide +kernel
theorem dX1_toAsk_36 : decode (mB 12) 36 = .ok (.getfield 34, 3) := by decide +kernel
theorem dX1_toAsk_39 : decode (mB 12) 39 = .ok (.iload_n 1, 1) := by decide +kernel
theorem dX1_toAsk_40 : decode (mB 12) 40 = .ok (.iconst 2, 1) := by decide +kernel
theorem dX1_toAsk_41 : decode (mB 12) 41 = .ok (.aload_n 0, 1) := by decide +kernel
theorem dX1_toAsk_42 : decode (mB 12) 42 = .ok (.getfield 21, 3) := by decide +kernel
theorem dX1_toAsk_45 : decode (mB 12) 45 = .ok (.aload_n 2, 1) := by decide +kernel
theorem dX1_toAsk_46 : decode (mB 12) 46 = .ok (.getfield 73, 3) := by decide +kernel
theorem dX1_toAsk_49 : decode (mB 12) 49 = .ok (.iconst 0, 1) := by decide +kernel
theorem dX1_toAsk_50 : decode (mB 12) 50 = .ok (.iaload, 1) := by decide +kernel
theorem dX1_toAsk_51 : decode (mB 12) 51 = .ok (.iadd, 1) := by decide +kernel
theorem dX1_toAsk_52 : decode (mB 12) 52 = .ok (.invokevirtual 221, 3) := by decide +kernel
theorem dX1_toAsk_55 : decode (mB 12) 55 = .ok (.aload_n 0, 1) := by decide +kernel
theorem dX1_toAsk_56 : decode (mB 12) 56 = .ok (.aload_n 0, 1) := by decide +kernel
theorem dX1_toAsk_57 : decode (mB 12) 57 = .ok (.getfield 34, 3) := by decide +kernel
theorem dX1_toAsk_60 : decode (mB 12) 60 = .ok (.getfield 139, 3) := by decide +kernel
theorem dX1_toAsk_63 : decode (mB 12) 63 = .ok (.iload_n 1, 1) := by decide +kernel
theorem dX1_toAsk_64 : decode (mB 12) 64 = .ok (.iaload, 1) := by decide +kernel
theorem dX1_toAsk_65 : decode (mB 12) 65 = .ok (.iconst 1, 1) := by decide +kernel
theorem dX1_toAsk_66 : decode (mB 12) 66 = .ok (.iadd, 1) := by decide +kernel
theorem dX1_toAsk_67 : decode (mB 12) 67 = .ok (.aload_n 0, 1) := by decide +kernel
theorem dX1_toAsk_68 : decode (mB 12) 68 = .ok (.getfield 34, 3) := by decide +kernel
theorem dX1_toAsk_71 : decode (mB 12) 71 = .ok (.getfield 224, 3) := by decide +kernel
theorem dX1_toAsk_74 : decode (mB 12) 74 = .ok (.iload_n 1, 1) := by decide +kernel
theorem dX1_toAsk_75 : decode (mB 12) 75 = .ok (.iaload, 1) := by decide +kernel
theorem dX1_toAsk_76 : decode (mB 12) 76 = .ok (.iload_n 1, 1) := by decide +kernel
theorem dX1_toAsk_77 : decode (mB 12) 77 = .ok (.invokevirtual 214, 3) := by decide +kernel
theorem dX1_toAsk_80 : decode (mB 12) 80 = .ok (.return_, 1) := by decide +kernel
theorem dX1_comes_0 : decode (mB 13) 0 = .ok (.iload_n 1, 1) := by decide +kernel
theorem dX1_comes_1 : decode (mB 13) 1 = .ok (.ifCond .lt 11, 3) := by decide +kernel
theorem dX1_comes_4 : decode (mB 13) 4 = .ok (.iload_n 1, 1) := by decide +kernel
theorem dX1_comes_5 : decode (mB 13) 5 = .ok (.aload_n 0, 1) := by decide +kernel
theorem dX1_comes_6 : decode (mB 13) 6 = .ok (.getfield 17, 3) := by decide +kernel
theorem dX1_comes_9 : decode (mB 13) 9 = .ok (.if_icmp .lt 4, 3) := by decide +kernel
theorem dX1_comes_12 : decode (mB 13) 12 = .ok (.return_, 1) := by decide +kernel
theorem dX1_comes_13 : decode (mB 13) 13 = .ok (.aload_n 0, 1) := by decide +kernel
theorem dX1_comes_14 : decode (mB 13) 14 = .ok (.getfield 11, 3) := by decide +kernel
theorem dX1_comes_17 : decode (mB 13) 17 = .ok (.iload_n 1, 1) := by decide +kernel
theorem dX1_comes_18 : decode (mB 13) 18 = .ok (.aaload, 1) := by decide +kernel
theorem dX1_comes_19 : decode (mB 13) 19 = .ok (.astore 4, 2) := by decide +kernel
theorem dX1_comes_21 : decode (mB 13) 21 = .ok (.aload 4, 2) := by decide +kernel
theorem dX1_comes_23 : decode (mB 13) 23 = .ok (.iload_n 2, 1) := by decide +kernel
theorem dX1_comes_24 : decode (mB 13) 24 = .ok (.aload_n 0, 1) := by decide +kernel
theorem dX1_comes_25 : decode (mB 13) 25 = .ok (.getfield 21, 3) := by decide +kernel
theorem dX1_comes_28 : decode (mB 13) 28 = .ok (.invokevirtual 225, 3) := by decide +kernel
theorem dX1_comes_31 : decode (mB 13) 31 = .ok (.ifCond .eq 21, 3) := by decide +kernel
theorem dX1_comes_34 : decode (mB 13) 34 = .ok (.aload 4, 2) := by decide +kernel
theorem dX1_comes_36 : decode (mB 13) 36 = .ok (.getfield 229, 3) := by decide +kernel
theorem dX1_comes_39 : decode (mB 13) 39 = .ok (.iconst 0, 1) := by decide +kernel
theorem dX1_comes_40 : decode (mB 13) 40 = .ok (.dup2, 1) := by decide +kernel
theorem dX1_comes_41 : decode (mB 13) 41 = .ok (.iaload, 1) := by decide +kernel
theorem dX1_comes_42 : decode (mB 13) 42 = .ok (.iconst 1, 1) := by decide +kernel
theorem dX1_comes_43 : decode (mB 13) 43 = .ok (.iadd, 1) := by decide +kernel
theorem dX1_comes_44 : decode (mB 13) 44 = .ok (.iastore, 1) := by decide +kernel
theorem dX1_comes_45 : decode (mB 13) 45 = .ok (.aload_n 0, 1) := by decide +kernel
theorem dX1_comes_46 : decode (mB 13) 46 = .ok (.iload_n 3, 1) := by decide +kernel
theorem dX1_comes_47 : decode (mB 13) 47 = .ok (.iconst 1, 1) := by decide +kernel
theorem dX1_comes_48 : decode (mB 13) 48 = .ok (.invokevirtual 232, 3) := by decide +kernel
theorem dX1_comes_51 : decode (mB 13) 51 = .ok (.return_, 1) := by decide +kernel
theorem dX1_comes_52 : decode (mB 13) 52 = .ok (.aload 4, 2) := by decide +kernel
theorem dX1_comes_54 : decode (mB 13) 54 = .ok (.invokevirtual 191, 3) := by decide +kernel
theorem dX1_comes_57 : decode (mB 13) 57 = .ok (.ifCond .eq 15, 3) := by decide +kernel
theorem dX1_comes_60 : decode (mB 13) 60 = .ok (.aload 4, 2) := by decide +kernel
theorem dX1_comes_62 : decode (mB 13) 62 = .ok (.getfield 188, 3) := by decide +kernel
theorem dX1_comes_65 : decode (mB 13) 65 = .ok (.ifCond .ne 7, 3) := by decide +kernel
theorem dX1_comes_68 : decode (mB 13) 68 = .ok (.iconst 1, 1) := by decide +kernel
theorem dX1_comes_69 : decode (mB 13) 69 = .ok (.goto 4, 3) := by decide +kernel
theorem dX1_comes_72 : decode (mB 13) 72 = .ok (.iconst 0, 1) := by decide +kernel
theorem dX1_comes_73 : decode (mB 13) 73 = .ok (.istore 5, 2) := by decide +kernel
theorem dX1_comes_75 : decode (mB 13) 75 = .ok (.aload 4, 2) := by decide +kernel
theorem dX1_comes_77 : decode (mB 13) 77 = .ok (.getfield 188, 3) := by decide +kernel
theorem dX1_comes_80 : decode (mB 13) 80 = .ok (.aload 4, 2) := by decide +kernel
theorem dX1_comes_82 : decode (mB 13) 82 = .ok (.getfield 73, 3) := by decide +kernel
theorem dX1_comes_85 : decode (mB 13) 85 = .ok (.bipush 9, 2) := by decide +kernel
theorem dX1_comes_87 : decode (mB 13) 87 = .ok (.iaload, 1) := by decide +kernel
theorem dX1_comes_88 : decode (mB 13) 88 = .ok (.if_icmp .ge 7, 3) := by decide +kernel
theorem dX1_comes_91 : decode (mB 13) 91 = .ok (.iconst 1, 1) := by decide +kernel
theorem dX1_comes_92 : decode (mB 13) 92 = .ok (.goto 4, 3) := by decide +kernel
theorem dX1_comes_95 : decode (mB 13) 95 = .ok (.iconst 0, 1) := by decide +kernel
theorem dX1_comes_96 : decode (mB 13) 96 = .ok (.istore 6, 2) := by decide +kernel
theorem dX1_comes_98 : decode (mB 13) 98 = .ok (.aload 4, 2) := by decide +kernel
theorem dX1_comes_100 : decode (mB 13) 100 = .ok (.getfield 73, 3) := by decide +kernel
theorem dX1_comes_103 : decode (mB 13) 103 = .ok (.bipush 6, 2) := by decide +kernel
theorem dX1_comes_105 : decode (mB 13) 105 = .ok (.iaload, 1) := by decide +kernel
theorem dX1_comes_106 : decode (mB 13) 106 = .ok (.ifCond .eq 18, 3) := by decide +kernel
theorem dX1_comes_109 : decode (mB 13) 109 = .ok (.aload 4, 2) := by decide +kernel
theorem dX1_comes_111 : decode (mB 13) 111 = .ok (.getfield 73, 3) := by decide +kernel
theorem dX1_comes_114 : decode (mB 13) 114 = .ok (.bipush 9, 2) := by decide +kernel
theorem dX1_comes_116 : decode (mB 13) 116 = .ok (.iaload, 1) := by decide +kernel
theorem dX1_comes_117 : decode (mB 13) 117 = .ok (.ifCond .le 7, 3) := by decide +kernel
theorem dX1_comes_120 : decode (mB 13) 120 = .ok (.iconst 1, 1) := by decide +kernel
theorem dX1_comes_121 : decode (mB 13) 121 = .ok (.goto 4, 3) := by decide +kernel
theorem dX1_comes_124 : decode (mB 13) 124 = .ok (.iconst 0, 1) := by decide +kernel
theorem dX1_comes_125 : decode (mB 13) 125 = .ok (.istore 7, 2) := by decide +kernel
theorem dX1_comes_127 : decode (mB 13) 127 = .ok (.iload 5, 2) := by decide +kernel
theorem dX1_comes_129 : decode (mB 13) 129 = .ok (.ifCond .ne 13, 3) := by decide +kernel
theorem dX1_comes_132 : decode (mB 13) 132 = .ok (.iload 6, 2) := by decide +kernel
theorem dX1_comes_134 : decode (mB 13) 134 = .ok (.ifCond .ne 8, 3) := by decide +kernel
theorem dX1_comes_137 : decode (mB 13) 137 = .ok (.iload 7, 2) := by decide +kernel
theorem dX1_comes_139 : decode (mB 13) 139 = .ok (.ifCond .eq 16, 3) := by decide +kernel
theorem dX1_comes_142 : decode (mB 13) 142 = .ok (.aload_n 0, 1) := by decide +kernel
theorem dX1_comes_143 : decode (mB 13) 143 = .ok (.getfield 34, 3) := by decide +kernel
theorem dX1_comes_146 : decode (mB 13) 146 = .ok (.iload_n 1, 1) := by decide +kernel
theorem dX1_comes_147 : decode (mB 13) 147 = .ok (.iload_n 2, 1) := by decide +kernel
theorem dX1_comes_148 : decode (mB 13) 148 = .ok (.iload_n 3, 1) := by decide +kernel
theorem dX1_comes_149 : decode (mB 13) 149 = .ok (.invokevirtual 235, 3) := by decide +kernel
theorem dX1_comes_152 : decode (mB 13) 152 = .ok (.goto 4, 3) := by decide +kernel
theorem dX1_comes_155 : decode (mB 13) 155 = .ok (.iconst (-1), 1) := by decide +kernel
theorem dX1_comes_156 : decode (mB 13) 156 = .ok (.istore 8, 2) := by decide +kernel
theorem dX1_comes_158 : decode (mB 13) 158 = .ok (.iload 8, 2) := by decide +kernel
theorem dX1_comes_160 : decode (mB 13) 160 = .ok (.iconst (-1), 1) := by decide +kernel
theorem dX1_comes_161 : decode (mB 13) 161 = .ok (.if_icmp .ne 11, 3) := by decide +kernel
theorem dX1_comes_164 : decode (mB 13) 164 = .ok (.aload_n 0, 1) := by decide +kernel
theorem dX1_comes_165 : decode (mB 13) 165 = .ok (.aload 4, 2) := by decide +kernel
theorem dX1_comes_167 : decode (mB 13) 167 = .ok (.iload_n 3, 1) := by decide +kernel
theorem dX1_comes_168 : decode (mB 13) 168 = .ok (.invokevirtual 238, 3) := by decide +kernel
theorem dX1_comes_171 : decode (mB 13) 171 = .ok (.return_, 1) := by decide +kernel
theorem dX1_comes_172 : decode (mB 13) 172 = .ok (.aload_n 0, 1) := by decide +kernel
theorem dX1_comes_173 : decode (mB 13) 173 = .ok (.iload_n 3, 1) := by decide +kernel
theorem dX1_comes_174 : decode (mB 13) 174 = .ok (.iload 8, 2) := by decide +kernel
theorem dX1_comes_176 : decode (mB 13) 176 = .ok (.invokevirtual 242, 3) := by decide +kernel
theorem dX1_comes_179 : decode (mB 13) 179 = .ok (.iload 5, 2) := by decide +kernel
theorem dX1_comes_181 : decode (mB 13) 181 = .ok (.ifCond .eq 12, 3) := by decide +kernel
theorem dX1_comes_184 : decode (mB 13) 184 = .ok (.aload_n 0, 1) := by decide +kernel
theorem dX1_comes_185 : decode (mB 13) 185 = .ok (.iload 8, 2) := by decide +kernel
theorem dX1_comes_187 : decode (mB 13) 187 = .ok (.invokevirtual 199, 3) := by decide +kernel
theorem dX1_comes_190 : decode (mB 13) 190 = .ok (.goto 63, 3) := by decide +kernel
theorem dX1_comes_193 : decode (mB 13) 193 = .ok (.iload 6, 2) := by decide +kernel
theorem dX1_comes_195 : decode (mB 13) 195 = .ok (.ifCond .eq 13, 3) := by decide +kernel
theorem dX1_comes_198 : decode (mB 13) 198 = .ok (.aload 4, 2) := by decide +kernel
theorem dX1_comes_200 : decode (mB 13) 200 = .ok (.iload 8, 2) := by decide +kernel
theorem dX1_comes_202 : decode (mB 13) 202 = .ok (.invokevirtual 245, 3) := by decide +kernel
theorem dX1_comes_205 : decode (mB 13) 205 = .ok (.goto 48, 3) := by decide +kernel
theorem dX1_comes_208 : decode (mB 13) 208 = .ok (.aload 4, 2) := by decide +kernel
theorem dX1_comes_210 : decode (mB 13) 210 = .ok (.invokevirtual 195, 3) := by decide +kernel
theorem dX1_comes_213 : decode (mB 13) 213 = .ok (.istore 9, 2) := by decide +kernel
theorem dX1_comes_215 : decode (mB 13) 215 = .ok (.aload 4, 2) := by decide +kernel
theorem dX1_comes_217 : decode (mB 13) 217 = .ok (.iload 8, 2) := by decide +kernel
theorem dX1_comes_219 : decode (mB 13) 219 = .ok (.invokevirtual 245, 3) := by decide +kernel
theorem dX1_comes_222 : decode (mB 13) 222 = .ok (.iload 9, 2) := by decide +kernel
theorem dX1_comes_224 : decode (mB 13) 224 = .ok (.iconst (-1), 1) := by decide +kernel
theorem dX1_comes_225 : decode (mB 13) 225 = .ok (.if_icmp .eq 28, 3) := by decide +kernel
theorem dX1_comes_228 : decode (mB 13) 228 = .ok (.aload_n 0, 1) := by decide +kernel
theorem dX1_comes_229 : decode (mB 13) 229 = .ok (.aload 4, 2) := by decide +kernel
theorem dX1_comes_231 : decode (mB 13) 231 = .ok (.aload_n 0, 1) := by decide +kernel
theorem dX1_comes_232 : decode (mB 13) 232 = .ok (.getfield 34, 3) := by decide +kernel
theorem dX1_comes_235 : decode (mB 13) 235 = .ok (.getfield 248, 3) := by decide +kernel
theorem dX1_comes_238 : decode (mB 13) 238 = .ok (.iload 9, 2) := by decide +kernel
theorem dX1_comes_240 : decode (mB 13) 240 = .ok (.iaload, 1) := by decide +kernel
theorem dX1_comes_241 : decode (mB 13) 241 = .ok (.invokevirtual 238, 3) := by decide +kernel
theorem dX1_comes_244 : decode (mB 13) 244 = .ok (.aload_n 0, 1) := by decide +kernel
theorem dX1_comes_245 : decode (mB 13) 245 = .ok (.getfield 34, 3) := by decide +kernel
theorem dX1_comes_248 : decode (mB 13) 248 = .ok (.iload 9, 2) := by decide +kernel
theorem dX1_comes_250 : decode (mB 13) 250 = .ok (.invokevirtual 251, 3) := by decide +kernel
theorem dX1_comes_253 : decode (mB 13) 253 = .ok (.return_, 1) := by decide +kernel
theorem dX1_setJobOf_0 : decode (mB 14) 0 = .ok (.iload_n 1, 1) := by decide +kernel
theorem dX1_setJobOf_1 : decode (mB 14) 1 = .ok (.sipush 1000, 3) := by decide +kernel
theorem dX1_setJobOf_4 : decode (mB 14) 4 = .ok (.if_icmp .lt 20, 3) := by decide +kernel
theorem dX1_setJobOf_7 : decode (mB 14) 7 = .ok (.aload_n 0, 1) := by decide +kernel
theorem dX1_setJobOf_8 : decode (mB 14) 8 = .ok (.getfield 41, 3) := by decide +kernel
theorem dX1_setJobOf_11 : decode (mB 14) 11 = .ok (.getfield 169, 3) := by decide +kernel
theorem dX1_setJobOf_14 : decode (mB 14) 14 = .ok (.iload_n 1, 1) := by decide +kernel
theorem dX1_setJobOf_15 : decode (mB 14) 15 = .ok (.sipush 1000, 3) := by decide +kernel
theorem dX1_setJobOf_18 : decode (mB 14) 18 = .ok (.isub, 1) := by decide +kernel
theorem dX1_setJobOf_19 : decode (mB 14) 19 = .ok (.iload_n 2, 1) := by decide +kernel
theorem dX1_setJobOf_20 : decode (mB 14) 20 = .ok (.iastore, 1) := by decide +kernel
theorem dX1_setJobOf_21 : decode (mB 14) 21 = .ok (.goto 13, 3) := by decide +kernel
theorem dX1_setJobOf_24 : decode (mB 14) 24 = .ok (.aload_n 0, 1) := by decide +kernel
theorem dX1_setJobOf_25 : decode (mB 14) 25 = .ok (.getfield 34, 3) := by decide +kernel
theorem dX1_setJobOf_28 : decode (mB 14) 28 = .ok (.getfield 155, 3) := by decide +kernel
theorem dX1_setJobOf_31 : decode (mB 14) 31 = .ok (.iload_n 1, 1) := by decide +kernel
theorem dX1_setJobOf_32 : decode (mB 14) 32 = .ok (.iload_n 2, 1) := by decide +kernel
theorem dX1_setJobOf_33 : decode (mB 14) 33 = .ok (.iastore, 1) := by decide +kernel
theorem dX1_setJobOf_34 : decode (mB 14) 34 = .ok (.return_, 1) := by decide +kernel
theorem dX1_refuse_0 : decode (mB 15) 0 = .ok (.aload_n 1, 1) := by decide +kernel
theorem dX1_refuse_1 : decode (mB 15) 1 = .ok (.getfield 229, 3) := by decide +kernel
theorem dX1_refuse_4 : decode (mB 15) 4 = .ok (.iconst 4, 1) := by decide +kernel
theorem dX1_refuse_5 : decode (mB 15) 5 = .ok (.dup2, 1) := by decide +kernel
theorem dX1_refuse_6 : decode (mB 15) 6 = .ok (.iaload, 1) := by decide +kernel
theorem dX1_refuse_7 : decode (mB 15) 7 = .ok (.iconst 1, 1) := by decide +kernel
theorem dX1_refuse_8 : decode (mB 15) 8 = .ok (.iadd, 1) := by decide +kernel
theorem dX1_refuse_9 : decode (mB 15) 9 = .ok (.iastore, 1) := by decide +kernel
theorem dX1_refuse_10 : decode (mB 15) 10 = .ok (.aload_n 0, 1) := by decide +kernel
theorem dX1_refuse_11 : decode (mB 15) 11 = .ok (.iconst 0, 1) := by decide +kernel
theorem dX1_refuse_12 : decode (mB 15) 12 = .ok (.putfield 24, 3) := by decide +kernel
theorem dX1_refuse_15 : decode (mB 15) 15 = .ok (.aload_n 0, 1) := by decide +kernel
theorem dX1_refuse_16 : decode (mB 15) 16 = .ok (.iload_n 2, 1) := by decide +kernel
theorem dX1_refuse_17 : decode (mB 15) 17 = .ok (.iconst 0, 1) := by decide +kernel
theorem dX1_refuse_18 : decode (mB 15) 18 = .ok (.invokevirtual 232, 3) := by decide +kernel
theorem dX1_refuse_21 : decode (mB 15) 21 = .ok (.return_, 1) := by decide +kernel
theorem dX1_begin_0 : decode (mB 16) 0 = .ok (.aload_n 0, 1) := by decide +kernel
theorem dX1_begin_1 : decode (mB 16) 1 = .ok (.getfield 11, 3) := by decide +kernel
theorem dX1_begin_4 : decode (mB 16) 4 = .ok (.aload_n 0, 1) := by decide +kernel
theorem dX1_begin_5 : decode (mB 16) 5 = .ok (.getfield 34, 3) := by decide +kernel
theorem dX1_begin_8 : decode (mB 16) 8 = .ok (.getfield 139, 3) := by decide +kernel
theorem dX1_begin_11 : decode (mB 16) 11 = .ok (.iload_n 1, 1) := by decide +kernel
theorem dX1_begin_12 : decode (mB 16) 12 = .ok (.iaload, 1) := by decide +kernel
theorem dX1_begin_13 : decode (mB 16) 13 = .ok (.aaload, 1) := by decide +kernel
theorem dX1_begin_14 : decode (mB 16) 14 = .ok (.astore_n 2, 1) := by decide +kernel
theorem dX1_begin_15 : decode (mB 16) 15 = .ok (.aload_n 2, 1) := by decide +kernel
theorem dX1_begin_16 : decode (mB 16) 16 = .ok (.dup, 1) := by decide +kernel
theorem dX1_begin_17 : decode (mB 16) 17 = .ok (.getfield 254, 3) := by decide +kernel
theorem dX1_begin_20 : decode (mB 16) 20 = .ok (.iconst 1, 1) := by decide +kernel
theorem dX1_begin_21 : decode (mB 16) 21 = .ok (.iadd, 1) := by decide +kernel
theorem dX1_begin_22 : decode (mB 16) 22 = .ok (.putfield 254, 3) := by decide +kernel
theorem dX1_begin_25 : decode (mB 16) 25 = .ok (.aload_n 2, 1) := by decide +kernel
theorem dX1_begin_26 : decode (mB 16) 26 = .ok (.getfield 229, 3) := by decide +kernel
theorem dX1_begin_29 : decode (mB 16) 29 = .ok (.iconst 1, 1) := by decide +kernel
theorem dX1_begin_30 : decode (mB 16) 30 = .ok (.dup2, 1) := by decide +kernel
theorem dX1_begin_31 : decode (mB 16) 31 = .ok (.iaload, 1) := by decide +kernel
theorem dX1_begin_32 : decode (mB 16) 32 = .ok (.iconst 1, 1) := by decide +kernel
theorem dX1_begin_33 : decode (mB 16) 33 = .ok (.iadd, 1) := by decide +kernel
theorem dX1_begin_34 : decode (mB 16) 34 = .ok (.iastore, 1) := by decide +kernel
theorem dX1_begin_35 : decode (mB 16) 35 = .ok (.aload_n 0, 1) := by decide +kernel
theorem dX1_begin_36 : decode (mB 16) 36 = .ok (.getfield 34, 3) := by decide +kernel
theorem dX1_begin_39 : decode (mB 16) 39 = .ok (.iload_n 1, 1) := by decide +kernel
theorem dX1_begin_40 : decode (mB 16) 40 = .ok (.iconst 1, 1) := by decide +kernel
theorem dX1_begin_41 : decode (mB 16) 41 = .ok (.aload_n 0, 1) := by decide +kernel
theorem dX1_begin_42 : decode (mB 16) 42 = .ok (.getfield 21, 3) := by decide +kernel
theorem dX1_begin_45 : decode (mB 16) 45 = .ok (.aload_n 2, 1) := by decide +kernel
theorem dX1_begin_46 : decode (mB 16) 46 = .ok (.getfield 73, 3) := by decide +kernel
theorem dX1_begin_49 : decode (mB 16) 49 = .ok (.bipush 8, 2) := by decide +kernel
theorem dX1_begin_51 : decode (mB 16) 51 = .ok (.iaload, 1) := by decide +kernel
theorem dX1_begin_52 : decode (mB 16) 52 = .ok (.iadd, 1) := by decide +kernel
theorem dX1_begin_53 : decode (mB 16) 53 = .ok (.invokevirtual 221, 3) := by decide +kernel
theorem dX1_begin_56 : decode (mB 16) 56 = .ok (.return_, 1) := by decide +kernel
theorem dX1_giveUp_0 : decode (mB 17) 0 = .ok (.iload_n 1, 1) := by decide +kernel
theorem dX1_giveUp_1 : decode (mB 17) 1 = .ok (.iconst (-1), 1) := by decide +kernel
theorem dX1_giveUp_2 : decode (mB 17) 2 = .ok (.if_icmp .eq 13, 3) := by decide +kernel
theorem dX1_giveUp_5 : decode (mB 17) 5 = .ok (.aload_n 0, 1) := by decide +kernel
theorem dX1_giveUp_6 : decode (mB 17) 6 = .ok (.getfield 34, 3) := by decide +kernel
theorem dX1_giveUp_9 : decode (mB 17) 9 = .ok (.getfield 248, 3) := by decide +kernel
theorem dX1_giveUp_12 : decode (mB 17) 12 = .ok (.iload_n 1, 1) := by decide +kernel
theorem dX1_giveUp_13 : decode (mB 17) 13 = .ok (.iconst (-1), 1) := by decide +kernel
theorem dX1_giveUp_14 : decode (mB 17) 14 = .ok (.iastore, 1) := by decide +kernel
theorem dX1_giveUp_15 : decode (mB 17) 15 = .ok (.return_, 1) := by decide +kernel
theorem dX1_end_0 : decode (mB 18) 0 = .ok (.aload_n 0, 1) := by decide +kernel
theorem dX1_end_1 : decode (mB 18) 1 = .ok (.getfield 11, 3) := by decide +kernel
theorem dX1_end_4 : decode (mB 18) 4 = .ok (.aload_n 0, 1) := by decide +kernel
theorem dX1_end_5 : decode (mB 18) 5 = .ok (.getfield 34, 3) := by decide +kernel
theorem dX1_end_8 : decode (mB 18) 8 = .ok (.getfield 139, 3) := by decide +kernel
theorem dX1_end_11 : decode (mB 18) 11 = .ok (.iload_n 1, 1) := by decide +kernel
theorem dX1_end_12 : decode (mB 18) 12 = .ok (.iaload, 1) := by decide +kernel
theorem dX1_end_13 : decode (mB 18) 13 = .ok (.aaload, 1) := by decide +kernel
theorem dX1_end_14 : decode (mB 18) 14 = .ok (.astore_n 3, 1) := by decide +kernel
theorem dX1_end_15 : decode (mB 18) 15 = .ok (.aload_n 3, 1) := by decide +kernel
theorem dX1_end_16 : decode (mB 18) 16 = .ok (.dup, 1) := by decide +kernel
theorem dX1_end_17 : decode (mB 18) 17 = .ok (.getfield 254, 3) := by decide +kernel
theorem dX1_end_20 : decode (mB 18) 20 = .ok (.iconst 1, 1) := by decide +kernel
theorem dX1_end_21 : decode (mB 18) 21 = .ok (.isub, 1) := by decide +kernel
theorem dX1_end_22 : decode (mB 18) 22 = .ok (.putfield 254, 3) := by decide +kernel
theorem dX1_end_25 : decode (mB 18) 25 = .ok (.aload_n 3, 1) := by decide +kernel
theorem dX1_end_26 : decode (mB 18) 26 = .ok (.getfield 229, 3) := by decide +kernel
theorem dX1_end_29 : decode (mB 18) 29 = .ok (.iload_n 2, 1) := by decide +kernel
theorem dX1_end_30 : decode (mB 18) 30 = .ok (.ifCond .eq 7, 3) := by decide +kernel
theorem dX1_end_33 : decode (mB 18) 33 = .ok (.iconst 2, 1) := by decide +kernel
theorem dX1_end_34 : decode (mB 18) 34 = .ok (.goto 4, 3) := by decide +kernel
theorem dX1_end_37 : decode (mB 18) 37 = .ok (.iconst 3, 1) := by decide +kernel
theorem dX1_end_38 : decode (mB 18) 38 = .ok (.dup2, 1) := by decide +kernel
theorem dX1_end_39 : decode (mB 18) 39 = .ok (.iaload, 1) := by decide +kernel
theorem dX1_end_40 : decode (mB 18) 40 = .ok (.iconst 1, 1) := by decide +kernel
theorem dX1_end_41 : decode (mB 18) 41 = .ok (.iadd, 1) := by decide +kernel
theorem dX1_end_42 : decode (mB 18) 42 = .ok (.iastore, 1) := by decide +kernel
theorem dX1_end_43 : decode (mB 18) 43 = .ok (.iload_n 2, 1) := by decide +kernel
theorem dX1_end_44 : decode (mB 18) 44 = .ok (.ifCond .eq 37, 3) := by decide +kernel
theorem dX1_end_47 : decode (mB 18) 47 = .ok (.aload_n 3, 1) := by decide +kernel
theorem dX1_end_48 : decode (mB 18) 48 = .ok (.getfield 73, 3) := by decide +kernel
theorem dX1_end_51 : decode (mB 18) 51 = .ok (.iconst 3, 1) := by decide +kernel
theorem dX1_end_52 : decode (mB 18) 52 = .ok (.iaload, 1) := by decide +kernel
theorem dX1_end_53 : decode (mB 18) 53 = .ok (.ifCond .le 28, 3) := by decide +kernel
theorem dX1_end_56 : decode (mB 18) 56 = .ok (.aload_n 3, 1) := by decide +kernel
theorem dX1_end_57 : decode (mB 18) 57 = .ok (.getfield 257, 3) := by decide +kernel
theorem dX1_end_60 : decode (mB 18) 60 = .ok (.aload_n 0, 1) := by decide +kernel
theorem dX1_end_61 : decode (mB 18) 61 = .ok (.getfield 34, 3) := by decide +kernel
theorem dX1_end_64 : decode (mB 18) 64 = .ok (.getfield 224, 3) := by decide +kernel
theorem dX1_end_67 : decode (mB 18) 67 = .ok (.iload_n 1, 1) := by decide +kernel
theorem dX1_end_68 : decode (mB 18) 68 = .ok (.iaload, 1) := by decide +kernel
theorem dX1_end_69 : decode (mB 18) 69 = .ok (.aload_n 0, 1) := by decide +kernel
theorem dX1_end_70 : decode (mB 18) 70 = .ok (.getfield 21, 3) := by decide +kernel
theorem dX1_end_73 : decode (mB 18) 73 = .ok (.aload_n 3, 1) := by decide +kernel
theorem dX1_end_74 : decode (mB 18) 74 = .ok (.getfield 73, 3) := by decide +kernel
theorem dX1_end_77 : decode (mB 18) 77 = .ok (.iconst 3, 1) := by decide +kernel
theorem dX1_end_78 : decode (mB 18) 78 = .ok (.iaload, 1) := by decide +kernel
theorem dX1_end_79 : decode (mB 18) 79 = .ok (.iadd, 1) := by decide +kernel
theorem dX1_end_80 : decode (mB 18) 80 = .ok (.iastore, 1) := by decide +kernel
theorem dX1_end_81 : decode (mB 18) 81 = .ok (.aload_n 0, 1) := by decide +kernel
theorem dX1_end_82 : decode (mB 18) 82 = .ok (.getfield 34, 3) := by decide +kernel
theorem dX1_end_85 : decode (mB 18) 85 = .ok (.getfield 248, 3) := by decide +kernel
theorem dX1_end_88 : decode (mB 18) 88 = .ok (.iload_n 1, 1) := by decide +kernel
theorem dX1_end_89 : decode (mB 18) 89 = .ok (.iaload, 1) := by decide +kernel
theorem dX1_end_90 : decode (mB 18) 90 = .ok (.istore 4, 2) := by decide +kernel
theorem dX1_end_92 : decode (mB 18) 92 = .ok (.iload 4, 2) := by decide +kernel
theorem dX1_end_94 : decode (mB 18) 94 = .ok (.iconst (-1), 1) := by decide +kernel
theorem dX1_end_95 : decode (mB 18) 95 = .ok (.if_icmp .ne 23, 3) := by decide +kernel
theorem dX1_end_98 : decode (mB 18) 98 = .ok (.aload_n 3, 1) := by decide +kernel
theorem dX1_end_99 : decode (mB 18) 99 = .ok (.getfield 229, 3) := by decide +kernel
theorem dX1_end_102 : decode (mB 18) 102 = .ok (.iconst 5, 1) := by decide +kernel
theorem dX1_end_103 : decode (mB 18) 103 = .ok (.dup2, 1) := by decide +kernel
theorem dX1_end_104 : decode (mB 18) 104 = .ok (.iaload, 1) := by decide +kernel
theorem dX1_end_105 : decode (mB 18) 105 = .ok (.iconst 1, 1) := by decide +kernel
theorem dX1_end_106 : decode (mB 18) 106 = .ok (.iadd, 1) := by decide +kernel
theorem dX1_end_107 : decode (mB 18) 107 = .ok (.iastore, 1) := by decide +kernel
theorem dX1_end_108 : decode (mB 18) 108 = .ok (.aload_n 0, 1) := by decide +kernel
theorem dX1_end_109 : decode (mB 18) 109 = .ok (.dup, 1) := by decide +kernel
theorem dX1_end_110 : decode (mB 18) 110 = .ok (.getfield 28, 3) := by decide +kernel
theorem dX1_end_113 : decode (mB 18) 113 = .ok (.iconst 1, 1) := by decide +kernel
theorem dX1_end_114 : decode (mB 18) 114 = .ok (.iadd, 1) := by decide +kernel
theorem dX1_end_115 : decode (mB 18) 115 = .ok (.putfield 28, 3) := by decide +kernel
theorem dX1_end_118 : decode (mB 18) 118 = .ok (.aload_n 0, 1) := by decide +kernel
theorem dX1_end_119 : decode (mB 18) 119 = .ok (.getfield 34, 3) := by decide +kernel
theorem dX1_end_122 : decode (mB 18) 122 = .ok (.iload_n 1, 1) := by decide +kernel
theorem dX1_end_123 : decode (mB 18) 123 = .ok (.invokevirtual 251, 3) := by decide +kernel
theorem dX1_end_126 : decode (mB 18) 126 = .ok (.aload_n 0, 1) := by decide +kernel
theorem dX1_end_127 : decode (mB 18) 127 = .ok (.iload 4, 2) := by decide +kernel
theorem dX1_end_129 : decode (mB 18) 129 = .ok (.iload_n 2, 1) := by decide +kernel
theorem dX1_end_130 : decode (mB 18) 130 = .ok (.invokevirtual 232, 3) := by decide +kernel
theorem dX1_end_133 : decode (mB 18) 133 = .ok (.return_, 1) := by decide +kernel
theorem dX1_answer_0 : decode (mB 19) 0 = .ok (.aload_n 0, 1) := by decide +kernel
theorem dX1_answer_1 : decode (mB 19) 1 = .ok (.iload_n 1, 1) := by decide +kernel
theorem dX1_answer_2 : decode (mB 19) 2 = .ok (.putfield 66, 3) := by decide +kernel
theorem dX1_answer_5 : decode (mB 19) 5 = .ok (.aload_n 0, 1) := by decide +kernel
theorem dX1_answer_6 : decode (mB 19) 6 = .ok (.iload_n 2, 1) := by decide +kernel
theorem dX1_answer_7 : decode (mB 19) 7 = .ok (.putfield 69, 3) := by decide +kernel
theorem dX1_answer_10 : decode (mB 19) 10 = .ok (.return_, 1) := by decide +kernel
theorem dX1_settle_0 : decode (mB 20) 0 = .ok (.iconst 0, 1) := by decide +kernel
theorem dX1_settle_1 : decode (mB 20) 1 = .ok (.istore_n 1, 1) := by decide +kernel
theorem dX1_settle_2 : decode (mB 20) 2 = .ok (.iload_n 1, 1) := by decide +kernel
theorem dX1_settle_3 : decode (mB 20) 3 = .ok (.bipush 6, 2) := by decide +kernel
theorem dX1_settle_5 : decode (mB 20) 5 = .ok (.if_icmp .gt 94, 3) := by decide +kernel
theorem dX1_settle_8 : decode (mB 20) 8 = .ok (.aload_n 0, 1) := by decide +kernel
theorem dX1_settle_9 : decode (mB 20) 9 = .ok (.getfield 66, 3) := by decide +kernel
theorem dX1_settle_12 : decode (mB 20) 12 = .ok (.iconst (-1), 1) := by decide +kernel
theorem dX1_settle_13 : decode (mB 20) 13 = .ok (.if_icmp .eq 86, 3) := by decide +kernel
theorem dX1_settle_16 : decode (mB 20) 16 = .ok (.aload_n 0, 1) := by decide +kernel
theorem dX1_settle_17 : decode (mB 20) 17 = .ok (.getfield 66, 3) := by decide +kernel
theorem dX1_settle_20 : decode (mB 20) 20 = .ok (.istore_n 2, 1) := by decide +kernel
theorem dX1_settle_21 : decode (mB 20) 21 = .ok (.aload_n 0, 1) := by decide +kernel
theorem dX1_settle_22 : decode (mB 20) 22 = .ok (.iconst (-1), 1) := by decide +kernel
theorem dX1_settle_23 : decode (mB 20) 23 = .ok (.putfield 66, 3) := by decide +kernel
theorem dX1_settle_26 : decode (mB 20) 26 = .ok (.iload_n 2, 1) := by decide +kernel
theorem dX1_settle_27 : decode (mB 20) 27 = .ok (.sipush 1000, 3) := by decide +kernel
theorem dX1_settle_30 : decode (mB 20) 30 = .ok (.if_icmp .lt 15, 3) := by decide +kernel
theorem dX1_settle_33 : decode (mB 20) 33 = .ok (.aload_n 0, 1) := by decide +kernel
theorem dX1_settle_34 : decode (mB 20) 34 = .ok (.iload_n 2, 1) := by decide +kernel
theorem dX1_settle_35 : decode (mB 20) 35 = .ok (.sipush 1000, 3) := by decide +kernel
theorem dX1_settle_38 : decode (mB 20) 38 = .ok (.isub, 1) := by decide +kernel
theorem dX1_settle_39 : decode (mB 20) 39 = .ok (.invokevirtual 260, 3) := by decide +kernel
theorem dX1_settle_42 : decode (mB 20) 42 = .ok (.goto 51, 3) := by decide +kernel
theorem dX1_settle_45 : decode (mB 20) 45 = .ok (.aload_n 0, 1) := by decide +kernel
theorem dX1_settle_46 : decode (mB 20) 46 = .ok (.getfield 69, 3) := by decide +kernel
theorem dX1_settle_49 : decode (mB 20) 49 = .ok (.ifCond .eq 30, 3) := by decide +kernel
theorem dX1_settle_52 : decode (mB 20) 52 = .ok (.aload_n 0, 1) := by decide +kernel
theorem dX1_settle_53 : decode (mB 20) 53 = .ok (.getfield 11, 3) := by decide +kernel
theorem dX1_settle_56 : decode (mB 20) 56 = .ok (.aload_n 0, 1) := by decide +kernel
theorem dX1_settle_57 : decode (mB 20) 57 = .ok (.getfield 34, 3) := by decide +kernel
theorem dX1_settle_60 : decode (mB 20) 60 = .ok (.getfield 139, 3) := by decide +kernel
theorem dX1_settle_63 : decode (mB 20) 63 = .ok (.iload_n 2, 1) := by decide +kernel
theorem dX1_settle_64 : decode (mB 20) 64 = .ok (.iaload, 1) := by decide +kernel
theorem dX1_settle_65 : decode (mB 20) 65 = .ok (.aaload, 1) := by decide +kernel
theorem dX1_settle_66 : decode (mB 20) 66 = .ok (.iconst 0, 1) := by decide +kernel
theorem dX1_settle_67 : decode (mB 20) 67 = .ok (.putfield 263, 3) := by decide +kernel
theorem dX1_settle_70 : decode (mB 20) 70 = .ok (.aload_n 0, 1) := by decide +kernel
theorem dX1_settle_71 : decode (mB 20) 71 = .ok (.iload_n 2, 1) := by decide +kernel
theorem dX1_settle_72 : decode (mB 20) 72 = .ok (.iconst 1, 1) := by decide +kernel
theorem dX1_settle_73 : decode (mB 20) 73 = .ok (.invokevirtual 145, 3) := by decide +kernel
theorem dX1_settle_76 : decode (mB 20) 76 = .ok (.goto 17, 3) := by decide +kernel
theorem dX1_settle_79 : decode (mB 20) 79 = .ok (.aload_n 0, 1) := by decide +kernel
theorem dX1_settle_80 : decode (mB 20) 80 = .ok (.iload_n 2, 1) := by decide +kernel
theorem dX1_settle_81 : decode (mB 20) 81 = .ok (.invokevirtual 161, 3) := by decide +kernel
theorem dX1_settle_84 : decode (mB 20) 84 = .ok (.ifCond .ne 9, 3) := by decide +kernel
theorem dX1_settle_87 : decode (mB 20) 87 = .ok (.aload_n 0, 1) := by decide +kernel
theorem dX1_settle_88 : decode (mB 20) 88 = .ok (.iload_n 2, 1) := by decide +kernel
theorem dX1_settle_89 : decode (mB 20) 89 = .ok (.iconst 0, 1) := by decide +kernel
theorem dX1_settle_90 : decode (mB 20) 90 = .ok (.invokevirtual 145, 3) := by decide +kernel
theorem dX1_settle_93 : decode (mB 20) 93 = .ok (.iinc 1 1, 3) := by decide +kernel
theorem dX1_settle_96 : decode (mB 20) 96 = .ok (.goto (-94), 3) := by decide +kernel
theorem dX1_settle_99 : decode (mB 20) 99 = .ok (.return_, 1) := by decide +kernel
theorem dX1_answerGuest_0 : decode (mB 21) 0 = .ok (.aload_n 0, 1) := by decide +kernel
theorem dX1_answerGuest_1 : decode (mB 21) 1 = .ok (.getfield 41, 3) := by decide +kernel
theorem dX1_answerGuest_4 : decode (mB 21) 4 = .ok (.getfield 169, 3) := by decide +kernel
theorem dX1_answerGuest_7 : decode (mB 21) 7 = .ok (.iload_n 1, 1) := by decide +kernel
theorem dX1_answerGuest_8 : decode (mB 21) 8 = .ok (.iconst (-1), 1) := by decide +kernel
theorem dX1_answerGuest_9 : decode (mB 21) 9 = .ok (.iastore, 1) := by decide +kernel
theorem dX1_answerGuest_10 : decode (mB 21) 10 = .ok (.aload_n 0, 1) := by decide +kernel
theorem dX1_answerGuest_11 : decode (mB 21) 11 = .ok (.getfield 69, 3) := by decide +kernel
theorem dX1_answerGuest_14 : decode (mB 21) 14 = .ok (.ifCond .eq 30, 3) := by decide +kernel
theorem dX1_answerGuest_17 : decode (mB 21) 17 = .ok (.aload_n 0, 1) := by decide +kernel
theorem dX1_answerGuest_18 : decode (mB 21) 18 = .ok (.getfield 41, 3) := by decide +kernel
theorem dX1_answerGuest_21 : decode (mB 21) 21 = .ok (.dup, 1) := by decide +kernel
theorem dX1_answerGuest_22 : decode (mB 21) 22 = .ok (.getfield 266, 3) := by decide +kernel
theorem dX1_answerGuest_25 : decode (mB 21) 25 = .ok (.iconst 1, 1) := by decide +kernel
theorem dX1_answerGuest_26 : decode (mB 21) 26 = .ok (.iadd, 1) := by decide +kernel
theorem dX1_answerGuest_27 : decode (mB 21) 27 = .ok (.putfield 266, 3) := by decide +kernel
theorem dX1_answerGuest_30 : decode (mB 21) 30 = .ok (.aload_n 0, 1) := by decide +kernel
theorem dX1_answerGuest_31 : decode (mB 21) 31 = .ok (.getfield 41, 3) := by decide +kernel
theorem dX1_answerGuest_34 : decode (mB 21) 34 = .ok (.getfield 165, 3) := by decide +kernel
theorem dX1_answerGuest_37 : decode (mB 21) 37 = .ok (.iload_n 1, 1) := by decide +kernel
theorem dX1_answerGuest_38 : decode (mB 21) 38 = .ok (.invokevirtual 185, 3) := by decide +kernel
theorem dX1_answerGuest_41 : decode (mB 21) 41 = .ok (.goto 18, 3) := by decide +kernel
theorem dX1_answerGuest_44 : decode (mB 21) 44 = .ok (.aload_n 0, 1) := by decide +kernel
theorem dX1_answerGuest_45 : decode (mB 21) 45 = .ok (.getfield 41, 3) := by decide +kernel
theorem dX1_answerGuest_48 : decode (mB 21) 48 = .ok (.getfield 166, 3) := by decide +kernel
theorem dX1_answerGuest_51 : decode (mB 21) 51 = .ok (.iload_n 1, 1) := by decide +kernel
theorem dX1_answerGuest_52 : decode (mB 21) 52 = .ok (.aload_n 0, 1) := by decide +kernel
theorem dX1_answerGuest_53 : decode (mB 21) 53 = .ok (.getfield 21, 3) := by decide +kernel
theorem dX1_answerGuest_56 : decode (mB 21) 56 = .ok (.iconst 1, 1) := by decide +kernel
theorem dX1_answerGuest_57 : decode (mB 21) 57 = .ok (.iadd, 1) := by decide +kernel
theorem dX1_answerGuest_58 : decode (mB 21) 58 = .ok (.iastore, 1) := by decide +kernel
theorem dX1_answerGuest_59 : decode (mB 21) 59 = .ok (.return_, 1) := by decide +kernel
theorem dX1_pausesAfterFail_0 : decode (mB 22) 0 = .ok (.aload_n 0, 1) := by decide +kernel
theorem dX1_pausesAfterFail_1 : decode (mB 22) 1 = .ok (.getfield 11, 3) := by decide +kernel
theorem dX1_pausesAfterFail_4 : decode (mB 22) 4 = .ok (.aload_n 0, 1) := by decide +kernel
theorem dX1_pausesAfterFail_5 : decode (mB 22) 5 = .ok (.getfield 34, 3) := by decide +kernel
theorem dX1_pausesAfterFail_8 : decode (mB 22) 8 = .ok (.getfield 139, 3) := by decide +kernel
theorem dX1_pausesAfterFail_11 : decode (mB 22) 11 = .ok (.iload_n 1, 1) := by decide +kernel
theorem dX1_pausesAfterFail_12 : decode (mB 22) 12 = .ok (.iaload, 1) := by decide +kernel
theorem dX1_pausesAfterFail_13 : decode (mB 22) 13 = .ok (.aaload, 1) := by decide +kernel
theorem dX1_pausesAfterFail_14 : decode (mB 22) 14 = .ok (.astore_n 2, 1) := by decide +kernel
theorem dX1_pausesAfterFail_15 : decode (mB 22) 15 = .ok (.aload_n 0, 1) := by decide +kernel
theorem dX1_pausesAfterFail_16 : decode (mB 22) 16 = .ok (.iconst 0, 1) := by decide +kernel
theorem dX1_pausesAfterFail_17 : decode (mB 22) 17 = .ok (.putfield 24, 3) := by decide +kernel
theorem dX1_pausesAfterFail_20 : decode (mB 22) 20 = .ok (.aload_n 2, 1) := by decide +kernel
theorem dX1_pausesAfterFail_21 : decode (mB 22) 21 = .ok (.getfield 229, 3) := by decide +kernel
theorem dX1_pausesAfterFail_24 : decode (mB 22) 24 = .ok (.bipush 6, 2) := by decide +kernel
theorem dX1_pausesAfterFail_26 : decode (mB 22) 26 = .ok (.dup2, 1) := by decide +kernel
theorem dX1_pausesAfterFail_27 : decode (mB 22) 27 = .ok (.iaload, 1) := by decide +kernel
theorem dX1_pausesAfterFail_28 : decode (mB 22) 28 = .ok (.iconst 1, 1) := by decide +kernel
theorem dX1_pausesAfterFail_29 : decode (mB 22) 29 = .ok (.iadd, 1) := by decide +kernel
theorem dX1_pausesAfterFail_30 : decode (mB 22) 30 = .ok (.iastore, 1) := by decide +kernel
theorem dX1_pausesAfterFail_31 : decode (mB 22) 31 = .ok (.aload_n 2, 1) := by decide +kernel
theorem dX1_pausesAfterFail_32 : decode (mB 22) 32 = .ok (.dup, 1) := by decide +kernel
theorem dX1_pausesAfterFail_33 : decode (mB 22) 33 = .ok (.getfield 263, 3) := by decide +kernel
theorem dX1_pausesAfterFail_36 : decode (mB 22) 36 = .ok (.iconst 1, 1) := by decide +kernel
theorem dX1_pausesAfterFail_37 : decode (mB 22) 37 = .ok (.iadd, 1) := by decide +kernel
theorem dX1_pausesAfterFail_38 : decode (mB 22) 38 = .ok (.putfield 263, 3) := by decide +kernel
theorem dX1_pausesAfterFail_41 : decode (mB 22) 41 = .ok (.aload_n 2, 1) := by decide +kernel
theorem dX1_pausesAfterFail_42 : decode (mB 22) 42 = .ok (.getfield 73, 3) := by decide +kernel
theorem dX1_pausesAfterFail_45 : decode (mB 22) 45 = .ok (.iconst 4, 1) := by decide +kernel
theorem dX1_pausesAfterFail_46 : decode (mB 22) 46 = .ok (.iaload, 1) := by decide +kernel
theorem dX1_pausesAfterFail_47 : decode (mB 22) 47 = .ok (.ifCond .le 36, 3) := by decide +kernel
theorem dX1_pausesAfterFail_50 : decode (mB 22) 50 = .ok (.aload_n 2, 1) := by decide +kernel
theorem dX1_pausesAfterFail_51 : decode (mB 22) 51 = .ok (.getfield 263, 3) := by decide +kernel
theorem dX1_pausesAfterFail_54 : decode (mB 22) 54 = .ok (.aload_n 2, 1) := by decide +kernel
theorem dX1_pausesAfterFail_55 : decode (mB 22) 55 = .ok (.getfield 73, 3) := by decide +kernel
theorem dX1_pausesAfterFail_58 : decode (mB 22) 58 = .ok (.iconst 4, 1) := by decide +kernel
theorem dX1_pausesAfterFail_59 : decode (mB 22) 59 = .ok (.iaload, 1) := by decide +kernel
theorem dX1_pausesAfterFail_60 : decode (mB 22) 60 = .ok (.if_icmp .lt 23, 3) := by decide +kernel
theorem dX1_pausesAfterFail_63 : decode (mB 22) 63 = .ok (.aload_n 2, 1) := by decide +kernel
theorem dX1_pausesAfterFail_64 : decode (mB 22) 64 = .ok (.aload_n 0, 1) := by decide +kernel
theorem dX1_pausesAfterFail_65 : decode (mB 22) 65 = .ok (.getfield 21, 3) := by decide +kernel
theorem dX1_pausesAfterFail_68 : decode (mB 22) 68 = .ok (.aload_n 2, 1) := by decide +kernel
theorem dX1_pausesAfterFail_69 : decode (mB 22) 69 = .ok (.getfield 73, 3) := by decide +kernel
theorem dX1_pausesAfterFail_72 : decode (mB 22) 72 = .ok (.iconst 5, 1) := by decide +kernel
theorem dX1_pausesAfterFail_73 : decode (mB 22) 73 = .ok (.iaload, 1) := by decide +kernel
theorem dX1_pausesAfterFail_74 : decode (mB 22) 74 = .ok (.iadd, 1) := by decide +kernel
theorem dX1_pausesAfterFail_75 : decode (mB 22) 75 = .ok (.putfield 269, 3) := by decide +kernel
theorem dX1_pausesAfterFail_78 : decode (mB 22) 78 = .ok (.aload_n 2, 1) := by decide +kernel
theorem dX1_pausesAfterFail_79 : decode (mB 22) 79 = .ok (.iconst 0, 1) := by decide +kernel
theorem dX1_pausesAfterFail_80 : decode (mB 22) 80 = .ok (.putfield 263, 3) := by decide +kernel
theorem dX1_pausesAfterFail_83 : decode (mB 22) 83 = .ok (.aload_n 0, 1) := by decide +kernel
theorem dX1_pausesAfterFail_84 : decode (mB 22) 84 = .ok (.getfield 34, 3) := by decide +kernel
theorem dX1_pausesAfterFail_87 : decode (mB 22) 87 = .ok (.getfield 155, 3) := by decide +kernel
theorem dX1_pausesAfterFail_90 : decode (mB 22) 90 = .ok (.iload_n 1, 1) := by decide +kernel
theorem dX1_pausesAfterFail_91 : decode (mB 22) 91 = .ok (.iconst (-1), 1) := by decide +kernel
theorem dX1_pausesAfterFail_92 : decode (mB 22) 92 = .ok (.iastore, 1) := by decide +kernel
theorem dX1_pausesAfterFail_93 : decode (mB 22) 93 = .ok (.aload_n 0, 1) := by decide +kernel
theorem dX1_pausesAfterFail_94 : decode (mB 22) 94 = .ok (.getfield 34, 3) := by decide +kernel
theorem dX1_pausesAfterFail_97 : decode (mB 22) 97 = .ok (.getfield 152, 3) := by decide +kernel
theorem dX1_pausesAfterFail_100 : decode (mB 22) 100 = .ok (.iload_n 1, 1) := by decide +kernel
theorem dX1_pausesAfterFail_101 : decode (mB 22) 101 = .ok (.iaload, 1) := by decide +kernel
theorem dX1_pausesAfterFail_102 : decode (mB 22) 102 = .ok (.aload_n 2, 1) := by decide +kernel
theorem dX1_pausesAfterFail_103 : decode (mB 22) 103 = .ok (.getfield 73, 3) := by decide +kernel
theorem dX1_pausesAfterFail_106 : decode (mB 22) 106 = .ok (.iconst 1, 1) := by decide +kernel
theorem dX1_pausesAfterFail_107 : decode (mB 22) 107 = .ok (.iaload, 1) := by decide +kernel
theorem dX1_pausesAfterFail_108 : decode (mB 22) 108 = .ok (.if_icmp .lt 5, 3) := by decide +kernel
theorem dX1_pausesAfterFail_111 : decode (mB 22) 111 = .ok (.iconst 0, 1) := by decide +kernel
theorem dX1_pausesAfterFail_112 : decode (mB 22) 112 = .ok (.ireturn, 1) := by decide +kernel
theorem dX1_pausesAfterFail_113 : decode (mB 22) 113 = .ok (.aload_n 0, 1) := by decide +kernel
theorem dX1_pausesAfterFail_114 : decode (mB 22) 114 = .ok (.getfield 34, 3) := by decide +kernel
theorem dX1_pausesAfterFail_117 : decode (mB 22) 117 = .ok (.iload_n 1, 1) := by decide +kernel
theorem dX1_pausesAfterFail_118 : decode (mB 22) 118 = .ok (.iconst 3, 1) := by decide +kernel
theorem dX1_pausesAfterFail_119 : decode (mB 22) 119 = .ok (.aload_n 0, 1) := by decide +kernel
theorem dX1_pausesAfterFail_120 : decode (mB 22) 120 = .ok (.getfield 21, 3) := by decide +kernel
theorem dX1_pausesAfterFail_123 : decode (mB 22) 123 = .ok (.iconst 1, 1) := by decide +kernel
theorem dX1_pausesAfterFail_124 : decode (mB 22) 124 = .ok (.iadd, 1) := by decide +kernel
theorem dX1_pausesAfterFail_125 : decode (mB 22) 125 = .ok (.aload_n 2, 1) := by decide +kernel
theorem dX1_pausesAfterFail_126 : decode (mB 22) 126 = .ok (.getfield 73, 3) := by decide +kernel
theorem dX1_pausesAfterFail_129 : decode (mB 22) 129 = .ok (.iconst 2, 1) := by decide +kernel
theorem dX1_pausesAfterFail_130 : decode (mB 22) 130 = .ok (.iaload, 1) := by decide +kernel
theorem dX1_pausesAfterFail_131 : decode (mB 22) 131 = .ok (.aload_n 0, 1) := by decide +kernel
theorem dX1_pausesAfterFail_132 : decode (mB 22) 132 = .ok (.getfield 34, 3) := by decide +kernel
theorem dX1_pausesAfterFail_135 : decode (mB 22) 135 = .ok (.getfield 152, 3) := by decide +kernel
theorem dX1_pausesAfterFail_138 : decode (mB 22) 138 = .ok (.iload_n 1, 1) := by decide +kernel
theorem dX1_pausesAfterFail_139 : decode (mB 22) 139 = .ok (.iaload, 1) := by decide +kernel
theorem dX1_pausesAfterFail_140 : decode (mB 22) 140 = .ok (.ishl, 1) := by decide +kernel
theorem dX1_pausesAfterFail_141 : decode (mB 22) 141 = .ok (.iadd, 1) := by decide +kernel
theorem dX1_pausesAfterFail_142 : decode (mB 22) 142 = .ok (.invokevirtual 221, 3) := by decide +kernel
theorem dX1_pausesAfterFail_145 : decode (mB 22) 145 = .ok (.iconst 1, 1) := by decide +kernel
theorem dX1_pausesAfterFail_146 : decode (mB 22) 146 = .ok (.ireturn, 1) := by decide +kernel
theorem dX1_copyFrom_0 : decode (mB 23) 0 = .ok (.iconst 0, 1) := by decide +kernel
theorem dX1_copyFrom_1 : decode (mB 23) 1 = .ok (.istore_n 2, 1) := by decide +kernel
theorem dX1_copyFrom_2 : decode (mB 23) 2 = .ok (.iload_n 2, 1) := by decide +kernel
theorem dX1_copyFrom_3 : decode (mB 23) 3 = .ok (.bipush 6, 2) := by decide +kernel
theorem dX1_copyFrom_5 : decode (mB 23) 5 = .ok (.if_icmp .ge 24, 3) := by decide +kernel
theorem dX1_copyFrom_8 : decode (mB 23) 8 = .ok (.aload_n 0, 1) := by decide +kernel
theorem dX1_copyFrom_9 : decode (mB 23) 9 = .ok (.getfield 11, 3) := by decide +kernel
theorem dX1_copyFrom_12 : decode (mB 23) 12 = .ok (.iload_n 2, 1) := by decide +kernel
theorem dX1_copyFrom_13 : decode (mB 23) 13 = .ok (.aaload, 1) := by decide +kernel
theorem dX1_copyFrom_14 : decode (mB 23) 14 = .ok (.aload_n 1, 1) := by decide +kernel
theorem dX1_copyFrom_15 : decode (mB 23) 15 = .ok (.getfield 11, 3) := by decide +kernel
theorem dX1_copyFrom_18 : decode (mB 23) 18 = .ok (.iload_n 2, 1) := by decide +kernel
theorem dX1_copyFrom_19 : decode (mB 23) 19 = .ok (.aaload, 1) := by decide +kernel
theorem dX1_copyFrom_20 : decode (mB 23) 20 = .ok (.invokevirtual 272, 3) := by decide +kernel
theorem dX1_copyFrom_23 : decode (mB 23) 23 = .ok (.iinc 2 1, 3) := by decide +kernel
theorem dX1_copyFrom_26 : decode (mB 23) 26 = .ok (.goto (-24), 3) := by decide +kernel
theorem dX1_copyFrom_29 : decode (mB 23) 29 = .ok (.aload_n 0, 1) := by decide +kernel
theorem dX1_copyFrom_30 : decode (mB 23) 30 = .ok (.aload_n 1, 1) := by decide +kernel
theorem dX1_copyFrom_31 : decode (mB 23) 31 = .ok (.getfield 17, 3) := by decide +kernel
theorem dX1_copyFrom_34 : decode (mB 23) 34 = .ok (.putfield 17, 3) := by decide +kernel
theorem dX1_copyFrom_37 : decode (mB 23) 37 = .ok (.aload_n 0, 1) := by decide +kernel
theorem dX1_copyFrom_38 : decode (mB 23) 38 = .ok (.aload_n 1, 1) := by decide +kernel
theorem dX1_copyFrom_39 : decode (mB 23) 39 = .ok (.getfield 21, 3) := by decide +kernel
theorem dX1_copyFrom_42 : decode (mB 23) 42 = .ok (.putfield 21, 3) := by decide +kernel
theorem dX1_copyFrom_45 : decode (mB 23) 45 = .ok (.aload_n 0, 1) := by decide +kernel
theorem dX1_copyFrom_46 : decode (mB 23) 46 = .ok (.aload_n 1, 1) := by decide +kernel
theorem dX1_copyFrom_47 : decode (mB 23) 47 = .ok (.getfield 24, 3) := by decide +kernel
theorem dX1_copyFrom_50 : decode (mB 23) 50 = .ok (.putfield 24, 3) := by decide +kernel
theorem dX1_copyFrom_53 : decode (mB 23) 53 = .ok (.aload_n 0, 1) := by decide +kernel
theorem dX1_copyFrom_54 : decode (mB 23) 54 = .ok (.aload_n 1, 1) := by decide +kernel
theorem dX1_copyFrom_55 : decode (mB 23) 55 = .ok (.getfield 28, 3) := by decide +kernel
theorem dX1_copyFrom_58 : decode (mB 23) 58 = .ok (.putfield 28, 3) := by decide +kernel
theorem dX1_copyFrom_61 : decode (mB 23) 61 = .ok (.aload_n 0, 1) := by decide +kernel
theorem dX1_copyFrom_62 : decode (mB 23) 62 = .ok (.getfield 34, 3) := by decide +kernel
theorem dX1_copyFrom_65 : decode (mB 23) 65 = .ok (.aload_n 1, 1) := by decide +kernel
theorem dX1_copyFrom_66 : decode (mB 23) 66 = .ok (.getfield 34, 3) := by decide +kernel
theorem dX1_copyFrom_69 : decode (mB 23) 69 = .ok (.invokevirtual 276, 3) := by decide +kernel
theorem dX1_copyFrom_72 : decode (mB 23) 72 = .ok (.aload_n 0, 1) := by decide +kernel
theorem dX1_copyFrom_73 : decode (mB 23) 73 = .ok (.getfield 41, 3) := by decide +kernel
theorem dX1_copyFrom_76 : decode (mB 23) 76 = .ok (.aload_n 1, 1) := by decide +kernel
theorem dX1_copyFrom_77 : decode (mB 23) 77 = .ok (.getfield 41, 3) := by decide +kernel
theorem dX1_copyFrom_80 : decode (mB 23) 80 = .ok (.invokevirtual 279, 3) := by decide +kernel
theorem dX1_copyFrom_83 : decode (mB 23) 83 = .ok (.aload_n 0, 1) := by decide +kernel
theorem dX1_copyFrom_84 : decode (mB 23) 84 = .ok (.getfield 55, 3) := by decide +kernel
theorem dX1_copyFrom_87 : decode (mB 23) 87 = .ok (.aload_n 1, 1) := by decide +kernel
theorem dX1_copyFrom_88 : decode (mB 23) 88 = .ok (.getfield 55, 3) := by decide +kernel
theorem dX1_copyFrom_91 : decode (mB 23) 91 = .ok (.invokevirtual 282, 3) := by decide +kernel
theorem dX1_copyFrom_94 : decode (mB 23) 94 = .ok (.return_, 1) := by decide +kernel
theorem dX2_init_0 : decode cX2_init 0 = .ok (.aload_n 0, 1) := by decide +kernel
theorem dX2_init_1 : decode cX2_init 1 = .ok (.invokespecial 3, 3) := by decide +kernel
theorem dX2_init_4 : decode cX2_init 4 = .ok (.aload_n 0, 1) := by decide +kernel
theorem dX2_init_5 : decode cX2_init 5 = .ok (.new 9, 3) := by decide +kernel
theorem dX2_init_8 : decode cX2_init 8 = .ok (.dup, 1) := by decide +kernel
theorem dX2_init_9 : decode cX2_init 9 = .ok (.bipush 120, 2) := by decide +kernel
theorem dX2_init_11 : decode cX2_init 11 = .ok (.invokespecial 11, 3) := by decide +kernel
theorem dX2_init_14 : decode cX2_init 14 = .ok (.putfield 14, 3) := by decide +kernel
theorem dX2_init_17 : decode cX2_init 17 = .ok (.aload_n 0, 1) := by decide +kernel
theorem dX2_init_18 : decode cX2_init 18 = .ok (.bipush 120, 2) := by decide +kernel
theorem dX2_init_20 : decode cX2_init 20 = .ok (.newarray .int, 2) := by decide +kernel
theorem dX2_init_22 : decode cX2_init 22 = .ok (.putfield 20, 3) := by decide +kernel
theorem dX2_init_25 : decode cX2_init 25 = .ok (.aload_n 0, 1) := by decide +kernel
theorem dX2_init_26 : decode cX2_init 26 = .ok (.bipush 120, 2) := by decide +kernel
theorem dX2_init_28 : decode cX2_init 28 = .ok (.newarray .int, 2) := by decide +kernel
theorem dX2_init_30 : decode cX2_init 30 = .ok (.putfield 24, 3) := by decide +kernel
theorem dX2_init_33 : decode cX2_init 33 = .ok (.aload_n 0, 1) := by decide +kernel
theorem dX2_init_34 : decode cX2_init 34 = .ok (.bipush 120, 2) := by decide +kernel
theorem dX2_init_36 : decode cX2_init 36 = .ok (.newarray .int, 2) := by decide +kernel
theorem dX2_init_38 : decode cX2_init 38 = .ok (.putfield 27, 3) := by decide +kernel
theorem dX2_init_41 : decode cX2_init 41 = .ok (.aload_n 0, 1) := by decide +kernel
theorem dX2_init_42 : decode cX2_init 42 = .ok (.bipush 120, 2) := by decide +kernel
theorem dX2_init_44 : decode cX2_init 44 = .ok (.newarray .int, 2) := by decide +kernel
theorem dX2_init_46 : decode cX2_init 46 = .ok (.putfield 30, 3) := by decide +kernel
theorem dX2_init_49 : decode cX2_init 49 = .ok (.aload_n 0, 1) := by decide +kernel
theorem dX2_init_50 : decode cX2_init 50 = .ok (.bipush 120, 2) := by decide +kernel
theorem dX2_init_52 : decode cX2_init 52 = .ok (.newarray .int, 2) := by decide +kernel
theorem dX2_init_54 : decode cX2_init 54 = .ok (.putfield 33, 3) := by decide +kernel
theorem dX2_init_57 : decode cX2_init 57 = .ok (.aload_n 0, 1) := by decide +kernel
theorem dX2_init_58 : decode cX2_init 58 = .ok (.bipush 120, 2) := by decide +kernel
theorem dX2_init_60 : decode cX2_init 60 = .ok (.newarray .int, 2) := by decide +kernel
theorem dX2_init_62 : decode cX2_init 62 = .ok (.putfield 36, 3) := by decide +kernel
theorem dX2_init_65 : decode cX2_init 65 = .ok (.aload_n 0, 1) := by decide +kernel
theorem dX2_init_66 : decode cX2_init 66 = .ok (.bipush 120, 2) := by decide +kernel
theorem dX2_init_68 : decode cX2_init 68 = .ok (.newarray .int, 2) := by decide +kernel
theorem dX2_init_70 : decode cX2_init 70 = .ok (.putfield 39, 3) := by decide +kernel
theorem dX2_init_73 : decode cX2_init 73 = .ok (.aload_n 0, 1) := by decide +kernel
theorem dX2_init_74 : decode cX2_init 74 = .ok (.bipush 120, 2) := by decide +kernel
theorem dX2_init_76 : decode cX2_init 76 = .ok (.newarray .int, 2) := by decide +kernel
theorem dX2_init_78 : decode cX2_init 78 = .ok (.putfield 42, 3) := by decide +kernel
theorem dX2_init_81 : decode cX2_init 81 = .ok (.aload_n 0, 1) := by decide +kernel
theorem dX2_init_82 : decode cX2_init 82 = .ok (.iconst 0, 1) := by decide +kernel
theorem dX2_init_83 : decode cX2_init 83 = .ok (.putfield 45, 3) := by decide +kernel
theorem dX2_init_86 : decode cX2_init 86 = .ok (.return_, 1) := by decide +kernel
theorem dX2_add_0 : decode (mB 24) 0 = .ok (.aload_n 0, 1) := by decide +kernel
theorem dX2_add_1 : decode (mB 24) 1 = .ok (.getfield 14, 3) := by decide +kernel
theorem dX2_add_4 : decode (mB 24) 4 = .ok (.invokevirtual 49, 3) := by decide +kernel
theorem dX2_add_7 : decode (mB 24) 7 = .ok (.istore 4, 2) := by decide +kernel
theorem dX2_add_9 : decode (mB 24) 9 = .ok (.iload 4, 2) := by decide +kernel
theorem dX2_add_11 : decode (mB 24) 11 = .ok (.iconst (-1), 1) := by decide +kernel
theorem dX2_add_12 : decode (mB 24) 12 = .ok (.if_icmp .ne 5, 3) := by decide +kernel
theorem dX2_add_15 : decode (mB 24) 15 = .ok (.iconst (-1), 1) := by decide +kernel
theorem dX2_add_16 : decode (mB 24) 16 = .ok (.ireturn, 1) := by decide +kernel
theorem dX2_add_17 : decode (mB 24) 17 = .ok (.aload_n 0, 1) := by decide +kernel
theorem dX2_add_18 : decode (mB 24) 18 = .ok (.getfield 20, 3) := by decide +kernel
theorem dX2_add_21 : decode (mB 24) 21 = .ok (.iload 4, 2) := by decide +kernel
theorem dX2_add_23 : decode (mB 24) 23 = .ok (.aload_n 0, 1) := by decide +kernel
theorem dX2_add_24 : decode (mB 24) 24 = .ok (.getfield 45, 3) := by decide +kernel
theorem dX2_add_27 : decode (mB 24) 27 = .ok (.iastore, 1) := by decide +kernel
theorem dX2_add_28 : decode (mB 24) 28 = .ok (.aload_n 0, 1) := by decide +kernel
theorem dX2_add_29 : decode (mB 24) 29 = .ok (.dup, 1) := by decide +kernel
theorem dX2_add_30 : decode (mB 24) 30 = .ok (.getfield 45, 3) := by decide +kernel
theorem dX2_add_33 : decode (mB 24) 33 = .ok (.iconst 1, 1) := by decide +kernel
theorem dX2_add_34 : decode (mB 24) 34 = .ok (.iadd, 1) := by decide +kernel
theorem dX2_add_35 : decode (mB 24) 35 = .ok (.putfield 45, 3) := by decide +kernel
theorem dX2_add_38 : decode (mB 24) 38 = .ok (.aload_n 0, 1) := by decide +kernel
theorem dX2_add_39 : decode (mB 24) 39 = .ok (.getfield 24, 3) := by decide +kernel
theorem dX2_add_42 : decode (mB 24) 42 = .ok (.iload 4, 2) := by decide +kernel
theorem dX2_add_44 : decode (mB 24) 44 = .ok (.iload_n 1, 1) := by decide +kernel
theorem dX2_add_45 : decode (mB 24) 45 = .ok (.iastore, 1) := by decide +kernel
theorem dX2_add_46 : decode (mB 24) 46 = .ok (.aload_n 0, 1) := by decide +kernel
theorem dX2_add_47 : decode (mB 24) 47 = .ok (.getfield 27, 3) := by decide +kernel
theorem dX2_add_50 : decode (mB 24) 50 = .ok (.iload 4, 2) := by decide +kernel
theorem dX2_add_52 : decode (mB 24) 52 = .ok (.iload_n 2, 1) := by decide +kernel
theorem dX2_add_53 : decode (mB 24) 53 = .ok (.iastore, 1) := by decide +kernel
theorem dX2_add_54 : decode (mB 24) 54 = .ok (.aload_n 0, 1) := by decide +kernel
theorem dX2_add_55 : decode (mB 24) 55 = .ok (.getfield 30, 3) := by decide +kernel
theorem dX2_add_58 : decode (mB 24) 58 = .ok (.iload 4, 2) := by decide +kernel
theorem dX2_add_60 : decode (mB 24) 60 = .ok (.iconst 0, 1) := by decide +kernel
theorem dX2_add_61 : decode (mB 24) 61 = .ok (.iastore, 1) := by decide +kernel
theorem dX2_add_62 : decode (mB 24) 62 = .ok (.aload_n 0, 1) := by decide +kernel
theorem dX2_add_63 : decode (mB 24) 63 = .ok (.getfield 33, 3) := by decide +kernel
theorem dX2_add_66 : decode (mB 24) 66 = .ok (.iload 4, 2) := by decide +kernel
theorem dX2_add_68 : decode (mB 24) 68 = .ok (.iload_n 3, 1) := by decide +kernel
theorem dX2_add_69 : decode (mB 24) 69 = .ok (.iastore, 1) := by decide +kernel
theorem dX2_add_70 : decode (mB 24) 70 = .ok (.aload_n 0, 1) := by decide +kernel
theorem dX2_add_71 : decode (mB 24) 71 = .ok (.getfield 36, 3) := by decide +kernel
theorem dX2_add_74 : decode (mB 24) 74 = .ok (.iload 4, 2) := by decide +kernel
theorem dX2_add_76 : decode (mB 24) 76 = .ok (.iconst (-1), 1) := by decide +kernel
theorem dX2_add_77 : decode (mB 24) 77 = .ok (.iastore, 1) := by decide +kernel
theorem dX2_add_78 : decode (mB 24) 78 = .ok (.aload_n 0, 1) := by decide +kernel
theorem dX2_add_79 : decode (mB 24) 79 = .ok (.getfield 39, 3) := by decide +kernel
theorem dX2_add_82 : decode (mB 24) 82 = .ok (.iload 4, 2) := by decide +kernel
theorem dX2_add_84 : decode (mB 24) 84 = .ok (.bipush (-4), 2) := by decide +kernel
theorem dX2_add_86 : decode (mB 24) 86 = .ok (.iastore, 1) := by decide +kernel
theorem dX2_add_87 : decode (mB 24) 87 = .ok (.aload_n 0, 1) := by decide +kernel
theorem dX2_add_88 : decode (mB 24) 88 = .ok (.getfield 42, 3) := by decide +kernel
theorem dX2_add_91 : decode (mB 24) 91 = .ok (.iload 4, 2) := by decide +kernel
theorem dX2_add_93 : decode (mB 24) 93 = .ok (.iconst 0, 1) := by decide +kernel
theorem dX2_add_94 : decode (mB 24) 94 = .ok (.iastore, 1) := by decide +kernel
theorem dX2_add_95 : decode (mB 24) 95 = .ok (.iload 4, 2) := by decide +kernel
theorem dX2_add_97 : decode (mB 24) 97 = .ok (.ireturn, 1) := by decide +kernel
theorem dX2_remove_0 : decode (mB 25) 0 = .ok (.aload_n 0, 1) := by decide +kernel
theorem dX2_remove_1 : decode (mB 25) 1 = .ok (.getfield 30, 3) := by decide +kernel
theorem dX2_remove_4 : decode (mB 25) 4 = .ok (.iload_n 1, 1) := by decide +kernel
theorem dX2_remove_5 : decode (mB 25) 5 = .ok (.iconst (-1), 1) := by decide +kernel
theorem dX2_remove_6 : decode (mB 25) 6 = .ok (.iastore, 1) := by decide +kernel
theorem dX2_remove_7 : decode (mB 25) 7 = .ok (.aload_n 0, 1) := by decide +kernel
theorem dX2_remove_8 : decode (mB 25) 8 = .ok (.getfield 14, 3) := by decide +kernel
theorem dX2_remove_11 : decode (mB 25) 11 = .ok (.iload_n 1, 1) := by decide +kernel
theorem dX2_remove_12 : decode (mB 25) 12 = .ok (.invokevirtual 53, 3) := by decide +kernel
theorem dX2_remove_15 : decode (mB 25) 15 = .ok (.return_, 1) := by decide +kernel
theorem dX2_become_0 : decode (mB 26) 0 = .ok (.aload_n 0, 1) := by decide +kernel
theorem dX2_become_1 : decode (mB 26) 1 = .ok (.getfield 30, 3) := by decide +kernel
theorem dX2_become_4 : decode (mB 26) 4 = .ok (.iload_n 1, 1) := by decide +kernel
theorem dX2_become_5 : decode (mB 26) 5 = .ok (.iload_n 2, 1) := by decide +kernel
theorem dX2_become_6 : decode (mB 26) 6 = .ok (.iastore, 1) := by decide +kernel
theorem dX2_become_7 : decode (mB 26) 7 = .ok (.aload_n 0, 1) := by decide +kernel
theorem dX2_become_8 : decode (mB 26) 8 = .ok (.getfield 39, 3) := by decide +kernel
theorem dX2_become_11 : decode (mB 26) 11 = .ok (.iload_n 1, 1) := by decide +kernel
theorem dX2_become_12 : decode (mB 26) 12 = .ok (.iload_n 3, 1) := by decide +kernel
theorem dX2_become_13 : decode (mB 26) 13 = .ok (.iastore, 1) := by decide +kernel
theorem dX2_become_14 : decode (mB 26) 14 = .ok (.return_, 1) := by decide +kernel
theorem dX2_isDue_0 : decode (mB 27) 0 = .ok (.aload_n 0, 1) := by decide +kernel
theorem dX2_isDue_1 : decode (mB 27) 1 = .ok (.getfield 30, 3) := by decide +kernel
theorem dX2_isDue_4 : decode (mB 27) 4 = .ok (.iload_n 1, 1) := by decide +kernel
theorem dX2_isDue_5 : decode (mB 27) 5 = .ok (.iaload, 1) := by decide +kernel
theorem dX2_isDue_6 : decode (mB 27) 6 = .ok (.iload_n 2, 1) := by decide +kernel
theorem dX2_isDue_7 : decode (mB 27) 7 = .ok (.if_icmp .ne 17, 3) := by decide +kernel
theorem dX2_isDue_10 : decode (mB 27) 10 = .ok (.aload_n 0, 1) := by decide +kernel
theorem dX2_isDue_11 : decode (mB 27) 11 = .ok (.getfield 39, 3) := by decide +kernel
theorem dX2_isDue_14 : decode (mB 27) 14 = .ok (.iload_n 1, 1) := by decide +kernel
theorem dX2_isDue_15 : decode (mB 27) 15 = .ok (.iaload, 1) := by decide +kernel
theorem dX2_isDue_16 : decode (mB 27) 16 = .ok (.iload_n 3, 1) := by decide +kernel
theorem dX2_isDue_17 : decode (mB 27) 17 = .ok (.if_icmp .ne 7, 3) := by decide +kernel
theorem dX2_isDue_20 : decode (mB 27) 20 = .ok (.iconst 1, 1) := by decide +kernel
theorem dX2_isDue_21 : decode (mB 27) 21 = .ok (.goto 4, 3) := by decide +kernel
theorem dX2_isDue_24 : decode (mB 27) 24 = .ok (.iconst 0, 1) := by decide +kernel
theorem dX2_isDue_25 : decode (mB 27) 25 = .ok (.ireturn, 1) := by decide +kernel
theorem dX2_howMany_0 : decode (mB 28) 0 = .ok (.iconst 0, 1) := by decide +kernel
theorem dX2_howMany_1 : decode (mB 28) 1 = .ok (.istore_n 3, 1) := by decide +kernel
theorem dX2_howMany_2 : decode (mB 28) 2 = .ok (.aload_n 0, 1) := by decide +kernel
theorem dX2_howMany_3 : decode (mB 28) 3 = .ok (.getfield 14, 3) := by decide +kernel
theorem dX2_howMany_6 : decode (mB 28) 6 = .ok (.getfield 56, 3) := by decide +kernel
theorem dX2_howMany_9 : decode (mB 28) 9 = .ok (.istore 4, 2) := by decide +kernel
theorem dX2_howMany_11 : decode (mB 28) 11 = .ok (.iconst 0, 1) := by decide +kernel
theorem dX2_howMany_12 : decode (mB 28) 12 = .ok (.istore 5, 2) := by decide +kernel
theorem dX2_howMany_14 : decode (mB 28) 14 = .ok (.iload 5, 2) := by decide +kernel
theorem dX2_howMany_16 : decode (mB 28) 16 = .ok (.aload_n 0, 1) := by decide +kernel
theorem dX2_howMany_17 : decode (mB 28) 17 = .ok (.getfield 14, 3) := by decide +kernel
theorem dX2_howMany_20 : decode (mB 28) 20 = .ok (.getfield 59, 3) := by decide +kernel
theorem dX2_howMany_23 : decode (mB 28) 23 = .ok (.if_icmp .ge 52, 3) := by decide +kernel
theorem dX2_howMany_26 : decode (mB 28) 26 = .ok (.iload 4, 2) := by decide +kernel
theorem dX2_howMany_28 : decode (mB 28) 28 = .ok (.iconst (-1), 1) := by decide +kernel
theorem dX2_howMany_29 : decode (mB 28) 29 = .ok (.if_icmp .eq 46, 3) := by decide +kernel
theorem dX2_howMany_32 : decode (mB 28) 32 = .ok (.aload_n 0, 1) := by decide +kernel
theorem dX2_howMany_33 : decode (mB 28) 33 = .ok (.getfield 24, 3) := by decide +kernel
theorem dX2_howMany_36 : decode (mB 28) 36 = .ok (.iload 4, 2) := by decide +kernel
theorem dX2_howMany_38 : decode (mB 28) 38 = .ok (.iaload, 1) := by decide +kernel
theorem dX2_howMany_39 : decode (mB 28) 39 = .ok (.iload_n 1, 1) := by decide +kernel
theorem dX2_howMany_40 : decode (mB 28) 40 = .ok (.if_icmp .ne 17, 3) := by decide +kernel
theorem dX2_howMany_43 : decode (mB 28) 43 = .ok (.aload_n 0, 1) := by decide +kernel
theorem dX2_howMany_44 : decode (mB 28) 44 = .ok (.getfield 30, 3) := by decide +kernel
theorem dX2_howMany_47 : decode (mB 28) 47 = .ok (.iload 4, 2) := by decide +kernel
theorem dX2_howMany_49 : decode (mB 28) 49 = .ok (.iaload, 1) := by decide +kernel
theorem dX2_howMany_50 : decode (mB 28) 50 = .ok (.iload_n 2, 1) := by decide +kernel
theorem dX2_howMany_51 : decode (mB 28) 51 = .ok (.if_icmp .ne 6, 3) := by decide +kernel
theorem dX2_howMany_54 : decode (mB 28) 54 = .ok (.iinc 3 1, 3) := by decide +kernel
theorem dX2_howMany_57 : decode (mB 28) 57 = .ok (.aload_n 0, 1) := by decide +kernel
theorem dX2_howMany_58 : decode (mB 28) 58 = .ok (.getfield 14, 3) := by decide +kernel
theorem dX2_howMany_61 : decode (mB 28) 61 = .ok (.getfield 62, 3) := by decide +kernel
theorem dX2_howMany_64 : decode (mB 28) 64 = .ok (.iload 4, 2) := by decide +kernel
theorem dX2_howMany_66 : decode (mB 28) 66 = .ok (.iaload, 1) := by decide +kernel
theorem dX2_howMany_67 : decode (mB 28) 67 = .ok (.istore 4, 2) := by decide +kernel
theorem dX2_howMany_69 : decode (mB 28) 69 = .ok (.iinc 5 1, 3) := by decide +kernel
theorem dX2_howMany_72 : decode (mB 28) 72 = .ok (.goto (-58), 3) := by decide +kernel
theorem dX2_howMany_75 : decode (mB 28) 75 = .ok (.iload_n 3, 1) := by decide +kernel
theorem dX2_howMany_76 : decode (mB 28) 76 = .ok (.ireturn, 1) := by decide +kernel
theorem dX2_copyFrom_0 : decode (mB 29) 0 = .ok (.aload_n 0, 1) := by decide +kernel
theorem dX2_copyFrom_1 : decode (mB 29) 1 = .ok (.getfield 14, 3) := by decide +kernel
theorem dX2_copyFrom_4 : decode (mB 29) 4 = .ok (.aload_n 1, 1) := by decide +kernel
theorem dX2_copyFrom_5 : decode (mB 29) 5 = .ok (.getfield 14, 3) := by decide +kernel
theorem dX2_copyFrom_8 : decode (mB 29) 8 = .ok (.invokevirtual 65, 3) := by decide +kernel
theorem dX2_copyFrom_11 : decode (mB 29) 11 = .ok (.aload_n 1, 1) := by decide +kernel
theorem dX2_copyFrom_12 : decode (mB 29) 12 = .ok (.getfield 20, 3) := by decide +kernel
theorem dX2_copyFrom_15 : decode (mB 29) 15 = .ok (.iconst 0, 1) := by decide +kernel
theorem dX2_copyFrom_16 : decode (mB 29) 16 = .ok (.aload_n 0, 1) := by decide +kernel
theorem dX2_copyFrom_17 : decode (mB 29) 17 = .ok (.getfield 20, 3) := by decide +kernel
theorem dX2_copyFrom_20 : decode (mB 29) 20 = .ok (.iconst 0, 1) := by decide +kernel
theorem dX2_copyFrom_21 : decode (mB 29) 21 = .ok (.bipush 120, 2) := by decide +kernel
theorem dX2_copyFrom_23 : decode (mB 29) 23 = .ok (.invokestatic 69, 3) := by decide +kernel
theorem dX2_copyFrom_26 : decode (mB 29) 26 = .ok (.aload_n 1, 1) := by decide +kernel
theorem dX2_copyFrom_27 : decode (mB 29) 27 = .ok (.getfield 24, 3) := by decide +kernel
theorem dX2_copyFrom_30 : decode (mB 29) 30 = .ok (.iconst 0, 1) := by decide +kernel
theorem dX2_copyFrom_31 : decode (mB 29) 31 = .ok (.aload_n 0, 1) := by decide +kernel
theorem dX2_copyFrom_32 : decode (mB 29) 32 = .ok (.getfield 24, 3) := by decide +kernel
theorem dX2_copyFrom_35 : decode (mB 29) 35 = .ok (.iconst 0, 1) := by decide +kernel
theorem dX2_copyFrom_36 : decode (mB 29) 36 = .ok (.bipush 120, 2) := by decide +kernel
theorem dX2_copyFrom_38 : decode (mB 29) 38 = .ok (.invokestatic 69, 3) := by decide +kernel
theorem dX2_copyFrom_41 : decode (mB 29) 41 = .ok (.aload_n 1, 1) := by decide +kernel
theorem dX2_copyFrom_42 : decode (mB 29) 42 = .ok (.getfield 27, 3) := by decide +kernel
theorem dX2_copyFrom_45 : decode (mB 29) 45 = .ok (.iconst 0, 1) := by decide +kernel
theorem dX2_copyFrom_46 : decode (mB 29) 46 = .ok (.aload_n 0, 1) := by decide +kernel
theorem dX2_copyFrom_47 : decode (mB 29) 47 = .ok (.getfield 27, 3) := by decide +kernel
theorem dX2_copyFrom_50 : decode (mB 29) 50 = .ok (.iconst 0, 1) := by decide +kernel
theorem dX2_copyFrom_51 : decode (mB 29) 51 = .ok (.bipush 120, 2) := by decide +kernel
theorem dX2_copyFrom_53 : decode (mB 29) 53 = .ok (.invokestatic 69, 3) := by decide +kernel
theorem dX2_copyFrom_56 : decode (mB 29) 56 = .ok (.aload_n 1, 1) := by decide +kernel
theorem dX2_copyFrom_57 : decode (mB 29) 57 = .ok (.getfield 30, 3) := by decide +kernel
theorem dX2_copyFrom_60 : decode (mB 29) 60 = .ok (.iconst 0, 1) := by decide +kernel
theorem dX2_copyFrom_61 : decode (mB 29) 61 = .ok (.aload_n 0, 1) := by decide +kernel
theorem dX2_copyFrom_62 : decode (mB 29) 62 = .ok (.getfield 30, 3) := by decide +kernel
theorem dX2_copyFrom_65 : decode (mB 29) 65 = .ok (.iconst 0, 1) := by decide +kernel
theorem dX2_copyFrom_66 : decode (mB 29) 66 = .ok (.bipush 120, 2) := by decide +kernel
theorem dX2_copyFrom_68 : decode (mB 29) 68 = .ok (.invokestatic 69, 3) := by decide +kernel
theorem dX2_copyFrom_71 : decode (mB 29) 71 = .ok (.aload_n 1, 1) := by decide +kernel
theorem dX2_copyFrom_72 : decode (mB 29) 72 = .ok (.getfield 33, 3) := by decide +kernel
theorem dX2_copyFrom_75 : decode (mB 29) 75 = .ok (.iconst 0, 1) := by decide +kernel
theorem dX2_copyFrom_76 : decode (mB 29) 76 = .ok (.aload_n 0, 1) := by decide +kernel
theorem dX2_copyFrom_77 : decode (mB 29) 77 = .ok (.getfield 33, 3) := by decide +kernel
theorem dX2_copyFrom_80 : decode (mB 29) 80 = .ok (.iconst 0, 1) := by decide +kernel
theorem dX2_copyFrom_81 : decode (mB 29) 81 = .ok (.bipush 120, 2) := by decide +kernel
theorem dX2_copyFrom_83 : decode (mB 29) 83 = .ok (.invokestatic 69, 3) := by decide +kernel
theorem dX2_copyFrom_86 : decode (mB 29) 86 = .ok (.aload_n 1, 1) := by decide +kernel
theorem dX2_copyFrom_87 : decode (mB 29) 87 = .ok (.getfield 36, 3) := by decide +kernel
theorem dX2_copyFrom_90 : decode (mB 29) 90 = .ok (.iconst 0, 1) := by decide +kernel
theorem dX2_copyFrom_91 : decode (mB 29) 91 = .ok (.aload_n 0, 1) := by decide +kernel
theorem dX2_copyFrom_92 : decode (mB 29) 92 = .ok (.getfield 36, 3) := by decide +kernel
theorem dX2_copyFrom_95 : decode (mB 29) 95 = .ok (.iconst 0, 1) := by decide +kernel
theorem dX2_copyFrom_96 : decode (mB 29) 96 = .ok (.bipush 120, 2) := by decide +kernel
theorem dX2_copyFrom_98 : decode (mB 29) 98 = .ok (.invokestatic 69, 3) := by decide +kernel
theorem dX2_copyFrom_101 : decode (mB 29) 101 = .ok (.aload_n 1, 1) := by decide +kernel
theorem dX2_copyFrom_102 : decode (mB 29) 102 = .ok (.getfield 39, 3) := by decide +kernel
theorem dX2_copyFrom_105 : decode (mB 29) 105 = .ok (.iconst 0, 1) := by decide +kernel
theorem dX2_copyFrom_106 : decode (mB 29) 106 = .ok (.aload_n 0, 1) := by decide +kernel
theorem dX2_copyFrom_107 : decode (mB 29) 107 = .ok (.getfield 39, 3) := by decide +kernel
theorem dX2_copyFrom_110 : decode (mB 29) 110 = .ok (.iconst 0, 1) := by decide +kernel
theorem dX2_copyFrom_111 : decode (mB 29) 111 = .ok (.bipush 120, 2) := by decide +kernel
theorem dX2_copyFrom_113 : decode (mB 29) 113 = .ok (.invokestatic 69, 3) := by decide +kernel
theorem dX2_copyFrom_116 : decode (mB 29) 116 = .ok (.aload_n 1, 1) := by decide +kernel
theorem dX2_copyFrom_117 : decode (mB 29) 117 = .ok (.getfield 42, 3) := by decide +kernel
theorem dX2_copyFrom_120 : decode (mB 29) 120 = .ok (.iconst 0, 1) := by decide +kernel
theorem dX2_copyFrom_121 : decode (mB 29) 121 = .ok (.aload_n 0, 1) := by decide +kernel
theorem dX2_copyFrom_122 : decode (mB 29) 122 = .ok (.getfield 42, 3) := by decide +kernel
theorem dX2_copyFrom_125 : decode (mB 29) 125 = .ok (.iconst 0, 1) := by decide +kernel
theorem dX2_copyFrom_126 : decode (mB 29) 126 = .ok (.bipush 120, 2) := by decide +kernel
theorem dX2_copyFrom_128 : decode (mB 29) 128 = .ok (.invokestatic 69, 3) := by decide +kernel
theorem dX2_copyFrom_131 : decode (mB 29) 131 = .ok (.aload_n 0, 1) := by decide +kernel
theorem dX2_copyFrom_132 : decode (mB 29) 132 = .ok (.aload_n 1, 1) := by decide +kernel
theorem dX2_copyFrom_133 : decode (mB 29) 133 = .ok (.getfield 45, 3) := by decide +kernel
theorem dX2_copyFrom_136 : decode (mB 29) 136 = .ok (.putfield 45, 3) := by decide +kernel
theorem dX2_copyFrom_139 : decode (mB 29) 139 = .ok (.return_, 1) := by decide +kernel
theorem dX3_init_0 : decode cX3_init 0 = .ok (.aload_n 0, 1) := by decide +kernel
theorem dX3_init_1 : decode cX3_init 1 = .ok (.invokespecial 3, 3) := by decide +kernel
theorem dX3_init_4 : decode cX3_init 4 = .ok (.aload_n 0, 1) := by decide +kernel
theorem dX3_init_5 : decode cX3_init 5 = .ok (.iconst (-1), 1) := by decide +kernel
theorem dX3_init_6 : decode cX3_init 6 = .ok (.putfield 9, 3) := by decide +kernel
theorem dX3_init_9 : decode cX3_init 9 = .ok (.aload_n 0, 1) := by decide +kernel
theorem dX3_init_10 : decode cX3_init 10 = .ok (.iconst (-1), 1) := by decide +kernel
theorem dX3_init_11 : decode cX3_init 11 = .ok (.putfield 15, 3) := by decide +kernel
theorem dX3_init_14 : decode cX3_init 14 = .ok (.aload_n 0, 1) := by decide +kernel
theorem dX3_init_15 : decode cX3_init 15 = .ok (.iconst 0, 1) := by decide +kernel
theorem dX3_init_16 : decode cX3_init 16 = .ok (.putfield 18, 3) := by decide +kernel
theorem dX3_init_19 : decode cX3_init 19 = .ok (.aload_n 0, 1) := by decide +kernel
theorem dX3_init_20 : decode cX3_init 20 = .ok (.iconst 0, 1) := by decide +kernel
theorem dX3_init_21 : decode cX3_init 21 = .ok (.putfield 21, 3) := by decide +kernel
theorem dX3_init_24 : decode cX3_init 24 = .ok (.iconst 1, 1) := by decide +kernel
theorem dX3_init_25 : decode cX3_init 25 = .ok (.iload_n 1, 1) := by decide +kernel
theorem dX3_init_26 : decode cX3_init 26 = .ok (.invokestatic 24, 3) := by decide +kernel
theorem dX3_init_29 : decode cX3_init 29 = .ok (.istore_n 2, 1) := by decide +kernel
theorem dX3_init_30 : decode cX3_init 30 = .ok (.aload_n 0, 1) := by decide +kernel
theorem dX3_init_31 : decode cX3_init 31 = .ok (.iload_n 2, 1) := by decide +kernel
theorem dX3_init_32 : decode cX3_init 32 = .ok (.newarray .int, 2) := by decide +kernel
theorem dX3_init_34 : decode cX3_init 34 = .ok (.putfield 30, 3) := by decide +kernel
theorem dX3_init_37 : decode cX3_init 37 = .ok (.aload_n 0, 1) := by decide +kernel
theorem dX3_init_38 : decode cX3_init 38 = .ok (.iload_n 2, 1) := by decide +kernel
theorem dX3_init_39 : decode cX3_init 39 = .ok (.newarray .int, 2) := by decide +kernel
theorem dX3_init_41 : decode cX3_init 41 = .ok (.putfield 34, 3) := by decide +kernel
theorem dX3_init_44 : decode cX3_init 44 = .ok (.iconst 0, 1) := by decide +kernel
theorem dX3_init_45 : decode cX3_init 45 = .ok (.istore_n 3, 1) := by decide +kernel
theorem dX3_init_46 : decode cX3_init 46 = .ok (.iload_n 3, 1) := by decide +kernel
theorem dX3_init_47 : decode cX3_init 47 = .ok (.iload_n 2, 1) := by decide +kernel
theorem dX3_init_48 : decode cX3_init 48 = .ok (.if_icmp .ge 29, 3) := by decide +kernel
theorem dX3_init_51 : decode cX3_init 51 = .ok (.aload_n 0, 1) := by decide +kernel
theorem dX3_init_52 : decode cX3_init 52 = .ok (.getfield 34, 3) := by decide +kernel
theorem dX3_init_55 : decode cX3_init 55 = .ok (.iload_n 3, 1) := by decide +kernel
theorem dX3_init_56 : decode cX3_init 56 = .ok (.iload_n 3, 1) := by decide +kernel
theorem dX3_init_57 : decode cX3_init 57 = .ok (.iconst 1, 1) := by decide +kernel
theorem dX3_init_58 : decode cX3_init 58 = .ok (.iadd, 1) := by decide +kernel
theorem dX3_init_59 : decode cX3_init 59 = .ok (.iload_n 2, 1) := by decide +kernel
theorem dX3_init_60 : decode cX3_init 60 = .ok (.if_icmp .ge 9, 3) := by decide +kernel
theorem dX3_init_63 : decode cX3_init 63 = .ok (.iload_n 3, 1) := by decide +kernel
theorem dX3_init_64 : decode cX3_init 64 = .ok (.iconst 1, 1) := by decide +kernel
theorem dX3_init_65 : decode cX3_init 65 = .ok (.iadd, 1) := by decide +kernel
theorem dX3_init_66 : decode cX3_init 66 = .ok (.goto 4, 3) := by decide +kernel
theorem dX3_init_69 : decode cX3_init 69 = .ok (.iconst (-1), 1) := by decide +kernel
theorem dX3_init_70 : decode cX3_init 70 = .ok (.iastore, 1) := by decide +kernel
theorem dX3_init_71 : decode cX3_init 71 = .ok (.iinc 3 1, 3) := by decide +kernel
theorem dX3_init_74 : decode cX3_init 74 = .ok (.goto (-28), 3) := by decide +kernel
theorem dX3_init_77 : decode cX3_init 77 = .ok (.return_, 1) := by decide +kernel
theorem dX3_take_0 : decode (mB 30) 0 = .ok (.aload_n 0, 1) := by decide +kernel
theorem dX3_take_1 : decode (mB 30) 1 = .ok (.getfield 18, 3) := by decide +kernel
theorem dX3_take_4 : decode (mB 30) 4 = .ok (.istore_n 1, 1) := by decide +kernel
theorem dX3_take_5 : decode (mB 30) 5 = .ok (.iload_n 1, 1) := by decide +kernel
theorem dX3_take_6 : decode (mB 30) 6 = .ok (.iconst (-1), 1) := by decide +kernel
theorem dX3_take_7 : decode (mB 30) 7 = .ok (.if_icmp .ne 5, 3) := by decide +kernel
theorem dX3_take_10 : decode (mB 30) 10 = .ok (.iconst (-1), 1) := by decide +kernel
theorem dX3_take_11 : decode (mB 30) 11 = .ok (.ireturn, 1) := by decide +kernel
theorem dX3_take_12 : decode (mB 30) 12 = .ok (.aload_n 0, 1) := by decide +kernel
theorem dX3_take_13 : decode (mB 30) 13 = .ok (.aload_n 0, 1) := by decide +kernel
theorem dX3_take_14 : decode (mB 30) 14 = .ok (.getfield 34, 3) := by decide +kernel
theorem dX3_take_17 : decode (mB 30) 17 = .ok (.iload_n 1, 1) := by decide +kernel
theorem dX3_take_18 : decode (mB 30) 18 = .ok (.iaload, 1) := by decide +kernel
theorem dX3_take_19 : decode (mB 30) 19 = .ok (.putfield 18, 3) := by decide +kernel
theorem dX3_take_22 : decode (mB 30) 22 = .ok (.aload_n 0, 1) := by decide +kernel
theorem dX3_take_23 : decode (mB 30) 23 = .ok (.getfield 30, 3) := by decide +kernel
theorem dX3_take_26 : decode (mB 30) 26 = .ok (.iload_n 1, 1) := by decide +kernel
theorem dX3_take_27 : decode (mB 30) 27 = .ok (.aload_n 0, 1) := by decide +kernel
theorem dX3_take_28 : decode (mB 30) 28 = .ok (.getfield 15, 3) := by decide +kernel
theorem dX3_take_31 : decode (mB 30) 31 = .ok (.iastore, 1) := by decide +kernel
theorem dX3_take_32 : decode (mB 30) 32 = .ok (.aload_n 0, 1) := by decide +kernel
theorem dX3_take_33 : decode (mB 30) 33 = .ok (.getfield 34, 3) := by decide +kernel
theorem dX3_take_36 : decode (mB 30) 36 = .ok (.iload_n 1, 1) := by decide +kernel
theorem dX3_take_37 : decode (mB 30) 37 = .ok (.iconst (-1), 1) := by decide +kernel
theorem dX3_take_38 : decode (mB 30) 38 = .ok (.iastore, 1) := by decide +kernel
theorem dX3_take_39 : decode (mB 30) 39 = .ok (.aload_n 0, 1) := by decide +kernel
theorem dX3_take_40 : decode (mB 30) 40 = .ok (.getfield 15, 3) := by decide +kernel
theorem dX3_take_43 : decode (mB 30) 43 = .ok (.iconst (-1), 1) := by decide +kernel
theorem dX3_take_44 : decode (mB 30) 44 = .ok (.if_icmp .ne 11, 3) := by decide +kernel
theorem dX3_take_47 : decode (mB 30) 47 = .ok (.aload_n 0, 1) := by decide +kernel
theorem dX3_take_48 : decode (mB 30) 48 = .ok (.iload_n 1, 1) := by decide +kernel
theorem dX3_take_49 : decode (mB 30) 49 = .ok (.putfield 9, 3) := by decide +kernel
theorem dX3_take_52 : decode (mB 30) 52 = .ok (.goto 13, 3) := by decide +kernel
theorem dX3_take_55 : decode (mB 30) 55 = .ok (.aload_n 0, 1) := by decide +kernel
theorem dX3_take_56 : decode (mB 30) 56 = .ok (.getfield 34, 3) := by decide +kernel
theorem dX3_take_59 : decode (mB 30) 59 = .ok (.aload_n 0, 1) := by decide +kernel
theorem dX3_take_60 : decode (mB 30) 60 = .ok (.getfield 15, 3) := by decide +kernel
theorem dX3_take_63 : decode (mB 30) 63 = .ok (.iload_n 1, 1) := by decide +kernel
theorem dX3_take_64 : decode (mB 30) 64 = .ok (.iastore, 1) := by decide +kernel
theorem dX3_take_65 : decode (mB 30) 65 = .ok (.aload_n 0, 1) := by decide +kernel
theorem dX3_take_66 : decode (mB 30) 66 = .ok (.iload_n 1, 1) := by decide +kernel
theorem dX3_take_67 : decode (mB 30) 67 = .ok (.putfield 15, 3) := by decide +kernel
theorem dX3_take_70 : decode (mB 30) 70 = .ok (.aload_n 0, 1) := by decide +kernel
theorem dX3_take_71 : decode (mB 30) 71 = .ok (.dup, 1) := by decide +kernel
theorem dX3_take_72 : decode (mB 30) 72 = .ok (.getfield 21, 3) := by decide +kernel
theorem dX3_take_75 : decode (mB 30) 75 = .ok (.iconst 1, 1) := by decide +kernel
theorem dX3_take_76 : decode (mB 30) 76 = .ok (.iadd, 1) := by decide +kernel
theorem dX3_take_77 : decode (mB 30) 77 = .ok (.putfield 21, 3) := by decide +kernel
theorem dX3_take_80 : decode (mB 30) 80 = .ok (.iload_n 1, 1) := by decide +kernel
theorem dX3_take_81 : decode (mB 30) 81 = .ok (.ireturn, 1) := by decide +kernel
theorem dX3_giveBack_0 : decode (mB 31) 0 = .ok (.iload_n 1, 1) := by decide +kernel
theorem dX3_giveBack_1 : decode (mB 31) 1 = .ok (.ifCond .lt 12, 3) := by decide +kernel
theorem dX3_giveBack_4 : decode (mB 31) 4 = .ok (.iload_n 1, 1) := by decide +kernel
theorem dX3_giveBack_5 : decode (mB 31) 5 = .ok (.aload_n 0, 1) := by decide +kernel
theorem dX3_giveBack_6 : decode (mB 31) 6 = .ok (.getfield 30, 3) := by decide +kernel
theorem dX3_giveBack_9 : decode (mB 31) 9 = .ok (.arraylength, 1) := by decide +kernel
theorem dX3_giveBack_10 : decode (mB 31) 10 = .ok (.if_icmp .lt 4, 3) := by decide +kernel
theorem dX3_giveBack_13 : decode (mB 31) 13 = .ok (.return_, 1) := by decide +kernel
theorem dX3_giveBack_14 : decode (mB 31) 14 = .ok (.aload_n 0, 1) := by decide +kernel
theorem dX3_giveBack_15 : decode (mB 31) 15 = .ok (.getfield 30, 3) := by decide +kernel
theorem dX3_giveBack_18 : decode (mB 31) 18 = .ok (.iload_n 1, 1) := by decide +kernel
theorem dX3_giveBack_19 : decode (mB 31) 19 = .ok (.iaload, 1) := by decide +kernel
theorem dX3_giveBack_20 : decode (mB 31) 20 = .ok (.istore_n 2, 1) := by decide +kernel
theorem dX3_giveBack_21 : decode (mB 31) 21 = .ok (.aload_n 0, 1) := by decide +kernel
theorem dX3_giveBack_22 : decode (mB 31) 22 = .ok (.getfield 34, 3) := by decide +kernel
theorem dX3_giveBack_25 : decode (mB 31) 25 = .ok (.iload_n 1, 1) := by decide +kernel
theorem dX3_giveBack_26 : decode (mB 31) 26 = .ok (.iaload, 1) := by decide +kernel
theorem dX3_giveBack_27 : decode (mB 31) 27 = .ok (.istore_n 3, 1) := by decide +kernel
theorem dX3_giveBack_28 : decode (mB 31) 28 = .ok (.iload_n 2, 1) := by decide +kernel
theorem dX3_giveBack_29 : decode (mB 31) 29 = .ok (.iconst (-1), 1) := by decide +kernel
theorem dX3_giveBack_30 : decode (mB 31) 30 = .ok (.if_icmp .ne 11, 3) := by decide +kernel
theorem dX3_giveBack_33 : decode (mB 31) 33 = .ok (.aload_n 0, 1) := by decide +kernel
theorem dX3_giveBack_34 : decode (mB 31) 34 = .ok (.iload_n 3, 1) := by decide +kernel
theorem dX3_giveBack_35 : decode (mB 31) 35 = .ok (.putfield 9, 3) := by decide +kernel
theorem dX3_giveBack_38 : decode (mB 31) 38 = .ok (.goto 10, 3) := by decide +kernel
theorem dX3_giveBack_41 : decode (mB 31) 41 = .ok (.aload_n 0, 1) := by decide +kernel
theorem dX3_giveBack_42 : decode (mB 31) 42 = .ok (.getfield 34, 3) := by decide +kernel
theorem dX3_giveBack_45 : decode (mB 31) 45 = .ok (.iload_n 2, 1) := by decide +kernel
theorem dX3_giveBack_46 : decode (mB 31) 46 = .ok (.iload_n 3, 1) := by decide +kernel
theorem dX3_giveBack_47 : decode (mB 31) 47 = .ok (.iastore, 1) := by decide +kernel
theorem dX3_giveBack_48 : decode (mB 31) 48 = .ok (.iload_n 3, 1) := by decide +kernel
theorem dX3_giveBack_49 : decode (mB 31) 49 = .ok (.iconst (-1), 1) := by decide +kernel
theorem dX3_giveBack_50 : decode (mB 31) 50 = .ok (.if_icmp .ne 11, 3) := by decide +kernel
theorem dX3_giveBack_53 : decode (mB 31) 53 = .ok (.aload_n 0, 1) := by decide +kernel
theorem dX3_giveBack_54 : decode (mB 31) 54 = .ok (.iload_n 2, 1) := by decide +kernel
theorem dX3_giveBack_55 : decode (mB 31) 55 = .ok (.putfield 15, 3) := by decide +kernel
theorem dX3_giveBack_58 : decode (mB 31) 58 = .ok (.goto 10, 3) := by decide +kernel
theorem dX3_giveBack_61 : decode (mB 31) 61 = .ok (.aload_n 0, 1) := by decide +kernel
theorem dX3_giveBack_62 : decode (mB 31) 62 = .ok (.getfield 30, 3) := by decide +kernel
theorem dX3_giveBack_65 : decode (mB 31) 65 = .ok (.iload_n 3, 1) := by decide +kernel
theorem dX3_giveBack_66 : decode (mB 31) 66 = .ok (.iload_n 2, 1) := by decide +kernel
theorem dX3_giveBack_67 : decode (mB 31) 67 = .ok (.iastore, 1) := by decide +kernel
theorem dX3_giveBack_68 : decode (mB 31) 68 = .ok (.aload_n 0, 1) := by decide +kernel
theorem dX3_giveBack_69 : decode (mB 31) 69 = .ok (.getfield 34, 3) := by decide +kernel
theorem dX3_giveBack_72 : decode (mB 31) 72 = .ok (.iload_n 1, 1) := by decide +kernel
theorem dX3_giveBack_73 : decode (mB 31) 73 = .ok (.aload_n 0, 1) := by decide +kernel
theorem dX3_giveBack_74 : decode (mB 31) 74 = .ok (.getfield 18, 3) := by decide +kernel
theorem dX3_giveBack_77 : decode (mB 31) 77 = .ok (.iastore, 1) := by decide +kernel
theorem dX3_giveBack_78 : decode (mB 31) 78 = .ok (.aload_n 0, 1) := by decide +kernel
theorem dX3_giveBack_79 : decode (mB 31) 79 = .ok (.iload_n 1, 1) := by decide +kernel
theorem dX3_giveBack_80 : decode (mB 31) 80 = .ok (.putfield 18, 3) := by decide +kernel
theorem dX3_giveBack_83 : decode (mB 31) 83 = .ok (.aload_n 0, 1) := by decide +kernel
theorem dX3_giveBack_84 : decode (mB 31) 84 = .ok (.dup, 1) := by decide +kernel
theorem dX3_giveBack_85 : decode (mB 31) 85 = .ok (.getfield 21, 3) := by decide +kernel
theorem dX3_giveBack_88 : decode (mB 31) 88 = .ok (.iconst 1, 1) := by decide +kernel
theorem dX3_giveBack_89 : decode (mB 31) 89 = .ok (.isub, 1) := by decide +kernel
theorem dX3_giveBack_90 : decode (mB 31) 90 = .ok (.putfield 21, 3) := by decide +kernel
theorem dX3_giveBack_93 : decode (mB 31) 93 = .ok (.return_, 1) := by decide +kernel
theorem dX3_placeAt_0 : decode (mB 32) 0 = .ok (.iload_n 1, 1) := by decide +kernel
theorem dX3_placeAt_1 : decode (mB 32) 1 = .ok (.ifCond .lt 11, 3) := by decide +kernel
theorem dX3_placeAt_4 : decode (mB 32) 4 = .ok (.iload_n 1, 1) := by decide +kernel
theorem dX3_placeAt_5 : decode (mB 32) 5 = .ok (.aload_n 0, 1) := by decide +kernel
theorem dX3_placeAt_6 : decode (mB 32) 6 = .ok (.getfield 21, 3) := by decide +kernel
theorem dX3_placeAt_9 : decode (mB 32) 9 = .ok (.if_icmp .lt 5, 3) := by decide +kernel
theorem dX3_placeAt_12 : decode (mB 32) 12 = .ok (.iconst (-1), 1) := by decide +kernel
theorem dX3_placeAt_13 : decode (mB 32) 13 = .ok (.ireturn, 1) := by decide +kernel
theorem dX3_placeAt_14 : decode (mB 32) 14 = .ok (.aload_n 0, 1) := by decide +kernel
theorem dX3_placeAt_15 : decode (mB 32) 15 = .ok (.getfield 9, 3) := by decide +kernel
theorem dX3_placeAt_18 : decode (mB 32) 18 = .ok (.istore_n 2, 1) := by decide +kernel
theorem dX3_placeAt_19 : decode (mB 32) 19 = .ok (.iconst 0, 1) := by decide +kernel
theorem dX3_placeAt_20 : decode (mB 32) 20 = .ok (.istore_n 3, 1) := by decide +kernel
theorem dX3_placeAt_21 : decode (mB 32) 21 = .ok (.iload_n 3, 1) := by decide +kernel
theorem dX3_placeAt_22 : decode (mB 32) 22 = .ok (.iload_n 1, 1) := by decide +kernel
theorem dX3_placeAt_23 : decode (mB 32) 23 = .ok (.if_icmp .ge 21, 3) := by decide +kernel
theorem dX3_placeAt_26 : decode (mB 32) 26 = .ok (.iload_n 2, 1) := by decide +kernel
theorem dX3_placeAt_27 : decode (mB 32) 27 = .ok (.iconst (-1), 1) := by decide +kernel
theorem dX3_placeAt_28 : decode (mB 32) 28 = .ok (.if_icmp .eq 16, 3) := by decide +kernel
theorem dX3_placeAt_31 : decode (mB 32) 31 = .ok (.aload_n 0, 1) := by decide +kernel
theorem dX3_placeAt_32 : decode (mB 32) 32 = .ok (.getfield 34, 3) := by decide +kernel
theorem dX3_placeAt_35 : decode (mB 32) 35 = .ok (.iload_n 2, 1) := by decide +kernel
theorem dX3_placeAt_36 : decode (mB 32) 36 = .ok (.iaload, 1) := by decide +kernel
theorem dX3_placeAt_37 : decode (mB 32) 37 = .ok (.istore_n 2, 1) := by decide +kernel
theorem dX3_placeAt_38 : decode (mB 32) 38 = .ok (.iinc 3 1, 3) := by decide +kernel
theorem dX3_placeAt_41 : decode (mB 32) 41 = .ok (.goto (-20), 3) := by decide +kernel
theorem dX3_placeAt_44 : decode (mB 32) 44 = .ok (.iload_n 2, 1) := by decide +kernel
theorem dX3_placeAt_45 : decode (mB 32) 45 = .ok (.ireturn, 1) := by decide +kernel
theorem dX3_copyFrom_0 : decode (mB 33) 0 = .ok (.aload_n 0, 1) := by decide +kernel
theorem dX3_copyFrom_1 : decode (mB 33) 1 = .ok (.getfield 30, 3) := by decide +kernel
theorem dX3_copyFrom_4 : decode (mB 33) 4 = .ok (.arraylength, 1) := by decide +kernel
theorem dX3_copyFrom_5 : decode (mB 33) 5 = .ok (.aload_n 1, 1) := by decide +kernel
theorem dX3_copyFrom_6 : decode (mB 33) 6 = .ok (.getfield 30, 3) := by decide +kernel
theorem dX3_copyFrom_9 : decode (mB 33) 9 = .ok (.arraylength, 1) := by decide +kernel
theorem dX3_copyFrom_10 : decode (mB 33) 10 = .ok (.invokestatic 37, 3) := by decide +kernel
theorem dX3_copyFrom_13 : decode (mB 33) 13 = .ok (.istore_n 2, 1) := by decide +kernel
theorem dX3_copyFrom_14 : decode (mB 33) 14 = .ok (.aload_n 1, 1) := by decide +kernel
theorem dX3_copyFrom_15 : decode (mB 33) 15 = .ok (.getfield 30, 3) := by decide +kernel
theorem dX3_copyFrom_18 : decode (mB 33) 18 = .ok (.iconst 0, 1) := by decide +kernel
theorem dX3_copyFrom_19 : decode (mB 33) 19 = .ok (.aload_n 0, 1) := by decide +kernel
theorem dX3_copyFrom_20 : decode (mB 33) 20 = .ok (.getfield 30, 3) := by decide +kernel
theorem dX3_copyFrom_23 : decode (mB 33) 23 = .ok (.iconst 0, 1) := by decide +kernel
theorem dX3_copyFrom_24 : decode (mB 33) 24 = .ok (.iload_n 2, 1) := by decide +kernel
theorem dX3_copyFrom_25 : decode (mB 33) 25 = .ok (.invokestatic 40, 3) := by decide +kernel
theorem dX3_copyFrom_28 : decode (mB 33) 28 = .ok (.aload_n 1, 1) := by decide +kernel
theorem dX3_copyFrom_29 : decode (mB 33) 29 = .ok (.getfield 34, 3) := by decide +kernel
theorem dX3_copyFrom_32 : decode (mB 33) 32 = .ok (.iconst 0, 1) := by decide +kernel
theorem dX3_copyFrom_33 : decode (mB 33) 33 = .ok (.aload_n 0, 1) := by decide +kernel
theorem dX3_copyFrom_34 : decode (mB 33) 34 = .ok (.getfield 34, 3) := by decide +kernel
theorem dX3_copyFrom_37 : decode (mB 33) 37 = .ok (.iconst 0, 1) := by decide +kernel
theorem dX3_copyFrom_38 : decode (mB 33) 38 = .ok (.iload_n 2, 1) := by decide +kernel
theorem dX3_copyFrom_39 : decode (mB 33) 39 = .ok (.invokestatic 40, 3) := by decide +kernel
theorem dX3_copyFrom_42 : decode (mB 33) 42 = .ok (.aload_n 0, 1) := by decide +kernel
theorem dX3_copyFrom_43 : decode (mB 33) 43 = .ok (.aload_n 1, 1) := by decide +kernel
theorem dX3_copyFrom_44 : decode (mB 33) 44 = .ok (.getfield 9, 3) := by decide +kernel
theorem dX3_copyFrom_47 : decode (mB 33) 47 = .ok (.putfield 9, 3) := by decide +kernel
theorem dX3_copyFrom_50 : decode (mB 33) 50 = .ok (.aload_n 0, 1) := by decide +kernel
theorem dX3_copyFrom_51 : decode (mB 33) 51 = .ok (.aload_n 1, 1) := by decide +kernel
theorem dX3_copyFrom_52 : decode (mB 33) 52 = .ok (.getfield 15, 3) := by decide +kernel
theorem dX3_copyFrom_55 : decode (mB 33) 55 = .ok (.putfield 15, 3) := by decide +kernel
theorem dX3_copyFrom_58 : decode (mB 33) 58 = .ok (.aload_n 0, 1) := by decide +kernel
theorem dX3_copyFrom_59 : decode (mB 33) 59 = .ok (.aload_n 1, 1) := by decide +kernel
theorem dX3_copyFrom_60 : decode (mB 33) 60 = .ok (.getfield 18, 3) := by decide +kernel
theorem dX3_copyFrom_63 : decode (mB 33) 63 = .ok (.putfield 18, 3) := by decide +kernel
theorem dX3_copyFrom_66 : decode (mB 33) 66 = .ok (.aload_n 0, 1) := by decide +kernel
theorem dX3_copyFrom_67 : decode (mB 33) 67 = .ok (.aload_n 1, 1) := by decide +kernel
theorem dX3_copyFrom_68 : decode (mB 33) 68 = .ok (.getfield 21, 3) := by decide +kernel
theorem dX3_copyFrom_71 : decode (mB 33) 71 = .ok (.putfield 21, 3) := by decide +kernel
theorem dX3_copyFrom_74 : decode (mB 33) 74 = .ok (.return_, 1) := by decide +kernel
theorem dX4_init_0 : decode cX4_init 0 = .ok (.aload_n 0, 1) := by decide +kernel
theorem dX4_init_1 : decode cX4_init 1 = .ok (.invokespecial 3, 3) := by decide +kernel
theorem dX4_init_4 : decode cX4_init 4 = .ok (.aload_n 0, 1) := by decide +kernel
theorem dX4_init_5 : decode cX4_init 5 = .ok (.bipush 12, 2) := by decide +kernel
theorem dX4_init_7 : decode cX4_init 7 = .ok (.newarray .int, 2) := by decide +kernel
theorem dX4_init_9 : decode cX4_init 9 = .ok (.putfield 9, 3) := by decide +kernel
theorem dX4_init_12 : decode cX4_init 12 = .ok (.aload_n 0, 1) := by decide +kernel
theorem dX4_init_13 : decode cX4_init 13 = .ok (.bipush 12, 2) := by decide +kernel
theorem dX4_init_15 : decode cX4_init 15 = .ok (.newarray .int, 2) := by decide +kernel
theorem dX4_init_17 : decode cX4_init 17 = .ok (.putfield 15, 3) := by decide +kernel
theorem dX4_init_20 : decode cX4_init 20 = .ok (.aload_n 0, 1) := by decide +kernel
theorem dX4_init_21 : decode cX4_init 21 = .ok (.iconst 0, 1) := by decide +kernel
theorem dX4_init_22 : decode cX4_init 22 = .ok (.putfield 18, 3) := by decide +kernel
theorem dX4_init_25 : decode cX4_init 25 = .ok (.return_, 1) := by decide +kernel
theorem dX4_begin_0 : decode (mB 34) 0 = .ok (.aload_n 0, 1) := by decide +kernel
theorem dX4_begin_1 : decode (mB 34) 1 = .ok (.iload_n 1, 1) := by decide +kernel
theorem dX4_begin_2 : decode (mB 34) 2 = .ok (.putfield 18, 3) := by decide +kernel
theorem dX4_begin_5 : decode (mB 34) 5 = .ok (.aload_n 0, 1) := by decide +kernel
theorem dX4_begin_6 : decode (mB 34) 6 = .ok (.getfield 9, 3) := by decide +kernel
theorem dX4_begin_9 : decode (mB 34) 9 = .ok (.iconst 0, 1) := by decide +kernel
theorem dX4_begin_10 : decode (mB 34) 10 = .ok (.invokestatic 22, 3) := by decide +kernel
theorem dX4_begin_13 : decode (mB 34) 13 = .ok (.aload_n 0, 1) := by decide +kernel
theorem dX4_begin_14 : decode (mB 34) 14 = .ok (.getfield 15, 3) := by decide +kernel
theorem dX4_begin_17 : decode (mB 34) 17 = .ok (.iconst 0, 1) := by decide +kernel
theorem dX4_begin_18 : decode (mB 34) 18 = .ok (.invokestatic 22, 3) := by decide +kernel
theorem dX4_begin_21 : decode (mB 34) 21 = .ok (.return_, 1) := by decide +kernel
theorem dX4_placeOf_0 : decode (mB 35) 0 = .ok (.aload_n 0, 1) := by decide +kernel
theorem dX4_placeOf_1 : decode (mB 35) 1 = .ok (.getfield 18, 3) := by decide +kernel
theorem dX4_placeOf_4 : decode (mB 35) 4 = .ok (.ifCond .le 14, 3) := by decide +kernel
theorem dX4_placeOf_7 : decode (mB 35) 7 = .ok (.iload_n 1, 1) := by decide +kernel
theorem dX4_placeOf_8 : decode (mB 35) 8 = .ok (.aload_n 0, 1) := by decide +kernel
theorem dX4_placeOf_9 : decode (mB 35) 9 = .ok (.getfield 18, 3) := by decide +kernel
theorem dX4_placeOf_12 : decode (mB 35) 12 = .ok (.invokestatic 28, 3) := by decide +kernel
theorem dX4_placeOf_15 : decode (mB 35) 15 = .ok (.goto 4, 3) := by decide +kernel
theorem dX4_placeOf_18 : decode (mB 35) 18 = .ok (.iconst 0, 1) := by decide +kernel
theorem dX4_placeOf_19 : decode (mB 35) 19 = .ok (.ireturn, 1) := by decide +kernel
theorem dX4_copyFrom_0 : decode (mB 36) 0 = .ok (.aload_n 1, 1) := by decide +kernel
theorem dX4_copyFrom_1 : decode (mB 36) 1 = .ok (.getfield 9, 3) := by decide +kernel
theorem dX4_copyFrom_4 : decode (mB 36) 4 = .ok (.iconst 0, 1) := by decide +kernel
theorem dX4_copyFrom_5 : decode (mB 36) 5 = .ok (.aload_n 0, 1) := by decide +kernel
theorem dX4_copyFrom_6 : decode (mB 36) 6 = .ok (.getfield 9, 3) := by decide +kernel
theorem dX4_copyFrom_9 : decode (mB 36) 9 = .ok (.iconst 0, 1) := by decide +kernel
theorem dX4_copyFrom_10 : decode (mB 36) 10 = .ok (.bipush 12, 2) := by decide +kernel
theorem dX4_copyFrom_12 : decode (mB 36) 12 = .ok (.invokestatic 34, 3) := by decide +kernel
theorem dX4_copyFrom_15 : decode (mB 36) 15 = .ok (.aload_n 1, 1) := by decide +kernel
theorem dX4_copyFrom_16 : decode (mB 36) 16 = .ok (.getfield 15, 3) := by decide +kernel
theorem dX4_copyFrom_19 : decode (mB 36) 19 = .ok (.iconst 0, 1) := by decide +kernel
theorem dX4_copyFrom_20 : decode (mB 36) 20 = .ok (.aload_n 0, 1) := by decide +kernel
theorem dX4_copyFrom_21 : decode (mB 36) 21 = .ok (.getfield 15, 3) := by decide +kernel
theorem dX4_copyFrom_24 : decode (mB 36) 24 = .ok (.iconst 0, 1) := by decide +kernel
theorem dX4_copyFrom_25 : decode (mB 36) 25 = .ok (.bipush 12, 2) := by decide +kernel
theorem dX4_copyFrom_27 : decode (mB 36) 27 = .ok (.invokestatic 34, 3) := by decide +kernel
theorem dX4_copyFrom_30 : decode (mB 36) 30 = .ok (.aload_n 0, 1) := by decide +kernel
theorem dX4_copyFrom_31 : decode (mB 36) 31 = .ok (.aload_n 1, 1) := by decide +kernel
theorem dX4_copyFrom_32 : decode (mB 36) 32 = .ok (.getfield 18, 3) := by decide +kernel
theorem dX4_copyFrom_35 : decode (mB 36) 35 = .ok (.putfield 18, 3) := by decide +kernel
theorem dX4_copyFrom_38 : decode (mB 36) 38 = .ok (.return_, 1) := by decide +kernel
theorem dX5_init_0 : decode cX5_init 0 = .ok (.aload_n 0, 1) := by decide +kernel
theorem dX5_init_1 : decode cX5_init 1 = .ok (.invokespecial 3, 3) := by decide +kernel
theorem dX5_init_4 : decode cX5_init 4 = .ok (.aload_n 0, 1) := by decide +kernel
theorem dX5_init_5 : decode cX5_init 5 = .ok (.bipush 10, 2) := by decide +kernel
theorem dX5_init_7 : decode cX5_init 7 = .ok (.newarray .int, 2) := by decide +kernel
theorem dX5_init_9 : decode cX5_init 9 = .ok (.putfield 9, 3) := by decide +kernel
theorem dX5_init_12 : decode cX5_init 12 = .ok (.aload_n 0, 1) := by decide +kernel
theorem dX5_init_13 : decode cX5_init 13 = .ok (.bipush 7, 2) := by decide +kernel
theorem dX5_init_15 : decode cX5_init 15 = .ok (.newarray .int, 2) := by decide +kernel
theorem dX5_init_17 : decode cX5_init 17 = .ok (.putfield 15, 3) := by decide +kernel
theorem dX5_init_20 : decode cX5_init 20 = .ok (.aload_n 0, 1) := by decide +kernel
theorem dX5_init_21 : decode cX5_init 21 = .ok (.bipush 8, 2) := by decide +kernel
theorem dX5_init_23 : decode cX5_init 23 = .ok (.newarray .int, 2) := by decide +kernel
theorem dX5_init_25 : decode cX5_init 25 = .ok (.putfield 18, 3) := by decide +kernel
theorem dX5_init_28 : decode cX5_init 28 = .ok (.aload_n 0, 1) := by decide +kernel
theorem dX5_init_29 : decode cX5_init 29 = .ok (.bipush 20, 2) := by decide +kernel
theorem dX5_init_31 : decode cX5_init 31 = .ok (.newarray .int, 2) := by decide +kernel
theorem dX5_init_33 : decode cX5_init 33 = .ok (.putfield 21, 3) := by decide +kernel
theorem dX5_init_36 : decode cX5_init 36 = .ok (.aload_n 0, 1) := by decide +kernel
theorem dX5_init_37 : decode cX5_init 37 = .ok (.iconst 0, 1) := by decide +kernel
theorem dX5_init_38 : decode cX5_init 38 = .ok (.putfield 24, 3) := by decide +kernel
theorem dX5_init_41 : decode cX5_init 41 = .ok (.aload_n 0, 1) := by decide +kernel
theorem dX5_init_42 : decode cX5_init 42 = .ok (.iconst 0, 1) := by decide +kernel
theorem dX5_init_43 : decode cX5_init 43 = .ok (.putfield 28, 3) := by decide +kernel
theorem dX5_init_46 : decode cX5_init 46 = .ok (.aload_n 0, 1) := by decide +kernel
theorem dX5_init_47 : decode cX5_init 47 = .ok (.bipush (-4), 2) := by decide +kernel
theorem dX5_init_49 : decode cX5_init 49 = .ok (.putfield 31, 3) := by decide +kernel
theorem dX5_init_52 : decode cX5_init 52 = .ok (.aload_n 0, 1) := by decide +kernel
theorem dX5_init_53 : decode cX5_init 53 = .ok (.iconst 0, 1) := by decide +kernel
theorem dX5_init_54 : decode cX5_init 54 = .ok (.putfield 34, 3) := by decide +kernel
theorem dX5_init_57 : decode cX5_init 57 = .ok (.getstatic 37, 3) := by decide +kernel
theorem dX5_init_60 : decode cX5_init 60 = .ok (.iconst 0, 1) := by decide +kernel
theorem dX5_init_61 : decode cX5_init 61 = .ok (.aload_n 0, 1) := by decide +kernel
theorem dX5_init_62 : decode cX5_init 62 = .ok (.getfield 9, 3) := by decide +kernel
theorem dX5_init_65 : decode cX5_init 65 = .ok (.iconst 0, 1) := by decide +kernel
theorem dX5_init_66 : decode cX5_init 66 = .ok (.bipush 10, 2) := by decide +kernel
theorem dX5_init_68 : decode cX5_init 68 = .ok (.invokestatic 40, 3) := by decide +kernel
theorem dX5_init_71 : decode cX5_init 71 = .ok (.aload_n 0, 1) := by decide +kernel
theorem dX5_init_72 : decode cX5_init 72 = .ok (.getfield 18, 3) := by decide +kernel
theorem dX5_init_75 : decode cX5_init 75 = .ok (.bipush (-4), 2) := by decide +kernel
theorem dX5_init_77 : decode cX5_init 77 = .ok (.invokestatic 46, 3) := by decide +kernel
theorem dX5_init_80 : decode cX5_init 80 = .ok (.return_, 1) := by decide +kernel
theorem dX5_hasAnswer_0 : decode (mB 37) 0 = .ok (.iload_n 2, 1) := by decide +kernel
theorem dX5_hasAnswer_1 : decode (mB 37) 1 = .ok (.aload_n 0, 1) := by decide +kernel
theorem dX5_hasAnswer_2 : decode (mB 37) 2 = .ok (.getfield 18, 3) := by decide +kernel
theorem dX5_hasAnswer_5 : decode (mB 37) 5 = .ok (.iload_n 1, 1) := by decide +kernel
theorem dX5_hasAnswer_6 : decode (mB 37) 6 = .ok (.iaload, 1) := by decide +kernel
theorem dX5_hasAnswer_7 : decode (mB 37) 7 = .ok (.if_icmp .gt 7, 3) := by decide +kernel
theorem dX5_hasAnswer_10 : decode (mB 37) 10 = .ok (.iconst 1, 1) := by decide +kernel
theorem dX5_hasAnswer_11 : decode (mB 37) 11 = .ok (.goto 4, 3) := by decide +kernel
theorem dX5_hasAnswer_14 : decode (mB 37) 14 = .ok (.iconst 0, 1) := by decide +kernel
theorem dX5_hasAnswer_15 : decode (mB 37) 15 = .ok (.ireturn, 1) := by decide +kernel
theorem dX5_rests_0 : decode (mB 38) 0 = .ok (.iload_n 1, 1) := by decide +kernel
theorem dX5_rests_1 : decode (mB 38) 1 = .ok (.aload_n 0, 1) := by decide +kernel
theorem dX5_rests_2 : decode (mB 38) 2 = .ok (.getfield 31, 3) := by decide +kernel
theorem dX5_rests_5 : decode (mB 38) 5 = .ok (.if_icmp .gt 7, 3) := by decide +kernel
theorem dX5_rests_8 : decode (mB 38) 8 = .ok (.iconst 1, 1) := by decide +kernel
theorem dX5_rests_9 : decode (mB 38) 9 = .ok (.goto 4, 3) := by decide +kernel
theorem dX5_rests_12 : decode (mB 38) 12 = .ok (.iconst 0, 1) := by decide +kernel
theorem dX5_rests_13 : decode (mB 38) 13 = .ok (.ireturn, 1) := by decide +kernel
theorem dX5_hasFreeHand_0 : decode (mB 39) 0 = .ok (.aload_n 0, 1) := by decide +kernel
theorem dX5_hasFreeHand_1 : decode (mB 39) 1 = .ok (.getfield 28, 3) := by decide +kernel
theorem dX5_hasFreeHand_4 : decode (mB 39) 4 = .ok (.aload_n 0, 1) := by decide +kernel
theorem dX5_hasFreeHand_5 : decode (mB 39) 5 = .ok (.getfield 9, 3) := by decide +kernel
theorem dX5_hasFreeHand_8 : decode (mB 39) 8 = .ok (.bipush 7, 2) := by decide +kernel
theorem dX5_hasFreeHand_10 : decode (mB 39) 10 = .ok (.iaload, 1) := by decide +kernel
theorem dX5_hasFreeHand_11 : decode (mB 39) 11 = .ok (.if_icmp .ge 7, 3) := by decide +kernel
theorem dX5_hasFreeHand_14 : decode (mB 39) 14 = .ok (.iconst 1, 1) := by decide +kernel
theorem dX5_hasFreeHand_15 : decode (mB 39) 15 = .ok (.goto 4, 3) := by decide +kernel
theorem dX5_hasFreeHand_18 : decode (mB 39) 18 = .ok (.iconst 0, 1) := by decide +kernel
theorem dX5_hasFreeHand_19 : decode (mB 39) 19 = .ok (.ireturn, 1) := by decide +kernel
theorem dX5_addLast_0 : decode (mB 40) 0 = .ok (.aload_n 0, 1) := by decide +kernel
theorem dX5_addLast_1 : decode (mB 40) 1 = .ok (.getfield 24, 3) := by decide +kernel
theorem dX5_addLast_4 : decode (mB 40) 4 = .ok (.bipush 20, 2) := by decide +kernel
theorem dX5_addLast_6 : decode (mB 40) 6 = .ok (.if_icmp .ge 23, 3) := by decide +kernel
theorem dX5_addLast_9 : decode (mB 40) 9 = .ok (.aload_n 0, 1) := by decide +kernel
theorem dX5_addLast_10 : decode (mB 40) 10 = .ok (.getfield 21, 3) := by decide +kernel
theorem dX5_addLast_13 : decode (mB 40) 13 = .ok (.aload_n 0, 1) := by decide +kernel
theorem dX5_addLast_14 : decode (mB 40) 14 = .ok (.getfield 24, 3) := by decide +kernel
theorem dX5_addLast_17 : decode (mB 40) 17 = .ok (.iload_n 1, 1) := by decide +kernel
theorem dX5_addLast_18 : decode (mB 40) 18 = .ok (.iastore, 1) := by decide +kernel
theorem dX5_addLast_19 : decode (mB 40) 19 = .ok (.aload_n 0, 1) := by decide +kernel
theorem dX5_addLast_20 : decode (mB 40) 20 = .ok (.dup, 1) := by decide +kernel
theorem dX5_addLast_21 : decode (mB 40) 21 = .ok (.getfield 24, 3) := by decide +kernel
theorem dX5_addLast_24 : decode (mB 40) 24 = .ok (.iconst 1, 1) := by decide +kernel
theorem dX5_addLast_25 : decode (mB 40) 25 = .ok (.iadd, 1) := by decide +kernel
theorem dX5_addLast_26 : decode (mB 40) 26 = .ok (.putfield 24, 3) := by decide +kernel
theorem dX5_addLast_29 : decode (mB 40) 29 = .ok (.return_, 1) := by decide +kernel
theorem dX5_takeFirst_0 : decode (mB 41) 0 = .ok (.aload_n 0, 1) := by decide +kernel
theorem dX5_takeFirst_1 : decode (mB 41) 1 = .ok (.getfield 24, 3) := by decide +kernel
theorem dX5_takeFirst_4 : decode (mB 41) 4 = .ok (.ifCond .gt 5, 3) := by decide +kernel
theorem dX5_takeFirst_7 : decode (mB 41) 7 = .ok (.iconst (-1), 1) := by decide +kernel
theorem dX5_takeFirst_8 : decode (mB 41) 8 = .ok (.ireturn, 1) := by decide +kernel
theorem dX5_takeFirst_9 : decode (mB 41) 9 = .ok (.aload_n 0, 1) := by decide +kernel
theorem dX5_takeFirst_10 : decode (mB 41) 10 = .ok (.getfield 21, 3) := by decide +kernel
theorem dX5_takeFirst_13 : decode (mB 41) 13 = .ok (.iconst 0, 1) := by decide +kernel
theorem dX5_takeFirst_14 : decode (mB 41) 14 = .ok (.iaload, 1) := by decide +kernel
theorem dX5_takeFirst_15 : decode (mB 41) 15 = .ok (.istore_n 1, 1) := by decide +kernel
theorem dX5_takeFirst_16 : decode (mB 41) 16 = .ok (.aload_n 0, 1) := by decide +kernel
theorem dX5_takeFirst_17 : decode (mB 41) 17 = .ok (.dup, 1) := by decide +kernel
theorem dX5_takeFirst_18 : decode (mB 41) 18 = .ok (.getfield 24, 3) := by decide +kernel
theorem dX5_takeFirst_21 : decode (mB 41) 21 = .ok (.iconst 1, 1) := by decide +kernel
theorem dX5_takeFirst_22 : decode (mB 41) 22 = .ok (.isub, 1) := by decide +kernel
theorem dX5_takeFirst_23 : decode (mB 41) 23 = .ok (.putfield 24, 3) := by decide +kernel
theorem dX5_takeFirst_26 : decode (mB 41) 26 = .ok (.aload_n 0, 1) := by decide +kernel
theorem dX5_takeFirst_27 : decode (mB 41) 27 = .ok (.getfield 21, 3) := by decide +kernel
theorem dX5_takeFirst_30 : decode (mB 41) 30 = .ok (.iconst 1, 1) := by decide +kernel
theorem dX5_takeFirst_31 : decode (mB 41) 31 = .ok (.aload_n 0, 1) := by decide +kernel
theorem dX5_takeFirst_32 : decode (mB 41) 32 = .ok (.getfield 21, 3) := by decide +kernel
theorem dX5_takeFirst_35 : decode (mB 41) 35 = .ok (.iconst 0, 1) := by decide +kernel
theorem dX5_takeFirst_36 : decode (mB 41) 36 = .ok (.aload_n 0, 1) := by decide +kernel
theorem dX5_takeFirst_37 : decode (mB 41) 37 = .ok (.getfield 24, 3) := by decide +kernel
theorem dX5_takeFirst_40 : decode (mB 41) 40 = .ok (.invokestatic 40, 3) := by decide +kernel
theorem dX5_takeFirst_43 : decode (mB 41) 43 = .ok (.iload_n 1, 1) := by decide +kernel
theorem dX5_takeFirst_44 : decode (mB 41) 44 = .ok (.ireturn, 1) := by decide +kernel
theorem dX5_copyFrom_0 : decode (mB 42) 0 = .ok (.aload_n 1, 1) := by decide +kernel
theorem dX5_copyFrom_1 : decode (mB 42) 1 = .ok (.getfield 9, 3) := by decide +kernel
theorem dX5_copyFrom_4 : decode (mB 42) 4 = .ok (.iconst 0, 1) := by decide +kernel
theorem dX5_copyFrom_5 : decode (mB 42) 5 = .ok (.aload_n 0, 1) := by decide +kernel
theorem dX5_copyFrom_6 : decode (mB 42) 6 = .ok (.getfield 9, 3) := by decide +kernel
theorem dX5_copyFrom_9 : decode (mB 42) 9 = .ok (.iconst 0, 1) := by decide +kernel
theorem dX5_copyFrom_10 : decode (mB 42) 10 = .ok (.bipush 10, 2) := by decide +kernel
theorem dX5_copyFrom_12 : decode (mB 42) 12 = .ok (.invokestatic 40, 3) := by decide +kernel
theorem dX5_copyFrom_15 : decode (mB 42) 15 = .ok (.aload_n 1, 1) := by decide +kernel
theorem dX5_copyFrom_16 : decode (mB 42) 16 = .ok (.getfield 15, 3) := by decide +kernel
theorem dX5_copyFrom_19 : decode (mB 42) 19 = .ok (.iconst 0, 1) := by decide +kernel
theorem dX5_copyFrom_20 : decode (mB 42) 20 = .ok (.aload_n 0, 1) := by decide +kernel
theorem dX5_copyFrom_21 : decode (mB 42) 21 = .ok (.getfield 15, 3) := by decide +kernel
theorem dX5_copyFrom_24 : decode (mB 42) 24 = .ok (.iconst 0, 1) := by decide +kernel
theorem dX5_copyFrom_25 : decode (mB 42) 25 = .ok (.bipush 7, 2) := by decide +kernel
theorem dX5_copyFrom_27 : decode (mB 42) 27 = .ok (.invokestatic 40, 3) := by decide +kernel
theorem dX5_copyFrom_30 : decode (mB 42) 30 = .ok (.aload_n 1, 1) := by decide +kernel
theorem dX5_copyFrom_31 : decode (mB 42) 31 = .ok (.getfield 18, 3) := by decide +kernel
theorem dX5_copyFrom_34 : decode (mB 42) 34 = .ok (.iconst 0, 1) := by decide +kernel
theorem dX5_copyFrom_35 : decode (mB 42) 35 = .ok (.aload_n 0, 1) := by decide +kernel
theorem dX5_copyFrom_36 : decode (mB 42) 36 = .ok (.getfield 18, 3) := by decide +kernel
theorem dX5_copyFrom_39 : decode (mB 42) 39 = .ok (.iconst 0, 1) := by decide +kernel
theorem dX5_copyFrom_40 : decode (mB 42) 40 = .ok (.bipush 8, 2) := by decide +kernel
theorem dX5_copyFrom_42 : decode (mB 42) 42 = .ok (.invokestatic 40, 3) := by decide +kernel
theorem dX5_copyFrom_45 : decode (mB 42) 45 = .ok (.aload_n 1, 1) := by decide +kernel
theorem dX5_copyFrom_46 : decode (mB 42) 46 = .ok (.getfield 21, 3) := by decide +kernel
theorem dX5_copyFrom_49 : decode (mB 42) 49 = .ok (.iconst 0, 1) := by decide +kernel
theorem dX5_copyFrom_50 : decode (mB 42) 50 = .ok (.aload_n 0, 1) := by decide +kernel
theorem dX5_copyFrom_51 : decode (mB 42) 51 = .ok (.getfield 21, 3) := by decide +kernel
theorem dX5_copyFrom_54 : decode (mB 42) 54 = .ok (.iconst 0, 1) := by decide +kernel
theorem dX5_copyFrom_55 : decode (mB 42) 55 = .ok (.bipush 20, 2) := by decide +kernel
theorem dX5_copyFrom_57 : decode (mB 42) 57 = .ok (.invokestatic 40, 3) := by decide +kernel
theorem dX5_copyFrom_60 : decode (mB 42) 60 = .ok (.aload_n 0, 1) := by decide +kernel
theorem dX5_copyFrom_61 : decode (mB 42) 61 = .ok (.aload_n 1, 1) := by decide +kernel
theorem dX5_copyFrom_62 : decode (mB 42) 62 = .ok (.getfield 24, 3) := by decide +kernel
theorem dX5_copyFrom_65 : decode (mB 42) 65 = .ok (.putfield 24, 3) := by decide +kernel
theorem dX5_copyFrom_68 : decode (mB 42) 68 = .ok (.aload_n 0, 1) := by decide +kernel
theorem dX5_copyFrom_69 : decode (mB 42) 69 = .ok (.aload_n 1, 1) := by decide +kernel
theorem dX5_copyFrom_70 : decode (mB 42) 70 = .ok (.getfield 28, 3) := by decide +kernel
theorem dX5_copyFrom_73 : decode (mB 42) 73 = .ok (.putfield 28, 3) := by decide +kernel
theorem dX5_copyFrom_76 : decode (mB 42) 76 = .ok (.aload_n 0, 1) := by decide +kernel
theorem dX5_copyFrom_77 : decode (mB 42) 77 = .ok (.aload_n 1, 1) := by decide +kernel
theorem dX5_copyFrom_78 : decode (mB 42) 78 = .ok (.getfield 31, 3) := by decide +kernel
theorem dX5_copyFrom_81 : decode (mB 42) 81 = .ok (.putfield 31, 3) := by decide +kernel
theorem dX5_copyFrom_84 : decode (mB 42) 84 = .ok (.aload_n 0, 1) := by decide +kernel
theorem dX5_copyFrom_85 : decode (mB 42) 85 = .ok (.aload_n 1, 1) := by decide +kernel
theorem dX5_copyFrom_86 : decode (mB 42) 86 = .ok (.getfield 34, 3) := by decide +kernel
theorem dX5_copyFrom_89 : decode (mB 42) 89 = .ok (.putfield 34, 3) := by decide +kernel
theorem dX5_copyFrom_92 : decode (mB 42) 92 = .ok (.return_, 1) := by decide +kernel
theorem dX6_init_0 : decode cX6_init 0 = .ok (.aload_n 0, 1) := by decide +kernel
theorem dX6_init_1 : decode cX6_init 1 = .ok (.invokespecial 3, 3) := by decide +kernel
theorem dX6_init_4 : decode cX6_init 4 = .ok (.aload_n 0, 1) := by decide +kernel
theorem dX6_init_5 : decode cX6_init 5 = .ok (.bipush 40, 2) := by decide +kernel
theorem dX6_init_7 : decode cX6_init 7 = .ok (.newarray .int, 2) := by decide +kernel
theorem dX6_init_9 : decode cX6_init 9 = .ok (.putfield 9, 3) := by decide +kernel
theorem dX6_init_12 : decode cX6_init 12 = .ok (.aload_n 0, 1) := by decide +kernel
theorem dX6_init_13 : decode cX6_init 13 = .ok (.bipush 40, 2) := by decide +kernel
theorem dX6_init_15 : decode cX6_init 15 = .ok (.newarray .int, 2) := by decide +kernel
theorem dX6_init_17 : decode cX6_init 17 = .ok (.putfield 15, 3) := by decide +kernel
theorem dX6_init_20 : decode cX6_init 20 = .ok (.aload_n 0, 1) := by decide +kernel
theorem dX6_init_21 : decode cX6_init 21 = .ok (.bipush 40, 2) := by decide +kernel
theorem dX6_init_23 : decode cX6_init 23 = .ok (.newarray .int, 2) := by decide +kernel
theorem dX6_init_25 : decode cX6_init 25 = .ok (.putfield 18, 3) := by decide +kernel
theorem dX6_init_28 : decode cX6_init 28 = .ok (.aload_n 0, 1) := by decide +kernel
theorem dX6_init_29 : decode cX6_init 29 = .ok (.iconst 0, 1) := by decide +kernel
theorem dX6_init_30 : decode cX6_init 30 = .ok (.putfield 21, 3) := by decide +kernel
theorem dX6_init_33 : decode cX6_init 33 = .ok (.return_, 1) := by decide +kernel
theorem dX6_add_0 : decode (mB 43) 0 = .ok (.aload_n 0, 1) := by decide +kernel
theorem dX6_add_1 : decode (mB 43) 1 = .ok (.getfield 21, 3) := by decide +kernel
theorem dX6_add_4 : decode (mB 43) 4 = .ok (.bipush 40, 2) := by decide +kernel
theorem dX6_add_6 : decode (mB 43) 6 = .ok (.if_icmp .ge 43, 3) := by decide +kernel
theorem dX6_add_9 : decode (mB 43) 9 = .ok (.aload_n 0, 1) := by decide +kernel
theorem dX6_add_10 : decode (mB 43) 10 = .ok (.getfield 9, 3) := by decide +kernel
theorem dX6_add_13 : decode (mB 43) 13 = .ok (.aload_n 0, 1) := by decide +kernel
theorem dX6_add_14 : decode (mB 43) 14 = .ok (.getfield 21, 3) := by decide +kernel
theorem dX6_add_17 : decode (mB 43) 17 = .ok (.iload_n 1, 1) := by decide +kernel
theorem dX6_add_18 : decode (mB 43) 18 = .ok (.iastore, 1) := by decide +kernel
theorem dX6_add_19 : decode (mB 43) 19 = .ok (.aload_n 0, 1) := by decide +kernel
theorem dX6_add_20 : decode (mB 43) 20 = .ok (.getfield 15, 3) := by decide +kernel
theorem dX6_add_23 : decode (mB 43) 23 = .ok (.aload_n 0, 1) := by decide +kernel
theorem dX6_add_24 : decode (mB 43) 24 = .ok (.getfield 21, 3) := by decide +kernel
theorem dX6_add_27 : decode (mB 43) 27 = .ok (.iload_n 2, 1) := by decide +kernel
theorem dX6_add_28 : decode (mB 43) 28 = .ok (.iastore, 1) := by decide +kernel
theorem dX6_add_29 : decode (mB 43) 29 = .ok (.aload_n 0, 1) := by decide +kernel
theorem dX6_add_30 : decode (mB 43) 30 = .ok (.getfield 18, 3) := by decide +kernel
theorem dX6_add_33 : decode (mB 43) 33 = .ok (.aload_n 0, 1) := by decide +kernel
theorem dX6_add_34 : decode (mB 43) 34 = .ok (.getfield 21, 3) := by decide +kernel
theorem dX6_add_37 : decode (mB 43) 37 = .ok (.iload_n 3, 1) := by decide +kernel
theorem dX6_add_38 : decode (mB 43) 38 = .ok (.iastore, 1) := by decide +kernel
theorem dX6_add_39 : decode (mB 43) 39 = .ok (.aload_n 0, 1) := by decide +kernel
theorem dX6_add_40 : decode (mB 43) 40 = .ok (.dup, 1) := by decide +kernel
theorem dX6_add_41 : decode (mB 43) 41 = .ok (.getfield 21, 3) := by decide +kernel
theorem dX6_add_44 : decode (mB 43) 44 = .ok (.iconst 1, 1) := by decide +kernel
theorem dX6_add_45 : decode (mB 43) 45 = .ok (.iadd, 1) := by decide +kernel
theorem dX6_add_46 : decode (mB 43) 46 = .ok (.putfield 21, 3) := by decide +kernel
theorem dX6_add_49 : decode (mB 43) 49 = .ok (.return_, 1) := by decide +kernel
theorem dX6_manyFor_0 : decode (mB 44) 0 = .ok (.iload_n 2, 1) := by decide +kernel
theorem dX6_manyFor_1 : decode (mB 44) 1 = .ok (.ifCond .lt 30, 3) := by decide +kernel
theorem dX6_manyFor_4 : decode (mB 44) 4 = .ok (.iload_n 2, 1) := by decide +kernel
theorem dX6_manyFor_5 : decode (mB 44) 5 = .ok (.aload_n 0, 1) := by decide +kernel
theorem dX6_manyFor_6 : decode (mB 44) 6 = .ok (.getfield 21, 3) := by decide +kernel
theorem dX6_manyFor_9 : decode (mB 44) 9 = .ok (.if_icmp .ge 22, 3) := by decide +kernel
theorem dX6_manyFor_12 : decode (mB 44) 12 = .ok (.aload_n 0, 1) := by decide +kernel
theorem dX6_manyFor_13 : decode (mB 44) 13 = .ok (.getfield 9, 3) := by decide +kernel
theorem dX6_manyFor_16 : decode (mB 44) 16 = .ok (.iload_n 2, 1) := by decide +kernel
theorem dX6_manyFor_17 : decode (mB 44) 17 = .ok (.iaload, 1) := by decide +kernel
theorem dX6_manyFor_18 : decode (mB 44) 18 = .ok (.iload_n 1, 1) := by decide +kernel
theorem dX6_manyFor_19 : decode (mB 44) 19 = .ok (.if_icmp .ne 12, 3) := by decide +kernel
theorem dX6_manyFor_22 : decode (mB 44) 22 = .ok (.aload_n 0, 1) := by decide +kernel
theorem dX6_manyFor_23 : decode (mB 44) 23 = .ok (.getfield 18, 3) := by decide +kernel
theorem dX6_manyFor_26 : decode (mB 44) 26 = .ok (.iload_n 2, 1) := by decide +kernel
theorem dX6_manyFor_27 : decode (mB 44) 27 = .ok (.iaload, 1) := by decide +kernel
theorem dX6_manyFor_28 : decode (mB 44) 28 = .ok (.goto 4, 3) := by decide +kernel
theorem dX6_manyFor_31 : decode (mB 44) 31 = .ok (.iconst 0, 1) := by decide +kernel
theorem dX6_manyFor_32 : decode (mB 44) 32 = .ok (.ireturn, 1) := by decide +kernel
theorem dX6_forget_0 : decode (mB 45) 0 = .ok (.iconst 0, 1) := by decide +kernel
theorem dX6_forget_1 : decode (mB 45) 1 = .ok (.istore_n 2, 1) := by decide +kernel
theorem dX6_forget_2 : decode (mB 45) 2 = .ok (.iconst 0, 1) := by decide +kernel
theorem dX6_forget_3 : decode (mB 45) 3 = .ok (.istore_n 3, 1) := by decide +kernel
theorem dX6_forget_4 : decode (mB 45) 4 = .ok (.iload_n 3, 1) := by decide +kernel
theorem dX6_forget_5 : decode (mB 45) 5 = .ok (.aload_n 0, 1) := by decide +kernel
theorem dX6_forget_6 : decode (mB 45) 6 = .ok (.getfield 21, 3) := by decide +kernel
theorem dX6_forget_9 : decode (mB 45) 9 = .ok (.if_icmp .ge 58, 3) := by decide +kernel
theorem dX6_forget_12 : decode (mB 45) 12 = .ok (.aload_n 0, 1) := by decide +kernel
theorem dX6_forget_13 : decode (mB 45) 13 = .ok (.getfield 9, 3) := by decide +kernel
theorem dX6_forget_16 : decode (mB 45) 16 = .ok (.iload_n 3, 1) := by decide +kernel
theorem dX6_forget_17 : decode (mB 45) 17 = .ok (.iaload, 1) := by decide +kernel
theorem dX6_forget_18 : decode (mB 45) 18 = .ok (.iload_n 1, 1) := by decide +kernel
theorem dX6_forget_19 : decode (mB 45) 19 = .ok (.if_icmp .eq 42, 3) := by decide +kernel
theorem dX6_forget_22 : decode (mB 45) 22 = .ok (.aload_n 0, 1) := by decide +kernel
theorem dX6_forget_23 : decode (mB 45) 23 = .ok (.getfield 9, 3) := by decide +kernel
theorem dX6_forget_26 : decode (mB 45) 26 = .ok (.iload_n 2, 1) := by decide +kernel
theorem dX6_forget_27 : decode (mB 45) 27 = .ok (.aload_n 0, 1) := by decide +kernel
theorem dX6_forget_28 : decode (mB 45) 28 = .ok (.getfield 9, 3) := by decide +kernel
theorem dX6_forget_31 : decode (mB 45) 31 = .ok (.iload_n 3, 1) := by decide +kernel
theorem dX6_forget_32 : decode (mB 45) 32 = .ok (.iaload, 1) := by decide +kernel
theorem dX6_forget_33 : decode (mB 45) 33 = .ok (.iastore, 1) := by decide +kernel
theorem dX6_forget_34 : decode (mB 45) 34 = .ok (.aload_n 0, 1) := by decide +kernel
theorem dX6_forget_35 : decode (mB 45) 35 = .ok (.getfield 15, 3) := by decide +kernel
theorem dX6_forget_38 : decode (mB 45) 38 = .ok (.iload_n 2, 1) := by decide +kernel
theorem dX6_forget_39 : decode (mB 45) 39 = .ok (.aload_n 0, 1) := by decide +kernel
theorem dX6_forget_40 : decode (mB 45) 40 = .ok (.getfield 15, 3) := by decide +kernel
theorem dX6_forget_43 : decode (mB 45) 43 = .ok (.iload_n 3, 1) := by decide +kernel
theorem dX6_forget_44 : decode (mB 45) 44 = .ok (.iaload, 1) := by decide +kernel
theorem dX6_forget_45 : decode (mB 45) 45 = .ok (.iastore, 1) := by decide +kernel
theorem dX6_forget_46 : decode (mB 45) 46 = .ok (.aload_n 0, 1) := by decide +kernel
theorem dX6_forget_47 : decode (mB 45) 47 = .ok (.getfield 18, 3) := by decide +kernel
theorem dX6_forget_50 : decode (mB 45) 50 = .ok (.iload_n 2, 1) := by decide +kernel
theorem dX6_forget_51 : decode (mB 45) 51 = .ok (.aload_n 0, 1) := by decide +kernel
theorem dX6_forget_52 : decode (mB 45) 52 = .ok (.getfield 18, 3) := by decide +kernel
theorem dX6_forget_55 : decode (mB 45) 55 = .ok (.iload_n 3, 1) := by decide +kernel
theorem dX6_forget_56 : decode (mB 45) 56 = .ok (.iaload, 1) := by decide +kernel
theorem dX6_forget_57 : decode (mB 45) 57 = .ok (.iastore, 1) := by decide +kernel
theorem dX6_forget_58 : decode (mB 45) 58 = .ok (.iinc 2 1, 3) := by decide +kernel
theorem dX6_forget_61 : decode (mB 45) 61 = .ok (.iinc 3 1, 3) := by decide +kernel
theorem dX6_forget_64 : decode (mB 45) 64 = .ok (.goto (-60), 3) := by decide +kernel
theorem dX6_forget_67 : decode (mB 45) 67 = .ok (.aload_n 0, 1) := by decide +kernel
theorem dX6_forget_68 : decode (mB 45) 68 = .ok (.iload_n 2, 1) := by decide +kernel
theorem dX6_forget_69 : decode (mB 45) 69 = .ok (.putfield 21, 3) := by decide +kernel
theorem dX6_forget_72 : decode (mB 45) 72 = .ok (.return_, 1) := by decide +kernel
theorem dX7_init_0 : decode cX7_init 0 = .ok (.aload_n 0, 1) := by decide +kernel
theorem dX7_init_1 : decode cX7_init 1 = .ok (.invokespecial 1, 3) := by decide +kernel
theorem dX7_init_4 : decode cX7_init 4 = .ok (.aload_n 0, 1) := by decide +kernel
theorem dX7_init_5 : decode cX7_init 5 = .ok (.new 7, 3) := by decide +kernel
theorem dX7_init_8 : decode cX7_init 8 = .ok (.dup, 1) := by decide +kernel
theorem dX7_init_9 : decode cX7_init 9 = .ok (.invokespecial 9, 3) := by decide +kernel
theorem dX7_init_12 : decode cX7_init 12 = .ok (.putfield 10, 3) := by decide +kernel
theorem dX7_init_15 : decode cX7_init 15 = .ok (.aload_n 0, 1) := by decide +kernel
theorem dX7_init_16 : decode cX7_init 16 = .ok (.new 7, 3) := by decide +kernel
theorem dX7_init_19 : decode cX7_init 19 = .ok (.dup, 1) := by decide +kernel
theorem dX7_init_20 : decode cX7_init 20 = .ok (.invokespecial 9, 3) := by decide +kernel
theorem dX7_init_23 : decode cX7_init 23 = .ok (.putfield 16, 3) := by decide +kernel
theorem dX7_init_26 : decode cX7_init 26 = .ok (.aload_n 0, 1) := by decide +kernel
theorem dX7_init_27 : decode cX7_init 27 = .ok (.iconst 0, 1) := by decide +kernel
theorem dX7_init_28 : decode cX7_init 28 = .ok (.putfield 19, 3) := by decide +kernel
theorem dX7_init_31 : decode cX7_init 31 = .ok (.return_, 1) := by decide +kernel
theorem dX7_service_0 : decode (mB 46) 0 = .ok (.bipush 7, 2) := by decide +kernel
theorem dX7_service_2 : decode (mB 46) 2 = .ok (.iload_n 1, 1) := by decide +kernel
theorem dX7_service_3 : decode (mB 46) 3 = .ok (.invokestatic 23, 3) := by decide +kernel
theorem dX7_service_6 : decode (mB 46) 6 = .ok (.ifCond .eq 21, 3) := by decide +kernel
theorem dX7_service_9 : decode (mB 46) 9 = .ok (.bipush 9, 2) := by decide +kernel
theorem dX7_service_11 : decode (mB 46) 11 = .ok (.iload_n 2, 1) := by decide +kernel
theorem dX7_service_12 : decode (mB 46) 12 = .ok (.invokestatic 23, 3) := by decide +kernel
theorem dX7_service_15 : decode (mB 46) 15 = .ok (.ifCond .eq 12, 3) := by decide +kernel
theorem dX7_service_18 : decode (mB 46) 18 = .ok (.bipush 8, 2) := by decide +kernel
theorem dX7_service_20 : decode (mB 46) 20 = .ok (.iload_n 3, 1) := by decide +kernel
theorem dX7_service_21 : decode (mB 46) 21 = .ok (.invokestatic 23, 3) := by decide +kernel
theorem dX7_service_24 : decode (mB 46) 24 = .ok (.ifCond .ne 5, 3) := by decide +kernel
theorem dX7_service_27 : decode (mB 46) 27 = .ok (.iconst (-1), 1) := by decide +kernel
theorem dX7_service_28 : decode (mB 46) 28 = .ok (.ireturn, 1) := by decide +kernel
theorem dX7_service_29 : decode (mB 46) 29 = .ok (.aload_n 0, 1) := by decide +kernel
theorem dX7_service_30 : decode (mB 46) 30 = .ok (.getfield 10, 3) := by decide +kernel
theorem dX7_service_33 : decode (mB 46) 33 = .ok (.getfield 27, 3) := by decide +kernel
theorem dX7_service_36 : decode (mB 46) 36 = .ok (.bipush 6, 2) := by decide +kernel
theorem dX7_service_38 : decode (mB 46) 38 = .ok (.if_icmp .lt 6, 3) := by decide +kernel
theorem dX7_service_41 : decode (mB 46) 41 = .ok (.bipush (-2), 2) := by decide +kernel
theorem dX7_service_43 : decode (mB 46) 43 = .ok (.ireturn, 1) := by decide +kernel
theorem dX7_service_44 : decode (mB 46) 44 = .ok (.aload_n 0, 1) := by decide +kernel
theorem dX7_service_45 : decode (mB 46) 45 = .ok (.getfield 10, 3) := by decide +kernel
theorem dX7_service_48 : decode (mB 46) 48 = .ok (.getfield 30, 3) := by decide +kernel
theorem dX7_service_51 : decode (mB 46) 51 = .ok (.ifCond .eq 6, 3) := by decide +kernel
theorem dX7_service_54 : decode (mB 46) 54 = .ok (.bipush (-3), 2) := by decide +kernel
theorem dX7_service_56 : decode (mB 46) 56 = .ok (.ireturn, 1) := by decide +kernel
theorem dX7_service_57 : decode (mB 46) 57 = .ok (.aload_n 0, 1) := by decide +kernel
theorem dX7_service_58 : decode (mB 46) 58 = .ok (.getfield 10, 3) := by decide +kernel
theorem dX7_service_61 : decode (mB 46) 61 = .ok (.iload_n 1, 1) := by decide +kernel
theorem dX7_service_62 : decode (mB 46) 62 = .ok (.iload_n 2, 1) := by decide +kernel
theorem dX7_service_63 : decode (mB 46) 63 = .ok (.iload_n 3, 1) := by decide +kernel
theorem dX7_service_64 : decode (mB 46) 64 = .ok (.invokevirtual 33, 3) := by decide +kernel
theorem dX7_service_67 : decode (mB 46) 67 = .ok (.ireturn, 1) := by decide +kernel
theorem dX7_rule_0 : decode (mB 47) 0 = .ok (.aload_n 0, 1) := by decide +kernel
theorem dX7_rule_1 : decode (mB 47) 1 = .ok (.iload_n 1, 1) := by decide +kernel
theorem dX7_rule_2 : decode (mB 47) 2 = .ok (.invokevirtual 37, 3) := by decide +kernel
theorem dX7_rule_5 : decode (mB 47) 5 = .ok (.ifCond .eq 21, 3) := by decide +kernel
theorem dX7_rule_8 : decode (mB 47) 8 = .ok (.iload_n 2, 1) := by decide +kernel
theorem dX7_rule_9 : decode (mB 47) 9 = .ok (.iconst 0, 1) := by decide +kernel
theorem dX7_rule_10 : decode (mB 47) 10 = .ok (.bipush 8, 2) := by decide +kernel
theorem dX7_rule_12 : decode (mB 47) 12 = .ok (.invokestatic 41, 3) := by decide +kernel
theorem dX7_rule_15 : decode (mB 47) 15 = .ok (.ifCond .eq 11, 3) := by decide +kernel
theorem dX7_rule_18 : decode (mB 47) 18 = .ok (.iload_n 2, 1) := by decide +kernel
theorem dX7_rule_19 : decode (mB 47) 19 = .ok (.iload_n 3, 1) := by decide +kernel
theorem dX7_rule_20 : decode (mB 47) 20 = .ok (.invokestatic 23, 3) := by decide +kernel
theorem dX7_rule_23 : decode (mB 47) 23 = .ok (.ifCond .ne 5, 3) := by decide +kernel
theorem dX7_rule_26 : decode (mB 47) 26 = .ok (.iconst (-1), 1) := by decide +kernel
theorem dX7_rule_27 : decode (mB 47) 27 = .ok (.ireturn, 1) := by decide +kernel
theorem dX7_rule_28 : decode (mB 47) 28 = .ok (.aload_n 0, 1) := by decide +kernel
theorem dX7_rule_29 : decode (mB 47) 29 = .ok (.getfield 10, 3) := by decide +kernel
theorem dX7_rule_32 : decode (mB 47) 32 = .ok (.getfield 45, 3) := by decide +kernel
theorem dX7_rule_35 : decode (mB 47) 35 = .ok (.iload_n 1, 1) := by decide +kernel
theorem dX7_rule_36 : decode (mB 47) 36 = .ok (.aaload, 1) := by decide +kernel
theorem dX7_rule_37 : decode (mB 47) 37 = .ok (.getfield 49, 3) := by decide +kernel
theorem dX7_rule_40 : decode (mB 47) 40 = .ok (.iload_n 2, 1) := by decide +kernel
theorem dX7_rule_41 : decode (mB 47) 41 = .ok (.iaload, 1) := by decide +kernel
theorem dX7_rule_42 : decode (mB 47) 42 = .ok (.istore 4, 2) := by decide +kernel
theorem dX7_rule_44 : decode (mB 47) 44 = .ok (.aload_n 0, 1) := by decide +kernel
theorem dX7_rule_45 : decode (mB 47) 45 = .ok (.getfield 10, 3) := by decide +kernel
theorem dX7_rule_48 : decode (mB 47) 48 = .ok (.getfield 45, 3) := by decide +kernel
theorem dX7_rule_51 : decode (mB 47) 51 = .ok (.iload_n 1, 1) := by decide +kernel
theorem dX7_rule_52 : decode (mB 47) 52 = .ok (.aaload, 1) := by decide +kernel
theorem dX7_rule_53 : decode (mB 47) 53 = .ok (.getfield 49, 3) := by decide +kernel
theorem dX7_rule_56 : decode (mB 47) 56 = .ok (.iload_n 2, 1) := by decide +kernel
theorem dX7_rule_57 : decode (mB 47) 57 = .ok (.iload_n 3, 1) := by decide +kernel
theorem dX7_rule_58 : decode (mB 47) 58 = .ok (.iastore, 1) := by decide +kernel
theorem dX7_rule_59 : decode (mB 47) 59 = .ok (.iload 4, 2) := by decide +kernel
theorem dX7_rule_61 : decode (mB 47) 61 = .ok (.ireturn, 1) := by decide +kernel
theorem dX7_guests_0 : decode (mB 48) 0 = .ok (.iload_n 1, 1) := by decide +kernel
theorem dX7_guests_1 : decode (mB 48) 1 = .ok (.ifCond .ne 38, 3) := by decide +kernel
theorem dX7_guests_4 : decode (mB 48) 4 = .ok (.iload_n 2, 1) := by decide +kernel
theorem dX7_guests_5 : decode (mB 48) 5 = .ok (.iconst 1, 1) := by decide +kernel
theorem dX7_guests_6 : decode (mB 48) 6 = .ok (.bipush 60, 2) := by decide +kernel
theorem dX7_guests_8 : decode (mB 48) 8 = .ok (.invokestatic 41, 3) := by decide +kernel
theorem dX7_guests_11 : decode (mB 48) 11 = .ok (.ifCond .eq 28, 3) := by decide +kernel
theorem dX7_guests_14 : decode (mB 48) 14 = .ok (.aload_n 0, 1) := by decide +kernel
theorem dX7_guests_15 : decode (mB 48) 15 = .ok (.getfield 10, 3) := by decide +kernel
theorem dX7_guests_18 : decode (mB 48) 18 = .ok (.getfield 55, 3) := by decide +kernel
theorem dX7_guests_21 : decode (mB 48) 21 = .ok (.getfield 59, 3) := by decide +kernel
theorem dX7_guests_24 : decode (mB 48) 24 = .ok (.istore_n 3, 1) := by decide +kernel
theorem dX7_guests_25 : decode (mB 48) 25 = .ok (.aload_n 0, 1) := by decide +kernel
theorem dX7_guests_26 : decode (mB 48) 26 = .ok (.getfield 10, 3) := by decide +kernel
theorem dX7_guests_29 : decode (mB 48) 29 = .ok (.getfield 55, 3) := by decide +kernel
theorem dX7_guests_32 : decode (mB 48) 32 = .ok (.iload_n 2, 1) := by decide +kernel
theorem dX7_guests_33 : decode (mB 48) 33 = .ok (.putfield 59, 3) := by decide +kernel
theorem dX7_guests_36 : decode (mB 48) 36 = .ok (.goto 44, 3) := by decide +kernel
theorem dX7_guests_39 : decode (mB 48) 39 = .ok (.iload_n 1, 1) := by decide +kernel
theorem dX7_guests_40 : decode (mB 48) 40 = .ok (.iconst 1, 1) := by decide +kernel
theorem dX7_guests_41 : decode (mB 48) 41 = .ok (.if_icmp .ne 37, 3) := by decide +kernel
theorem dX7_guests_44 : decode (mB 48) 44 = .ok (.iload_n 2, 1) := by decide +kernel
theorem dX7_guests_45 : decode (mB 48) 45 = .ok (.iconst 0, 1) := by decide +kernel
theorem dX7_guests_46 : decode (mB 48) 46 = .ok (.iconst 3, 1) := by decide +kernel
theorem dX7_guests_47 : decode (mB 48) 47 = .ok (.invokestatic 41, 3) := by decide +kernel
theorem dX7_guests_50 : decode (mB 48) 50 = .ok (.ifCond .eq 28, 3) := by decide +kernel
theorem dX7_guests_53 : decode (mB 48) 53 = .ok (.aload_n 0, 1) := by decide +kernel
theorem dX7_guests_54 : decode (mB 48) 54 = .ok (.getfield 10, 3) := by decide +kernel
theorem dX7_guests_57 : decode (mB 48) 57 = .ok (.getfield 55, 3) := by decide +kernel
theorem dX7_guests_60 : decode (mB 48) 60 = .ok (.getfield 64, 3) := by decide +kernel
theorem dX7_guests_63 : decode (mB 48) 63 = .ok (.istore_n 3, 1) := by decide +kernel
theorem dX7_guests_64 : decode (mB 48) 64 = .ok (.aload_n 0, 1) := by decide +kernel
theorem dX7_guests_65 : decode (mB 48) 65 = .ok (.getfield 10, 3) := by decide +kernel
theorem dX7_guests_68 : decode (mB 48) 68 = .ok (.getfield 55, 3) := by decide +kernel
theorem dX7_guests_71 : decode (mB 48) 71 = .ok (.iload_n 2, 1) := by decide +kernel
theorem dX7_guests_72 : decode (mB 48) 72 = .ok (.putfield 64, 3) := by decide +kernel
theorem dX7_guests_75 : decode (mB 48) 75 = .ok (.goto 5, 3) := by decide +kernel
theorem dX7_guests_78 : decode (mB 48) 78 = .ok (.iconst (-1), 1) := by decide +kernel
theorem dX7_guests_79 : decode (mB 48) 79 = .ok (.istore_n 3, 1) := by decide +kernel
theorem dX7_guests_80 : decode (mB 48) 80 = .ok (.iload_n 3, 1) := by decide +kernel
theorem dX7_guests_81 : decode (mB 48) 81 = .ok (.ireturn, 1) := by decide +kernel
theorem dX7_crowd_0 : decode (mB 49) 0 = .ok (.iload_n 1, 1) := by decide +kernel
theorem dX7_crowd_1 : decode (mB 49) 1 = .ok (.aload_n 0, 1) := by decide +kernel
theorem dX7_crowd_2 : decode (mB 49) 2 = .ok (.getfield 10, 3) := by decide +kernel
theorem dX7_crowd_5 : decode (mB 49) 5 = .ok (.getfield 30, 3) := by decide +kernel
theorem dX7_crowd_8 : decode (mB 49) 8 = .ok (.if_icmp .le 26, 3) := by decide +kernel
theorem dX7_crowd_11 : decode (mB 49) 11 = .ok (.iload_n 1, 1) := by decide +kernel
theorem dX7_crowd_12 : decode (mB 49) 12 = .ok (.ldc 67, 2) := by decide +kernel
theorem dX7_crowd_14 : decode (mB 49) 14 = .ok (.if_icmp .gt 20, 3) := by decide +kernel
theorem dX7_crowd_17 : decode (mB 49) 17 = .ok (.iload_n 2, 1) := by decide +kernel
theorem dX7_crowd_18 : decode (mB 49) 18 = .ok (.invokestatic 68, 3) := by decide +kernel
theorem dX7_crowd_21 : decode (mB 49) 21 = .ok (.ifCond .eq 13, 3) := by decide +kernel
theorem dX7_crowd_24 : decode (mB 49) 24 = .ok (.iload_n 3, 1) := by decide +kernel
theorem dX7_crowd_25 : decode (mB 49) 25 = .ok (.iconst 1, 1) := by decide +kernel
theorem dX7_crowd_26 : decode (mB 49) 26 = .ok (.bipush 30, 2) := by decide +kernel
theorem dX7_crowd_28 : decode (mB 49) 28 = .ok (.invokestatic 41, 3) := by decide +kernel
theorem dX7_crowd_31 : decode (mB 49) 31 = .ok (.ifCond .ne 5, 3) := by decide +kernel
theorem dX7_crowd_34 : decode (mB 49) 34 = .ok (.iconst (-1), 1) := by decide +kernel
theorem dX7_crowd_35 : decode (mB 49) 35 = .ok (.ireturn, 1) := by decide +kernel
theorem dX7_crowd_36 : decode (mB 49) 36 = .ok (.aload_n 0, 1) := by decide +kernel
theorem dX7_crowd_37 : decode (mB 49) 37 = .ok (.getfield 10, 3) := by decide +kernel
theorem dX7_crowd_40 : decode (mB 49) 40 = .ok (.getfield 71, 3) := by decide +kernel
theorem dX7_crowd_43 : decode (mB 49) 43 = .ok (.getfield 75, 3) := by decide +kernel
theorem dX7_crowd_46 : decode (mB 49) 46 = .ok (.bipush 40, 2) := by decide +kernel
theorem dX7_crowd_48 : decode (mB 49) 48 = .ok (.if_icmp .lt 6, 3) := by decide +kernel
theorem dX7_crowd_51 : decode (mB 49) 51 = .ok (.bipush (-2), 2) := by decide +kernel
theorem dX7_crowd_53 : decode (mB 49) 53 = .ok (.ireturn, 1) := by decide +kernel
theorem dX7_crowd_54 : decode (mB 49) 54 = .ok (.aload_n 0, 1) := by decide +kernel
theorem dX7_crowd_55 : decode (mB 49) 55 = .ok (.getfield 10, 3) := by decide +kernel
theorem dX7_crowd_58 : decode (mB 49) 58 = .ok (.getfield 71, 3) := by decide +kernel
theorem dX7_crowd_61 : decode (mB 49) 61 = .ok (.iload_n 1, 1) := by decide +kernel
theorem dX7_crowd_62 : decode (mB 49) 62 = .ok (.iload_n 2, 1) := by decide +kernel
theorem dX7_crowd_63 : decode (mB 49) 63 = .ok (.iload_n 3, 1) := by decide +kernel
theorem dX7_crowd_64 : decode (mB 49) 64 = .ok (.invokevirtual 80, 3) := by decide +kernel
theorem dX7_crowd_67 : decode (mB 49) 67 = .ok (.aload_n 0, 1) := by decide +kernel
theorem dX7_crowd_68 : decode (mB 49) 68 = .ok (.getfield 10, 3) := by decide +kernel
theorem dX7_crowd_71 : decode (mB 49) 71 = .ok (.getfield 71, 3) := by decide +kernel
theorem dX7_crowd_74 : decode (mB 49) 74 = .ok (.getfield 75, 3) := by decide +kernel
theorem dX7_crowd_77 : decode (mB 49) 77 = .ok (.ireturn, 1) := by decide +kernel
theorem dX7_usual_0 : decode (mB 50) 0 = .ok (.iload_n 1, 1) := by decide +kernel
theorem dX7_usual_1 : decode (mB 50) 1 = .ok (.iconst 1, 1) := by decide +kernel
theorem dX7_usual_2 : decode (mB 50) 2 = .ok (.bipush 12, 2) := by decide +kernel
theorem dX7_usual_4 : decode (mB 50) 4 = .ok (.invokestatic 41, 3) := by decide +kernel
theorem dX7_usual_7 : decode (mB 50) 7 = .ok (.ifCond .ne 5, 3) := by decide +kernel
theorem dX7_usual_10 : decode (mB 50) 10 = .ok (.iconst (-1), 1) := by decide +kernel
theorem dX7_usual_11 : decode (mB 50) 11 = .ok (.ireturn, 1) := by decide +kernel
theorem dX7_usual_12 : decode (mB 50) 12 = .ok (.aload_n 0, 1) := by decide +kernel
theorem dX7_usual_13 : decode (mB 50) 13 = .ok (.getfield 10, 3) := by decide +kernel
theorem dX7_usual_16 : decode (mB 50) 16 = .ok (.getfield 84, 3) := by decide +kernel
theorem dX7_usual_19 : decode (mB 50) 19 = .ok (.iload_n 1, 1) := by decide +kernel
theorem dX7_usual_20 : decode (mB 50) 20 = .ok (.invokevirtual 88, 3) := by decide +kernel
theorem dX7_usual_23 : decode (mB 50) 23 = .ok (.iconst 1, 1) := by decide +kernel
theorem dX7_usual_24 : decode (mB 50) 24 = .ok (.ireturn, 1) := by decide +kernel
theorem dX7_place_0 : decode (mB 51) 0 = .ok (.iload_n 1, 1) := by decide +kernel
theorem dX7_place_1 : decode (mB 51) 1 = .ok (.iconst 0, 1) := by decide +kernel
theorem dX7_place_2 : decode (mB 51) 2 = .ok (.aload_n 0, 1) := by decide +kernel
theorem dX7_place_3 : decode (mB 51) 3 = .ok (.getfield 10, 3) := by decide +kernel
theorem dX7_place_6 : decode (mB 51) 6 = .ok (.getfield 84, 3) := by decide +kernel
theorem dX7_place_9 : decode (mB 51) 9 = .ok (.getfield 94, 3) := by decide +kernel
theorem dX7_place_12 : decode (mB 51) 12 = .ok (.iconst 1, 1) := by decide +kernel
theorem dX7_place_13 : decode (mB 51) 13 = .ok (.isub, 1) := by decide +kernel
theorem dX7_place_14 : decode (mB 51) 14 = .ok (.invokestatic 41, 3) := by decide +kernel
theorem dX7_place_17 : decode (mB 51) 17 = .ok (.ifCond .eq 19, 3) := by decide +kernel
theorem dX7_place_20 : decode (mB 51) 20 = .ok (.iload_n 2, 1) := by decide +kernel
theorem dX7_place_21 : decode (mB 51) 21 = .ok (.invokestatic 68, 3) := by decide +kernel
theorem dX7_place_24 : decode (mB 51) 24 = .ok (.ifCond .eq 12, 3) := by decide +kernel
theorem dX7_place_27 : decode (mB 51) 27 = .ok (.iload_n 3, 1) := by decide +kernel
theorem dX7_place_28 : decode (mB 51) 28 = .ok (.iconst 0, 1) := by decide +kernel
theorem dX7_place_29 : decode (mB 51) 29 = .ok (.iconst 5, 1) := by decide +kernel
theorem dX7_place_30 : decode (mB 51) 30 = .ok (.invokestatic 41, 3) := by decide +kernel
theorem dX7_place_33 : decode (mB 51) 33 = .ok (.ifCond .ne 5, 3) := by decide +kernel
theorem dX7_place_36 : decode (mB 51) 36 = .ok (.iconst (-1), 1) := by decide +kernel
theorem dX7_place_37 : decode (mB 51) 37 = .ok (.ireturn, 1) := by decide +kernel
theorem dX7_place_38 : decode (mB 51) 38 = .ok (.aload_n 0, 1) := by decide +kernel
theorem dX7_place_39 : decode (mB 51) 39 = .ok (.getfield 10, 3) := by decide +kernel
theorem dX7_place_42 : decode (mB 51) 42 = .ok (.getfield 84, 3) := by decide +kernel
theorem dX7_place_45 : decode (mB 51) 45 = .ok (.getfield 97, 3) := by decide +kernel
theorem dX7_place_48 : decode (mB 51) 48 = .ok (.iload_n 1, 1) := by decide +kernel
theorem dX7_place_49 : decode (mB 51) 49 = .ok (.iload_n 2, 1) := by decide +kernel
theorem dX7_place_50 : decode (mB 51) 50 = .ok (.iastore, 1) := by decide +kernel
theorem dX7_place_51 : decode (mB 51) 51 = .ok (.aload_n 0, 1) := by decide +kernel
theorem dX7_place_52 : decode (mB 51) 52 = .ok (.getfield 10, 3) := by decide +kernel
theorem dX7_place_55 : decode (mB 51) 55 = .ok (.getfield 84, 3) := by decide +kernel
theorem dX7_place_58 : decode (mB 51) 58 = .ok (.getfield 100, 3) := by decide +kernel
theorem dX7_place_61 : decode (mB 51) 61 = .ok (.iload_n 1, 1) := by decide +kernel
theorem dX7_place_62 : decode (mB 51) 62 = .ok (.iload_n 3, 1) := by decide +kernel
theorem dX7_place_63 : decode (mB 51) 63 = .ok (.iastore, 1) := by decide +kernel
theorem dX7_place_64 : decode (mB 51) 64 = .ok (.iconst 1, 1) := by decide +kernel
theorem dX7_place_65 : decode (mB 51) 65 = .ok (.ireturn, 1) := by decide +kernel
theorem dX7_ticks_0 : decode (mB 52) 0 = .ok (.iload_n 1, 1) := by decide +kernel
theorem dX7_ticks_1 : decode (mB 52) 1 = .ok (.iconst 1, 1) := by decide +kernel
theorem dX7_ticks_2 : decode (mB 52) 2 = .ok (.sipush 500, 3) := by decide +kernel
theorem dX7_ticks_5 : decode (mB 52) 5 = .ok (.invokestatic 41, 3) := by decide +kernel
theorem dX7_ticks_8 : decode (mB 52) 8 = .ok (.ifCond .eq 17, 3) := by decide +kernel
theorem dX7_ticks_11 : decode (mB 52) 11 = .ok (.aload_n 0, 1) := by decide +kernel
theorem dX7_ticks_12 : decode (mB 52) 12 = .ok (.getfield 10, 3) := by decide +kernel
theorem dX7_ticks_15 : decode (mB 52) 15 = .ok (.getfield 30, 3) := by decide +kernel
theorem dX7_ticks_18 : decode (mB 52) 18 = .ok (.iload_n 1, 1) := by decide +kernel
theorem dX7_ticks_19 : decode (mB 52) 19 = .ok (.iadd, 1) := by decide +kernel
theorem dX7_ticks_20 : decode (mB 52) 20 = .ok (.ldc 67, 2) := by decide +kernel
theorem dX7_ticks_22 : decode (mB 52) 22 = .ok (.if_icmp .le 5, 3) := by decide +kernel
theorem dX7_ticks_25 : decode (mB 52) 25 = .ok (.iconst (-1), 1) := by decide +kernel
theorem dX7_ticks_26 : decode (mB 52) 26 = .ok (.ireturn, 1) := by decide +kernel
theorem dX7_ticks_27 : decode (mB 52) 27 = .ok (.aload_n 0, 1) := by decide +kernel
theorem dX7_ticks_28 : decode (mB 52) 28 = .ok (.getfield 10, 3) := by decide +kernel
theorem dX7_ticks_31 : decode (mB 52) 31 = .ok (.getfield 27, 3) := by decide +kernel
theorem dX7_ticks_34 : decode (mB 52) 34 = .ok (.ifCond .ne 6, 3) := by decide +kernel
theorem dX7_ticks_37 : decode (mB 52) 37 = .ok (.bipush (-3), 2) := by decide +kernel
theorem dX7_ticks_39 : decode (mB 52) 39 = .ok (.ireturn, 1) := by decide +kernel
theorem dX7_ticks_40 : decode (mB 52) 40 = .ok (.iconst 0, 1) := by decide +kernel
theorem dX7_ticks_41 : decode (mB 52) 41 = .ok (.istore_n 2, 1) := by decide +kernel
theorem dX7_ticks_42 : decode (mB 52) 42 = .ok (.iload_n 2, 1) := by decide +kernel
theorem dX7_ticks_43 : decode (mB 52) 43 = .ok (.iload_n 1, 1) := by decide +kernel
theorem dX7_ticks_44 : decode (mB 52) 44 = .ok (.if_icmp .ge 16, 3) := by decide +kernel
theorem dX7_ticks_47 : decode (mB 52) 47 = .ok (.aload_n 0, 1) := by decide +kernel
theorem dX7_ticks_48 : decode (mB 52) 48 = .ok (.getfield 10, 3) := by decide +kernel
theorem dX7_ticks_51 : decode (mB 52) 51 = .ok (.invokevirtual 103, 3) := by decide +kernel
theorem dX7_ticks_54 : decode (mB 52) 54 = .ok (.iinc 2 1, 3) := by decide +kernel
theorem dX7_ticks_57 : decode (mB 52) 57 = .ok (.goto (-15), 3) := by decide +kernel
theorem dX7_ticks_60 : decode (mB 52) 60 = .ok (.aload_n 0, 1) := by decide +kernel
theorem dX7_ticks_61 : decode (mB 52) 61 = .ok (.getfield 10, 3) := by decide +kernel
theorem dX7_ticks_64 : decode (mB 52) 64 = .ok (.getfield 30, 3) := by decide +kernel
theorem dX7_ticks_67 : decode (mB 52) 67 = .ok (.ireturn, 1) := by decide +kernel
theorem dX7_about_0 : decode (mB 53) 0 = .ok (.aload_n 0, 1) := by decide +kernel
theorem dX7_about_1 : decode (mB 53) 1 = .ok (.iload_n 1, 1) := by decide +kernel
theorem dX7_about_2 : decode (mB 53) 2 = .ok (.invokevirtual 37, 3) := by decide +kernel
theorem dX7_about_5 : decode (mB 53) 5 = .ok (.ifCond .eq 13, 3) := by decide +kernel
theorem dX7_about_8 : decode (mB 53) 8 = .ok (.iload_n 2, 1) := by decide +kernel
theorem dX7_about_9 : decode (mB 53) 9 = .ok (.iconst 0, 1) := by decide +kernel
theorem dX7_about_10 : decode (mB 53) 10 = .ok (.bipush 12, 2) := by decide +kernel
theorem dX7_about_12 : decode (mB 53) 12 = .ok (.invokestatic 41, 3) := by decide +kernel
theorem dX7_about_15 : decode (mB 53) 15 = .ok (.ifCond .ne 5, 3) := by decide +kernel
theorem dX7_about_18 : decode (mB 53) 18 = .ok (.iconst (-1), 1) := by decide +kernel
theorem dX7_about_19 : decode (mB 53) 19 = .ok (.ireturn, 1) := by decide +kernel
theorem dX7_about_20 : decode (mB 53) 20 = .ok (.aload_n 0, 1) := by decide +kernel
theorem dX7_about_21 : decode (mB 53) 21 = .ok (.getfield 10, 3) := by decide +kernel
theorem dX7_about_24 : decode (mB 53) 24 = .ok (.getfield 45, 3) := by decide +kernel
theorem dX7_about_27 : decode (mB 53) 27 = .ok (.iload_n 1, 1) := by decide +kernel
theorem dX7_about_28 : decode (mB 53) 28 = .ok (.aaload, 1) := by decide +kernel
theorem dX7_about_29 : decode (mB 53) 29 = .ok (.astore_n 3, 1) := by decide +kernel
theorem dX7_about_30 : decode (mB 53) 30 = .ok (.iload_n 2, 1) := by decide +kernel
theorem dX7_about_31 : decode (mB 53) 31 = .ok (.bipush 6, 2) := by decide +kernel
theorem dX7_about_33 : decode (mB 53) 33 = .ok (.if_icmp .lt 13, 3) := by decide +kernel
theorem dX7_about_36 : decode (mB 53) 36 = .ok (.aload_n 3, 1) := by decide +kernel
theorem dX7_about_37 : decode (mB 53) 37 = .ok (.getfield 106, 3) := by decide +kernel
theorem dX7_about_40 : decode (mB 53) 40 = .ok (.iload_n 2, 1) := by decide +kernel
theorem dX7_about_41 : decode (mB 53) 41 = .ok (.bipush 6, 2) := by decide +kernel
theorem dX7_about_43 : decode (mB 53) 43 = .ok (.isub, 1) := by decide +kernel
theorem dX7_about_44 : decode (mB 53) 44 = .ok (.iaload, 1) := by decide +kernel
theorem dX7_about_45 : decode (mB 53) 45 = .ok (.ireturn, 1) := by decide +kernel
theorem dX7_about_46 : decode (mB 53) 46 = .ok (.iload_n 2, 1) := by decide +kernel
theorem dX7_about_47 : decode (mB 53) 47 = .ok (.lookupswitch 53 #[(4, 25), (5, 48)], 25) := by decide +kernel
theorem dX7_about_72 : decode (mB 53) 72 = .ok (.aload_n 3, 1) := by decide +kernel
theorem dX7_about_73 : decode (mB 53) 73 = .ok (.aload_n 0, 1) := by decide +kernel
theorem dX7_about_74 : decode (mB 53) 74 = .ok (.getfield 10, 3) := by decide +kernel
theorem dX7_about_77 : decode (mB 53) 77 = .ok (.getfield 30, 3) := by decide +kernel
theorem dX7_about_80 : decode (mB 53) 80 = .ok (.invokevirtual 109, 3) := by decide +kernel
theorem dX7_about_83 : decode (mB 53) 83 = .ok (.ifCond .eq 10, 3) := by decide +kernel
theorem dX7_about_86 : decode (mB 53) 86 = .ok (.aload_n 3, 1) := by decide +kernel
theorem dX7_about_87 : decode (mB 53) 87 = .ok (.getfield 112, 3) := by decide +kernel
theorem dX7_about_90 : decode (mB 53) 90 = .ok (.goto 4, 3) := by decide +kernel
theorem dX7_about_93 : decode (mB 53) 93 = .ok (.iconst (-1), 1) := by decide +kernel
theorem dX7_about_94 : decode (mB 53) 94 = .ok (.ireturn, 1) := by decide +kernel
theorem dX7_about_95 : decode (mB 53) 95 = .ok (.aload_n 3, 1) := by decide +kernel
theorem dX7_about_96 : decode (mB 53) 96 = .ok (.getfield 115, 3) := by decide +kernel
theorem dX7_about_99 : decode (mB 53) 99 = .ok (.ireturn, 1) := by decide +kernel
theorem dX7_about_100 : decode (mB 53) 100 = .ok (.aload_n 0, 1) := by decide +kernel
theorem dX7_about_101 : decode (mB 53) 101 = .ok (.getfield 10, 3) := by decide +kernel
theorem dX7_about_104 : decode (mB 53) 104 = .ok (.getfield 118, 3) := by decide +kernel
theorem dX7_about_107 : decode (mB 53) 107 = .ok (.iload_n 1, 1) := by decide +kernel
theorem dX7_about_108 : decode (mB 53) 108 = .ok (.iload_n 2, 1) := by decide +kernel
theorem dX7_about_109 : decode (mB 53) 109 = .ok (.invokevirtual 122, 3) := by decide +kernel
theorem dX7_about_112 : decode (mB 53) 112 = .ok (.ireturn, 1) := by decide +kernel
theorem dX7_ruleOf_0 : decode (mB 54) 0 = .ok (.aload_n 0, 1) := by decide +kernel
theorem dX7_ruleOf_1 : decode (mB 54) 1 = .ok (.iload_n 1, 1) := by decide +kernel
theorem dX7_ruleOf_2 : decode (mB 54) 2 = .ok (.invokevirtual 37, 3) := by decide +kernel
theorem dX7_ruleOf_5 : decode (mB 54) 5 = .ok (.ifCond .eq 13, 3) := by decide +kernel
theorem dX7_ruleOf_8 : decode (mB 54) 8 = .ok (.iload_n 2, 1) := by decide +kernel
theorem dX7_ruleOf_9 : decode (mB 54) 9 = .ok (.iconst 0, 1) := by decide +kernel
theorem dX7_ruleOf_10 : decode (mB 54) 10 = .ok (.bipush 9, 2) := by decide +kernel
theorem dX7_ruleOf_12 : decode (mB 54) 12 = .ok (.invokestatic 41, 3) := by decide +kernel
theorem dX7_ruleOf_15 : decode (mB 54) 15 = .ok (.ifCond .ne 5, 3) := by decide +kernel
theorem dX7_ruleOf_18 : decode (mB 54) 18 = .ok (.iconst (-1), 1) := by decide +kernel
theorem dX7_ruleOf_19 : decode (mB 54) 19 = .ok (.ireturn, 1) := by decide +kernel
theorem dX7_ruleOf_20 : decode (mB 54) 20 = .ok (.aload_n 0, 1) := by decide +kernel
theorem dX7_ruleOf_21 : decode (mB 54) 21 = .ok (.getfield 10, 3) := by decide +kernel
theorem dX7_ruleOf_24 : decode (mB 54) 24 = .ok (.getfield 45, 3) := by decide +kernel
theorem dX7_ruleOf_27 : decode (mB 54) 27 = .ok (.iload_n 1, 1) := by decide +kernel
theorem dX7_ruleOf_28 : decode (mB 54) 28 = .ok (.aaload, 1) := by decide +kernel
theorem dX7_ruleOf_29 : decode (mB 54) 29 = .ok (.getfield 49, 3) := by decide +kernel
theorem dX7_ruleOf_32 : decode (mB 54) 32 = .ok (.iload_n 2, 1) := by decide +kernel
theorem dX7_ruleOf_33 : decode (mB 54) 33 = .ok (.iaload, 1) := by decide +kernel
theorem dX7_ruleOf_34 : decode (mB 54) 34 = .ok (.ireturn, 1) := by decide +kernel
theorem dX7_kept_0 : decode (mB 55) 0 = .ok (.aload_n 0, 1) := by decide +kernel
theorem dX7_kept_1 : decode (mB 55) 1 = .ok (.iload_n 1, 1) := by decide +kernel
theorem dX7_kept_2 : decode (mB 55) 2 = .ok (.invokevirtual 37, 3) := by decide +kernel
theorem dX7_kept_5 : decode (mB 55) 5 = .ok (.ifCond .eq 10, 3) := by decide +kernel
theorem dX7_kept_8 : decode (mB 55) 8 = .ok (.iload_n 2, 1) := by decide +kernel
theorem dX7_kept_9 : decode (mB 55) 9 = .ok (.invokestatic 68, 3) := by decide +kernel
theorem dX7_kept_12 : decode (mB 55) 12 = .ok (.ifCond .ne 5, 3) := by decide +kernel
theorem dX7_kept_15 : decode (mB 55) 15 = .ok (.iconst (-1), 1) := by decide +kernel
theorem dX7_kept_16 : decode (mB 55) 16 = .ok (.ireturn, 1) := by decide +kernel
theorem dX7_kept_17 : decode (mB 55) 17 = .ok (.aload_n 0, 1) := by decide +kernel
theorem dX7_kept_18 : decode (mB 55) 18 = .ok (.getfield 10, 3) := by decide +kernel
theorem dX7_kept_21 : decode (mB 55) 21 = .ok (.getfield 45, 3) := by decide +kernel
theorem dX7_kept_24 : decode (mB 55) 24 = .ok (.iload_n 1, 1) := by decide +kernel
theorem dX7_kept_25 : decode (mB 55) 25 = .ok (.aaload, 1) := by decide +kernel
theorem dX7_kept_26 : decode (mB 55) 26 = .ok (.astore_n 3, 1) := by decide +kernel
theorem dX7_kept_27 : decode (mB 55) 27 = .ok (.aload_n 3, 1) := by decide +kernel
theorem dX7_kept_28 : decode (mB 55) 28 = .ok (.iload_n 2, 1) := by decide +kernel
theorem dX7_kept_29 : decode (mB 55) 29 = .ok (.aload_n 0, 1) := by decide +kernel
theorem dX7_kept_30 : decode (mB 55) 30 = .ok (.getfield 10, 3) := by decide +kernel
theorem dX7_kept_33 : decode (mB 55) 33 = .ok (.getfield 30, 3) := by decide +kernel
theorem dX7_kept_36 : decode (mB 55) 36 = .ok (.invokevirtual 128, 3) := by decide +kernel
theorem dX7_kept_39 : decode (mB 55) 39 = .ok (.ifCond .eq 12, 3) := by decide +kernel
theorem dX7_kept_42 : decode (mB 55) 42 = .ok (.aload_n 3, 1) := by decide +kernel
theorem dX7_kept_43 : decode (mB 55) 43 = .ok (.getfield 131, 3) := by decide +kernel
theorem dX7_kept_46 : decode (mB 55) 46 = .ok (.iload_n 2, 1) := by decide +kernel
theorem dX7_kept_47 : decode (mB 55) 47 = .ok (.iaload, 1) := by decide +kernel
theorem dX7_kept_48 : decode (mB 55) 48 = .ok (.goto 5, 3) := by decide +kernel
theorem dX7_kept_51 : decode (mB 55) 51 = .ok (.bipush (-4), 2) := by decide +kernel
theorem dX7_kept_53 : decode (mB 55) 53 = .ok (.ireturn, 1) := by decide +kernel
theorem dX7_job_0 : decode (mB 56) 0 = .ok (.aload_n 0, 1) := by decide +kernel
theorem dX7_job_1 : decode (mB 56) 1 = .ok (.getfield 10, 3) := by decide +kernel
theorem dX7_job_4 : decode (mB 56) 4 = .ok (.getfield 118, 3) := by decide +kernel
theorem dX7_job_7 : decode (mB 56) 7 = .ok (.astore_n 3, 1) := by decide +kernel
theorem dX7_job_8 : decode (mB 56) 8 = .ok (.aload_n 3, 1) := by decide +kernel
theorem dX7_job_9 : decode (mB 56) 9 = .ok (.getfield 134, 3) := by decide +kernel
theorem dX7_job_12 : decode (mB 56) 12 = .ok (.iload_n 1, 1) := by decide +kernel
theorem dX7_job_13 : decode (mB 56) 13 = .ok (.invokevirtual 138, 3) := by decide +kernel
theorem dX7_job_16 : decode (mB 56) 16 = .ok (.istore 4, 2) := by decide +kernel
theorem dX7_job_18 : decode (mB 56) 18 = .ok (.iload 4, 2) := by decide +kernel
theorem dX7_job_20 : decode (mB 56) 20 = .ok (.iconst (-1), 1) := by decide +kernel
theorem dX7_job_21 : decode (mB 56) 21 = .ok (.if_icmp .ne 5, 3) := by decide +kernel
theorem dX7_job_24 : decode (mB 56) 24 = .ok (.iconst (-1), 1) := by decide +kernel
theorem dX7_job_25 : decode (mB 56) 25 = .ok (.ireturn, 1) := by decide +kernel
theorem dX7_job_26 : decode (mB 56) 26 = .ok (.iload_n 2, 1) := by decide +kernel
theorem dX7_job_27 : decode (mB 56) 27 = .ok (.tableswitch 96 0 6 #[41, 49, 57, 65, 73, 80, 88], 41) := by decide +kernel
theorem dX7_job_68 : decode (mB 56) 68 = .ok (.aload_n 3, 1) := by decide +kernel
theorem dX7_job_69 : decode (mB 56) 69 = .ok (.getfield 144, 3) := by decide +kernel
theorem dX7_job_72 : decode (mB 56) 72 = .ok (.iload 4, 2) := by decide +kernel
theorem dX7_job_74 : decode (mB 56) 74 = .ok (.iaload, 1) := by decide +kernel
theorem dX7_job_75 : decode (mB 56) 75 = .ok (.ireturn, 1) := by decide +kernel
theorem dX7_job_76 : decode (mB 56) 76 = .ok (.aload_n 3, 1) := by decide +kernel
theorem dX7_job_77 : decode (mB 56) 77 = .ok (.getfield 147, 3) := by decide +kernel
theorem dX7_job_80 : decode (mB 56) 80 = .ok (.iload 4, 2) := by decide +kernel
theorem dX7_job_82 : decode (mB 56) 82 = .ok (.iaload, 1) := by decide +kernel
theorem dX7_job_83 : decode (mB 56) 83 = .ok (.ireturn, 1) := by decide +kernel
theorem dX7_job_84 : decode (mB 56) 84 = .ok (.aload_n 3, 1) := by decide +kernel
theorem dX7_job_85 : decode (mB 56) 85 = .ok (.getfield 150, 3) := by decide +kernel
theorem dX7_job_88 : decode (mB 56) 88 = .ok (.iload 4, 2) := by decide +kernel
theorem dX7_job_90 : decode (mB 56) 90 = .ok (.iaload, 1) := by decide +kernel
theorem dX7_job_91 : decode (mB 56) 91 = .ok (.ireturn, 1) := by decide +kernel
theorem dX7_job_92 : decode (mB 56) 92 = .ok (.aload_n 3, 1) := by decide +kernel
theorem dX7_job_93 : decode (mB 56) 93 = .ok (.getfield 153, 3) := by decide +kernel
theorem dX7_job_96 : decode (mB 56) 96 = .ok (.iload 4, 2) := by decide +kernel
theorem dX7_job_98 : decode (mB 56) 98 = .ok (.iaload, 1) := by decide +kernel
theorem dX7_job_99 : decode (mB 56) 99 = .ok (.ireturn, 1) := by decide +kernel
theorem dX7_job_100 : decode (mB 56) 100 = .ok (.aload_n 0, 1) := by decide +kernel
theorem dX7_job_101 : decode (mB 56) 101 = .ok (.iload 4, 2) := by decide +kernel
theorem dX7_job_103 : decode (mB 56) 103 = .ok (.invokevirtual 156, 3) := by decide +kernel
theorem dX7_job_106 : decode (mB 56) 106 = .ok (.ireturn, 1) := by decide +kernel
theorem dX7_job_107 : decode (mB 56) 107 = .ok (.aload_n 3, 1) := by decide +kernel
theorem dX7_job_108 : decode (mB 56) 108 = .ok (.getfield 159, 3) := by decide +kernel
theorem dX7_job_111 : decode (mB 56) 111 = .ok (.iload 4, 2) := by decide +kernel
theorem dX7_job_113 : decode (mB 56) 113 = .ok (.iaload, 1) := by decide +kernel
theorem dX7_job_114 : decode (mB 56) 114 = .ok (.ireturn, 1) := by decide +kernel
theorem dX7_job_115 : decode (mB 56) 115 = .ok (.aload_n 3, 1) := by decide +kernel
theorem dX7_job_116 : decode (mB 56) 116 = .ok (.getfield 162, 3) := by decide +kernel
theorem dX7_job_119 : decode (mB 56) 119 = .ok (.iload 4, 2) := by decide +kernel
theorem dX7_job_121 : decode (mB 56) 121 = .ok (.iaload, 1) := by decide +kernel
theorem dX7_job_122 : decode (mB 56) 122 = .ok (.ireturn, 1) := by decide +kernel
theorem dX7_job_123 : decode (mB 56) 123 = .ok (.iconst (-1), 1) := by decide +kernel
theorem dX7_job_124 : decode (mB 56) 124 = .ok (.ireturn, 1) := by decide +kernel
theorem dX7_row_0 : decode (mB 57) 0 = .ok (.aload_n 0, 1) := by decide +kernel
theorem dX7_row_1 : decode (mB 57) 1 = .ok (.iload_n 1, 1) := by decide +kernel
theorem dX7_row_2 : decode (mB 57) 2 = .ok (.invokevirtual 37, 3) := by decide +kernel
theorem dX7_row_5 : decode (mB 57) 5 = .ok (.ifCond .eq 25, 3) := by decide +kernel
theorem dX7_row_8 : decode (mB 57) 8 = .ok (.iload_n 2, 1) := by decide +kernel
theorem dX7_row_9 : decode (mB 57) 9 = .ok (.iconst 0, 1) := by decide +kernel
theorem dX7_row_10 : decode (mB 57) 10 = .ok (.aload_n 0, 1) := by decide +kernel
theorem dX7_row_11 : decode (mB 57) 11 = .ok (.getfield 10, 3) := by decide +kernel
theorem dX7_row_14 : decode (mB 57) 14 = .ok (.getfield 45, 3) := by decide +kernel
theorem dX7_row_17 : decode (mB 57) 17 = .ok (.iload_n 1, 1) := by decide +kernel
theorem dX7_row_18 : decode (mB 57) 18 = .ok (.aaload, 1) := by decide +kernel
theorem dX7_row_19 : decode (mB 57) 19 = .ok (.getfield 165, 3) := by decide +kernel
theorem dX7_row_22 : decode (mB 57) 22 = .ok (.iconst 1, 1) := by decide +kernel
theorem dX7_row_23 : decode (mB 57) 23 = .ok (.isub, 1) := by decide +kernel
theorem dX7_row_24 : decode (mB 57) 24 = .ok (.invokestatic 41, 3) := by decide +kernel
theorem dX7_row_27 : decode (mB 57) 27 = .ok (.ifCond .ne 5, 3) := by decide +kernel
theorem dX7_row_30 : decode (mB 57) 30 = .ok (.iconst (-1), 1) := by decide +kernel
theorem dX7_row_31 : decode (mB 57) 31 = .ok (.ireturn, 1) := by decide +kernel
theorem dX7_row_32 : decode (mB 57) 32 = .ok (.aload_n 0, 1) := by decide +kernel
theorem dX7_row_33 : decode (mB 57) 33 = .ok (.getfield 10, 3) := by decide +kernel
theorem dX7_row_36 : decode (mB 57) 36 = .ok (.getfield 118, 3) := by decide +kernel
theorem dX7_row_39 : decode (mB 57) 39 = .ok (.getfield 144, 3) := by decide +kernel
theorem dX7_row_42 : decode (mB 57) 42 = .ok (.aload_n 0, 1) := by decide +kernel
theorem dX7_row_43 : decode (mB 57) 43 = .ok (.getfield 10, 3) := by decide +kernel
theorem dX7_row_46 : decode (mB 57) 46 = .ok (.getfield 45, 3) := by decide +kernel
theorem dX7_row_49 : decode (mB 57) 49 = .ok (.iload_n 1, 1) := by decide +kernel
theorem dX7_row_50 : decode (mB 57) 50 = .ok (.aaload, 1) := by decide +kernel
theorem dX7_row_51 : decode (mB 57) 51 = .ok (.getfield 168, 3) := by decide +kernel
theorem dX7_row_54 : decode (mB 57) 54 = .ok (.iload_n 2, 1) := by decide +kernel
theorem dX7_row_55 : decode (mB 57) 55 = .ok (.iaload, 1) := by decide +kernel
theorem dX7_row_56 : decode (mB 57) 56 = .ok (.iaload, 1) := by decide +kernel
theorem dX7_row_57 : decode (mB 57) 57 = .ok (.ireturn, 1) := by decide +kernel
theorem dX7_guest_0 : decode (mB 58) 0 = .ok (.aload_n 0, 1) := by decide +kernel
theorem dX7_guest_1 : decode (mB 58) 1 = .ok (.getfield 10, 3) := by decide +kernel
theorem dX7_guest_4 : decode (mB 58) 4 = .ok (.getfield 55, 3) := by decide +kernel
theorem dX7_guest_7 : decode (mB 58) 7 = .ok (.astore_n 3, 1) := by decide +kernel
theorem dX7_guest_8 : decode (mB 58) 8 = .ok (.aload_n 3, 1) := by decide +kernel
theorem dX7_guest_9 : decode (mB 58) 9 = .ok (.getfield 171, 3) := by decide +kernel
theorem dX7_guest_12 : decode (mB 58) 12 = .ok (.iload_n 1, 1) := by decide +kernel
theorem dX7_guest_13 : decode (mB 58) 13 = .ok (.invokevirtual 138, 3) := by decide +kernel
theorem dX7_guest_16 : decode (mB 58) 16 = .ok (.istore 4, 2) := by decide +kernel
theorem dX7_guest_18 : decode (mB 58) 18 = .ok (.iload 4, 2) := by decide +kernel
theorem dX7_guest_20 : decode (mB 58) 20 = .ok (.iconst (-1), 1) := by decide +kernel
theorem dX7_guest_21 : decode (mB 58) 21 = .ok (.if_icmp .ne 5, 3) := by decide +kernel
theorem dX7_guest_24 : decode (mB 58) 24 = .ok (.iconst (-1), 1) := by decide +kernel
theorem dX7_guest_25 : decode (mB 58) 25 = .ok (.ireturn, 1) := by decide +kernel
theorem dX7_guest_26 : decode (mB 58) 26 = .ok (.iload_n 2, 1) := by decide +kernel
theorem dX7_guest_27 : decode (mB 58) 27 = .ok (.tableswitch 88 0 3 #[29, 37, 72, 80], 29) := by decide +kernel
theorem dX7_guest_56 : decode (mB 58) 56 = .ok (.aload_n 3, 1) := by decide +kernel
theorem dX7_guest_57 : decode (mB 58) 57 = .ok (.getfield 172, 3) := by decide +kernel
theorem dX7_guest_60 : decode (mB 58) 60 = .ok (.iload 4, 2) := by decide +kernel
theorem dX7_guest_62 : decode (mB 58) 62 = .ok (.iaload, 1) := by decide +kernel
theorem dX7_guest_63 : decode (mB 58) 63 = .ok (.ireturn, 1) := by decide +kernel
theorem dX7_guest_64 : decode (mB 58) 64 = .ok (.aload_n 3, 1) := by decide +kernel
theorem dX7_guest_65 : decode (mB 58) 65 = .ok (.getfield 173, 3) := by decide +kernel
theorem dX7_guest_68 : decode (mB 58) 68 = .ok (.iload 4, 2) := by decide +kernel
theorem dX7_guest_70 : decode (mB 58) 70 = .ok (.iaload, 1) := by decide +kernel
theorem dX7_guest_71 : decode (mB 58) 71 = .ok (.iconst (-1), 1) := by decide +kernel
theorem dX7_guest_72 : decode (mB 58) 72 = .ok (.if_icmp .ne 8, 3) := by decide +kernel
theorem dX7_guest_75 : decode (mB 58) 75 = .ok (.bipush (-3), 2) := by decide +kernel
theorem dX7_guest_77 : decode (mB 58) 77 = .ok (.goto 21, 3) := by decide +kernel
theorem dX7_guest_80 : decode (mB 58) 80 = .ok (.aload_n 0, 1) := by decide +kernel
theorem dX7_guest_81 : decode (mB 58) 81 = .ok (.getfield 10, 3) := by decide +kernel
theorem dX7_guest_84 : decode (mB 58) 84 = .ok (.getfield 118, 3) := by decide +kernel
theorem dX7_guest_87 : decode (mB 58) 87 = .ok (.getfield 144, 3) := by decide +kernel
theorem dX7_guest_90 : decode (mB 58) 90 = .ok (.aload_n 3, 1) := by decide +kernel
theorem dX7_guest_91 : decode (mB 58) 91 = .ok (.getfield 173, 3) := by decide +kernel
theorem dX7_guest_94 : decode (mB 58) 94 = .ok (.iload 4, 2) := by decide +kernel
theorem dX7_guest_96 : decode (mB 58) 96 = .ok (.iaload, 1) := by decide +kernel
theorem dX7_guest_97 : decode (mB 58) 97 = .ok (.iaload, 1) := by decide +kernel
theorem dX7_guest_98 : decode (mB 58) 98 = .ok (.ireturn, 1) := by decide +kernel
theorem dX7_guest_99 : decode (mB 58) 99 = .ok (.aload_n 3, 1) := by decide +kernel
theorem dX7_guest_100 : decode (mB 58) 100 = .ok (.getfield 176, 3) := by decide +kernel
theorem dX7_guest_103 : decode (mB 58) 103 = .ok (.iload 4, 2) := by decide +kernel
theorem dX7_guest_105 : decode (mB 58) 105 = .ok (.iaload, 1) := by decide +kernel
theorem dX7_guest_106 : decode (mB 58) 106 = .ok (.ireturn, 1) := by decide +kernel
theorem dX7_guest_107 : decode (mB 58) 107 = .ok (.aload_n 3, 1) := by decide +kernel
theorem dX7_guest_108 : decode (mB 58) 108 = .ok (.getfield 179, 3) := by decide +kernel
theorem dX7_guest_111 : decode (mB 58) 111 = .ok (.iload 4, 2) := by decide +kernel
theorem dX7_guest_113 : decode (mB 58) 113 = .ok (.iaload, 1) := by decide +kernel
theorem dX7_guest_114 : decode (mB 58) 114 = .ok (.ireturn, 1) := by decide +kernel
theorem dX7_guest_115 : decode (mB 58) 115 = .ok (.iconst (-1), 1) := by decide +kernel
theorem dX7_guest_116 : decode (mB 58) 116 = .ok (.ireturn, 1) := by decide +kernel
theorem dX7_count_0 : decode (mB 59) 0 = .ok (.iload_n 1, 1) := by decide +kernel
theorem dX7_count_1 : decode (mB 59) 1 = .ok (.tableswitch 197 0 11 #[63, 71, 79, 93, 107, 118, 129, 140, 151, 159, 170, 181], 63) := by decide +kernel
theorem dX7_count_64 : decode (mB 59) 64 = .ok (.aload_n 0, 1) := by decide +kernel
theorem dX7_count_65 : decode (mB 59) 65 = .ok (.getfield 10, 3) := by decide +kernel
theorem dX7_count_68 : decode (mB 59) 68 = .ok (.getfield 27, 3) := by decide +kernel
theorem dX7_count_71 : decode (mB 59) 71 = .ok (.ireturn, 1) := by decide +kernel
theorem dX7_count_72 : decode (mB 59) 72 = .ok (.aload_n 0, 1) := by decide +kernel
theorem dX7_count_73 : decode (mB 59) 73 = .ok (.getfield 10, 3) := by decide +kernel
theorem dX7_count_76 : decode (mB 59) 76 = .ok (.getfield 30, 3) := by decide +kernel
theorem dX7_count_79 : decode (mB 59) 79 = .ok (.ireturn, 1) := by decide +kernel
theorem dX7_count_80 : decode (mB 59) 80 = .ok (.aload_n 0, 1) := by decide +kernel
theorem dX7_count_81 : decode (mB 59) 81 = .ok (.getfield 10, 3) := by decide +kernel
theorem dX7_count_84 : decode (mB 59) 84 = .ok (.getfield 118, 3) := by decide +kernel
theorem dX7_count_87 : decode (mB 59) 87 = .ok (.getfield 134, 3) := by decide +kernel
theorem dX7_count_90 : decode (mB 59) 90 = .ok (.getfield 180, 3) := by decide +kernel
theorem dX7_count_93 : decode (mB 59) 93 = .ok (.ireturn, 1) := by decide +kernel
theorem dX7_count_94 : decode (mB 59) 94 = .ok (.aload_n 0, 1) := by decide +kernel
theorem dX7_count_95 : decode (mB 59) 95 = .ok (.getfield 10, 3) := by decide +kernel
theorem dX7_count_98 : decode (mB 59) 98 = .ok (.getfield 55, 3) := by decide +kernel
theorem dX7_count_101 : decode (mB 59) 101 = .ok (.getfield 171, 3) := by decide +kernel
theorem dX7_count_104 : decode (mB 59) 104 = .ok (.getfield 180, 3) := by decide +kernel
theorem dX7_count_107 : decode (mB 59) 107 = .ok (.ireturn, 1) := by decide +kernel
theorem dX7_count_108 : decode (mB 59) 108 = .ok (.aload_n 0, 1) := by decide +kernel
theorem dX7_count_109 : decode (mB 59) 109 = .ok (.getfield 10, 3) := by decide +kernel
theorem dX7_count_112 : decode (mB 59) 112 = .ok (.getfield 55, 3) := by decide +kernel
theorem dX7_count_115 : decode (mB 59) 115 = .ok (.getfield 181, 3) := by decide +kernel
theorem dX7_count_118 : decode (mB 59) 118 = .ok (.ireturn, 1) := by decide +kernel
theorem dX7_count_119 : decode (mB 59) 119 = .ok (.aload_n 0, 1) := by decide +kernel
theorem dX7_count_120 : decode (mB 59) 120 = .ok (.getfield 10, 3) := by decide +kernel
theorem dX7_count_123 : decode (mB 59) 123 = .ok (.getfield 55, 3) := by decide +kernel
theorem dX7_count_126 : decode (mB 59) 126 = .ok (.getfield 184, 3) := by decide +kernel
theorem dX7_count_129 : decode (mB 59) 129 = .ok (.ireturn, 1) := by decide +kernel
theorem dX7_count_130 : decode (mB 59) 130 = .ok (.aload_n 0, 1) := by decide +kernel
theorem dX7_count_131 : decode (mB 59) 131 = .ok (.getfield 10, 3) := by decide +kernel
theorem dX7_count_134 : decode (mB 59) 134 = .ok (.getfield 55, 3) := by decide +kernel
theorem dX7_count_137 : decode (mB 59) 137 = .ok (.getfield 187, 3) := by decide +kernel
theorem dX7_count_140 : decode (mB 59) 140 = .ok (.ireturn, 1) := by decide +kernel
theorem dX7_count_141 : decode (mB 59) 141 = .ok (.aload_n 0, 1) := by decide +kernel
theorem dX7_count_142 : decode (mB 59) 142 = .ok (.getfield 10, 3) := by decide +kernel
theorem dX7_count_145 : decode (mB 59) 145 = .ok (.getfield 55, 3) := by decide +kernel
theorem dX7_count_148 : decode (mB 59) 148 = .ok (.getfield 190, 3) := by decide +kernel
theorem dX7_count_151 : decode (mB 59) 151 = .ok (.ireturn, 1) := by decide +kernel
theorem dX7_count_152 : decode (mB 59) 152 = .ok (.aload_n 0, 1) := by decide +kernel
theorem dX7_count_153 : decode (mB 59) 153 = .ok (.getfield 10, 3) := by decide +kernel
theorem dX7_count_156 : decode (mB 59) 156 = .ok (.getfield 193, 3) := by decide +kernel
theorem dX7_count_159 : decode (mB 59) 159 = .ok (.ireturn, 1) := by decide +kernel
theorem dX7_count_160 : decode (mB 59) 160 = .ok (.aload_n 0, 1) := by decide +kernel
theorem dX7_count_161 : decode (mB 59) 161 = .ok (.getfield 10, 3) := by decide +kernel
theorem dX7_count_164 : decode (mB 59) 164 = .ok (.getfield 71, 3) := by decide +kernel
theorem dX7_count_167 : decode (mB 59) 167 = .ok (.getfield 75, 3) := by decide +kernel
theorem dX7_count_170 : decode (mB 59) 170 = .ok (.ireturn, 1) := by decide +kernel
theorem dX7_count_171 : decode (mB 59) 171 = .ok (.aload_n 0, 1) := by decide +kernel
theorem dX7_count_172 : decode (mB 59) 172 = .ok (.getfield 10, 3) := by decide +kernel
theorem dX7_count_175 : decode (mB 59) 175 = .ok (.getfield 118, 3) := by decide +kernel
theorem dX7_count_178 : decode (mB 59) 178 = .ok (.getfield 196, 3) := by decide +kernel
theorem dX7_count_181 : decode (mB 59) 181 = .ok (.ireturn, 1) := by decide +kernel
theorem dX7_count_182 : decode (mB 59) 182 = .ok (.aload_n 0, 1) := by decide +kernel
theorem dX7_count_183 : decode (mB 59) 183 = .ok (.getfield 10, 3) := by decide +kernel
theorem dX7_count_186 : decode (mB 59) 186 = .ok (.getfield 197, 3) := by decide +kernel
theorem dX7_count_189 : decode (mB 59) 189 = .ok (.ifCond .eq 7, 3) := by decide +kernel
theorem dX7_count_192 : decode (mB 59) 192 = .ok (.iconst 1, 1) := by decide +kernel
theorem dX7_count_193 : decode (mB 59) 193 = .ok (.goto 4, 3) := by decide +kernel
theorem dX7_count_196 : decode (mB 59) 196 = .ok (.iconst 0, 1) := by decide +kernel
theorem dX7_count_197 : decode (mB 59) 197 = .ok (.ireturn, 1) := by decide +kernel
theorem dX7_count_198 : decode (mB 59) 198 = .ok (.iconst (-1), 1) := by decide +kernel
theorem dX7_count_199 : decode (mB 59) 199 = .ok (.ireturn, 1) := by decide +kernel
theorem dX7_rest_0 : decode (mB 60) 0 = .ok (.iload_n 1, 1) := by decide +kernel
theorem dX7_rest_1 : decode (mB 60) 1 = .ok (.invokestatic 201, 3) := by decide +kernel
theorem dX7_rest_4 : decode (mB 60) 4 = .ok (.ifCond .ne 5, 3) := by decide +kernel
theorem dX7_rest_7 : decode (mB 60) 7 = .ok (.iconst (-1), 1) := by decide +kernel
theorem dX7_rest_8 : decode (mB 60) 8 = .ok (.ireturn, 1) := by decide +kernel
theorem dX7_rest_9 : decode (mB 60) 9 = .ok (.aload_n 0, 1) := by decide +kernel
theorem dX7_rest_10 : decode (mB 60) 10 = .ok (.getfield 10, 3) := by decide +kernel
theorem dX7_rest_13 : decode (mB 60) 13 = .ok (.getfield 27, 3) := by decide +kernel
theorem dX7_rest_16 : decode (mB 60) 16 = .ok (.ifCond .ne 6, 3) := by decide +kernel
theorem dX7_rest_19 : decode (mB 60) 19 = .ok (.bipush (-3), 2) := by decide +kernel
theorem dX7_rest_21 : decode (mB 60) 21 = .ok (.ireturn, 1) := by decide +kernel
theorem dX7_rest_22 : decode (mB 60) 22 = .ok (.aload_n 0, 1) := by decide +kernel
theorem dX7_rest_23 : decode (mB 60) 23 = .ok (.iconst 0, 1) := by decide +kernel
theorem dX7_rest_24 : decode (mB 60) 24 = .ok (.iconst 0, 1) := by decide +kernel
theorem dX7_rest_25 : decode (mB 60) 25 = .ok (.invokevirtual 204, 3) := by decide +kernel
theorem dX7_rest_28 : decode (mB 60) 28 = .ok (.aload_n 0, 1) := by decide +kernel
theorem dX7_rest_29 : decode (mB 60) 29 = .ok (.iload_n 1, 1) := by decide +kernel
theorem dX7_rest_30 : decode (mB 60) 30 = .ok (.iconst 0, 1) := by decide +kernel
theorem dX7_rest_31 : decode (mB 60) 31 = .ok (.invokevirtual 208, 3) := by decide +kernel
theorem dX7_rest_34 : decode (mB 60) 34 = .ok (.ireturn, 1) := by decide +kernel
theorem dX7_bears_0 : decode (mB 61) 0 = .ok (.iload_n 1, 1) := by decide +kernel
theorem dX7_bears_1 : decode (mB 61) 1 = .ok (.invokestatic 68, 3) := by decide +kernel
theorem dX7_bears_4 : decode (mB 61) 4 = .ok (.ifCond .eq 10, 3) := by decide +kernel
theorem dX7_bears_7 : decode (mB 61) 7 = .ok (.iload_n 2, 1) := by decide +kernel
theorem dX7_bears_8 : decode (mB 61) 8 = .ok (.invokestatic 201, 3) := by decide +kernel
theorem dX7_bears_11 : decode (mB 61) 11 = .ok (.ifCond .ne 5, 3) := by decide +kernel
theorem dX7_bears_14 : decode (mB 61) 14 = .ok (.iconst (-1), 1) := by decide +kernel
theorem dX7_bears_15 : decode (mB 61) 15 = .ok (.ireturn, 1) := by decide +kernel
theorem dX7_bears_16 : decode (mB 61) 16 = .ok (.aload_n 0, 1) := by decide +kernel
theorem dX7_bears_17 : decode (mB 61) 17 = .ok (.getfield 10, 3) := by decide +kernel
theorem dX7_bears_20 : decode (mB 61) 20 = .ok (.getfield 27, 3) := by decide +kernel
theorem dX7_bears_23 : decode (mB 61) 23 = .ok (.ifCond .ne 6, 3) := by decide +kernel
theorem dX7_bears_26 : decode (mB 61) 26 = .ok (.bipush (-3), 2) := by decide +kernel
theorem dX7_bears_28 : decode (mB 61) 28 = .ok (.ireturn, 1) := by decide +kernel
theorem dX7_bears_29 : decode (mB 61) 29 = .ok (.bipush (-4), 2) := by decide +kernel
theorem dX7_bears_31 : decode (mB 61) 31 = .ok (.istore_n 3, 1) := by decide +kernel
theorem dX7_bears_32 : decode (mB 61) 32 = .ok (.iconst 0, 1) := by decide +kernel
theorem dX7_bears_33 : decode (mB 61) 33 = .ok (.istore 4, 2) := by decide +kernel
theorem dX7_bears_35 : decode (mB 61) 35 = .ok (.iload 4, 2) := by decide +kernel
theorem dX7_bears_37 : decode (mB 61) 37 = .ok (.bipush 30, 2) := by decide +kernel
theorem dX7_bears_39 : decode (mB 61) 39 = .ok (.if_icmp .gt 33, 3) := by decide +kernel
theorem dX7_bears_42 : decode (mB 61) 42 = .ok (.aload_n 0, 1) := by decide +kernel
theorem dX7_bears_43 : decode (mB 61) 43 = .ok (.iload_n 1, 1) := by decide +kernel
theorem dX7_bears_44 : decode (mB 61) 44 = .ok (.iload 4, 2) := by decide +kernel
theorem dX7_bears_46 : decode (mB 61) 46 = .ok (.invokevirtual 204, 3) := by decide +kernel
theorem dX7_bears_49 : decode (mB 61) 49 = .ok (.aload_n 0, 1) := by decide +kernel
theorem dX7_bears_50 : decode (mB 61) 50 = .ok (.iload_n 2, 1) := by decide +kernel
theorem dX7_bears_51 : decode (mB 61) 51 = .ok (.iconst 0, 1) := by decide +kernel
theorem dX7_bears_52 : decode (mB 61) 52 = .ok (.invokevirtual 208, 3) := by decide +kernel
theorem dX7_bears_55 : decode (mB 61) 55 = .ok (.bipush (-4), 2) := by decide +kernel
theorem dX7_bears_57 : decode (mB 61) 57 = .ok (.if_icmp .ne 6, 3) := by decide +kernel
theorem dX7_bears_60 : decode (mB 61) 60 = .ok (.goto 12, 3) := by decide +kernel
theorem dX7_bears_63 : decode (mB 61) 63 = .ok (.iload 4, 2) := by decide +kernel
theorem dX7_bears_65 : decode (mB 61) 65 = .ok (.istore_n 3, 1) := by decide +kernel
theorem dX7_bears_66 : decode (mB 61) 66 = .ok (.iinc 4 1, 3) := by decide +kernel
theorem dX7_bears_69 : decode (mB 61) 69 = .ok (.goto (-34), 3) := by decide +kernel
theorem dX7_bears_72 : decode (mB 61) 72 = .ok (.iload_n 3, 1) := by decide +kernel
theorem dX7_bears_73 : decode (mB 61) 73 = .ok (.ireturn, 1) := by decide +kernel
theorem dX7_best_0 : decode (mB 62) 0 = .ok (.aload_n 0, 1) := by decide +kernel
theorem dX7_best_1 : decode (mB 62) 1 = .ok (.iload_n 1, 1) := by decide +kernel
theorem dX7_best_2 : decode (mB 62) 2 = .ok (.invokevirtual 37, 3) := by decide +kernel
theorem dX7_best_5 : decode (mB 62) 5 = .ok (.ifCond .eq 28, 3) := by decide +kernel
theorem dX7_best_8 : decode (mB 62) 8 = .ok (.iload_n 2, 1) := by decide +kernel
theorem dX7_best_9 : decode (mB 62) 9 = .ok (.invokestatic 68, 3) := by decide +kernel
theorem dX7_best_12 : decode (mB 62) 12 = .ok (.ifCond .eq 21, 3) := by decide +kernel
theorem dX7_best_15 : decode (mB 62) 15 = .ok (.iload_n 3, 1) := by decide +kernel
theorem dX7_best_16 : decode (mB 62) 16 = .ok (.iconst 0, 1) := by decide +kernel
theorem dX7_best_17 : decode (mB 62) 17 = .ok (.bipush 30, 2) := by decide +kernel
theorem dX7_best_19 : decode (mB 62) 19 = .ok (.invokestatic 41, 3) := by decide +kernel
theorem dX7_best_22 : decode (mB 62) 22 = .ok (.ifCond .eq 11, 3) := by decide +kernel
theorem dX7_best_25 : decode (mB 62) 25 = .ok (.iload 4, 2) := by decide +kernel
theorem dX7_best_27 : decode (mB 62) 27 = .ok (.invokestatic 201, 3) := by decide +kernel
theorem dX7_best_30 : decode (mB 62) 30 = .ok (.ifCond .ne 5, 3) := by decide +kernel
theorem dX7_best_33 : decode (mB 62) 33 = .ok (.iconst (-1), 1) := by decide +kernel
theorem dX7_best_34 : decode (mB 62) 34 = .ok (.ireturn, 1) := by decide +kernel
theorem dX7_best_35 : decode (mB 62) 35 = .ok (.bipush (-4), 2) := by decide +kernel
theorem dX7_best_37 : decode (mB 62) 37 = .ok (.istore 5, 2) := by decide +kernel
theorem dX7_best_39 : decode (mB 62) 39 = .ok (.iconst 0, 1) := by decide +kernel
theorem dX7_best_40 : decode (mB 62) 40 = .ok (.istore 6, 2) := by decide +kernel
theorem dX7_best_42 : decode (mB 62) 42 = .ok (.iconst 0, 1) := by decide +kernel
theorem dX7_best_43 : decode (mB 62) 43 = .ok (.istore 7, 2) := by decide +kernel
theorem dX7_best_45 : decode (mB 62) 45 = .ok (.iload 7, 2) := by decide +kernel
theorem dX7_best_47 : decode (mB 62) 47 = .ok (.iconst 3, 1) := by decide +kernel
theorem dX7_best_48 : decode (mB 62) 48 = .ok (.if_icmp .gt 120, 3) := by decide +kernel
theorem dX7_best_51 : decode (mB 62) 51 = .ok (.iconst 0, 1) := by decide +kernel
theorem dX7_best_52 : decode (mB 62) 52 = .ok (.istore 8, 2) := by decide +kernel
theorem dX7_best_54 : decode (mB 62) 54 = .ok (.iload 8, 2) := by decide +kernel
theorem dX7_best_56 : decode (mB 62) 56 = .ok (.iconst 3, 1) := by decide +kernel
theorem dX7_best_57 : decode (mB 62) 57 = .ok (.if_icmp .gt 105, 3) := by decide +kernel
theorem dX7_best_60 : decode (mB 62) 60 = .ok (.aload_n 0, 1) := by decide +kernel
theorem dX7_best_61 : decode (mB 62) 61 = .ok (.iload_n 2, 1) := by decide +kernel
theorem dX7_best_62 : decode (mB 62) 62 = .ok (.iload_n 3, 1) := by decide +kernel
theorem dX7_best_63 : decode (mB 62) 63 = .ok (.invokevirtual 204, 3) := by decide +kernel
theorem dX7_best_66 : decode (mB 62) 66 = .ok (.aload_n 0, 1) := by decide +kernel
theorem dX7_best_67 : decode (mB 62) 67 = .ok (.getfield 16, 3) := by decide +kernel
theorem dX7_best_70 : decode (mB 62) 70 = .ok (.getfield 45, 3) := by decide +kernel
theorem dX7_best_73 : decode (mB 62) 73 = .ok (.iload_n 1, 1) := by decide +kernel
theorem dX7_best_74 : decode (mB 62) 74 = .ok (.aaload, 1) := by decide +kernel
theorem dX7_best_75 : decode (mB 62) 75 = .ok (.getfield 49, 3) := by decide +kernel
theorem dX7_best_78 : decode (mB 62) 78 = .ok (.iconst 1, 1) := by decide +kernel
theorem dX7_best_79 : decode (mB 62) 79 = .ok (.iload 7, 2) := by decide +kernel
theorem dX7_best_81 : decode (mB 62) 81 = .ok (.iastore, 1) := by decide +kernel
theorem dX7_best_82 : decode (mB 62) 82 = .ok (.aload_n 0, 1) := by decide +kernel
theorem dX7_best_83 : decode (mB 62) 83 = .ok (.getfield 16, 3) := by decide +kernel
theorem dX7_best_86 : decode (mB 62) 86 = .ok (.getfield 45, 3) := by decide +kernel
theorem dX7_best_89 : decode (mB 62) 89 = .ok (.iload_n 1, 1) := by decide +kernel
theorem dX7_best_90 : decode (mB 62) 90 = .ok (.aaload, 1) := by decide +kernel
theorem dX7_best_91 : decode (mB 62) 91 = .ok (.getfield 49, 3) := by decide +kernel
theorem dX7_best_94 : decode (mB 62) 94 = .ok (.iconst 2, 1) := by decide +kernel
theorem dX7_best_95 : decode (mB 62) 95 = .ok (.iload 8, 2) := by decide +kernel
theorem dX7_best_97 : decode (mB 62) 97 = .ok (.iastore, 1) := by decide +kernel
theorem dX7_best_98 : decode (mB 62) 98 = .ok (.aload_n 0, 1) := by decide +kernel
theorem dX7_best_99 : decode (mB 62) 99 = .ok (.iload 4, 2) := by decide +kernel
theorem dX7_best_101 : decode (mB 62) 101 = .ok (.iconst 1, 1) := by decide +kernel
theorem dX7_best_102 : decode (mB 62) 102 = .ok (.invokevirtual 208, 3) := by decide +kernel
theorem dX7_best_105 : decode (mB 62) 105 = .ok (.bipush (-4), 2) := by decide +kernel
theorem dX7_best_107 : decode (mB 62) 107 = .ok (.if_icmp .eq 7, 3) := by decide +kernel
theorem dX7_best_110 : decode (mB 62) 110 = .ok (.iconst 1, 1) := by decide +kernel
theorem dX7_best_111 : decode (mB 62) 111 = .ok (.goto 4, 3) := by decide +kernel
theorem dX7_best_114 : decode (mB 62) 114 = .ok (.iconst 0, 1) := by decide +kernel
theorem dX7_best_115 : decode (mB 62) 115 = .ok (.istore 9, 2) := by decide +kernel
theorem dX7_best_117 : decode (mB 62) 117 = .ok (.aload_n 0, 1) := by decide +kernel
theorem dX7_best_118 : decode (mB 62) 118 = .ok (.invokevirtual 212, 3) := by decide +kernel
theorem dX7_best_121 : decode (mB 62) 121 = .ok (.istore 10, 2) := by decide +kernel
theorem dX7_best_123 : decode (mB 62) 123 = .ok (.iload 9, 2) := by decide +kernel
theorem dX7_best_125 : decode (mB 62) 125 = .ok (.ifCond .eq 31, 3) := by decide +kernel
theorem dX7_best_128 : decode (mB 62) 128 = .ok (.iload 5, 2) := by decide +kernel
theorem dX7_best_130 : decode (mB 62) 130 = .ok (.bipush (-4), 2) := by decide +kernel
theorem dX7_best_132 : decode (mB 62) 132 = .ok (.if_icmp .eq 10, 3) := by decide +kernel
theorem dX7_best_135 : decode (mB 62) 135 = .ok (.iload 10, 2) := by decide +kernel
theorem dX7_best_137 : decode (mB 62) 137 = .ok (.iload 6, 2) := by decide +kernel
theorem dX7_best_139 : decode (mB 62) 139 = .ok (.if_icmp .ge 17, 3) := by decide +kernel
theorem dX7_best_142 : decode (mB 62) 142 = .ok (.bipush 10, 2) := by decide +kernel
theorem dX7_best_144 : decode (mB 62) 144 = .ok (.iload 7, 2) := by decide +kernel
theorem dX7_best_146 : decode (mB 62) 146 = .ok (.imul, 1) := by decide +kernel
theorem dX7_best_147 : decode (mB 62) 147 = .ok (.iload 8, 2) := by decide +kernel
theorem dX7_best_149 : decode (mB 62) 149 = .ok (.iadd, 1) := by decide +kernel
theorem dX7_best_150 : decode (mB 62) 150 = .ok (.istore 5, 2) := by decide +kernel
theorem dX7_best_152 : decode (mB 62) 152 = .ok (.iload 10, 2) := by decide +kernel
theorem dX7_best_154 : decode (mB 62) 154 = .ok (.istore 6, 2) := by decide +kernel
theorem dX7_best_156 : decode (mB 62) 156 = .ok (.iinc 8 1, 3) := by decide +kernel
theorem dX7_best_159 : decode (mB 62) 159 = .ok (.goto (-105), 3) := by decide +kernel
theorem dX7_best_162 : decode (mB 62) 162 = .ok (.iinc 7 1, 3) := by decide +kernel
theorem dX7_best_165 : decode (mB 62) 165 = .ok (.goto (-120), 3) := by decide +kernel
theorem dX7_best_168 : decode (mB 62) 168 = .ok (.iload 5, 2) := by decide +kernel
theorem dX7_best_170 : decode (mB 62) 170 = .ok (.bipush (-4), 2) := by decide +kernel
theorem dX7_best_172 : decode (mB 62) 172 = .ok (.if_icmp .eq 9, 3) := by decide +kernel
theorem dX7_best_175 : decode (mB 62) 175 = .ok (.aload_n 0, 1) := by decide +kernel
theorem dX7_best_176 : decode (mB 62) 176 = .ok (.iload 6, 2) := by decide +kernel
theorem dX7_best_178 : decode (mB 62) 178 = .ok (.putfield 19, 3) := by decide +kernel
theorem dX7_best_181 : decode (mB 62) 181 = .ok (.iload 5, 2) := by decide +kernel
theorem dX7_best_183 : decode (mB 62) 183 = .ok (.ireturn, 1) := by decide +kernel
theorem dX7_price_0 : decode (mB 63) 0 = .ok (.aload_n 0, 1) := by decide +kernel
theorem dX7_price_1 : decode (mB 63) 1 = .ok (.getfield 19, 3) := by decide +kernel
theorem dX7_price_4 : decode (mB 63) 4 = .ok (.ireturn, 1) := by decide +kernel
theorem dX7_beginTrial_0 : decode (mB 64) 0 = .ok (.aload_n 0, 1) := by decide +kernel
theorem dX7_beginTrial_1 : decode (mB 64) 1 = .ok (.getfield 16, 3) := by decide +kernel
theorem dX7_beginTrial_4 : decode (mB 64) 4 = .ok (.aload_n 0, 1) := by decide +kernel
theorem dX7_beginTrial_5 : decode (mB 64) 5 = .ok (.getfield 10, 3) := by decide +kernel
theorem dX7_beginTrial_8 : decode (mB 64) 8 = .ok (.invokevirtual 216, 3) := by decide +kernel
theorem dX7_beginTrial_11 : decode (mB 64) 11 = .ok (.aload_n 0, 1) := by decide +kernel
theorem dX7_beginTrial_12 : decode (mB 64) 12 = .ok (.getfield 16, 3) := by decide +kernel
theorem dX7_beginTrial_15 : decode (mB 64) 15 = .ok (.getfield 71, 3) := by decide +kernel
theorem dX7_beginTrial_18 : decode (mB 64) 18 = .ok (.iconst 0, 1) := by decide +kernel
theorem dX7_beginTrial_19 : decode (mB 64) 19 = .ok (.putfield 75, 3) := by decide +kernel
theorem dX7_beginTrial_22 : decode (mB 64) 22 = .ok (.iload_n 2, 1) := by decide +kernel
theorem dX7_beginTrial_23 : decode (mB 64) 23 = .ok (.ifCond .le 24, 3) := by decide +kernel
theorem dX7_beginTrial_26 : decode (mB 64) 26 = .ok (.aload_n 0, 1) := by decide +kernel
theorem dX7_beginTrial_27 : decode (mB 64) 27 = .ok (.getfield 16, 3) := by decide +kernel
theorem dX7_beginTrial_30 : decode (mB 64) 30 = .ok (.getfield 71, 3) := by decide +kernel
theorem dX7_beginTrial_33 : decode (mB 64) 33 = .ok (.aload_n 0, 1) := by decide +kernel
theorem dX7_beginTrial_34 : decode (mB 64) 34 = .ok (.getfield 16, 3) := by decide +kernel
theorem dX7_beginTrial_37 : decode (mB 64) 37 = .ok (.getfield 30, 3) := by decide +kernel
theorem dX7_beginTrial_40 : decode (mB 64) 40 = .ok (.iconst 1, 1) := by decide +kernel
theorem dX7_beginTrial_41 : decode (mB 64) 41 = .ok (.iadd, 1) := by decide +kernel
theorem dX7_beginTrial_42 : decode (mB 64) 42 = .ok (.iload_n 1, 1) := by decide +kernel
theorem dX7_beginTrial_43 : decode (mB 64) 43 = .ok (.iload_n 2, 1) := by decide +kernel
theorem dX7_beginTrial_44 : decode (mB 64) 44 = .ok (.invokevirtual 80, 3) := by decide +kernel
theorem dX7_beginTrial_47 : decode (mB 64) 47 = .ok (.return_, 1) := by decide +kernel
theorem dX7_firstOfRest_0 : decode (mB 65) 0 = .ok (.bipush (-4), 2) := by decide +kernel
theorem dX7_firstOfRest_2 : decode (mB 65) 2 = .ok (.istore_n 3, 1) := by decide +kernel
theorem dX7_firstOfRest_3 : decode (mB 65) 3 = .ok (.iconst 0, 1) := by decide +kernel
theorem dX7_firstOfRest_4 : decode (mB 65) 4 = .ok (.istore 4, 2) := by decide +kernel
theorem dX7_firstOfRest_6 : decode (mB 65) 6 = .ok (.iconst 1, 1) := by decide +kernel
theorem dX7_firstOfRest_7 : decode (mB 65) 7 = .ok (.istore 5, 2) := by decide +kernel
theorem dX7_firstOfRest_9 : decode (mB 65) 9 = .ok (.iload 5, 2) := by decide +kernel
theorem dX7_firstOfRest_11 : decode (mB 65) 11 = .ok (.iload_n 1, 1) := by decide +kernel
theorem dX7_firstOfRest_12 : decode (mB 65) 12 = .ok (.if_icmp .gt 99, 3) := by decide +kernel
theorem dX7_firstOfRest_15 : decode (mB 65) 15 = .ok (.aload_n 0, 1) := by decide +kernel
theorem dX7_firstOfRest_16 : decode (mB 65) 16 = .ok (.getfield 16, 3) := by decide +kernel
theorem dX7_firstOfRest_19 : decode (mB 65) 19 = .ok (.invokevirtual 103, 3) := by decide +kernel
theorem dX7_firstOfRest_22 : decode (mB 65) 22 = .ok (.aload_n 0, 1) := by decide +kernel
theorem dX7_firstOfRest_23 : decode (mB 65) 23 = .ok (.getfield 16, 3) := by decide +kernel
theorem dX7_firstOfRest_26 : decode (mB 65) 26 = .ok (.getfield 197, 3) := by decide +kernel
theorem dX7_firstOfRest_29 : decode (mB 65) 29 = .ok (.ifCond .eq 10, 3) := by decide +kernel
theorem dX7_firstOfRest_32 : decode (mB 65) 32 = .ok (.iload 4, 2) := by decide +kernel
theorem dX7_firstOfRest_34 : decode (mB 65) 34 = .ok (.iconst 1, 1) := by decide +kernel
theorem dX7_firstOfRest_35 : decode (mB 65) 35 = .ok (.iadd, 1) := by decide +kernel
theorem dX7_firstOfRest_36 : decode (mB 65) 36 = .ok (.goto 4, 3) := by decide +kernel
theorem dX7_firstOfRest_39 : decode (mB 65) 39 = .ok (.iconst 0, 1) := by decide +kernel
theorem dX7_firstOfRest_40 : decode (mB 65) 40 = .ok (.istore 4, 2) := by decide +kernel
theorem dX7_firstOfRest_42 : decode (mB 65) 42 = .ok (.iload_n 3, 1) := by decide +kernel
theorem dX7_firstOfRest_43 : decode (mB 65) 43 = .ok (.bipush (-4), 2) := by decide +kernel
theorem dX7_firstOfRest_45 : decode (mB 65) 45 = .ok (.if_icmp .ne 18, 3) := by decide +kernel
theorem dX7_firstOfRest_48 : decode (mB 65) 48 = .ok (.iload 4, 2) := by decide +kernel
theorem dX7_firstOfRest_50 : decode (mB 65) 50 = .ok (.bipush 24, 2) := by decide +kernel
theorem dX7_firstOfRest_52 : decode (mB 65) 52 = .ok (.if_icmp .lt 11, 3) := by decide +kernel
theorem dX7_firstOfRest_55 : decode (mB 65) 55 = .ok (.iload 5, 2) := by decide +kernel
theorem dX7_firstOfRest_57 : decode (mB 65) 57 = .ok (.bipush 24, 2) := by decide +kernel
theorem dX7_firstOfRest_59 : decode (mB 65) 59 = .ok (.isub, 1) := by decide +kernel
theorem dX7_firstOfRest_60 : decode (mB 65) 60 = .ok (.iconst 1, 1) := by decide +kernel
theorem dX7_firstOfRest_61 : decode (mB 65) 61 = .ok (.iadd, 1) := by decide +kernel
theorem dX7_firstOfRest_62 : decode (mB 65) 62 = .ok (.istore_n 3, 1) := by decide +kernel
theorem dX7_firstOfRest_63 : decode (mB 65) 63 = .ok (.iload_n 3, 1) := by decide +kernel
theorem dX7_firstOfRest_64 : decode (mB 65) 64 = .ok (.bipush (-4), 2) := by decide +kernel
theorem dX7_firstOfRest_66 : decode (mB 65) 66 = .ok (.if_icmp .ne 19, 3) := by decide +kernel
theorem dX7_firstOfRest_69 : decode (mB 65) 69 = .ok (.iload 4, 2) := by decide +kernel
theorem dX7_firstOfRest_71 : decode (mB 65) 71 = .ok (.iload_n 1, 1) := by decide +kernel
theorem dX7_firstOfRest_72 : decode (mB 65) 72 = .ok (.iadd, 1) := by decide +kernel
theorem dX7_firstOfRest_73 : decode (mB 65) 73 = .ok (.iload 5, 2) := by decide +kernel
theorem dX7_firstOfRest_75 : decode (mB 65) 75 = .ok (.isub, 1) := by decide +kernel
theorem dX7_firstOfRest_76 : decode (mB 65) 76 = .ok (.bipush 24, 2) := by decide +kernel
theorem dX7_firstOfRest_78 : decode (mB 65) 78 = .ok (.if_icmp .ge 7, 3) := by decide +kernel
theorem dX7_firstOfRest_81 : decode (mB 65) 81 = .ok (.iconst 1, 1) := by decide +kernel
theorem dX7_firstOfRest_82 : decode (mB 65) 82 = .ok (.goto 4, 3) := by decide +kernel
theorem dX7_firstOfRest_85 : decode (mB 65) 85 = .ok (.iconst 0, 1) := by decide +kernel
theorem dX7_firstOfRest_86 : decode (mB 65) 86 = .ok (.istore 6, 2) := by decide +kernel
theorem dX7_firstOfRest_88 : decode (mB 65) 88 = .ok (.iload 6, 2) := by decide +kernel
theorem dX7_firstOfRest_90 : decode (mB 65) 90 = .ok (.ifCond .ne 13, 3) := by decide +kernel
theorem dX7_firstOfRest_93 : decode (mB 65) 93 = .ok (.iload_n 3, 1) := by decide +kernel
theorem dX7_firstOfRest_94 : decode (mB 65) 94 = .ok (.bipush (-4), 2) := by decide +kernel
theorem dX7_firstOfRest_96 : decode (mB 65) 96 = .ok (.if_icmp .eq 9, 3) := by decide +kernel
theorem dX7_firstOfRest_99 : decode (mB 65) 99 = .ok (.iload_n 2, 1) := by decide +kernel
theorem dX7_firstOfRest_100 : decode (mB 65) 100 = .ok (.ifCond .ne 5, 3) := by decide +kernel
theorem dX7_firstOfRest_103 : decode (mB 65) 103 = .ok (.iload_n 3, 1) := by decide +kernel
theorem dX7_firstOfRest_104 : decode (mB 65) 104 = .ok (.ireturn, 1) := by decide +kernel
theorem dX7_firstOfRest_105 : decode (mB 65) 105 = .ok (.iinc 5 1, 3) := by decide +kernel
theorem dX7_firstOfRest_108 : decode (mB 65) 108 = .ok (.goto (-99), 3) := by decide +kernel
theorem dX7_firstOfRest_111 : decode (mB 65) 111 = .ok (.iload_n 3, 1) := by decide +kernel
theorem dX7_firstOfRest_112 : decode (mB 65) 112 = .ok (.ireturn, 1) := by decide +kernel
theorem dX7_trialPrice_0 : decode (mB 66) 0 = .ok (.aload_n 0, 1) := by decide +kernel
theorem dX7_trialPrice_1 : decode (mB 66) 1 = .ok (.getfield 16, 3) := by decide +kernel
theorem dX7_trialPrice_4 : decode (mB 66) 4 = .ok (.getfield 55, 3) := by decide +kernel
theorem dX7_trialPrice_7 : decode (mB 66) 7 = .ok (.getfield 187, 3) := by decide +kernel
theorem dX7_trialPrice_10 : decode (mB 66) 10 = .ok (.aload_n 0, 1) := by decide +kernel
theorem dX7_trialPrice_11 : decode (mB 66) 11 = .ok (.getfield 10, 3) := by decide +kernel
theorem dX7_trialPrice_14 : decode (mB 66) 14 = .ok (.getfield 55, 3) := by decide +kernel
theorem dX7_trialPrice_17 : decode (mB 66) 17 = .ok (.getfield 187, 3) := by decide +kernel
theorem dX7_trialPrice_20 : decode (mB 66) 20 = .ok (.isub, 1) := by decide +kernel
theorem dX7_trialPrice_21 : decode (mB 66) 21 = .ok (.aload_n 0, 1) := by decide +kernel
theorem dX7_trialPrice_22 : decode (mB 66) 22 = .ok (.getfield 16, 3) := by decide +kernel
theorem dX7_trialPrice_25 : decode (mB 66) 25 = .ok (.getfield 193, 3) := by decide +kernel
theorem dX7_trialPrice_28 : decode (mB 66) 28 = .ok (.iadd, 1) := by decide +kernel
theorem dX7_trialPrice_29 : decode (mB 66) 29 = .ok (.aload_n 0, 1) := by decide +kernel
theorem dX7_trialPrice_30 : decode (mB 66) 30 = .ok (.getfield 10, 3) := by decide +kernel
theorem dX7_trialPrice_33 : decode (mB 66) 33 = .ok (.getfield 193, 3) := by decide +kernel
theorem dX7_trialPrice_36 : decode (mB 66) 36 = .ok (.isub, 1) := by decide +kernel
theorem dX7_trialPrice_37 : decode (mB 66) 37 = .ok (.ireturn, 1) := by decide +kernel
theorem dX7_callerOf_0 : decode (mB 67) 0 = .ok (.aload_n 0, 1) := by decide +kernel
theorem dX7_callerOf_1 : decode (mB 67) 1 = .ok (.getfield 10, 3) := by decide +kernel
theorem dX7_callerOf_4 : decode (mB 67) 4 = .ok (.getfield 118, 3) := by decide +kernel
theorem dX7_callerOf_7 : decode (mB 67) 7 = .ok (.getfield 220, 3) := by decide +kernel
theorem dX7_callerOf_10 : decode (mB 67) 10 = .ok (.iload_n 1, 1) := by decide +kernel
theorem dX7_callerOf_11 : decode (mB 67) 11 = .ok (.iaload, 1) := by decide +kernel
theorem dX7_callerOf_12 : decode (mB 67) 12 = .ok (.istore_n 2, 1) := by decide +kernel
theorem dX7_callerOf_13 : decode (mB 67) 13 = .ok (.iload_n 2, 1) := by decide +kernel
theorem dX7_callerOf_14 : decode (mB 67) 14 = .ok (.iconst (-1), 1) := by decide +kernel
theorem dX7_callerOf_15 : decode (mB 67) 15 = .ok (.if_icmp .ne 6, 3) := by decide +kernel
theorem dX7_callerOf_18 : decode (mB 67) 18 = .ok (.bipush (-3), 2) := by decide +kernel
theorem dX7_callerOf_20 : decode (mB 67) 20 = .ok (.ireturn, 1) := by decide +kernel
theorem dX7_callerOf_21 : decode (mB 67) 21 = .ok (.iload_n 2, 1) := by decide +kernel
theorem dX7_callerOf_22 : decode (mB 67) 22 = .ok (.sipush 1000, 3) := by decide +kernel
theorem dX7_callerOf_25 : decode (mB 67) 25 = .ok (.if_icmp .lt 8, 3) := by decide +kernel
theorem dX7_callerOf_28 : decode (mB 67) 28 = .ok (.bipush (-4), 2) := by decide +kernel
theorem dX7_callerOf_30 : decode (mB 67) 30 = .ok (.goto 15, 3) := by decide +kernel
theorem dX7_callerOf_33 : decode (mB 67) 33 = .ok (.aload_n 0, 1) := by decide +kernel
theorem dX7_callerOf_34 : decode (mB 67) 34 = .ok (.getfield 10, 3) := by decide +kernel
theorem dX7_callerOf_37 : decode (mB 67) 37 = .ok (.getfield 118, 3) := by decide +kernel
theorem dX7_callerOf_40 : decode (mB 67) 40 = .ok (.getfield 144, 3) := by decide +kernel
theorem dX7_callerOf_43 : decode (mB 67) 43 = .ok (.iload_n 2, 1) := by decide +kernel
theorem dX7_callerOf_44 : decode (mB 67) 44 = .ok (.iaload, 1) := by decide +kernel
theorem dX7_callerOf_45 : decode (mB 67) 45 = .ok (.ireturn, 1) := by decide +kernel
theorem dX7_isService_0 : decode (mB 68) 0 = .ok (.iload_n 1, 1) := by decide +kernel
theorem dX7_isService_1 : decode (mB 68) 1 = .ok (.iconst 0, 1) := by decide +kernel
theorem dX7_isService_2 : decode (mB 68) 2 = .ok (.aload_n 0, 1) := by decide +kernel
theorem dX7_isService_3 : decode (mB 68) 3 = .ok (.getfield 10, 3) := by decide +kernel
theorem dX7_isService_6 : decode (mB 68) 6 = .ok (.getfield 27, 3) := by decide +kernel
theorem dX7_isService_9 : decode (mB 68) 9 = .ok (.iconst 1, 1) := by decide +kernel
theorem dX7_isService_10 : decode (mB 68) 10 = .ok (.isub, 1) := by decide +kernel
theorem dX7_isService_11 : decode (mB 68) 11 = .ok (.invokestatic 41, 3) := by decide +kernel
theorem dX7_isService_14 : decode (mB 68) 14 = .ok (.ireturn, 1) := by decide +kernel
theorem dX7_isKey_0 : decode (mB 69) 0 = .ok (.iload_n 0, 1) := by decide +kernel
theorem dX7_isKey_1 : decode (mB 69) 1 = .ok (.iconst 0, 1) := by decide +kernel
theorem dX7_isKey_2 : decode (mB 69) 2 = .ok (.bipush 7, 2) := by decide +kernel
theorem dX7_isKey_4 : decode (mB 69) 4 = .ok (.invokestatic 41, 3) := by decide +kernel
theorem dX7_isKey_7 : decode (mB 69) 7 = .ok (.ireturn, 1) := by decide +kernel
theorem dX7_isTriable_0 : decode (mB 70) 0 = .ok (.iload_n 0, 1) := by decide +kernel
theorem dX7_isTriable_1 : decode (mB 70) 1 = .ok (.bipush 24, 2) := by decide +kernel
theorem dX7_isTriable_3 : decode (mB 70) 3 = .ok (.sipush 400, 3) := by decide +kernel
theorem dX7_isTriable_6 : decode (mB 70) 6 = .ok (.invokestatic 41, 3) := by decide +kernel
theorem dX7_isTriable_9 : decode (mB 70) 9 = .ok (.ireturn, 1) := by decide +kernel
theorem dX7_isRule_0 : decode (mB 71) 0 = .ok (.iload_n 0, 1) := by decide +kernel
theorem dX7_isRule_1 : decode (mB 71) 1 = .ok (.iconst 0, 1) := by decide +kernel
theorem dX7_isRule_2 : decode (mB 71) 2 = .ok (.bipush 9, 2) := by decide +kernel
theorem dX7_isRule_4 : decode (mB 71) 4 = .ok (.invokestatic 41, 3) := by decide +kernel
theorem dX7_isRule_7 : decode (mB 71) 7 = .ok (.ifCond .eq 24, 3) := by decide +kernel
theorem dX7_isRule_10 : decode (mB 71) 10 = .ok (.iload_n 1, 1) := by decide +kernel
theorem dX7_isRule_11 : decode (mB 71) 11 = .ok (.getstatic 223, 3) := by decide +kernel
theorem dX7_isRule_14 : decode (mB 71) 14 = .ok (.iload_n 0, 1) := by decide +kernel
theorem dX7_isRule_15 : decode (mB 71) 15 = .ok (.iaload, 1) := by decide +kernel
theorem dX7_isRule_16 : decode (mB 71) 16 = .ok (.getstatic 226, 3) := by decide +kernel
theorem dX7_isRule_19 : decode (mB 71) 19 = .ok (.iload_n 0, 1) := by decide +kernel
theorem dX7_isRule_20 : decode (mB 71) 20 = .ok (.iaload, 1) := by decide +kernel
theorem dX7_isRule_21 : decode (mB 71) 21 = .ok (.invokestatic 41, 3) := by decide +kernel
theorem dX7_isRule_24 : decode (mB 71) 24 = .ok (.ifCond .eq 7, 3) := by decide +kernel
theorem dX7_isRule_27 : decode (mB 71) 27 = .ok (.iconst 1, 1) := by decide +kernel
theorem dX7_isRule_28 : decode (mB 71) 28 = .ok (.goto 4, 3) := by decide +kernel
theorem dX7_isRule_31 : decode (mB 71) 31 = .ok (.iconst 0, 1) := by decide +kernel
theorem dX7_isRule_32 : decode (mB 71) 32 = .ok (.ireturn, 1) := by decide +kernel
theorem dX7_within_0 : decode (mB 72) 0 = .ok (.iload_n 0, 1) := by decide +kernel
theorem dX7_within_1 : decode (mB 72) 1 = .ok (.iload_n 1, 1) := by decide +kernel
theorem dX7_within_2 : decode (mB 72) 2 = .ok (.if_icmp .lt 12, 3) := by decide +kernel
theorem dX7_within_5 : decode (mB 72) 5 = .ok (.iload_n 0, 1) := by decide +kernel
theorem dX7_within_6 : decode (mB 72) 6 = .ok (.iload_n 2, 1) := by decide +kernel
theorem dX7_within_7 : decode (mB 72) 7 = .ok (.if_icmp .gt 7, 3) := by decide +kernel
theorem dX7_within_10 : decode (mB 72) 10 = .ok (.iconst 1, 1) := by decide +kernel
theorem dX7_within_11 : decode (mB 72) 11 = .ok (.goto 4, 3) := by decide +kernel
theorem dX7_within_14 : decode (mB 72) 14 = .ok (.iconst 0, 1) := by decide +kernel
theorem dX7_within_15 : decode (mB 72) 15 = .ok (.ireturn, 1) := by decide +kernel
theorem dX8_init_0 : decode cX8_init 0 = .ok (.aload_n 0, 1) := by decide +kernel
theorem dX8_init_1 : decode cX8_init 1 = .ok (.invokespecial 3, 3) := by decide +kernel
theorem dX8_init_4 : decode cX8_init 4 = .ok (.aload_n 0, 1) := by decide +kernel
theorem dX8_init_5 : decode cX8_init 5 = .ok (.bipush 6, 2) := by decide +kernel
theorem dX8_init_7 : decode cX8_init 7 = .ok (.newarray .int, 2) := by decide +kernel
theorem dX8_init_9 : decode cX8_init 9 = .ok (.putfield 9, 3) := by decide +kernel
theorem dX8_init_12 : decode cX8_init 12 = .ok (.aload_n 0, 1) := by decide +kernel
theorem dX8_init_13 : decode cX8_init 13 = .ok (.bipush 6, 2) := by decide +kernel
theorem dX8_init_15 : decode cX8_init 15 = .ok (.newarray .int, 2) := by decide +kernel
theorem dX8_init_17 : decode cX8_init 17 = .ok (.putfield 15, 3) := by decide +kernel
theorem dX8_init_20 : decode cX8_init 20 = .ok (.aload_n 0, 1) := by decide +kernel
theorem dX8_init_21 : decode cX8_init 21 = .ok (.bipush 78, 2) := by decide +kernel
theorem dX8_init_23 : decode cX8_init 23 = .ok (.newarray .int, 2) := by decide +kernel
theorem dX8_init_25 : decode cX8_init 25 = .ok (.putfield 18, 3) := by decide +kernel
theorem dX8_init_28 : decode cX8_init 28 = .ok (.aload_n 0, 1) := by decide +kernel
theorem dX8_init_29 : decode cX8_init 29 = .ok (.bipush 48, 2) := by decide +kernel
theorem dX8_init_31 : decode cX8_init 31 = .ok (.newarray .int, 2) := by decide +kernel
theorem dX8_init_33 : decode cX8_init 33 = .ok (.putfield 21, 3) := by decide +kernel
theorem dX8_init_36 : decode cX8_init 36 = .ok (.aload_n 0, 1) := by decide +kernel
theorem dX8_init_37 : decode cX8_init 37 = .ok (.bipush 120, 2) := by decide +kernel
theorem dX8_init_39 : decode cX8_init 39 = .ok (.newarray .int, 2) := by decide +kernel
theorem dX8_init_41 : decode cX8_init 41 = .ok (.putfield 24, 3) := by decide +kernel
theorem dX8_init_44 : decode cX8_init 44 = .ok (.aload_n 0, 1) := by decide +kernel
theorem dX8_init_45 : decode cX8_init 45 = .ok (.bipush 6, 2) := by decide +kernel
theorem dX8_init_47 : decode cX8_init 47 = .ok (.newarray .int, 2) := by decide +kernel
theorem dX8_init_49 : decode cX8_init 49 = .ok (.putfield 27, 3) := by decide +kernel
theorem dX8_init_52 : decode cX8_init 52 = .ok (.aload_n 0, 1) := by decide +kernel
theorem dX8_init_53 : decode cX8_init 53 = .ok (.bipush 120, 2) := by decide +kernel
theorem dX8_init_55 : decode cX8_init 55 = .ok (.newarray .int, 2) := by decide +kernel
theorem dX8_init_57 : decode cX8_init 57 = .ok (.putfield 30, 3) := by decide +kernel
theorem dX8_init_60 : decode cX8_init 60 = .ok (.aload_n 0, 1) := by decide +kernel
theorem dX8_init_61 : decode cX8_init 61 = .ok (.bipush 120, 2) := by decide +kernel
theorem dX8_init_63 : decode cX8_init 63 = .ok (.newarray .int, 2) := by decide +kernel
theorem dX8_init_65 : decode cX8_init 65 = .ok (.putfield 33, 3) := by decide +kernel
theorem dX8_init_68 : decode cX8_init 68 = .ok (.aload_n 0, 1) := by decide +kernel
theorem dX8_init_69 : decode cX8_init 69 = .ok (.bipush 120, 2) := by decide +kernel
theorem dX8_init_71 : decode cX8_init 71 = .ok (.newarray .int, 2) := by decide +kernel
theorem dX8_init_73 : decode cX8_init 73 = .ok (.putfield 36, 3) := by decide +kernel
theorem dX8_init_76 : decode cX8_init 76 = .ok (.aload_n 0, 1) := by decide +kernel
theorem dX8_init_77 : decode cX8_init 77 = .ok (.bipush 120, 2) := by decide +kernel
theorem dX8_init_79 : decode cX8_init 79 = .ok (.newarray .int, 2) := by decide +kernel
theorem dX8_init_81 : decode cX8_init 81 = .ok (.putfield 39, 3) := by decide +kernel
theorem dX8_init_84 : decode cX8_init 84 = .ok (.aload_n 0, 1) := by decide +kernel
theorem dX8_init_85 : decode cX8_init 85 = .ok (.bipush 120, 2) := by decide +kernel
theorem dX8_init_87 : decode cX8_init 87 = .ok (.newarray .int, 2) := by decide +kernel
theorem dX8_init_89 : decode cX8_init 89 = .ok (.putfield 42, 3) := by decide +kernel
theorem dX8_init_92 : decode cX8_init 92 = .ok (.aload_n 0, 1) := by decide +kernel
theorem dX8_init_93 : decode cX8_init 93 = .ok (.bipush 120, 2) := by decide +kernel
theorem dX8_init_95 : decode cX8_init 95 = .ok (.newarray .int, 2) := by decide +kernel
theorem dX8_init_97 : decode cX8_init 97 = .ok (.putfield 45, 3) := by decide +kernel
theorem dX8_init_100 : decode cX8_init 100 = .ok (.aload_n 0, 1) := by decide +kernel
theorem dX8_init_101 : decode cX8_init 101 = .ok (.bipush 120, 2) := by decide +kernel
theorem dX8_init_103 : decode cX8_init 103 = .ok (.newarray .int, 2) := by decide +kernel
theorem dX8_init_105 : decode cX8_init 105 = .ok (.putfield 48, 3) := by decide +kernel
theorem dX8_init_108 : decode cX8_init 108 = .ok (.aload_n 0, 1) := by decide +kernel
theorem dX8_init_109 : decode cX8_init 109 = .ok (.bipush 120, 2) := by decide +kernel
theorem dX8_init_111 : decode cX8_init 111 = .ok (.newarray .int, 2) := by decide +kernel
theorem dX8_init_113 : decode cX8_init 113 = .ok (.putfield 51, 3) := by decide +kernel
theorem dX8_init_116 : decode cX8_init 116 = .ok (.aload_n 0, 1) := by decide +kernel
theorem dX8_init_117 : decode cX8_init 117 = .ok (.bipush 100, 2) := by decide +kernel
theorem dX8_init_119 : decode cX8_init 119 = .ok (.newarray .int, 2) := by decide +kernel
theorem dX8_init_121 : decode cX8_init 121 = .ok (.putfield 54, 3) := by decide +kernel
theorem dX8_init_124 : decode cX8_init 124 = .ok (.aload_n 0, 1) := by decide +kernel
theorem dX8_init_125 : decode cX8_init 125 = .ok (.bipush 100, 2) := by decide +kernel
theorem dX8_init_127 : decode cX8_init 127 = .ok (.newarray .int, 2) := by decide +kernel
theorem dX8_init_129 : decode cX8_init 129 = .ok (.putfield 57, 3) := by decide +kernel
theorem dX8_init_132 : decode cX8_init 132 = .ok (.aload_n 0, 1) := by decide +kernel
theorem dX8_init_133 : decode cX8_init 133 = .ok (.bipush 100, 2) := by decide +kernel
theorem dX8_init_135 : decode cX8_init 135 = .ok (.newarray .int, 2) := by decide +kernel
theorem dX8_init_137 : decode cX8_init 137 = .ok (.putfield 60, 3) := by decide +kernel
theorem dX8_init_140 : decode cX8_init 140 = .ok (.aload_n 0, 1) := by decide +kernel
theorem dX8_init_141 : decode cX8_init 141 = .ok (.bipush 100, 2) := by decide +kernel
theorem dX8_init_143 : decode cX8_init 143 = .ok (.newarray .int, 2) := by decide +kernel
theorem dX8_init_145 : decode cX8_init 145 = .ok (.putfield 63, 3) := by decide +kernel
theorem dX8_init_148 : decode cX8_init 148 = .ok (.aload_n 0, 1) := by decide +kernel
theorem dX8_init_149 : decode cX8_init 149 = .ok (.bipush 100, 2) := by decide +kernel
theorem dX8_init_151 : decode cX8_init 151 = .ok (.newarray .int, 2) := by decide +kernel
theorem dX8_init_153 : decode cX8_init 153 = .ok (.putfield 66, 3) := by decide +kernel
theorem dX8_init_156 : decode cX8_init 156 = .ok (.return_, 1) := by decide +kernel
theorem dX8_copy_0 : decode (mB 73) 0 = .ok (.aload_n 0, 1) := by decide +kernel
theorem dX8_copy_1 : decode (mB 73) 1 = .ok (.aload_n 1, 1) := by decide +kernel
theorem dX8_copy_2 : decode (mB 73) 2 = .ok (.getfield 69, 3) := by decide +kernel
theorem dX8_copy_5 : decode (mB 73) 5 = .ok (.putfield 69, 3) := by decide +kernel
theorem dX8_copy_8 : decode (mB 73) 8 = .ok (.aload_n 0, 1) := by decide +kernel
theorem dX8_copy_9 : decode (mB 73) 9 = .ok (.aload_n 1, 1) := by decide +kernel
theorem dX8_copy_10 : decode (mB 73) 10 = .ok (.getfield 73, 3) := by decide +kernel
theorem dX8_copy_13 : decode (mB 73) 13 = .ok (.putfield 73, 3) := by decide +kernel
theorem dX8_copy_16 : decode (mB 73) 16 = .ok (.aload_n 0, 1) := by decide +kernel
theorem dX8_copy_17 : decode (mB 73) 17 = .ok (.aload_n 1, 1) := by decide +kernel
theorem dX8_copy_18 : decode (mB 73) 18 = .ok (.getfield 76, 3) := by decide +kernel
theorem dX8_copy_21 : decode (mB 73) 21 = .ok (.putfield 76, 3) := by decide +kernel
theorem dX8_copy_24 : decode (mB 73) 24 = .ok (.aload_n 0, 1) := by decide +kernel
theorem dX8_copy_25 : decode (mB 73) 25 = .ok (.aload_n 1, 1) := by decide +kernel
theorem dX8_copy_26 : decode (mB 73) 26 = .ok (.getfield 79, 3) := by decide +kernel
theorem dX8_copy_29 : decode (mB 73) 29 = .ok (.putfield 79, 3) := by decide +kernel
theorem dX8_copy_32 : decode (mB 73) 32 = .ok (.aload_n 0, 1) := by decide +kernel
theorem dX8_copy_33 : decode (mB 73) 33 = .ok (.aload_n 1, 1) := by decide +kernel
theorem dX8_copy_34 : decode (mB 73) 34 = .ok (.getfield 82, 3) := by decide +kernel
theorem dX8_copy_37 : decode (mB 73) 37 = .ok (.putfield 82, 3) := by decide +kernel
theorem dX8_copy_40 : decode (mB 73) 40 = .ok (.aload_n 0, 1) := by decide +kernel
theorem dX8_copy_41 : decode (mB 73) 41 = .ok (.aload_n 1, 1) := by decide +kernel
theorem dX8_copy_42 : decode (mB 73) 42 = .ok (.getfield 85, 3) := by decide +kernel
theorem dX8_copy_45 : decode (mB 73) 45 = .ok (.putfield 85, 3) := by decide +kernel
theorem dX8_copy_48 : decode (mB 73) 48 = .ok (.aload_n 0, 1) := by decide +kernel
theorem dX8_copy_49 : decode (mB 73) 49 = .ok (.aload_n 1, 1) := by decide +kernel
theorem dX8_copy_50 : decode (mB 73) 50 = .ok (.getfield 88, 3) := by decide +kernel
theorem dX8_copy_53 : decode (mB 73) 53 = .ok (.putfield 88, 3) := by decide +kernel
theorem dX8_copy_56 : decode (mB 73) 56 = .ok (.aload_n 0, 1) := by decide +kernel
theorem dX8_copy_57 : decode (mB 73) 57 = .ok (.aload_n 1, 1) := by decide +kernel
theorem dX8_copy_58 : decode (mB 73) 58 = .ok (.getfield 91, 3) := by decide +kernel
theorem dX8_copy_61 : decode (mB 73) 61 = .ok (.putfield 91, 3) := by decide +kernel
theorem dX8_copy_64 : decode (mB 73) 64 = .ok (.aload_n 0, 1) := by decide +kernel
theorem dX8_copy_65 : decode (mB 73) 65 = .ok (.aload_n 1, 1) := by decide +kernel
theorem dX8_copy_66 : decode (mB 73) 66 = .ok (.getfield 94, 3) := by decide +kernel
theorem dX8_copy_69 : decode (mB 73) 69 = .ok (.putfield 94, 3) := by decide +kernel
theorem dX8_copy_72 : decode (mB 73) 72 = .ok (.aload_n 0, 1) := by decide +kernel
theorem dX8_copy_73 : decode (mB 73) 73 = .ok (.aload_n 1, 1) := by decide +kernel
theorem dX8_copy_74 : decode (mB 73) 74 = .ok (.getfield 97, 3) := by decide +kernel
theorem dX8_copy_77 : decode (mB 73) 77 = .ok (.putfield 97, 3) := by decide +kernel
theorem dX8_copy_80 : decode (mB 73) 80 = .ok (.iconst 0, 1) := by decide +kernel
theorem dX8_copy_81 : decode (mB 73) 81 = .ok (.istore_n 2, 1) := by decide +kernel
theorem dX8_copy_82 : decode (mB 73) 82 = .ok (.iload_n 2, 1) := by decide +kernel
theorem dX8_copy_83 : decode (mB 73) 83 = .ok (.bipush 6, 2) := by decide +kernel
theorem dX8_copy_85 : decode (mB 73) 85 = .ok (.if_icmp .ge 45, 3) := by decide +kernel
theorem dX8_copy_88 : decode (mB 73) 88 = .ok (.aload_n 0, 1) := by decide +kernel
theorem dX8_copy_89 : decode (mB 73) 89 = .ok (.getfield 9, 3) := by decide +kernel
theorem dX8_copy_92 : decode (mB 73) 92 = .ok (.iload_n 2, 1) := by decide +kernel
theorem dX8_copy_93 : decode (mB 73) 93 = .ok (.aload_n 1, 1) := by decide +kernel
theorem dX8_copy_94 : decode (mB 73) 94 = .ok (.getfield 9, 3) := by decide +kernel
theorem dX8_copy_97 : decode (mB 73) 97 = .ok (.iload_n 2, 1) := by decide +kernel
theorem dX8_copy_98 : decode (mB 73) 98 = .ok (.iaload, 1) := by decide +kernel
theorem dX8_copy_99 : decode (mB 73) 99 = .ok (.iastore, 1) := by decide +kernel
theorem dX8_copy_100 : decode (mB 73) 100 = .ok (.aload_n 0, 1) := by decide +kernel
theorem dX8_copy_101 : decode (mB 73) 101 = .ok (.getfield 15, 3) := by decide +kernel
theorem dX8_copy_104 : decode (mB 73) 104 = .ok (.iload_n 2, 1) := by decide +kernel
theorem dX8_copy_105 : decode (mB 73) 105 = .ok (.aload_n 1, 1) := by decide +kernel
theorem dX8_copy_106 : decode (mB 73) 106 = .ok (.getfield 15, 3) := by decide +kernel
theorem dX8_copy_109 : decode (mB 73) 109 = .ok (.iload_n 2, 1) := by decide +kernel
theorem dX8_copy_110 : decode (mB 73) 110 = .ok (.iaload, 1) := by decide +kernel
theorem dX8_copy_111 : decode (mB 73) 111 = .ok (.iastore, 1) := by decide +kernel
theorem dX8_copy_112 : decode (mB 73) 112 = .ok (.aload_n 0, 1) := by decide +kernel
theorem dX8_copy_113 : decode (mB 73) 113 = .ok (.getfield 27, 3) := by decide +kernel
theorem dX8_copy_116 : decode (mB 73) 116 = .ok (.iload_n 2, 1) := by decide +kernel
theorem dX8_copy_117 : decode (mB 73) 117 = .ok (.aload_n 1, 1) := by decide +kernel
theorem dX8_copy_118 : decode (mB 73) 118 = .ok (.getfield 27, 3) := by decide +kernel
theorem dX8_copy_121 : decode (mB 73) 121 = .ok (.iload_n 2, 1) := by decide +kernel
theorem dX8_copy_122 : decode (mB 73) 122 = .ok (.iaload, 1) := by decide +kernel
theorem dX8_copy_123 : decode (mB 73) 123 = .ok (.iastore, 1) := by decide +kernel
theorem dX8_copy_124 : decode (mB 73) 124 = .ok (.iinc 2 1, 3) := by decide +kernel
theorem dX8_copy_127 : decode (mB 73) 127 = .ok (.goto (-45), 3) := by decide +kernel
theorem dX8_copy_130 : decode (mB 73) 130 = .ok (.iconst 0, 1) := by decide +kernel
theorem dX8_copy_131 : decode (mB 73) 131 = .ok (.istore_n 2, 1) := by decide +kernel
theorem dX8_copy_132 : decode (mB 73) 132 = .ok (.iload_n 2, 1) := by decide +kernel
theorem dX8_copy_133 : decode (mB 73) 133 = .ok (.bipush 78, 2) := by decide +kernel
theorem dX8_copy_135 : decode (mB 73) 135 = .ok (.if_icmp .ge 21, 3) := by decide +kernel
theorem dX8_copy_138 : decode (mB 73) 138 = .ok (.aload_n 0, 1) := by decide +kernel
theorem dX8_copy_139 : decode (mB 73) 139 = .ok (.getfield 18, 3) := by decide +kernel
theorem dX8_copy_142 : decode (mB 73) 142 = .ok (.iload_n 2, 1) := by decide +kernel
theorem dX8_copy_143 : decode (mB 73) 143 = .ok (.aload_n 1, 1) := by decide +kernel
theorem dX8_copy_144 : decode (mB 73) 144 = .ok (.getfield 18, 3) := by decide +kernel
theorem dX8_copy_147 : decode (mB 73) 147 = .ok (.iload_n 2, 1) := by decide +kernel
theorem dX8_copy_148 : decode (mB 73) 148 = .ok (.iaload, 1) := by decide +kernel
theorem dX8_copy_149 : decode (mB 73) 149 = .ok (.iastore, 1) := by decide +kernel
theorem dX8_copy_150 : decode (mB 73) 150 = .ok (.iinc 2 1, 3) := by decide +kernel
theorem dX8_copy_153 : decode (mB 73) 153 = .ok (.goto (-21), 3) := by decide +kernel
theorem dX8_copy_156 : decode (mB 73) 156 = .ok (.iconst 0, 1) := by decide +kernel
theorem dX8_copy_157 : decode (mB 73) 157 = .ok (.istore_n 2, 1) := by decide +kernel
theorem dX8_copy_158 : decode (mB 73) 158 = .ok (.iload_n 2, 1) := by decide +kernel
theorem dX8_copy_159 : decode (mB 73) 159 = .ok (.bipush 48, 2) := by decide +kernel
theorem dX8_copy_161 : decode (mB 73) 161 = .ok (.if_icmp .ge 21, 3) := by decide +kernel
theorem dX8_copy_164 : decode (mB 73) 164 = .ok (.aload_n 0, 1) := by decide +kernel
theorem dX8_copy_165 : decode (mB 73) 165 = .ok (.getfield 21, 3) := by decide +kernel
theorem dX8_copy_168 : decode (mB 73) 168 = .ok (.iload_n 2, 1) := by decide +kernel
theorem dX8_copy_169 : decode (mB 73) 169 = .ok (.aload_n 1, 1) := by decide +kernel
theorem dX8_copy_170 : decode (mB 73) 170 = .ok (.getfield 21, 3) := by decide +kernel
theorem dX8_copy_173 : decode (mB 73) 173 = .ok (.iload_n 2, 1) := by decide +kernel
theorem dX8_copy_174 : decode (mB 73) 174 = .ok (.iaload, 1) := by decide +kernel
theorem dX8_copy_175 : decode (mB 73) 175 = .ok (.iastore, 1) := by decide +kernel
theorem dX8_copy_176 : decode (mB 73) 176 = .ok (.iinc 2 1, 3) := by decide +kernel
theorem dX8_copy_179 : decode (mB 73) 179 = .ok (.goto (-21), 3) := by decide +kernel
theorem dX8_copy_182 : decode (mB 73) 182 = .ok (.iconst 0, 1) := by decide +kernel
theorem dX8_copy_183 : decode (mB 73) 183 = .ok (.istore_n 2, 1) := by decide +kernel
theorem dX8_copy_184 : decode (mB 73) 184 = .ok (.iload_n 2, 1) := by decide +kernel
theorem dX8_copy_185 : decode (mB 73) 185 = .ok (.bipush 120, 2) := by decide +kernel
theorem dX8_copy_187 : decode (mB 73) 187 = .ok (.if_icmp .ge 21, 3) := by decide +kernel
theorem dX8_copy_190 : decode (mB 73) 190 = .ok (.aload_n 0, 1) := by decide +kernel
theorem dX8_copy_191 : decode (mB 73) 191 = .ok (.getfield 24, 3) := by decide +kernel
theorem dX8_copy_194 : decode (mB 73) 194 = .ok (.iload_n 2, 1) := by decide +kernel
theorem dX8_copy_195 : decode (mB 73) 195 = .ok (.aload_n 1, 1) := by decide +kernel
theorem dX8_copy_196 : decode (mB 73) 196 = .ok (.getfield 24, 3) := by decide +kernel
theorem dX8_copy_199 : decode (mB 73) 199 = .ok (.iload_n 2, 1) := by decide +kernel
theorem dX8_copy_200 : decode (mB 73) 200 = .ok (.iaload, 1) := by decide +kernel
theorem dX8_copy_201 : decode (mB 73) 201 = .ok (.iastore, 1) := by decide +kernel
theorem dX8_copy_202 : decode (mB 73) 202 = .ok (.iinc 2 1, 3) := by decide +kernel
theorem dX8_copy_205 : decode (mB 73) 205 = .ok (.goto (-21), 3) := by decide +kernel
theorem dX8_copy_208 : decode (mB 73) 208 = .ok (.iconst 0, 1) := by decide +kernel
theorem dX8_copy_209 : decode (mB 73) 209 = .ok (.istore_n 2, 1) := by decide +kernel
theorem dX8_copy_210 : decode (mB 73) 210 = .ok (.iload_n 2, 1) := by decide +kernel
theorem dX8_copy_211 : decode (mB 73) 211 = .ok (.aload_n 1, 1) := by decide +kernel
theorem dX8_copy_212 : decode (mB 73) 212 = .ok (.getfield 73, 3) := by decide +kernel
theorem dX8_copy_215 : decode (mB 73) 215 = .ok (.if_icmp .ge 105, 3) := by decide +kernel
theorem dX8_copy_218 : decode (mB 73) 218 = .ok (.aload_n 0, 1) := by decide +kernel
theorem dX8_copy_219 : decode (mB 73) 219 = .ok (.getfield 30, 3) := by decide +kernel
theorem dX8_copy_222 : decode (mB 73) 222 = .ok (.iload_n 2, 1) := by decide +kernel
theorem dX8_copy_223 : decode (mB 73) 223 = .ok (.aload_n 1, 1) := by decide +kernel
theorem dX8_copy_224 : decode (mB 73) 224 = .ok (.getfield 30, 3) := by decide +kernel
theorem dX8_copy_227 : decode (mB 73) 227 = .ok (.iload_n 2, 1) := by decide +kernel
theorem dX8_copy_228 : decode (mB 73) 228 = .ok (.iaload, 1) := by decide +kernel
theorem dX8_copy_229 : decode (mB 73) 229 = .ok (.iastore, 1) := by decide +kernel
theorem dX8_copy_230 : decode (mB 73) 230 = .ok (.aload_n 0, 1) := by decide +kernel
theorem dX8_copy_231 : decode (mB 73) 231 = .ok (.getfield 33, 3) := by decide +kernel
theorem dX8_copy_234 : decode (mB 73) 234 = .ok (.iload_n 2, 1) := by decide +kernel
theorem dX8_copy_235 : decode (mB 73) 235 = .ok (.aload_n 1, 1) := by decide +kernel
theorem dX8_copy_236 : decode (mB 73) 236 = .ok (.getfield 33, 3) := by decide +kernel
theorem dX8_copy_239 : decode (mB 73) 239 = .ok (.iload_n 2, 1) := by decide +kernel
theorem dX8_copy_240 : decode (mB 73) 240 = .ok (.iaload, 1) := by decide +kernel
theorem dX8_copy_241 : decode (mB 73) 241 = .ok (.iastore, 1) := by decide +kernel
theorem dX8_copy_242 : decode (mB 73) 242 = .ok (.aload_n 0, 1) := by decide +kernel
theorem dX8_copy_243 : decode (mB 73) 243 = .ok (.getfield 36, 3) := by decide +kernel
theorem dX8_copy_246 : decode (mB 73) 246 = .ok (.iload_n 2, 1) := by decide +kernel
theorem dX8_copy_247 : decode (mB 73) 247 = .ok (.aload_n 1, 1) := by decide +kernel
theorem dX8_copy_248 : decode (mB 73) 248 = .ok (.getfield 36, 3) := by decide +kernel
theorem dX8_copy_251 : decode (mB 73) 251 = .ok (.iload_n 2, 1) := by decide +kernel
theorem dX8_copy_252 : decode (mB 73) 252 = .ok (.iaload, 1) := by decide +kernel
theorem dX8_copy_253 : decode (mB 73) 253 = .ok (.iastore, 1) := by decide +kernel
theorem dX8_copy_254 : decode (mB 73) 254 = .ok (.aload_n 0, 1) := by decide +kernel
theorem dX8_copy_255 : decode (mB 73) 255 = .ok (.getfield 39, 3) := by decide +kernel
theorem dX8_copy_258 : decode (mB 73) 258 = .ok (.iload_n 2, 1) := by decide +kernel
theorem dX8_copy_259 : decode (mB 73) 259 = .ok (.aload_n 1, 1) := by decide +kernel
theorem dX8_copy_260 : decode (mB 73) 260 = .ok (.getfield 39, 3) := by decide +kernel
theorem dX8_copy_263 : decode (mB 73) 263 = .ok (.iload_n 2, 1) := by decide +kernel
theorem dX8_copy_264 : decode (mB 73) 264 = .ok (.iaload, 1) := by decide +kernel
theorem dX8_copy_265 : decode (mB 73) 265 = .ok (.iastore, 1) := by decide +kernel
theorem dX8_copy_266 : decode (mB 73) 266 = .ok (.aload_n 0, 1) := by decide +kernel
theorem dX8_copy_267 : decode (mB 73) 267 = .ok (.getfield 42, 3) := by decide +kernel
theorem dX8_copy_270 : decode (mB 73) 270 = .ok (.iload_n 2, 1) := by decide +kernel
theorem dX8_copy_271 : decode (mB 73) 271 = .ok (.aload_n 1, 1) := by decide +kernel
theorem dX8_copy_272 : decode (mB 73) 272 = .ok (.getfield 42, 3) := by decide +kernel
theorem dX8_copy_275 : decode (mB 73) 275 = .ok (.iload_n 2, 1) := by decide +kernel
theorem dX8_copy_276 : decode (mB 73) 276 = .ok (.iaload, 1) := by decide +kernel
theorem dX8_copy_277 : decode (mB 73) 277 = .ok (.iastore, 1) := by decide +kernel
theorem dX8_copy_278 : decode (mB 73) 278 = .ok (.aload_n 0, 1) := by decide +kernel
theorem dX8_copy_279 : decode (mB 73) 279 = .ok (.getfield 45, 3) := by decide +kernel
theorem dX8_copy_282 : decode (mB 73) 282 = .ok (.iload_n 2, 1) := by decide +kernel
theorem dX8_copy_283 : decode (mB 73) 283 = .ok (.aload_n 1, 1) := by decide +kernel
theorem dX8_copy_284 : decode (mB 73) 284 = .ok (.getfield 45, 3) := by decide +kernel
theorem dX8_copy_287 : decode (mB 73) 287 = .ok (.iload_n 2, 1) := by decide +kernel
theorem dX8_copy_288 : decode (mB 73) 288 = .ok (.iaload, 1) := by decide +kernel
theorem dX8_copy_289 : decode (mB 73) 289 = .ok (.iastore, 1) := by decide +kernel
theorem dX8_copy_290 : decode (mB 73) 290 = .ok (.aload_n 0, 1) := by decide +kernel
theorem dX8_copy_291 : decode (mB 73) 291 = .ok (.getfield 48, 3) := by decide +kernel
theorem dX8_copy_294 : decode (mB 73) 294 = .ok (.iload_n 2, 1) := by decide +kernel
theorem dX8_copy_295 : decode (mB 73) 295 = .ok (.aload_n 1, 1) := by decide +kernel
theorem dX8_copy_296 : decode (mB 73) 296 = .ok (.getfield 48, 3) := by decide +kernel
theorem dX8_copy_299 : decode (mB 73) 299 = .ok (.iload_n 2, 1) := by decide +kernel
theorem dX8_copy_300 : decode (mB 73) 300 = .ok (.iaload, 1) := by decide +kernel
theorem dX8_copy_301 : decode (mB 73) 301 = .ok (.iastore, 1) := by decide +kernel
theorem dX8_copy_302 : decode (mB 73) 302 = .ok (.aload_n 0, 1) := by decide +kernel
theorem dX8_copy_303 : decode (mB 73) 303 = .ok (.getfield 51, 3) := by decide +kernel
theorem dX8_copy_306 : decode (mB 73) 306 = .ok (.iload_n 2, 1) := by decide +kernel
theorem dX8_copy_307 : decode (mB 73) 307 = .ok (.aload_n 1, 1) := by decide +kernel
theorem dX8_copy_308 : decode (mB 73) 308 = .ok (.getfield 51, 3) := by decide +kernel
theorem dX8_copy_311 : decode (mB 73) 311 = .ok (.iload_n 2, 1) := by decide +kernel
theorem dX8_copy_312 : decode (mB 73) 312 = .ok (.iaload, 1) := by decide +kernel
theorem dX8_copy_313 : decode (mB 73) 313 = .ok (.iastore, 1) := by decide +kernel
theorem dX8_copy_314 : decode (mB 73) 314 = .ok (.iinc 2 1, 3) := by decide +kernel
theorem dX8_copy_317 : decode (mB 73) 317 = .ok (.goto (-107), 3) := by decide +kernel
theorem dX8_copy_320 : decode (mB 73) 320 = .ok (.iconst 0, 1) := by decide +kernel
theorem dX8_copy_321 : decode (mB 73) 321 = .ok (.istore_n 2, 1) := by decide +kernel
theorem dX8_copy_322 : decode (mB 73) 322 = .ok (.iload_n 2, 1) := by decide +kernel
theorem dX8_copy_323 : decode (mB 73) 323 = .ok (.aload_n 1, 1) := by decide +kernel
theorem dX8_copy_324 : decode (mB 73) 324 = .ok (.getfield 79, 3) := by decide +kernel
theorem dX8_copy_327 : decode (mB 73) 327 = .ok (.if_icmp .ge 69, 3) := by decide +kernel
theorem dX8_copy_330 : decode (mB 73) 330 = .ok (.aload_n 0, 1) := by decide +kernel
theorem dX8_copy_331 : decode (mB 73) 331 = .ok (.getfield 54, 3) := by decide +kernel
theorem dX8_copy_334 : decode (mB 73) 334 = .ok (.iload_n 2, 1) := by decide +kernel
theorem dX8_copy_335 : decode (mB 73) 335 = .ok (.aload_n 1, 1) := by decide +kernel
theorem dX8_copy_336 : decode (mB 73) 336 = .ok (.getfield 54, 3) := by decide +kernel
theorem dX8_copy_339 : decode (mB 73) 339 = .ok (.iload_n 2, 1) := by decide +kernel
theorem dX8_copy_340 : decode (mB 73) 340 = .ok (.iaload, 1) := by decide +kernel
theorem dX8_copy_341 : decode (mB 73) 341 = .ok (.iastore, 1) := by decide +kernel
theorem dX8_copy_342 : decode (mB 73) 342 = .ok (.aload_n 0, 1) := by decide +kernel
theorem dX8_copy_343 : decode (mB 73) 343 = .ok (.getfield 57, 3) := by decide +kernel
theorem dX8_copy_346 : decode (mB 73) 346 = .ok (.iload_n 2, 1) := by decide +kernel
theorem dX8_copy_347 : decode (mB 73) 347 = .ok (.aload_n 1, 1) := by decide +kernel
theorem dX8_copy_348 : decode (mB 73) 348 = .ok (.getfield 57, 3) := by decide +kernel
theorem dX8_copy_351 : decode (mB 73) 351 = .ok (.iload_n 2, 1) := by decide +kernel
theorem dX8_copy_352 : decode (mB 73) 352 = .ok (.iaload, 1) := by decide +kernel
theorem dX8_copy_353 : decode (mB 73) 353 = .ok (.iastore, 1) := by decide +kernel
theorem dX8_copy_354 : decode (mB 73) 354 = .ok (.aload_n 0, 1) := by decide +kernel
theorem dX8_copy_355 : decode (mB 73) 355 = .ok (.getfield 60, 3) := by decide +kernel
theorem dX8_copy_358 : decode (mB 73) 358 = .ok (.iload_n 2, 1) := by decide +kernel
theorem dX8_copy_359 : decode (mB 73) 359 = .ok (.aload_n 1, 1) := by decide +kernel
theorem dX8_copy_360 : decode (mB 73) 360 = .ok (.getfield 60, 3) := by decide +kernel
theorem dX8_copy_363 : decode (mB 73) 363 = .ok (.iload_n 2, 1) := by decide +kernel
theorem dX8_copy_364 : decode (mB 73) 364 = .ok (.iaload, 1) := by decide +kernel
theorem dX8_copy_365 : decode (mB 73) 365 = .ok (.iastore, 1) := by decide +kernel
theorem dX8_copy_366 : decode (mB 73) 366 = .ok (.aload_n 0, 1) := by decide +kernel
theorem dX8_copy_367 : decode (mB 73) 367 = .ok (.getfield 63, 3) := by decide +kernel
theorem dX8_copy_370 : decode (mB 73) 370 = .ok (.iload_n 2, 1) := by decide +kernel
theorem dX8_copy_371 : decode (mB 73) 371 = .ok (.aload_n 1, 1) := by decide +kernel
theorem dX8_copy_372 : decode (mB 73) 372 = .ok (.getfield 63, 3) := by decide +kernel
theorem dX8_copy_375 : decode (mB 73) 375 = .ok (.iload_n 2, 1) := by decide +kernel
theorem dX8_copy_376 : decode (mB 73) 376 = .ok (.iaload, 1) := by decide +kernel
theorem dX8_copy_377 : decode (mB 73) 377 = .ok (.iastore, 1) := by decide +kernel
theorem dX8_copy_378 : decode (mB 73) 378 = .ok (.aload_n 0, 1) := by decide +kernel
theorem dX8_copy_379 : decode (mB 73) 379 = .ok (.getfield 66, 3) := by decide +kernel
theorem dX8_copy_382 : decode (mB 73) 382 = .ok (.iload_n 2, 1) := by decide +kernel
theorem dX8_copy_383 : decode (mB 73) 383 = .ok (.aload_n 1, 1) := by decide +kernel
theorem dX8_copy_384 : decode (mB 73) 384 = .ok (.getfield 66, 3) := by decide +kernel
theorem dX8_copy_387 : decode (mB 73) 387 = .ok (.iload_n 2, 1) := by decide +kernel
theorem dX8_copy_388 : decode (mB 73) 388 = .ok (.iaload, 1) := by decide +kernel
theorem dX8_copy_389 : decode (mB 73) 389 = .ok (.iastore, 1) := by decide +kernel
theorem dX8_copy_390 : decode (mB 73) 390 = .ok (.iinc 2 1, 3) := by decide +kernel
theorem dX8_copy_393 : decode (mB 73) 393 = .ok (.goto (-71), 3) := by decide +kernel
theorem dX8_copy_396 : decode (mB 73) 396 = .ok (.return_, 1) := by decide +kernel
theorem dX9_init_0 : decode cX9_init 0 = .ok (.aload_n 0, 1) := by decide +kernel
theorem dX9_init_1 : decode cX9_init 1 = .ok (.invokespecial 1, 3) := by decide +kernel
theorem dX9_init_4 : decode cX9_init 4 = .ok (.aload_n 0, 1) := by decide +kernel
theorem dX9_init_5 : decode cX9_init 5 = .ok (.bipush 54, 2) := by decide +kernel
theorem dX9_init_7 : decode cX9_init 7 = .ok (.newarray .int, 2) := by decide +kernel
theorem dX9_init_9 : decode cX9_init 9 = .ok (.putfield 9, 3) := by decide +kernel
theorem dX9_init_12 : decode cX9_init 12 = .ok (.aload_n 0, 1) := by decide +kernel
theorem dX9_init_13 : decode cX9_init 13 = .ok (.bipush 6, 2) := by decide +kernel
theorem dX9_init_15 : decode cX9_init 15 = .ok (.newarray .int, 2) := by decide +kernel
theorem dX9_init_17 : decode cX9_init 17 = .ok (.putfield 13, 3) := by decide +kernel
theorem dX9_init_20 : decode cX9_init 20 = .ok (.aload_n 0, 1) := by decide +kernel
theorem dX9_init_21 : decode cX9_init 21 = .ok (.bipush 20, 2) := by decide +kernel
theorem dX9_init_23 : decode cX9_init 23 = .ok (.putfield 16, 3) := by decide +kernel
theorem dX9_init_26 : decode cX9_init 26 = .ok (.aload_n 0, 1) := by decide +kernel
theorem dX9_init_27 : decode cX9_init 27 = .ok (.bipush 40, 2) := by decide +kernel
theorem dX9_init_29 : decode cX9_init 29 = .ok (.newarray .int, 2) := by decide +kernel
theorem dX9_init_31 : decode cX9_init 31 = .ok (.putfield 20, 3) := by decide +kernel
theorem dX9_init_34 : decode cX9_init 34 = .ok (.aload_n 0, 1) := by decide +kernel
theorem dX9_init_35 : decode cX9_init 35 = .ok (.bipush 40, 2) := by decide +kernel
theorem dX9_init_37 : decode cX9_init 37 = .ok (.newarray .int, 2) := by decide +kernel
theorem dX9_init_39 : decode cX9_init 39 = .ok (.putfield 23, 3) := by decide +kernel
theorem dX9_init_42 : decode cX9_init 42 = .ok (.aload_n 0, 1) := by decide +kernel
theorem dX9_init_43 : decode cX9_init 43 = .ok (.bipush 40, 2) := by decide +kernel
theorem dX9_init_45 : decode cX9_init 45 = .ok (.newarray .int, 2) := by decide +kernel
theorem dX9_init_47 : decode cX9_init 47 = .ok (.putfield 26, 3) := by decide +kernel
theorem dX9_init_50 : decode cX9_init 50 = .ok (.aload_n 0, 1) := by decide +kernel
theorem dX9_init_51 : decode cX9_init 51 = .ok (.bipush 12, 2) := by decide +kernel
theorem dX9_init_53 : decode cX9_init 53 = .ok (.newarray .int, 2) := by decide +kernel
theorem dX9_init_55 : decode cX9_init 55 = .ok (.putfield 29, 3) := by decide +kernel
theorem dX9_init_58 : decode cX9_init 58 = .ok (.aload_n 0, 1) := by decide +kernel
theorem dX9_init_59 : decode cX9_init 59 = .ok (.bipush 12, 2) := by decide +kernel
theorem dX9_init_61 : decode cX9_init 61 = .ok (.newarray .int, 2) := by decide +kernel
theorem dX9_init_63 : decode cX9_init 63 = .ok (.putfield 32, 3) := by decide +kernel
theorem dX9_init_66 : decode cX9_init 66 = .ok (.aload_n 0, 1) := by decide +kernel
theorem dX9_init_67 : decode cX9_init 67 = .ok (.new 35, 3) := by decide +kernel
theorem dX9_init_70 : decode cX9_init 70 = .ok (.dup, 1) := by decide +kernel
theorem dX9_init_71 : decode cX9_init 71 = .ok (.invokespecial 37, 3) := by decide +kernel
theorem dX9_init_74 : decode cX9_init 74 = .ok (.putfield 38, 3) := by decide +kernel
theorem dX9_init_77 : decode cX9_init 77 = .ok (.aload_n 0, 1) := by decide +kernel
theorem dX9_init_78 : decode cX9_init 78 = .ok (.new 35, 3) := by decide +kernel
theorem dX9_init_81 : decode cX9_init 81 = .ok (.dup, 1) := by decide +kernel
theorem dX9_init_82 : decode cX9_init 82 = .ok (.invokespecial 37, 3) := by decide +kernel
theorem dX9_init_85 : decode cX9_init 85 = .ok (.putfield 42, 3) := by decide +kernel
theorem dX9_init_88 : decode cX9_init 88 = .ok (.aload_n 0, 1) := by decide +kernel
theorem dX9_init_89 : decode cX9_init 89 = .ok (.bipush 120, 2) := by decide +kernel
theorem dX9_init_91 : decode cX9_init 91 = .ok (.newarray .int, 2) := by decide +kernel
theorem dX9_init_93 : decode cX9_init 93 = .ok (.putfield 45, 3) := by decide +kernel
theorem dX9_init_96 : decode cX9_init 96 = .ok (.aload_n 0, 1) := by decide +kernel
theorem dX9_init_97 : decode cX9_init 97 = .ok (.bipush 100, 2) := by decide +kernel
theorem dX9_init_99 : decode cX9_init 99 = .ok (.newarray .int, 2) := by decide +kernel
theorem dX9_init_101 : decode cX9_init 101 = .ok (.putfield 48, 3) := by decide +kernel
theorem dX9_init_104 : decode cX9_init 104 = .ok (.aload_n 0, 1) := by decide +kernel
theorem dX9_init_105 : decode cX9_init 105 = .ok (.getfield 38, 3) := by decide +kernel
theorem dX9_init_108 : decode cX9_init 108 = .ok (.iconst 1, 1) := by decide +kernel
theorem dX9_init_109 : decode cX9_init 109 = .ok (.putfield 51, 3) := by decide +kernel
theorem dX9_init_112 : decode cX9_init 112 = .ok (.iconst 0, 1) := by decide +kernel
theorem dX9_init_113 : decode cX9_init 113 = .ok (.istore_n 1, 1) := by decide +kernel
theorem dX9_init_114 : decode cX9_init 114 = .ok (.iload_n 1, 1) := by decide +kernel
theorem dX9_init_115 : decode cX9_init 115 = .ok (.bipush 48, 2) := by decide +kernel
theorem dX9_init_117 : decode cX9_init 117 = .ok (.if_icmp .ge 20, 3) := by decide +kernel
theorem dX9_init_120 : decode cX9_init 120 = .ok (.aload_n 0, 1) := by decide +kernel
theorem dX9_init_121 : decode cX9_init 121 = .ok (.getfield 38, 3) := by decide +kernel
theorem dX9_init_124 : decode cX9_init 124 = .ok (.getfield 55, 3) := by decide +kernel
theorem dX9_init_127 : decode cX9_init 127 = .ok (.iload_n 1, 1) := by decide +kernel
theorem dX9_init_128 : decode cX9_init 128 = .ok (.bipush (-4), 2) := by decide +kernel
theorem dX9_init_130 : decode cX9_init 130 = .ok (.iastore, 1) := by decide +kernel
theorem dX9_init_131 : decode cX9_init 131 = .ok (.iinc 1 1, 3) := by decide +kernel
theorem dX9_init_134 : decode cX9_init 134 = .ok (.goto (-20), 3) := by decide +kernel
theorem dX9_init_137 : decode cX9_init 137 = .ok (.iconst 0, 1) := by decide +kernel
theorem dX9_init_138 : decode cX9_init 138 = .ok (.istore_n 1, 1) := by decide +kernel
theorem dX9_init_139 : decode cX9_init 139 = .ok (.iload_n 1, 1) := by decide +kernel
theorem dX9_init_140 : decode cX9_init 140 = .ok (.bipush 6, 2) := by decide +kernel
theorem dX9_init_142 : decode cX9_init 142 = .ok (.if_icmp .ge 19, 3) := by decide +kernel
theorem dX9_init_145 : decode cX9_init 145 = .ok (.aload_n 0, 1) := by decide +kernel
theorem dX9_init_146 : decode cX9_init 146 = .ok (.getfield 38, 3) := by decide +kernel
theorem dX9_init_149 : decode cX9_init 149 = .ok (.getfield 58, 3) := by decide +kernel
theorem dX9_init_152 : decode cX9_init 152 = .ok (.iload_n 1, 1) := by decide +kernel
theorem dX9_init_153 : decode cX9_init 153 = .ok (.iconst (-1), 1) := by decide +kernel
theorem dX9_init_154 : decode cX9_init 154 = .ok (.iastore, 1) := by decide +kernel
theorem dX9_init_155 : decode cX9_init 155 = .ok (.iinc 1 1, 3) := by decide +kernel
theorem dX9_init_158 : decode cX9_init 158 = .ok (.goto (-19), 3) := by decide +kernel
theorem dX9_init_161 : decode cX9_init 161 = .ok (.return_, 1) := by decide +kernel
theorem dX9_within_0 : decode (mB 74) 0 = .ok (.iload_n 0, 1) := by decide +kernel
theorem dX9_within_1 : decode (mB 74) 1 = .ok (.iload_n 1, 1) := by decide +kernel
theorem dX9_within_2 : decode (mB 74) 2 = .ok (.if_icmp .lt 12, 3) := by decide +kernel
theorem dX9_within_5 : decode (mB 74) 5 = .ok (.iload_n 0, 1) := by decide +kernel
theorem dX9_within_6 : decode (mB 74) 6 = .ok (.iload_n 2, 1) := by decide +kernel
theorem dX9_within_7 : decode (mB 74) 7 = .ok (.if_icmp .gt 7, 3) := by decide +kernel
theorem dX9_within_10 : decode (mB 74) 10 = .ok (.iconst 1, 1) := by decide +kernel
theorem dX9_within_11 : decode (mB 74) 11 = .ok (.goto 4, 3) := by decide +kernel
theorem dX9_within_14 : decode (mB 74) 14 = .ok (.iconst 0, 1) := by decide +kernel
theorem dX9_within_15 : decode (mB 74) 15 = .ok (.ireturn, 1) := by decide +kernel
theorem dX9_isService_0 : decode (mB 75) 0 = .ok (.iload_n 1, 1) := by decide +kernel
theorem dX9_isService_1 : decode (mB 75) 1 = .ok (.ifCond .lt 15, 3) := by decide +kernel
theorem dX9_isService_4 : decode (mB 75) 4 = .ok (.iload_n 1, 1) := by decide +kernel
theorem dX9_isService_5 : decode (mB 75) 5 = .ok (.aload_n 0, 1) := by decide +kernel
theorem dX9_isService_6 : decode (mB 75) 6 = .ok (.getfield 61, 3) := by decide +kernel
theorem dX9_isService_9 : decode (mB 75) 9 = .ok (.if_icmp .ge 7, 3) := by decide +kernel
theorem dX9_isService_12 : decode (mB 75) 12 = .ok (.iconst 1, 1) := by decide +kernel
theorem dX9_isService_13 : decode (mB 75) 13 = .ok (.goto 4, 3) := by decide +kernel
theorem dX9_isService_16 : decode (mB 75) 16 = .ok (.iconst 0, 1) := by decide +kernel
theorem dX9_isService_17 : decode (mB 75) 17 = .ok (.ireturn, 1) := by decide +kernel
theorem dX9_isKey_0 : decode (mB 76) 0 = .ok (.iload_n 0, 1) := by decide +kernel
theorem dX9_isKey_1 : decode (mB 76) 1 = .ok (.iconst 0, 1) := by decide +kernel
theorem dX9_isKey_2 : decode (mB 76) 2 = .ok (.bipush 7, 2) := by decide +kernel
theorem dX9_isKey_4 : decode (mB 76) 4 = .ok (.invokestatic 64, 3) := by decide +kernel
theorem dX9_isKey_7 : decode (mB 76) 7 = .ok (.ireturn, 1) := by decide +kernel
theorem dX9_ruled_0 : decode (mB 77) 0 = .ok (.aload_n 0, 1) := by decide +kernel
theorem dX9_ruled_1 : decode (mB 77) 1 = .ok (.getfield 9, 3) := by decide +kernel
theorem dX9_ruled_4 : decode (mB 77) 4 = .ok (.bipush 9, 2) := by decide +kernel
theorem dX9_ruled_6 : decode (mB 77) 6 = .ok (.iload_n 1, 1) := by decide +kernel
theorem dX9_ruled_7 : decode (mB 77) 7 = .ok (.imul, 1) := by decide +kernel
theorem dX9_ruled_8 : decode (mB 77) 8 = .ok (.iload_n 2, 1) := by decide +kernel
theorem dX9_ruled_9 : decode (mB 77) 9 = .ok (.iadd, 1) := by decide +kernel
theorem dX9_ruled_10 : decode (mB 77) 10 = .ok (.iaload, 1) := by decide +kernel
theorem dX9_ruled_11 : decode (mB 77) 11 = .ok (.ireturn, 1) := by decide +kernel
theorem dX9_service_0 : decode (mB 78) 0 = .ok (.iload_n 1, 1) := by decide +kernel
theorem dX9_service_1 : decode (mB 78) 1 = .ok (.iconst 1, 1) := by decide +kernel
theorem dX9_service_2 : decode (mB 78) 2 = .ok (.bipush 9, 2) := by decide +kernel
theorem dX9_service_4 : decode (mB 78) 4 = .ok (.invokestatic 64, 3) := by decide +kernel
theorem dX9_service_7 : decode (mB 78) 7 = .ok (.ifCond .eq 23, 3) := by decide +kernel
theorem dX9_service_10 : decode (mB 78) 10 = .ok (.iload_n 2, 1) := by decide +kernel
theorem dX9_service_11 : decode (mB 78) 11 = .ok (.iconst 0, 1) := by decide +kernel
theorem dX9_service_12 : decode (mB 78) 12 = .ok (.bipush 20, 2) := by decide +kernel
theorem dX9_service_14 : decode (mB 78) 14 = .ok (.invokestatic 64, 3) := by decide +kernel
theorem dX9_service_17 : decode (mB 78) 17 = .ok (.ifCond .eq 13, 3) := by decide +kernel
theorem dX9_service_20 : decode (mB 78) 20 = .ok (.iload_n 3, 1) := by decide +kernel
theorem dX9_service_21 : decode (mB 78) 21 = .ok (.iconst 1, 1) := by decide +kernel
theorem dX9_service_22 : decode (mB 78) 22 = .ok (.bipush 9, 2) := by decide +kernel
theorem dX9_service_24 : decode (mB 78) 24 = .ok (.invokestatic 64, 3) := by decide +kernel
theorem dX9_service_27 : decode (mB 78) 27 = .ok (.ifCond .ne 5, 3) := by decide +kernel
theorem dX9_service_30 : decode (mB 78) 30 = .ok (.iconst (-1), 1) := by decide +kernel
theorem dX9_service_31 : decode (mB 78) 31 = .ok (.ireturn, 1) := by decide +kernel
theorem dX9_service_32 : decode (mB 78) 32 = .ok (.aload_n 0, 1) := by decide +kernel
theorem dX9_service_33 : decode (mB 78) 33 = .ok (.getfield 61, 3) := by decide +kernel
theorem dX9_service_36 : decode (mB 78) 36 = .ok (.bipush 6, 2) := by decide +kernel
theorem dX9_service_38 : decode (mB 78) 38 = .ok (.if_icmp .ne 6, 3) := by decide +kernel
theorem dX9_service_41 : decode (mB 78) 41 = .ok (.bipush (-2), 2) := by decide +kernel
theorem dX9_service_43 : decode (mB 78) 43 = .ok (.ireturn, 1) := by decide +kernel
theorem dX9_service_44 : decode (mB 78) 44 = .ok (.aload_n 0, 1) := by decide +kernel
theorem dX9_service_45 : decode (mB 78) 45 = .ok (.getfield 38, 3) := by decide +kernel
theorem dX9_service_48 : decode (mB 78) 48 = .ok (.getfield 68, 3) := by decide +kernel
theorem dX9_service_51 : decode (mB 78) 51 = .ok (.ifCond .eq 6, 3) := by decide +kernel
theorem dX9_service_54 : decode (mB 78) 54 = .ok (.bipush (-3), 2) := by decide +kernel
theorem dX9_service_56 : decode (mB 78) 56 = .ok (.ireturn, 1) := by decide +kernel
theorem dX9_service_57 : decode (mB 78) 57 = .ok (.bipush 9, 2) := by decide +kernel
theorem dX9_service_59 : decode (mB 78) 59 = .ok (.aload_n 0, 1) := by decide +kernel
theorem dX9_service_60 : decode (mB 78) 60 = .ok (.getfield 61, 3) := by decide +kernel
theorem dX9_service_63 : decode (mB 78) 63 = .ok (.imul, 1) := by decide +kernel
theorem dX9_service_64 : decode (mB 78) 64 = .ok (.istore 4, 2) := by decide +kernel
theorem dX9_service_66 : decode (mB 78) 66 = .ok (.aload_n 0, 1) := by decide +kernel
theorem dX9_service_67 : decode (mB 78) 67 = .ok (.getfield 9, 3) := by decide +kernel
theorem dX9_service_70 : decode (mB 78) 70 = .ok (.iload 4, 2) := by decide +kernel
theorem dX9_service_72 : decode (mB 78) 72 = .ok (.iconst 0, 1) := by decide +kernel
theorem dX9_service_73 : decode (mB 78) 73 = .ok (.iadd, 1) := by decide +kernel
theorem dX9_service_74 : decode (mB 78) 74 = .ok (.bipush 10, 2) := by decide +kernel
theorem dX9_service_76 : decode (mB 78) 76 = .ok (.iastore, 1) := by decide +kernel
theorem dX9_service_77 : decode (mB 78) 77 = .ok (.aload_n 0, 1) := by decide +kernel
theorem dX9_service_78 : decode (mB 78) 78 = .ok (.getfield 9, 3) := by decide +kernel
theorem dX9_service_81 : decode (mB 78) 81 = .ok (.iload 4, 2) := by decide +kernel
theorem dX9_service_83 : decode (mB 78) 83 = .ok (.iconst 2, 1) := by decide +kernel
theorem dX9_service_84 : decode (mB 78) 84 = .ok (.iadd, 1) := by decide +kernel
theorem dX9_service_85 : decode (mB 78) 85 = .ok (.iconst 1, 1) := by decide +kernel
theorem dX9_service_86 : decode (mB 78) 86 = .ok (.iastore, 1) := by decide +kernel
theorem dX9_service_87 : decode (mB 78) 87 = .ok (.aload_n 0, 1) := by decide +kernel
theorem dX9_service_88 : decode (mB 78) 88 = .ok (.getfield 9, 3) := by decide +kernel
theorem dX9_service_91 : decode (mB 78) 91 = .ok (.iload 4, 2) := by decide +kernel
theorem dX9_service_93 : decode (mB 78) 93 = .ok (.iconst 5, 1) := by decide +kernel
theorem dX9_service_94 : decode (mB 78) 94 = .ok (.iadd, 1) := by decide +kernel
theorem dX9_service_95 : decode (mB 78) 95 = .ok (.bipush 10, 2) := by decide +kernel
theorem dX9_service_97 : decode (mB 78) 97 = .ok (.iastore, 1) := by decide +kernel
theorem dX9_service_98 : decode (mB 78) 98 = .ok (.aload_n 0, 1) := by decide +kernel
theorem dX9_service_99 : decode (mB 78) 99 = .ok (.getfield 9, 3) := by decide +kernel
theorem dX9_service_102 : decode (mB 78) 102 = .ok (.iload 4, 2) := by decide +kernel
theorem dX9_service_104 : decode (mB 78) 104 = .ok (.bipush 7, 2) := by decide +kernel
theorem dX9_service_106 : decode (mB 78) 106 = .ok (.iadd, 1) := by decide +kernel
theorem dX9_service_107 : decode (mB 78) 107 = .ok (.iload_n 1, 1) := by decide +kernel
theorem dX9_service_108 : decode (mB 78) 108 = .ok (.iastore, 1) := by decide +kernel
theorem dX9_service_109 : decode (mB 78) 109 = .ok (.aload_n 0, 1) := by decide +kernel
theorem dX9_service_110 : decode (mB 78) 110 = .ok (.getfield 9, 3) := by decide +kernel
theorem dX9_service_113 : decode (mB 78) 113 = .ok (.iload 4, 2) := by decide +kernel
theorem dX9_service_115 : decode (mB 78) 115 = .ok (.bipush 8, 2) := by decide +kernel
theorem dX9_service_117 : decode (mB 78) 117 = .ok (.iadd, 1) := by decide +kernel
theorem dX9_service_118 : decode (mB 78) 118 = .ok (.iload_n 3, 1) := by decide +kernel
theorem dX9_service_119 : decode (mB 78) 119 = .ok (.iastore, 1) := by decide +kernel
theorem dX9_service_120 : decode (mB 78) 120 = .ok (.aload_n 0, 1) := by decide +kernel
theorem dX9_service_121 : decode (mB 78) 121 = .ok (.getfield 13, 3) := by decide +kernel
theorem dX9_service_124 : decode (mB 78) 124 = .ok (.aload_n 0, 1) := by decide +kernel
theorem dX9_service_125 : decode (mB 78) 125 = .ok (.getfield 61, 3) := by decide +kernel
theorem dX9_service_128 : decode (mB 78) 128 = .ok (.iload_n 2, 1) := by decide +kernel
theorem dX9_service_129 : decode (mB 78) 129 = .ok (.iastore, 1) := by decide +kernel
theorem dX9_service_130 : decode (mB 78) 130 = .ok (.aload_n 0, 1) := by decide +kernel
theorem dX9_service_131 : decode (mB 78) 131 = .ok (.dup, 1) := by decide +kernel
theorem dX9_service_132 : decode (mB 78) 132 = .ok (.getfield 61, 3) := by decide +kernel
theorem dX9_service_135 : decode (mB 78) 135 = .ok (.iconst 1, 1) := by decide +kernel
theorem dX9_service_136 : decode (mB 78) 136 = .ok (.iadd, 1) := by decide +kernel
theorem dX9_service_137 : decode (mB 78) 137 = .ok (.putfield 61, 3) := by decide +kernel
theorem dX9_service_140 : decode (mB 78) 140 = .ok (.aload_n 0, 1) := by decide +kernel
theorem dX9_service_141 : decode (mB 78) 141 = .ok (.getfield 61, 3) := by decide +kernel
theorem dX9_service_144 : decode (mB 78) 144 = .ok (.iconst 1, 1) := by decide +kernel
theorem dX9_service_145 : decode (mB 78) 145 = .ok (.isub, 1) := by decide +kernel
theorem dX9_service_146 : decode (mB 78) 146 = .ok (.ireturn, 1) := by decide +kernel
theorem dX9_isRule_0 : decode (mB 79) 0 = .ok (.iload_n 0, 1) := by decide +kernel
theorem dX9_isRule_1 : decode (mB 79) 1 = .ok (.tableswitch 105 0 8 #[51, 59, 66, 74, 66, 82, 90, 97, 97], 51) := by decide +kernel
theorem dX9_isRule_52 : decode (mB 79) 52 = .ok (.iload_n 1, 1) := by decide +kernel
theorem dX9_isRule_53 : decode (mB 79) 53 = .ok (.iconst 1, 1) := by decide +kernel
theorem dX9_isRule_54 : decode (mB 79) 54 = .ok (.bipush 40, 2) := by decide +kernel
theorem dX9_isRule_56 : decode (mB 79) 56 = .ok (.invokestatic 64, 3) := by decide +kernel
theorem dX9_isRule_59 : decode (mB 79) 59 = .ok (.ireturn, 1) := by decide +kernel
theorem dX9_isRule_60 : decode (mB 79) 60 = .ok (.iload_n 1, 1) := by decide +kernel
theorem dX9_isRule_61 : decode (mB 79) 61 = .ok (.iconst 0, 1) := by decide +kernel
theorem dX9_isRule_62 : decode (mB 79) 62 = .ok (.iconst 4, 1) := by decide +kernel
theorem dX9_isRule_63 : decode (mB 79) 63 = .ok (.invokestatic 64, 3) := by decide +kernel
theorem dX9_isRule_66 : decode (mB 79) 66 = .ok (.ireturn, 1) := by decide +kernel
theorem dX9_isRule_67 : decode (mB 79) 67 = .ok (.iload_n 1, 1) := by decide +kernel
theorem dX9_isRule_68 : decode (mB 79) 68 = .ok (.iconst 0, 1) := by decide +kernel
theorem dX9_isRule_69 : decode (mB 79) 69 = .ok (.bipush 9, 2) := by decide +kernel
theorem dX9_isRule_71 : decode (mB 79) 71 = .ok (.invokestatic 64, 3) := by decide +kernel
theorem dX9_isRule_74 : decode (mB 79) 74 = .ok (.ireturn, 1) := by decide +kernel
theorem dX9_isRule_75 : decode (mB 79) 75 = .ok (.iload_n 1, 1) := by decide +kernel
theorem dX9_isRule_76 : decode (mB 79) 76 = .ok (.iconst 0, 1) := by decide +kernel
theorem dX9_isRule_77 : decode (mB 79) 77 = .ok (.bipush 60, 2) := by decide +kernel
theorem dX9_isRule_79 : decode (mB 79) 79 = .ok (.invokestatic 64, 3) := by decide +kernel
theorem dX9_isRule_82 : decode (mB 79) 82 = .ok (.ireturn, 1) := by decide +kernel
theorem dX9_isRule_83 : decode (mB 79) 83 = .ok (.iload_n 1, 1) := by decide +kernel
theorem dX9_isRule_84 : decode (mB 79) 84 = .ok (.iconst 1, 1) := by decide +kernel
theorem dX9_isRule_85 : decode (mB 79) 85 = .ok (.bipush 60, 2) := by decide +kernel
theorem dX9_isRule_87 : decode (mB 79) 87 = .ok (.invokestatic 64, 3) := by decide +kernel
theorem dX9_isRule_90 : decode (mB 79) 90 = .ok (.ireturn, 1) := by decide +kernel
theorem dX9_isRule_91 : decode (mB 79) 91 = .ok (.iload_n 1, 1) := by decide +kernel
theorem dX9_isRule_92 : decode (mB 79) 92 = .ok (.iconst 0, 1) := by decide +kernel
theorem dX9_isRule_93 : decode (mB 79) 93 = .ok (.iconst 1, 1) := by decide +kernel
theorem dX9_isRule_94 : decode (mB 79) 94 = .ok (.invokestatic 64, 3) := by decide +kernel
theorem dX9_isRule_97 : decode (mB 79) 97 = .ok (.ireturn, 1) := by decide +kernel
theorem dX9_isRule_98 : decode (mB 79) 98 = .ok (.iload_n 1, 1) := by decide +kernel
theorem dX9_isRule_99 : decode (mB 79) 99 = .ok (.iconst 1, 1) := by decide +kernel
theorem dX9_isRule_100 : decode (mB 79) 100 = .ok (.bipush 9, 2) := by decide +kernel
theorem dX9_isRule_102 : decode (mB 79) 102 = .ok (.invokestatic 64, 3) := by decide +kernel
theorem dX9_isRule_105 : decode (mB 79) 105 = .ok (.ireturn, 1) := by decide +kernel
theorem dX9_isRule_106 : decode (mB 79) 106 = .ok (.iconst 0, 1) := by decide +kernel
theorem dX9_isRule_107 : decode (mB 79) 107 = .ok (.ireturn, 1) := by decide +kernel
theorem dX9_rule_0 : decode (mB 80) 0 = .ok (.aload_n 0, 1) := by decide +kernel
theorem dX9_rule_1 : decode (mB 80) 1 = .ok (.iload_n 1, 1) := by decide +kernel
theorem dX9_rule_2 : decode (mB 80) 2 = .ok (.invokevirtual 71, 3) := by decide +kernel
theorem dX9_rule_5 : decode (mB 80) 5 = .ok (.ifCond .eq 11, 3) := by decide +kernel
theorem dX9_rule_8 : decode (mB 80) 8 = .ok (.iload_n 2, 1) := by decide +kernel
theorem dX9_rule_9 : decode (mB 80) 9 = .ok (.iload_n 3, 1) := by decide +kernel
theorem dX9_rule_10 : decode (mB 80) 10 = .ok (.invokestatic 75, 3) := by decide +kernel
theorem dX9_rule_13 : decode (mB 80) 13 = .ok (.ifCond .ne 5, 3) := by decide +kernel
theorem dX9_rule_16 : decode (mB 80) 16 = .ok (.iconst (-1), 1) := by decide +kernel
theorem dX9_rule_17 : decode (mB 80) 17 = .ok (.ireturn, 1) := by decide +kernel
theorem dX9_rule_18 : decode (mB 80) 18 = .ok (.aload_n 0, 1) := by decide +kernel
theorem dX9_rule_19 : decode (mB 80) 19 = .ok (.iload_n 1, 1) := by decide +kernel
theorem dX9_rule_20 : decode (mB 80) 20 = .ok (.iload_n 2, 1) := by decide +kernel
theorem dX9_rule_21 : decode (mB 80) 21 = .ok (.invokevirtual 79, 3) := by decide +kernel
theorem dX9_rule_24 : decode (mB 80) 24 = .ok (.istore 4, 2) := by decide +kernel
theorem dX9_rule_26 : decode (mB 80) 26 = .ok (.aload_n 0, 1) := by decide +kernel
theorem dX9_rule_27 : decode (mB 80) 27 = .ok (.getfield 9, 3) := by decide +kernel
theorem dX9_rule_30 : decode (mB 80) 30 = .ok (.bipush 9, 2) := by decide +kernel
theorem dX9_rule_32 : decode (mB 80) 32 = .ok (.iload_n 1, 1) := by decide +kernel
theorem dX9_rule_33 : decode (mB 80) 33 = .ok (.imul, 1) := by decide +kernel
theorem dX9_rule_34 : decode (mB 80) 34 = .ok (.iload_n 2, 1) := by decide +kernel
theorem dX9_rule_35 : decode (mB 80) 35 = .ok (.iadd, 1) := by decide +kernel
theorem dX9_rule_36 : decode (mB 80) 36 = .ok (.iload_n 3, 1) := by decide +kernel
theorem dX9_rule_37 : decode (mB 80) 37 = .ok (.iastore, 1) := by decide +kernel
theorem dX9_rule_38 : decode (mB 80) 38 = .ok (.iload 4, 2) := by decide +kernel
theorem dX9_rule_40 : decode (mB 80) 40 = .ok (.ireturn, 1) := by decide +kernel
theorem dX9_guests_0 : decode (mB 81) 0 = .ok (.iload_n 1, 1) := by decide +kernel
theorem dX9_guests_1 : decode (mB 81) 1 = .ok (.iconst 0, 1) := by decide +kernel
theorem dX9_guests_2 : decode (mB 81) 2 = .ok (.iconst 1, 1) := by decide +kernel
theorem dX9_guests_3 : decode (mB 81) 3 = .ok (.invokestatic 64, 3) := by decide +kernel
theorem dX9_guests_6 : decode (mB 81) 6 = .ok (.ifCond .eq 29, 3) := by decide +kernel
theorem dX9_guests_9 : decode (mB 81) 9 = .ok (.iload_n 2, 1) := by decide +kernel
theorem dX9_guests_10 : decode (mB 81) 10 = .ok (.iload_n 1, 1) := by decide +kernel
theorem dX9_guests_11 : decode (mB 81) 11 = .ok (.ifCond .ne 7, 3) := by decide +kernel
theorem dX9_guests_14 : decode (mB 81) 14 = .ok (.iconst 1, 1) := by decide +kernel
theorem dX9_guests_15 : decode (mB 81) 15 = .ok (.goto 4, 3) := by decide +kernel
theorem dX9_guests_18 : decode (mB 81) 18 = .ok (.iconst 0, 1) := by decide +kernel
theorem dX9_guests_19 : decode (mB 81) 19 = .ok (.iload_n 1, 1) := by decide +kernel
theorem dX9_guests_20 : decode (mB 81) 20 = .ok (.ifCond .ne 8, 3) := by decide +kernel
theorem dX9_guests_23 : decode (mB 81) 23 = .ok (.bipush 60, 2) := by decide +kernel
theorem dX9_guests_25 : decode (mB 81) 25 = .ok (.goto 4, 3) := by decide +kernel
theorem dX9_guests_28 : decode (mB 81) 28 = .ok (.iconst 3, 1) := by decide +kernel
theorem dX9_guests_29 : decode (mB 81) 29 = .ok (.invokestatic 64, 3) := by decide +kernel
theorem dX9_guests_32 : decode (mB 81) 32 = .ok (.ifCond .ne 5, 3) := by decide +kernel
theorem dX9_guests_35 : decode (mB 81) 35 = .ok (.iconst (-1), 1) := by decide +kernel
theorem dX9_guests_36 : decode (mB 81) 36 = .ok (.ireturn, 1) := by decide +kernel
theorem dX9_guests_37 : decode (mB 81) 37 = .ok (.iload_n 1, 1) := by decide +kernel
theorem dX9_guests_38 : decode (mB 81) 38 = .ok (.ifCond .ne 10, 3) := by decide +kernel
theorem dX9_guests_41 : decode (mB 81) 41 = .ok (.aload_n 0, 1) := by decide +kernel
theorem dX9_guests_42 : decode (mB 81) 42 = .ok (.getfield 16, 3) := by decide +kernel
theorem dX9_guests_45 : decode (mB 81) 45 = .ok (.goto 7, 3) := by decide +kernel
theorem dX9_guests_48 : decode (mB 81) 48 = .ok (.aload_n 0, 1) := by decide +kernel
theorem dX9_guests_49 : decode (mB 81) 49 = .ok (.getfield 83, 3) := by decide +kernel
theorem dX9_guests_52 : decode (mB 81) 52 = .ok (.istore_n 3, 1) := by decide +kernel
theorem dX9_guests_53 : decode (mB 81) 53 = .ok (.iload_n 1, 1) := by decide +kernel
theorem dX9_guests_54 : decode (mB 81) 54 = .ok (.ifCond .ne 11, 3) := by decide +kernel
theorem dX9_guests_57 : decode (mB 81) 57 = .ok (.aload_n 0, 1) := by decide +kernel
theorem dX9_guests_58 : decode (mB 81) 58 = .ok (.iload_n 2, 1) := by decide +kernel
theorem dX9_guests_59 : decode (mB 81) 59 = .ok (.putfield 16, 3) := by decide +kernel
theorem dX9_guests_62 : decode (mB 81) 62 = .ok (.goto 8, 3) := by decide +kernel
theorem dX9_guests_65 : decode (mB 81) 65 = .ok (.aload_n 0, 1) := by decide +kernel
theorem dX9_guests_66 : decode (mB 81) 66 = .ok (.iload_n 2, 1) := by decide +kernel
theorem dX9_guests_67 : decode (mB 81) 67 = .ok (.putfield 83, 3) := by decide +kernel
theorem dX9_guests_70 : decode (mB 81) 70 = .ok (.iload_n 3, 1) := by decide +kernel
theorem dX9_guests_71 : decode (mB 81) 71 = .ok (.ireturn, 1) := by decide +kernel
theorem dX9_crowd_0 : decode (mB 82) 0 = .ok (.iload_n 1, 1) := by decide +kernel
theorem dX9_crowd_1 : decode (mB 82) 1 = .ok (.aload_n 0, 1) := by decide +kernel
theorem dX9_crowd_2 : decode (mB 82) 2 = .ok (.getfield 38, 3) := by decide +kernel
theorem dX9_crowd_5 : decode (mB 82) 5 = .ok (.getfield 68, 3) := by decide +kernel
theorem dX9_crowd_8 : decode (mB 82) 8 = .ok (.iconst 1, 1) := by decide +kernel
theorem dX9_crowd_9 : decode (mB 82) 9 = .ok (.iadd, 1) := by decide +kernel
theorem dX9_crowd_10 : decode (mB 82) 10 = .ok (.ldc 86, 2) := by decide +kernel
theorem dX9_crowd_12 : decode (mB 82) 12 = .ok (.invokestatic 64, 3) := by decide +kernel
theorem dX9_crowd_15 : decode (mB 82) 15 = .ok (.ifCond .eq 20, 3) := by decide +kernel
theorem dX9_crowd_18 : decode (mB 82) 18 = .ok (.iload_n 2, 1) := by decide +kernel
theorem dX9_crowd_19 : decode (mB 82) 19 = .ok (.invokestatic 87, 3) := by decide +kernel
theorem dX9_crowd_22 : decode (mB 82) 22 = .ok (.ifCond .eq 13, 3) := by decide +kernel
theorem dX9_crowd_25 : decode (mB 82) 25 = .ok (.iload_n 3, 1) := by decide +kernel
theorem dX9_crowd_26 : decode (mB 82) 26 = .ok (.iconst 1, 1) := by decide +kernel
theorem dX9_crowd_27 : decode (mB 82) 27 = .ok (.bipush 30, 2) := by decide +kernel
theorem dX9_crowd_29 : decode (mB 82) 29 = .ok (.invokestatic 64, 3) := by decide +kernel
theorem dX9_crowd_32 : decode (mB 82) 32 = .ok (.ifCond .ne 5, 3) := by decide +kernel
theorem dX9_crowd_35 : decode (mB 82) 35 = .ok (.iconst (-1), 1) := by decide +kernel
theorem dX9_crowd_36 : decode (mB 82) 36 = .ok (.ireturn, 1) := by decide +kernel
theorem dX9_crowd_37 : decode (mB 82) 37 = .ok (.aload_n 0, 1) := by decide +kernel
theorem dX9_crowd_38 : decode (mB 82) 38 = .ok (.getfield 90, 3) := by decide +kernel
theorem dX9_crowd_41 : decode (mB 82) 41 = .ok (.bipush 40, 2) := by decide +kernel
theorem dX9_crowd_43 : decode (mB 82) 43 = .ok (.if_icmp .ne 6, 3) := by decide +kernel
theorem dX9_crowd_46 : decode (mB 82) 46 = .ok (.bipush (-2), 2) := by decide +kernel
theorem dX9_crowd_48 : decode (mB 82) 48 = .ok (.ireturn, 1) := by decide +kernel
theorem dX9_crowd_49 : decode (mB 82) 49 = .ok (.aload_n 0, 1) := by decide +kernel
theorem dX9_crowd_50 : decode (mB 82) 50 = .ok (.getfield 20, 3) := by decide +kernel
theorem dX9_crowd_53 : decode (mB 82) 53 = .ok (.aload_n 0, 1) := by decide +kernel
theorem dX9_crowd_54 : decode (mB 82) 54 = .ok (.getfield 90, 3) := by decide +kernel
theorem dX9_crowd_57 : decode (mB 82) 57 = .ok (.iload_n 1, 1) := by decide +kernel
theorem dX9_crowd_58 : decode (mB 82) 58 = .ok (.iastore, 1) := by decide +kernel
theorem dX9_crowd_59 : decode (mB 82) 59 = .ok (.aload_n 0, 1) := by decide +kernel
theorem dX9_crowd_60 : decode (mB 82) 60 = .ok (.getfield 23, 3) := by decide +kernel
theorem dX9_crowd_63 : decode (mB 82) 63 = .ok (.aload_n 0, 1) := by decide +kernel
theorem dX9_crowd_64 : decode (mB 82) 64 = .ok (.getfield 90, 3) := by decide +kernel
theorem dX9_crowd_67 : decode (mB 82) 67 = .ok (.iload_n 2, 1) := by decide +kernel
theorem dX9_crowd_68 : decode (mB 82) 68 = .ok (.iastore, 1) := by decide +kernel
theorem dX9_crowd_69 : decode (mB 82) 69 = .ok (.aload_n 0, 1) := by decide +kernel
theorem dX9_crowd_70 : decode (mB 82) 70 = .ok (.getfield 26, 3) := by decide +kernel
theorem dX9_crowd_73 : decode (mB 82) 73 = .ok (.aload_n 0, 1) := by decide +kernel
theorem dX9_crowd_74 : decode (mB 82) 74 = .ok (.getfield 90, 3) := by decide +kernel
theorem dX9_crowd_77 : decode (mB 82) 77 = .ok (.iload_n 3, 1) := by decide +kernel
theorem dX9_crowd_78 : decode (mB 82) 78 = .ok (.iastore, 1) := by decide +kernel
theorem dX9_crowd_79 : decode (mB 82) 79 = .ok (.aload_n 0, 1) := by decide +kernel
theorem dX9_crowd_80 : decode (mB 82) 80 = .ok (.dup, 1) := by decide +kernel
theorem dX9_crowd_81 : decode (mB 82) 81 = .ok (.getfield 90, 3) := by decide +kernel
theorem dX9_crowd_84 : decode (mB 82) 84 = .ok (.iconst 1, 1) := by decide +kernel
theorem dX9_crowd_85 : decode (mB 82) 85 = .ok (.iadd, 1) := by decide +kernel
theorem dX9_crowd_86 : decode (mB 82) 86 = .ok (.putfield 90, 3) := by decide +kernel
theorem dX9_crowd_89 : decode (mB 82) 89 = .ok (.aload_n 0, 1) := by decide +kernel
theorem dX9_crowd_90 : decode (mB 82) 90 = .ok (.getfield 90, 3) := by decide +kernel
theorem dX9_crowd_93 : decode (mB 82) 93 = .ok (.ireturn, 1) := by decide +kernel
theorem dX9_usual_0 : decode (mB 83) 0 = .ok (.iload_n 1, 1) := by decide +kernel
theorem dX9_usual_1 : decode (mB 83) 1 = .ok (.iconst 1, 1) := by decide +kernel
theorem dX9_usual_2 : decode (mB 83) 2 = .ok (.bipush 12, 2) := by decide +kernel
theorem dX9_usual_4 : decode (mB 83) 4 = .ok (.invokestatic 64, 3) := by decide +kernel
theorem dX9_usual_7 : decode (mB 83) 7 = .ok (.ifCond .ne 5, 3) := by decide +kernel
theorem dX9_usual_10 : decode (mB 83) 10 = .ok (.iconst (-1), 1) := by decide +kernel
theorem dX9_usual_11 : decode (mB 83) 11 = .ok (.ireturn, 1) := by decide +kernel
theorem dX9_usual_12 : decode (mB 83) 12 = .ok (.aload_n 0, 1) := by decide +kernel
theorem dX9_usual_13 : decode (mB 83) 13 = .ok (.iload_n 1, 1) := by decide +kernel
theorem dX9_usual_14 : decode (mB 83) 14 = .ok (.putfield 93, 3) := by decide +kernel
theorem dX9_usual_17 : decode (mB 83) 17 = .ok (.iconst 0, 1) := by decide +kernel
theorem dX9_usual_18 : decode (mB 83) 18 = .ok (.istore_n 2, 1) := by decide +kernel
theorem dX9_usual_19 : decode (mB 83) 19 = .ok (.iload_n 2, 1) := by decide +kernel
theorem dX9_usual_20 : decode (mB 83) 20 = .ok (.bipush 12, 2) := by decide +kernel
theorem dX9_usual_22 : decode (mB 83) 22 = .ok (.if_icmp .ge 16, 3) := by decide +kernel
theorem dX9_usual_25 : decode (mB 83) 25 = .ok (.aload_n 0, 1) := by decide +kernel
theorem dX9_usual_26 : decode (mB 83) 26 = .ok (.getfield 32, 3) := by decide +kernel
theorem dX9_usual_29 : decode (mB 83) 29 = .ok (.iload_n 2, 1) := by decide +kernel
theorem dX9_usual_30 : decode (mB 83) 30 = .ok (.iconst 0, 1) := by decide +kernel
theorem dX9_usual_31 : decode (mB 83) 31 = .ok (.iastore, 1) := by decide +kernel
theorem dX9_usual_32 : decode (mB 83) 32 = .ok (.iinc 2 1, 3) := by decide +kernel
theorem dX9_usual_35 : decode (mB 83) 35 = .ok (.goto (-16), 3) := by decide +kernel
theorem dX9_usual_38 : decode (mB 83) 38 = .ok (.iconst 1, 1) := by decide +kernel
theorem dX9_usual_39 : decode (mB 83) 39 = .ok (.ireturn, 1) := by decide +kernel
theorem dX9_place_0 : decode (mB 84) 0 = .ok (.iload_n 1, 1) := by decide +kernel
theorem dX9_place_1 : decode (mB 84) 1 = .ok (.ifCond .lt 27, 3) := by decide +kernel
theorem dX9_place_4 : decode (mB 84) 4 = .ok (.iload_n 1, 1) := by decide +kernel
theorem dX9_place_5 : decode (mB 84) 5 = .ok (.aload_n 0, 1) := by decide +kernel
theorem dX9_place_6 : decode (mB 84) 6 = .ok (.getfield 93, 3) := by decide +kernel
theorem dX9_place_9 : decode (mB 84) 9 = .ok (.if_icmp .ge 19, 3) := by decide +kernel
theorem dX9_place_12 : decode (mB 84) 12 = .ok (.iload_n 2, 1) := by decide +kernel
theorem dX9_place_13 : decode (mB 84) 13 = .ok (.invokestatic 87, 3) := by decide +kernel
theorem dX9_place_16 : decode (mB 84) 16 = .ok (.ifCond .eq 12, 3) := by decide +kernel
theorem dX9_place_19 : decode (mB 84) 19 = .ok (.iload_n 3, 1) := by decide +kernel
theorem dX9_place_20 : decode (mB 84) 20 = .ok (.iconst 0, 1) := by decide +kernel
theorem dX9_place_21 : decode (mB 84) 21 = .ok (.iconst 5, 1) := by decide +kernel
theorem dX9_place_22 : decode (mB 84) 22 = .ok (.invokestatic 64, 3) := by decide +kernel
theorem dX9_place_25 : decode (mB 84) 25 = .ok (.ifCond .ne 5, 3) := by decide +kernel
theorem dX9_place_28 : decode (mB 84) 28 = .ok (.iconst (-1), 1) := by decide +kernel
theorem dX9_place_29 : decode (mB 84) 29 = .ok (.ireturn, 1) := by decide +kernel
theorem dX9_place_30 : decode (mB 84) 30 = .ok (.aload_n 0, 1) := by decide +kernel
theorem dX9_place_31 : decode (mB 84) 31 = .ok (.getfield 29, 3) := by decide +kernel
theorem dX9_place_34 : decode (mB 84) 34 = .ok (.iload_n 1, 1) := by decide +kernel
theorem dX9_place_35 : decode (mB 84) 35 = .ok (.iload_n 2, 1) := by decide +kernel
theorem dX9_place_36 : decode (mB 84) 36 = .ok (.iastore, 1) := by decide +kernel
theorem dX9_place_37 : decode (mB 84) 37 = .ok (.aload_n 0, 1) := by decide +kernel
theorem dX9_place_38 : decode (mB 84) 38 = .ok (.getfield 32, 3) := by decide +kernel
theorem dX9_place_41 : decode (mB 84) 41 = .ok (.iload_n 1, 1) := by decide +kernel
theorem dX9_place_42 : decode (mB 84) 42 = .ok (.iload_n 3, 1) := by decide +kernel
theorem dX9_place_43 : decode (mB 84) 43 = .ok (.iastore, 1) := by decide +kernel
theorem dX9_place_44 : decode (mB 84) 44 = .ok (.iconst 1, 1) := by decide +kernel
theorem dX9_place_45 : decode (mB 84) 45 = .ok (.ireturn, 1) := by decide +kernel
theorem dX9_placeOf_0 : decode (mB 85) 0 = .ok (.iconst 0, 1) := by decide +kernel
theorem dX9_placeOf_1 : decode (mB 85) 1 = .ok (.istore_n 2, 1) := by decide +kernel
theorem dX9_placeOf_2 : decode (mB 85) 2 = .ok (.iload_n 2, 1) := by decide +kernel
theorem dX9_placeOf_3 : decode (mB 85) 3 = .ok (.aload_n 0, 1) := by decide +kernel
theorem dX9_placeOf_4 : decode (mB 85) 4 = .ok (.getfield 38, 3) := by decide +kernel
theorem dX9_placeOf_7 : decode (mB 85) 7 = .ok (.getfield 96, 3) := by decide +kernel
theorem dX9_placeOf_10 : decode (mB 85) 10 = .ok (.if_icmp .ge 24, 3) := by decide +kernel
theorem dX9_placeOf_13 : decode (mB 85) 13 = .ok (.aload_n 0, 1) := by decide +kernel
theorem dX9_placeOf_14 : decode (mB 85) 14 = .ok (.getfield 38, 3) := by decide +kernel
theorem dX9_placeOf_17 : decode (mB 85) 17 = .ok (.getfield 99, 3) := by decide +kernel
theorem dX9_placeOf_20 : decode (mB 85) 20 = .ok (.iload_n 2, 1) := by decide +kernel
theorem dX9_placeOf_21 : decode (mB 85) 21 = .ok (.iaload, 1) := by decide +kernel
theorem dX9_placeOf_22 : decode (mB 85) 22 = .ok (.iload_n 1, 1) := by decide +kernel
theorem dX9_placeOf_23 : decode (mB 85) 23 = .ok (.if_icmp .ne 5, 3) := by decide +kernel
theorem dX9_placeOf_26 : decode (mB 85) 26 = .ok (.iload_n 2, 1) := by decide +kernel
theorem dX9_placeOf_27 : decode (mB 85) 27 = .ok (.ireturn, 1) := by decide +kernel
theorem dX9_placeOf_28 : decode (mB 85) 28 = .ok (.iinc 2 1, 3) := by decide +kernel
theorem dX9_placeOf_31 : decode (mB 85) 31 = .ok (.goto (-29), 3) := by decide +kernel
theorem dX9_placeOf_34 : decode (mB 85) 34 = .ok (.iconst (-1), 1) := by decide +kernel
theorem dX9_placeOf_35 : decode (mB 85) 35 = .ok (.ireturn, 1) := by decide +kernel
theorem dX9_guestOf_0 : decode (mB 86) 0 = .ok (.iconst 0, 1) := by decide +kernel
theorem dX9_guestOf_1 : decode (mB 86) 1 = .ok (.istore_n 2, 1) := by decide +kernel
theorem dX9_guestOf_2 : decode (mB 86) 2 = .ok (.iload_n 2, 1) := by decide +kernel
theorem dX9_guestOf_3 : decode (mB 86) 3 = .ok (.aload_n 0, 1) := by decide +kernel
theorem dX9_guestOf_4 : decode (mB 86) 4 = .ok (.getfield 38, 3) := by decide +kernel
theorem dX9_guestOf_7 : decode (mB 86) 7 = .ok (.getfield 102, 3) := by decide +kernel
theorem dX9_guestOf_10 : decode (mB 86) 10 = .ok (.if_icmp .ge 24, 3) := by decide +kernel
theorem dX9_guestOf_13 : decode (mB 86) 13 = .ok (.aload_n 0, 1) := by decide +kernel
theorem dX9_guestOf_14 : decode (mB 86) 14 = .ok (.getfield 38, 3) := by decide +kernel
theorem dX9_guestOf_17 : decode (mB 86) 17 = .ok (.getfield 105, 3) := by decide +kernel
theorem dX9_guestOf_20 : decode (mB 86) 20 = .ok (.iload_n 2, 1) := by decide +kernel
theorem dX9_guestOf_21 : decode (mB 86) 21 = .ok (.iaload, 1) := by decide +kernel
theorem dX9_guestOf_22 : decode (mB 86) 22 = .ok (.iload_n 1, 1) := by decide +kernel
theorem dX9_guestOf_23 : decode (mB 86) 23 = .ok (.if_icmp .ne 5, 3) := by decide +kernel
theorem dX9_guestOf_26 : decode (mB 86) 26 = .ok (.iload_n 2, 1) := by decide +kernel
theorem dX9_guestOf_27 : decode (mB 86) 27 = .ok (.ireturn, 1) := by decide +kernel
theorem dX9_guestOf_28 : decode (mB 86) 28 = .ok (.iinc 2 1, 3) := by decide +kernel
theorem dX9_guestOf_31 : decode (mB 86) 31 = .ok (.goto (-29), 3) := by decide +kernel
theorem dX9_guestOf_34 : decode (mB 86) 34 = .ok (.iconst (-1), 1) := by decide +kernel
theorem dX9_guestOf_35 : decode (mB 86) 35 = .ok (.ireturn, 1) := by decide +kernel
theorem dX9_add_0 : decode (mB 87) 0 = .ok (.aload_n 0, 1) := by decide +kernel
theorem dX9_add_1 : decode (mB 87) 1 = .ok (.getfield 38, 3) := by decide +kernel
theorem dX9_add_4 : decode (mB 87) 4 = .ok (.getfield 108, 3) := by decide +kernel
theorem dX9_add_7 : decode (mB 87) 7 = .ok (.bipush 13, 2) := by decide +kernel
theorem dX9_add_9 : decode (mB 87) 9 = .ok (.iload_n 1, 1) := by decide +kernel
theorem dX9_add_10 : decode (mB 87) 10 = .ok (.imul, 1) := by decide +kernel
theorem dX9_add_11 : decode (mB 87) 11 = .ok (.iload_n 2, 1) := by decide +kernel
theorem dX9_add_12 : decode (mB 87) 12 = .ok (.iadd, 1) := by decide +kernel
theorem dX9_add_13 : decode (mB 87) 13 = .ok (.dup2, 1) := by decide +kernel
theorem dX9_add_14 : decode (mB 87) 14 = .ok (.iaload, 1) := by decide +kernel
theorem dX9_add_15 : decode (mB 87) 15 = .ok (.iconst 1, 1) := by decide +kernel
theorem dX9_add_16 : decode (mB 87) 16 = .ok (.iadd, 1) := by decide +kernel
theorem dX9_add_17 : decode (mB 87) 17 = .ok (.iastore, 1) := by decide +kernel
theorem dX9_add_18 : decode (mB 87) 18 = .ok (.return_, 1) := by decide +kernel
theorem dX9_handsInUse_0 : decode (mB 88) 0 = .ok (.iconst 0, 1) := by decide +kernel
theorem dX9_handsInUse_1 : decode (mB 88) 1 = .ok (.istore_n 2, 1) := by decide +kernel
theorem dX9_handsInUse_2 : decode (mB 88) 2 = .ok (.iconst 0, 1) := by decide +kernel
theorem dX9_handsInUse_3 : decode (mB 88) 3 = .ok (.istore_n 3, 1) := by decide +kernel
theorem dX9_handsInUse_4 : decode (mB 88) 4 = .ok (.iload_n 3, 1) := by decide +kernel
theorem dX9_handsInUse_5 : decode (mB 88) 5 = .ok (.aload_n 0, 1) := by decide +kernel
theorem dX9_handsInUse_6 : decode (mB 88) 6 = .ok (.getfield 38, 3) := by decide +kernel
theorem dX9_handsInUse_9 : decode (mB 88) 9 = .ok (.getfield 96, 3) := by decide +kernel
theorem dX9_handsInUse_12 : decode (mB 88) 12 = .ok (.if_icmp .ge 42, 3) := by decide +kernel
theorem dX9_handsInUse_15 : decode (mB 88) 15 = .ok (.iload_n 2, 1) := by decide +kernel
theorem dX9_handsInUse_16 : decode (mB 88) 16 = .ok (.aload_n 0, 1) := by decide +kernel
theorem dX9_handsInUse_17 : decode (mB 88) 17 = .ok (.getfield 38, 3) := by decide +kernel
theorem dX9_handsInUse_20 : decode (mB 88) 20 = .ok (.getfield 111, 3) := by decide +kernel
theorem dX9_handsInUse_23 : decode (mB 88) 23 = .ok (.iload_n 3, 1) := by decide +kernel
theorem dX9_handsInUse_24 : decode (mB 88) 24 = .ok (.iaload, 1) := by decide +kernel
theorem dX9_handsInUse_25 : decode (mB 88) 25 = .ok (.iload_n 1, 1) := by decide +kernel
theorem dX9_handsInUse_26 : decode (mB 88) 26 = .ok (.if_icmp .ne 19, 3) := by decide +kernel
theorem dX9_handsInUse_29 : decode (mB 88) 29 = .ok (.aload_n 0, 1) := by decide +kernel
theorem dX9_handsInUse_30 : decode (mB 88) 30 = .ok (.getfield 38, 3) := by decide +kernel
theorem dX9_handsInUse_33 : decode (mB 88) 33 = .ok (.getfield 114, 3) := by decide +kernel
theorem dX9_handsInUse_36 : decode (mB 88) 36 = .ok (.iload_n 3, 1) := by decide +kernel
theorem dX9_handsInUse_37 : decode (mB 88) 37 = .ok (.iaload, 1) := by decide +kernel
theorem dX9_handsInUse_38 : decode (mB 88) 38 = .ok (.ifCond .eq 7, 3) := by decide +kernel
theorem dX9_handsInUse_41 : decode (mB 88) 41 = .ok (.iconst 1, 1) := by decide +kernel
theorem dX9_handsInUse_42 : decode (mB 88) 42 = .ok (.goto 4, 3) := by decide +kernel
theorem dX9_handsInUse_45 : decode (mB 88) 45 = .ok (.iconst 0, 1) := by decide +kernel
theorem dX9_handsInUse_46 : decode (mB 88) 46 = .ok (.iadd, 1) := by decide +kernel
theorem dX9_handsInUse_47 : decode (mB 88) 47 = .ok (.istore_n 2, 1) := by decide +kernel
theorem dX9_handsInUse_48 : decode (mB 88) 48 = .ok (.iinc 3 1, 3) := by decide +kernel
theorem dX9_handsInUse_51 : decode (mB 88) 51 = .ok (.goto (-47), 3) := by decide +kernel
theorem dX9_handsInUse_54 : decode (mB 88) 54 = .ok (.iload_n 2, 1) := by decide +kernel
theorem dX9_handsInUse_55 : decode (mB 88) 55 = .ok (.ireturn, 1) := by decide +kernel
theorem dX9_takeOut_0 : decode (mB 89) 0 = .ok (.aload_n 0, 1) := by decide +kernel
theorem dX9_takeOut_1 : decode (mB 89) 1 = .ok (.iload_n 1, 1) := by decide +kernel
theorem dX9_takeOut_2 : decode (mB 89) 2 = .ok (.invokevirtual 117, 3) := by decide +kernel
theorem dX9_takeOut_5 : decode (mB 89) 5 = .ok (.istore_n 2, 1) := by decide +kernel
theorem dX9_takeOut_6 : decode (mB 89) 6 = .ok (.aload_n 0, 1) := by decide +kernel
theorem dX9_takeOut_7 : decode (mB 89) 7 = .ok (.getfield 38, 3) := by decide +kernel
theorem dX9_takeOut_10 : decode (mB 89) 10 = .ok (.dup, 1) := by decide +kernel
theorem dX9_takeOut_11 : decode (mB 89) 11 = .ok (.getfield 96, 3) := by decide +kernel
theorem dX9_takeOut_14 : decode (mB 89) 14 = .ok (.iconst 1, 1) := by decide +kernel
theorem dX9_takeOut_15 : decode (mB 89) 15 = .ok (.isub, 1) := by decide +kernel
theorem dX9_takeOut_16 : decode (mB 89) 16 = .ok (.putfield 96, 3) := by decide +kernel
theorem dX9_takeOut_19 : decode (mB 89) 19 = .ok (.iload_n 2, 1) := by decide +kernel
theorem dX9_takeOut_20 : decode (mB 89) 20 = .ok (.istore_n 3, 1) := by decide +kernel
theorem dX9_takeOut_21 : decode (mB 89) 21 = .ok (.iload_n 3, 1) := by decide +kernel
theorem dX9_takeOut_22 : decode (mB 89) 22 = .ok (.aload_n 0, 1) := by decide +kernel
theorem dX9_takeOut_23 : decode (mB 89) 23 = .ok (.getfield 38, 3) := by decide +kernel
theorem dX9_takeOut_26 : decode (mB 89) 26 = .ok (.getfield 96, 3) := by decide +kernel
theorem dX9_takeOut_29 : decode (mB 89) 29 = .ok (.if_icmp .ge 169, 3) := by decide +kernel
theorem dX9_takeOut_32 : decode (mB 89) 32 = .ok (.aload_n 0, 1) := by decide +kernel
theorem dX9_takeOut_33 : decode (mB 89) 33 = .ok (.getfield 38, 3) := by decide +kernel
theorem dX9_takeOut_36 : decode (mB 89) 36 = .ok (.getfield 99, 3) := by decide +kernel
theorem dX9_takeOut_39 : decode (mB 89) 39 = .ok (.iload_n 3, 1) := by decide +kernel
theorem dX9_takeOut_40 : decode (mB 89) 40 = .ok (.aload_n 0, 1) := by decide +kernel
theorem dX9_takeOut_41 : decode (mB 89) 41 = .ok (.getfield 38, 3) := by decide +kernel
theorem dX9_takeOut_44 : decode (mB 89) 44 = .ok (.getfield 99, 3) := by decide +kernel
theorem dX9_takeOut_47 : decode (mB 89) 47 = .ok (.iload_n 3, 1) := by decide +kernel
theorem dX9_takeOut_48 : decode (mB 89) 48 = .ok (.iconst 1, 1) := by decide +kernel
theorem dX9_takeOut_49 : decode (mB 89) 49 = .ok (.iadd, 1) := by decide +kernel
theorem dX9_takeOut_50 : decode (mB 89) 50 = .ok (.iaload, 1) := by decide +kernel
theorem dX9_takeOut_51 : decode (mB 89) 51 = .ok (.iastore, 1) := by decide +kernel
theorem dX9_takeOut_52 : decode (mB 89) 52 = .ok (.aload_n 0, 1) := by decide +kernel
theorem dX9_takeOut_53 : decode (mB 89) 53 = .ok (.getfield 38, 3) := by decide +kernel
theorem dX9_takeOut_56 : decode (mB 89) 56 = .ok (.getfield 111, 3) := by decide +kernel
theorem dX9_takeOut_59 : decode (mB 89) 59 = .ok (.iload_n 3, 1) := by decide +kernel
theorem dX9_takeOut_60 : decode (mB 89) 60 = .ok (.aload_n 0, 1) := by decide +kernel
theorem dX9_takeOut_61 : decode (mB 89) 61 = .ok (.getfield 38, 3) := by decide +kernel
theorem dX9_takeOut_64 : decode (mB 89) 64 = .ok (.getfield 111, 3) := by decide +kernel
theorem dX9_takeOut_67 : decode (mB 89) 67 = .ok (.iload_n 3, 1) := by decide +kernel
theorem dX9_takeOut_68 : decode (mB 89) 68 = .ok (.iconst 1, 1) := by decide +kernel
theorem dX9_takeOut_69 : decode (mB 89) 69 = .ok (.iadd, 1) := by decide +kernel
theorem dX9_takeOut_70 : decode (mB 89) 70 = .ok (.iaload, 1) := by decide +kernel
theorem dX9_takeOut_71 : decode (mB 89) 71 = .ok (.iastore, 1) := by decide +kernel
theorem dX9_takeOut_72 : decode (mB 89) 72 = .ok (.aload_n 0, 1) := by decide +kernel
theorem dX9_takeOut_73 : decode (mB 89) 73 = .ok (.getfield 38, 3) := by decide +kernel
theorem dX9_takeOut_76 : decode (mB 89) 76 = .ok (.getfield 121, 3) := by decide +kernel
theorem dX9_takeOut_79 : decode (mB 89) 79 = .ok (.iload_n 3, 1) := by decide +kernel
theorem dX9_takeOut_80 : decode (mB 89) 80 = .ok (.aload_n 0, 1) := by decide +kernel
theorem dX9_takeOut_81 : decode (mB 89) 81 = .ok (.getfield 38, 3) := by decide +kernel
theorem dX9_takeOut_84 : decode (mB 89) 84 = .ok (.getfield 121, 3) := by decide +kernel
theorem dX9_takeOut_87 : decode (mB 89) 87 = .ok (.iload_n 3, 1) := by decide +kernel
theorem dX9_takeOut_88 : decode (mB 89) 88 = .ok (.iconst 1, 1) := by decide +kernel
theorem dX9_takeOut_89 : decode (mB 89) 89 = .ok (.iadd, 1) := by decide +kernel
theorem dX9_takeOut_90 : decode (mB 89) 90 = .ok (.iaload, 1) := by decide +kernel
theorem dX9_takeOut_91 : decode (mB 89) 91 = .ok (.iastore, 1) := by decide +kernel
theorem dX9_takeOut_92 : decode (mB 89) 92 = .ok (.aload_n 0, 1) := by decide +kernel
theorem dX9_takeOut_93 : decode (mB 89) 93 = .ok (.getfield 38, 3) := by decide +kernel
theorem dX9_takeOut_96 : decode (mB 89) 96 = .ok (.getfield 114, 3) := by decide +kernel
theorem dX9_takeOut_99 : decode (mB 89) 99 = .ok (.iload_n 3, 1) := by decide +kernel
theorem dX9_takeOut_100 : decode (mB 89) 100 = .ok (.aload_n 0, 1) := by decide +kernel
theorem dX9_takeOut_101 : decode (mB 89) 101 = .ok (.getfield 38, 3) := by decide +kernel
theorem dX9_takeOut_104 : decode (mB 89) 104 = .ok (.getfield 114, 3) := by decide +kernel
theorem dX9_takeOut_107 : decode (mB 89) 107 = .ok (.iload_n 3, 1) := by decide +kernel
theorem dX9_takeOut_108 : decode (mB 89) 108 = .ok (.iconst 1, 1) := by decide +kernel
theorem dX9_takeOut_109 : decode (mB 89) 109 = .ok (.iadd, 1) := by decide +kernel
theorem dX9_takeOut_110 : decode (mB 89) 110 = .ok (.iaload, 1) := by decide +kernel
theorem dX9_takeOut_111 : decode (mB 89) 111 = .ok (.iastore, 1) := by decide +kernel
theorem dX9_takeOut_112 : decode (mB 89) 112 = .ok (.aload_n 0, 1) := by decide +kernel
theorem dX9_takeOut_113 : decode (mB 89) 113 = .ok (.getfield 38, 3) := by decide +kernel
theorem dX9_takeOut_116 : decode (mB 89) 116 = .ok (.getfield 124, 3) := by decide +kernel
theorem dX9_takeOut_119 : decode (mB 89) 119 = .ok (.iload_n 3, 1) := by decide +kernel
theorem dX9_takeOut_120 : decode (mB 89) 120 = .ok (.aload_n 0, 1) := by decide +kernel
theorem dX9_takeOut_121 : decode (mB 89) 121 = .ok (.getfield 38, 3) := by decide +kernel
theorem dX9_takeOut_124 : decode (mB 89) 124 = .ok (.getfield 124, 3) := by decide +kernel
theorem dX9_takeOut_127 : decode (mB 89) 127 = .ok (.iload_n 3, 1) := by decide +kernel
theorem dX9_takeOut_128 : decode (mB 89) 128 = .ok (.iconst 1, 1) := by decide +kernel
theorem dX9_takeOut_129 : decode (mB 89) 129 = .ok (.iadd, 1) := by decide +kernel
theorem dX9_takeOut_130 : decode (mB 89) 130 = .ok (.iaload, 1) := by decide +kernel
theorem dX9_takeOut_131 : decode (mB 89) 131 = .ok (.iastore, 1) := by decide +kernel
theorem dX9_takeOut_132 : decode (mB 89) 132 = .ok (.aload_n 0, 1) := by decide +kernel
theorem dX9_takeOut_133 : decode (mB 89) 133 = .ok (.getfield 38, 3) := by decide +kernel
theorem dX9_takeOut_136 : decode (mB 89) 136 = .ok (.getfield 127, 3) := by decide +kernel
theorem dX9_takeOut_139 : decode (mB 89) 139 = .ok (.iload_n 3, 1) := by decide +kernel
theorem dX9_takeOut_140 : decode (mB 89) 140 = .ok (.aload_n 0, 1) := by decide +kernel
theorem dX9_takeOut_141 : decode (mB 89) 141 = .ok (.getfield 38, 3) := by decide +kernel
theorem dX9_takeOut_144 : decode (mB 89) 144 = .ok (.getfield 127, 3) := by decide +kernel
theorem dX9_takeOut_147 : decode (mB 89) 147 = .ok (.iload_n 3, 1) := by decide +kernel
theorem dX9_takeOut_148 : decode (mB 89) 148 = .ok (.iconst 1, 1) := by decide +kernel
theorem dX9_takeOut_149 : decode (mB 89) 149 = .ok (.iadd, 1) := by decide +kernel
theorem dX9_takeOut_150 : decode (mB 89) 150 = .ok (.iaload, 1) := by decide +kernel
theorem dX9_takeOut_151 : decode (mB 89) 151 = .ok (.iastore, 1) := by decide +kernel
theorem dX9_takeOut_152 : decode (mB 89) 152 = .ok (.aload_n 0, 1) := by decide +kernel
theorem dX9_takeOut_153 : decode (mB 89) 153 = .ok (.getfield 38, 3) := by decide +kernel
theorem dX9_takeOut_156 : decode (mB 89) 156 = .ok (.getfield 130, 3) := by decide +kernel
theorem dX9_takeOut_159 : decode (mB 89) 159 = .ok (.iload_n 3, 1) := by decide +kernel
theorem dX9_takeOut_160 : decode (mB 89) 160 = .ok (.aload_n 0, 1) := by decide +kernel
theorem dX9_takeOut_161 : decode (mB 89) 161 = .ok (.getfield 38, 3) := by decide +kernel
theorem dX9_takeOut_164 : decode (mB 89) 164 = .ok (.getfield 130, 3) := by decide +kernel
theorem dX9_takeOut_167 : decode (mB 89) 167 = .ok (.iload_n 3, 1) := by decide +kernel
theorem dX9_takeOut_168 : decode (mB 89) 168 = .ok (.iconst 1, 1) := by decide +kernel
theorem dX9_takeOut_169 : decode (mB 89) 169 = .ok (.iadd, 1) := by decide +kernel
theorem dX9_takeOut_170 : decode (mB 89) 170 = .ok (.iaload, 1) := by decide +kernel
theorem dX9_takeOut_171 : decode (mB 89) 171 = .ok (.iastore, 1) := by decide +kernel
theorem dX9_takeOut_172 : decode (mB 89) 172 = .ok (.aload_n 0, 1) := by decide +kernel
theorem dX9_takeOut_173 : decode (mB 89) 173 = .ok (.getfield 38, 3) := by decide +kernel
theorem dX9_takeOut_176 : decode (mB 89) 176 = .ok (.getfield 133, 3) := by decide +kernel
theorem dX9_takeOut_179 : decode (mB 89) 179 = .ok (.iload_n 3, 1) := by decide +kernel
theorem dX9_takeOut_180 : decode (mB 89) 180 = .ok (.aload_n 0, 1) := by decide +kernel
theorem dX9_takeOut_181 : decode (mB 89) 181 = .ok (.getfield 38, 3) := by decide +kernel
theorem dX9_takeOut_184 : decode (mB 89) 184 = .ok (.getfield 133, 3) := by decide +kernel
theorem dX9_takeOut_187 : decode (mB 89) 187 = .ok (.iload_n 3, 1) := by decide +kernel
theorem dX9_takeOut_188 : decode (mB 89) 188 = .ok (.iconst 1, 1) := by decide +kernel
theorem dX9_takeOut_189 : decode (mB 89) 189 = .ok (.iadd, 1) := by decide +kernel
theorem dX9_takeOut_190 : decode (mB 89) 190 = .ok (.iaload, 1) := by decide +kernel
theorem dX9_takeOut_191 : decode (mB 89) 191 = .ok (.iastore, 1) := by decide +kernel
theorem dX9_takeOut_192 : decode (mB 89) 192 = .ok (.iinc 3 1, 3) := by decide +kernel
theorem dX9_takeOut_195 : decode (mB 89) 195 = .ok (.goto (-174), 3) := by decide +kernel
theorem dX9_takeOut_198 : decode (mB 89) 198 = .ok (.return_, 1) := by decide +kernel
theorem dX9_begin_0 : decode (mB 90) 0 = .ok (.aload_n 0, 1) := by decide +kernel
theorem dX9_begin_1 : decode (mB 90) 1 = .ok (.iload_n 1, 1) := by decide +kernel
theorem dX9_begin_2 : decode (mB 90) 2 = .ok (.invokevirtual 117, 3) := by decide +kernel
theorem dX9_begin_5 : decode (mB 90) 5 = .ok (.istore_n 2, 1) := by decide +kernel
theorem dX9_begin_6 : decode (mB 90) 6 = .ok (.aload_n 0, 1) := by decide +kernel
theorem dX9_begin_7 : decode (mB 90) 7 = .ok (.getfield 38, 3) := by decide +kernel
theorem dX9_begin_10 : decode (mB 90) 10 = .ok (.getfield 111, 3) := by decide +kernel
theorem dX9_begin_13 : decode (mB 90) 13 = .ok (.iload_n 2, 1) := by decide +kernel
theorem dX9_begin_14 : decode (mB 90) 14 = .ok (.iaload, 1) := by decide +kernel
theorem dX9_begin_15 : decode (mB 90) 15 = .ok (.istore_n 3, 1) := by decide +kernel
theorem dX9_begin_16 : decode (mB 90) 16 = .ok (.aload_n 0, 1) := by decide +kernel
theorem dX9_begin_17 : decode (mB 90) 17 = .ok (.getfield 38, 3) := by decide +kernel
theorem dX9_begin_20 : decode (mB 90) 20 = .ok (.getfield 114, 3) := by decide +kernel
theorem dX9_begin_23 : decode (mB 90) 23 = .ok (.iload_n 2, 1) := by decide +kernel
theorem dX9_begin_24 : decode (mB 90) 24 = .ok (.iconst 1, 1) := by decide +kernel
theorem dX9_begin_25 : decode (mB 90) 25 = .ok (.iastore, 1) := by decide +kernel
theorem dX9_begin_26 : decode (mB 90) 26 = .ok (.aload_n 0, 1) := by decide +kernel
theorem dX9_begin_27 : decode (mB 90) 27 = .ok (.getfield 38, 3) := by decide +kernel
theorem dX9_begin_30 : decode (mB 90) 30 = .ok (.getfield 127, 3) := by decide +kernel
theorem dX9_begin_33 : decode (mB 90) 33 = .ok (.iload_n 2, 1) := by decide +kernel
theorem dX9_begin_34 : decode (mB 90) 34 = .ok (.aload_n 0, 1) := by decide +kernel
theorem dX9_begin_35 : decode (mB 90) 35 = .ok (.getfield 38, 3) := by decide +kernel
theorem dX9_begin_38 : decode (mB 90) 38 = .ok (.getfield 68, 3) := by decide +kernel
theorem dX9_begin_41 : decode (mB 90) 41 = .ok (.aload_n 0, 1) := by decide +kernel
theorem dX9_begin_42 : decode (mB 90) 42 = .ok (.iload_n 3, 1) := by decide +kernel
theorem dX9_begin_43 : decode (mB 90) 43 = .ok (.bipush 8, 2) := by decide +kernel
theorem dX9_begin_45 : decode (mB 90) 45 = .ok (.invokevirtual 79, 3) := by decide +kernel
theorem dX9_begin_48 : decode (mB 90) 48 = .ok (.iadd, 1) := by decide +kernel
theorem dX9_begin_49 : decode (mB 90) 49 = .ok (.iastore, 1) := by decide +kernel
theorem dX9_begin_50 : decode (mB 90) 50 = .ok (.aload_n 0, 1) := by decide +kernel
theorem dX9_begin_51 : decode (mB 90) 51 = .ok (.iload_n 3, 1) := by decide +kernel
theorem dX9_begin_52 : decode (mB 90) 52 = .ok (.bipush 7, 2) := by decide +kernel
theorem dX9_begin_54 : decode (mB 90) 54 = .ok (.invokevirtual 136, 3) := by decide +kernel
theorem dX9_begin_57 : decode (mB 90) 57 = .ok (.return_, 1) := by decide +kernel
theorem dX9_leaveRow_0 : decode (mB 91) 0 = .ok (.aload_n 0, 1) := by decide +kernel
theorem dX9_leaveRow_1 : decode (mB 91) 1 = .ok (.getfield 38, 3) := by decide +kernel
theorem dX9_leaveRow_4 : decode (mB 91) 4 = .ok (.getfield 140, 3) := by decide +kernel
theorem dX9_leaveRow_7 : decode (mB 91) 7 = .ok (.iload_n 1, 1) := by decide +kernel
theorem dX9_leaveRow_8 : decode (mB 91) 8 = .ok (.dup2, 1) := by decide +kernel
theorem dX9_leaveRow_9 : decode (mB 91) 9 = .ok (.iaload, 1) := by decide +kernel
theorem dX9_leaveRow_10 : decode (mB 91) 10 = .ok (.iconst 1, 1) := by decide +kernel
theorem dX9_leaveRow_11 : decode (mB 91) 11 = .ok (.isub, 1) := by decide +kernel
theorem dX9_leaveRow_12 : decode (mB 91) 12 = .ok (.iastore, 1) := by decide +kernel
theorem dX9_leaveRow_13 : decode (mB 91) 13 = .ok (.iconst 0, 1) := by decide +kernel
theorem dX9_leaveRow_14 : decode (mB 91) 14 = .ok (.istore_n 2, 1) := by decide +kernel
theorem dX9_leaveRow_15 : decode (mB 91) 15 = .ok (.iload_n 2, 1) := by decide +kernel
theorem dX9_leaveRow_16 : decode (mB 91) 16 = .ok (.aload_n 0, 1) := by decide +kernel
theorem dX9_leaveRow_17 : decode (mB 91) 17 = .ok (.getfield 38, 3) := by decide +kernel
theorem dX9_leaveRow_20 : decode (mB 91) 20 = .ok (.getfield 140, 3) := by decide +kernel
theorem dX9_leaveRow_23 : decode (mB 91) 23 = .ok (.iload_n 1, 1) := by decide +kernel
theorem dX9_leaveRow_24 : decode (mB 91) 24 = .ok (.iaload, 1) := by decide +kernel
theorem dX9_leaveRow_25 : decode (mB 91) 25 = .ok (.if_icmp .ge 39, 3) := by decide +kernel
theorem dX9_leaveRow_28 : decode (mB 91) 28 = .ok (.aload_n 0, 1) := by decide +kernel
theorem dX9_leaveRow_29 : decode (mB 91) 29 = .ok (.getfield 38, 3) := by decide +kernel
theorem dX9_leaveRow_32 : decode (mB 91) 32 = .ok (.getfield 143, 3) := by decide +kernel
theorem dX9_leaveRow_35 : decode (mB 91) 35 = .ok (.bipush 20, 2) := by decide +kernel
theorem dX9_leaveRow_37 : decode (mB 91) 37 = .ok (.iload_n 1, 1) := by decide +kernel
theorem dX9_leaveRow_38 : decode (mB 91) 38 = .ok (.imul, 1) := by decide +kernel
theorem dX9_leaveRow_39 : decode (mB 91) 39 = .ok (.iload_n 2, 1) := by decide +kernel
theorem dX9_leaveRow_40 : decode (mB 91) 40 = .ok (.iadd, 1) := by decide +kernel
theorem dX9_leaveRow_41 : decode (mB 91) 41 = .ok (.aload_n 0, 1) := by decide +kernel
theorem dX9_leaveRow_42 : decode (mB 91) 42 = .ok (.getfield 38, 3) := by decide +kernel
theorem dX9_leaveRow_45 : decode (mB 91) 45 = .ok (.getfield 143, 3) := by decide +kernel
theorem dX9_leaveRow_48 : decode (mB 91) 48 = .ok (.bipush 20, 2) := by decide +kernel
theorem dX9_leaveRow_50 : decode (mB 91) 50 = .ok (.iload_n 1, 1) := by decide +kernel
theorem dX9_leaveRow_51 : decode (mB 91) 51 = .ok (.imul, 1) := by decide +kernel
theorem dX9_leaveRow_52 : decode (mB 91) 52 = .ok (.iload_n 2, 1) := by decide +kernel
theorem dX9_leaveRow_53 : decode (mB 91) 53 = .ok (.iadd, 1) := by decide +kernel
theorem dX9_leaveRow_54 : decode (mB 91) 54 = .ok (.iconst 1, 1) := by decide +kernel
theorem dX9_leaveRow_55 : decode (mB 91) 55 = .ok (.iadd, 1) := by decide +kernel
theorem dX9_leaveRow_56 : decode (mB 91) 56 = .ok (.iaload, 1) := by decide +kernel
theorem dX9_leaveRow_57 : decode (mB 91) 57 = .ok (.iastore, 1) := by decide +kernel
theorem dX9_leaveRow_58 : decode (mB 91) 58 = .ok (.iinc 2 1, 3) := by decide +kernel
theorem dX9_leaveRow_61 : decode (mB 91) 61 = .ok (.goto (-46), 3) := by decide +kernel
theorem dX9_leaveRow_64 : decode (mB 91) 64 = .ok (.return_, 1) := by decide +kernel
theorem dX9_comes_0 : decode (mB 92) 0 = .ok (.aload_n 0, 1) := by decide +kernel
theorem dX9_comes_1 : decode (mB 92) 1 = .ok (.getfield 38, 3) := by decide +kernel
theorem dX9_comes_4 : decode (mB 92) 4 = .ok (.getfield 55, 3) := by decide +kernel
theorem dX9_comes_7 : decode (mB 92) 7 = .ok (.bipush 8, 2) := by decide +kernel
theorem dX9_comes_9 : decode (mB 92) 9 = .ok (.iload_n 1, 1) := by decide +kernel
theorem dX9_comes_10 : decode (mB 92) 10 = .ok (.imul, 1) := by decide +kernel
theorem dX9_comes_11 : decode (mB 92) 11 = .ok (.iload_n 2, 1) := by decide +kernel
theorem dX9_comes_12 : decode (mB 92) 12 = .ok (.iadd, 1) := by decide +kernel
theorem dX9_comes_13 : decode (mB 92) 13 = .ok (.iaload, 1) := by decide +kernel
theorem dX9_comes_14 : decode (mB 92) 14 = .ok (.aload_n 0, 1) := by decide +kernel
theorem dX9_comes_15 : decode (mB 92) 15 = .ok (.getfield 38, 3) := by decide +kernel
theorem dX9_comes_18 : decode (mB 92) 18 = .ok (.getfield 68, 3) := by decide +kernel
theorem dX9_comes_21 : decode (mB 92) 21 = .ok (.if_icmp .lt 12, 3) := by decide +kernel
theorem dX9_comes_24 : decode (mB 92) 24 = .ok (.aload_n 0, 1) := by decide +kernel
theorem dX9_comes_25 : decode (mB 92) 25 = .ok (.iload_n 1, 1) := by decide +kernel
theorem dX9_comes_26 : decode (mB 92) 26 = .ok (.bipush 6, 2) := by decide +kernel
theorem dX9_comes_28 : decode (mB 92) 28 = .ok (.invokevirtual 136, 3) := by decide +kernel
theorem dX9_comes_31 : decode (mB 92) 31 = .ok (.iconst (-1), 1) := by decide +kernel
theorem dX9_comes_32 : decode (mB 92) 32 = .ok (.ireturn, 1) := by decide +kernel
theorem dX9_comes_33 : decode (mB 92) 33 = .ok (.aload_n 0, 1) := by decide +kernel
theorem dX9_comes_34 : decode (mB 92) 34 = .ok (.iload_n 1, 1) := by decide +kernel
theorem dX9_comes_35 : decode (mB 92) 35 = .ok (.invokevirtual 146, 3) := by decide +kernel
theorem dX9_comes_38 : decode (mB 92) 38 = .ok (.aload_n 0, 1) := by decide +kernel
theorem dX9_comes_39 : decode (mB 92) 39 = .ok (.iload_n 1, 1) := by decide +kernel
theorem dX9_comes_40 : decode (mB 92) 40 = .ok (.bipush 7, 2) := by decide +kernel
theorem dX9_comes_42 : decode (mB 92) 42 = .ok (.invokevirtual 79, 3) := by decide +kernel
theorem dX9_comes_45 : decode (mB 92) 45 = .ok (.if_icmp .ge 19, 3) := by decide +kernel
theorem dX9_comes_48 : decode (mB 92) 48 = .ok (.aload_n 0, 1) := by decide +kernel
theorem dX9_comes_49 : decode (mB 92) 49 = .ok (.getfield 38, 3) := by decide +kernel
theorem dX9_comes_52 : decode (mB 92) 52 = .ok (.getfield 140, 3) := by decide +kernel
theorem dX9_comes_55 : decode (mB 92) 55 = .ok (.iload_n 1, 1) := by decide +kernel
theorem dX9_comes_56 : decode (mB 92) 56 = .ok (.iaload, 1) := by decide +kernel
theorem dX9_comes_57 : decode (mB 92) 57 = .ok (.ifCond .ne 7, 3) := by decide +kernel
theorem dX9_comes_60 : decode (mB 92) 60 = .ok (.iconst 1, 1) := by decide +kernel
theorem dX9_comes_61 : decode (mB 92) 61 = .ok (.goto 4, 3) := by decide +kernel
theorem dX9_comes_64 : decode (mB 92) 64 = .ok (.iconst 0, 1) := by decide +kernel
theorem dX9_comes_65 : decode (mB 92) 65 = .ok (.istore 5, 2) := by decide +kernel
theorem dX9_comes_67 : decode (mB 92) 67 = .ok (.aload_n 0, 1) := by decide +kernel
theorem dX9_comes_68 : decode (mB 92) 68 = .ok (.iload_n 1, 1) := by decide +kernel
theorem dX9_comes_69 : decode (mB 92) 69 = .ok (.bipush 6, 2) := by decide +kernel
theorem dX9_comes_71 : decode (mB 92) 71 = .ok (.invokevirtual 79, 3) := by decide +kernel
theorem dX9_comes_74 : decode (mB 92) 74 = .ok (.iconst 1, 1) := by decide +kernel
theorem dX9_comes_75 : decode (mB 92) 75 = .ok (.if_icmp .ne 16, 3) := by decide +kernel
theorem dX9_comes_78 : decode (mB 92) 78 = .ok (.aload_n 0, 1) := by decide +kernel
theorem dX9_comes_79 : decode (mB 92) 79 = .ok (.getfield 13, 3) := by decide +kernel
theorem dX9_comes_82 : decode (mB 92) 82 = .ok (.iload_n 1, 1) := by decide +kernel
theorem dX9_comes_83 : decode (mB 92) 83 = .ok (.iaload, 1) := by decide +kernel
theorem dX9_comes_84 : decode (mB 92) 84 = .ok (.ifCond .le 7, 3) := by decide +kernel
theorem dX9_comes_87 : decode (mB 92) 87 = .ok (.iconst 1, 1) := by decide +kernel
theorem dX9_comes_88 : decode (mB 92) 88 = .ok (.goto 4, 3) := by decide +kernel
theorem dX9_comes_91 : decode (mB 92) 91 = .ok (.iconst 0, 1) := by decide +kernel
theorem dX9_comes_92 : decode (mB 92) 92 = .ok (.istore 6, 2) := by decide +kernel
theorem dX9_comes_94 : decode (mB 92) 94 = .ok (.aload_n 0, 1) := by decide +kernel
theorem dX9_comes_95 : decode (mB 92) 95 = .ok (.getfield 38, 3) := by decide +kernel
theorem dX9_comes_98 : decode (mB 92) 98 = .ok (.getfield 96, 3) := by decide +kernel
theorem dX9_comes_101 : decode (mB 92) 101 = .ok (.bipush 120, 2) := by decide +kernel
theorem dX9_comes_103 : decode (mB 92) 103 = .ok (.if_icmp .eq 31, 3) := by decide +kernel
theorem dX9_comes_106 : decode (mB 92) 106 = .ok (.iload 5, 2) := by decide +kernel
theorem dX9_comes_108 : decode (mB 92) 108 = .ok (.ifCond .ne 44, 3) := by decide +kernel
theorem dX9_comes_111 : decode (mB 92) 111 = .ok (.aload_n 0, 1) := by decide +kernel
theorem dX9_comes_112 : decode (mB 92) 112 = .ok (.getfield 38, 3) := by decide +kernel
theorem dX9_comes_115 : decode (mB 92) 115 = .ok (.getfield 140, 3) := by decide +kernel
theorem dX9_comes_118 : decode (mB 92) 118 = .ok (.iload_n 1, 1) := by decide +kernel
theorem dX9_comes_119 : decode (mB 92) 119 = .ok (.iaload, 1) := by decide +kernel
theorem dX9_comes_120 : decode (mB 92) 120 = .ok (.aload_n 0, 1) := by decide +kernel
theorem dX9_comes_121 : decode (mB 92) 121 = .ok (.getfield 13, 3) := by decide +kernel
theorem dX9_comes_124 : decode (mB 92) 124 = .ok (.iload_n 1, 1) := by decide +kernel
theorem dX9_comes_125 : decode (mB 92) 125 = .ok (.iaload, 1) := by decide +kernel
theorem dX9_comes_126 : decode (mB 92) 126 = .ok (.if_icmp .lt 26, 3) := by decide +kernel
theorem dX9_comes_129 : decode (mB 92) 129 = .ok (.iload 6, 2) := by decide +kernel
theorem dX9_comes_131 : decode (mB 92) 131 = .ok (.ifCond .ne 21, 3) := by decide +kernel
theorem dX9_comes_134 : decode (mB 92) 134 = .ok (.aload_n 0, 1) := by decide +kernel
theorem dX9_comes_135 : decode (mB 92) 135 = .ok (.iload_n 1, 1) := by decide +kernel
theorem dX9_comes_136 : decode (mB 92) 136 = .ok (.bipush 10, 2) := by decide +kernel
theorem dX9_comes_138 : decode (mB 92) 138 = .ok (.invokevirtual 136, 3) := by decide +kernel
theorem dX9_comes_141 : decode (mB 92) 141 = .ok (.aload_n 0, 1) := by decide +kernel
theorem dX9_comes_142 : decode (mB 92) 142 = .ok (.getfield 38, 3) := by decide +kernel
theorem dX9_comes_145 : decode (mB 92) 145 = .ok (.iconst 0, 1) := by decide +kernel
theorem dX9_comes_146 : decode (mB 92) 146 = .ok (.putfield 51, 3) := by decide +kernel
theorem dX9_comes_149 : decode (mB 92) 149 = .ok (.bipush (-2), 2) := by decide +kernel
theorem dX9_comes_151 : decode (mB 92) 151 = .ok (.ireturn, 1) := by decide +kernel
theorem dX9_comes_152 : decode (mB 92) 152 = .ok (.aload_n 0, 1) := by decide +kernel
theorem dX9_comes_153 : decode (mB 92) 153 = .ok (.getfield 38, 3) := by decide +kernel
theorem dX9_comes_156 : decode (mB 92) 156 = .ok (.getfield 149, 3) := by decide +kernel
theorem dX9_comes_159 : decode (mB 92) 159 = .ok (.istore 7, 2) := by decide +kernel
theorem dX9_comes_161 : decode (mB 92) 161 = .ok (.aload_n 0, 1) := by decide +kernel
theorem dX9_comes_162 : decode (mB 92) 162 = .ok (.getfield 38, 3) := by decide +kernel
theorem dX9_comes_165 : decode (mB 92) 165 = .ok (.getfield 96, 3) := by decide +kernel
theorem dX9_comes_168 : decode (mB 92) 168 = .ok (.istore 8, 2) := by decide +kernel
theorem dX9_comes_170 : decode (mB 92) 170 = .ok (.aload_n 0, 1) := by decide +kernel
theorem dX9_comes_171 : decode (mB 92) 171 = .ok (.getfield 38, 3) := by decide +kernel
theorem dX9_comes_174 : decode (mB 92) 174 = .ok (.getfield 99, 3) := by decide +kernel
theorem dX9_comes_177 : decode (mB 92) 177 = .ok (.iload 8, 2) := by decide +kernel
theorem dX9_comes_179 : decode (mB 92) 179 = .ok (.iload 7, 2) := by decide +kernel
theorem dX9_comes_181 : decode (mB 92) 181 = .ok (.iastore, 1) := by decide +kernel
theorem dX9_comes_182 : decode (mB 92) 182 = .ok (.aload_n 0, 1) := by decide +kernel
theorem dX9_comes_183 : decode (mB 92) 183 = .ok (.getfield 38, 3) := by decide +kernel
theorem dX9_comes_186 : decode (mB 92) 186 = .ok (.getfield 111, 3) := by decide +kernel
theorem dX9_comes_189 : decode (mB 92) 189 = .ok (.iload 8, 2) := by decide +kernel
theorem dX9_comes_191 : decode (mB 92) 191 = .ok (.iload_n 1, 1) := by decide +kernel
theorem dX9_comes_192 : decode (mB 92) 192 = .ok (.iastore, 1) := by decide +kernel
theorem dX9_comes_193 : decode (mB 92) 193 = .ok (.aload_n 0, 1) := by decide +kernel
theorem dX9_comes_194 : decode (mB 92) 194 = .ok (.getfield 38, 3) := by decide +kernel
theorem dX9_comes_197 : decode (mB 92) 197 = .ok (.getfield 121, 3) := by decide +kernel
theorem dX9_comes_200 : decode (mB 92) 200 = .ok (.iload 8, 2) := by decide +kernel
theorem dX9_comes_202 : decode (mB 92) 202 = .ok (.iload_n 2, 1) := by decide +kernel
theorem dX9_comes_203 : decode (mB 92) 203 = .ok (.iastore, 1) := by decide +kernel
theorem dX9_comes_204 : decode (mB 92) 204 = .ok (.aload_n 0, 1) := by decide +kernel
theorem dX9_comes_205 : decode (mB 92) 205 = .ok (.getfield 38, 3) := by decide +kernel
theorem dX9_comes_208 : decode (mB 92) 208 = .ok (.getfield 114, 3) := by decide +kernel
theorem dX9_comes_211 : decode (mB 92) 211 = .ok (.iload 8, 2) := by decide +kernel
theorem dX9_comes_213 : decode (mB 92) 213 = .ok (.iconst 0, 1) := by decide +kernel
theorem dX9_comes_214 : decode (mB 92) 214 = .ok (.iastore, 1) := by decide +kernel
theorem dX9_comes_215 : decode (mB 92) 215 = .ok (.aload_n 0, 1) := by decide +kernel
theorem dX9_comes_216 : decode (mB 92) 216 = .ok (.getfield 38, 3) := by decide +kernel
theorem dX9_comes_219 : decode (mB 92) 219 = .ok (.getfield 124, 3) := by decide +kernel
theorem dX9_comes_222 : decode (mB 92) 222 = .ok (.iload 8, 2) := by decide +kernel
theorem dX9_comes_224 : decode (mB 92) 224 = .ok (.iload_n 3, 1) := by decide +kernel
theorem dX9_comes_225 : decode (mB 92) 225 = .ok (.iastore, 1) := by decide +kernel
theorem dX9_comes_226 : decode (mB 92) 226 = .ok (.aload_n 0, 1) := by decide +kernel
theorem dX9_comes_227 : decode (mB 92) 227 = .ok (.getfield 38, 3) := by decide +kernel
theorem dX9_comes_230 : decode (mB 92) 230 = .ok (.getfield 127, 3) := by decide +kernel
theorem dX9_comes_233 : decode (mB 92) 233 = .ok (.iload 8, 2) := by decide +kernel
theorem dX9_comes_235 : decode (mB 92) 235 = .ok (.bipush (-4), 2) := by decide +kernel
theorem dX9_comes_237 : decode (mB 92) 237 = .ok (.iastore, 1) := by decide +kernel
theorem dX9_comes_238 : decode (mB 92) 238 = .ok (.aload_n 0, 1) := by decide +kernel
theorem dX9_comes_239 : decode (mB 92) 239 = .ok (.getfield 38, 3) := by decide +kernel
theorem dX9_comes_242 : decode (mB 92) 242 = .ok (.getfield 130, 3) := by decide +kernel
theorem dX9_comes_245 : decode (mB 92) 245 = .ok (.iload 8, 2) := by decide +kernel
theorem dX9_comes_247 : decode (mB 92) 247 = .ok (.iconst 0, 1) := by decide +kernel
theorem dX9_comes_248 : decode (mB 92) 248 = .ok (.iastore, 1) := by decide +kernel
theorem dX9_comes_249 : decode (mB 92) 249 = .ok (.aload_n 0, 1) := by decide +kernel
theorem dX9_comes_250 : decode (mB 92) 250 = .ok (.getfield 38, 3) := by decide +kernel
theorem dX9_comes_253 : decode (mB 92) 253 = .ok (.getfield 133, 3) := by decide +kernel
theorem dX9_comes_256 : decode (mB 92) 256 = .ok (.iload 8, 2) := by decide +kernel
theorem dX9_comes_258 : decode (mB 92) 258 = .ok (.iconst (-1), 1) := by decide +kernel
theorem dX9_comes_259 : decode (mB 92) 259 = .ok (.iastore, 1) := by decide +kernel
theorem dX9_comes_260 : decode (mB 92) 260 = .ok (.aload_n 0, 1) := by decide +kernel
theorem dX9_comes_261 : decode (mB 92) 261 = .ok (.getfield 38, 3) := by decide +kernel
theorem dX9_comes_264 : decode (mB 92) 264 = .ok (.dup, 1) := by decide +kernel
theorem dX9_comes_265 : decode (mB 92) 265 = .ok (.getfield 96, 3) := by decide +kernel
theorem dX9_comes_268 : decode (mB 92) 268 = .ok (.iconst 1, 1) := by decide +kernel
theorem dX9_comes_269 : decode (mB 92) 269 = .ok (.iadd, 1) := by decide +kernel
theorem dX9_comes_270 : decode (mB 92) 270 = .ok (.putfield 96, 3) := by decide +kernel
theorem dX9_comes_273 : decode (mB 92) 273 = .ok (.aload_n 0, 1) := by decide +kernel
theorem dX9_comes_274 : decode (mB 92) 274 = .ok (.getfield 38, 3) := by decide +kernel
theorem dX9_comes_277 : decode (mB 92) 277 = .ok (.dup, 1) := by decide +kernel
theorem dX9_comes_278 : decode (mB 92) 278 = .ok (.getfield 149, 3) := by decide +kernel
theorem dX9_comes_281 : decode (mB 92) 281 = .ok (.iconst 1, 1) := by decide +kernel
theorem dX9_comes_282 : decode (mB 92) 282 = .ok (.iadd, 1) := by decide +kernel
theorem dX9_comes_283 : decode (mB 92) 283 = .ok (.putfield 149, 3) := by decide +kernel
theorem dX9_comes_286 : decode (mB 92) 286 = .ok (.iload_n 3, 1) := by decide +kernel
theorem dX9_comes_287 : decode (mB 92) 287 = .ok (.ifCond .lt 21, 3) := by decide +kernel
theorem dX9_comes_290 : decode (mB 92) 290 = .ok (.aload_n 0, 1) := by decide +kernel
theorem dX9_comes_291 : decode (mB 92) 291 = .ok (.getfield 38, 3) := by decide +kernel
theorem dX9_comes_294 : decode (mB 92) 294 = .ok (.getfield 133, 3) := by decide +kernel
theorem dX9_comes_297 : decode (mB 92) 297 = .ok (.aload_n 0, 1) := by decide +kernel
theorem dX9_comes_298 : decode (mB 92) 298 = .ok (.iload_n 3, 1) := by decide +kernel
theorem dX9_comes_299 : decode (mB 92) 299 = .ok (.invokevirtual 117, 3) := by decide +kernel
theorem dX9_comes_302 : decode (mB 92) 302 = .ok (.iload 7, 2) := by decide +kernel
theorem dX9_comes_304 : decode (mB 92) 304 = .ok (.iastore, 1) := by decide +kernel
theorem dX9_comes_305 : decode (mB 92) 305 = .ok (.goto 15, 3) := by decide +kernel
theorem dX9_comes_308 : decode (mB 92) 308 = .ok (.aload_n 0, 1) := by decide +kernel
theorem dX9_comes_309 : decode (mB 92) 309 = .ok (.getfield 38, 3) := by decide +kernel
theorem dX9_comes_312 : decode (mB 92) 312 = .ok (.getfield 105, 3) := by decide +kernel
theorem dX9_comes_315 : decode (mB 92) 315 = .ok (.iload 4, 2) := by decide +kernel
theorem dX9_comes_317 : decode (mB 92) 317 = .ok (.iload 7, 2) := by decide +kernel
theorem dX9_comes_319 : decode (mB 92) 319 = .ok (.iastore, 1) := by decide +kernel
theorem dX9_comes_320 : decode (mB 92) 320 = .ok (.iload 5, 2) := by decide +kernel
theorem dX9_comes_322 : decode (mB 92) 322 = .ok (.ifCond .eq 12, 3) := by decide +kernel
theorem dX9_comes_325 : decode (mB 92) 325 = .ok (.aload_n 0, 1) := by decide +kernel
theorem dX9_comes_326 : decode (mB 92) 326 = .ok (.iload 7, 2) := by decide +kernel
theorem dX9_comes_328 : decode (mB 92) 328 = .ok (.invokevirtual 152, 3) := by decide +kernel
theorem dX9_comes_331 : decode (mB 92) 331 = .ok (.iload 7, 2) := by decide +kernel
theorem dX9_comes_333 : decode (mB 92) 333 = .ok (.ireturn, 1) := by decide +kernel
theorem dX9_comes_334 : decode (mB 92) 334 = .ok (.aload_n 0, 1) := by decide +kernel
theorem dX9_comes_335 : decode (mB 92) 335 = .ok (.getfield 38, 3) := by decide +kernel
theorem dX9_comes_338 : decode (mB 92) 338 = .ok (.getfield 140, 3) := by decide +kernel
theorem dX9_comes_341 : decode (mB 92) 341 = .ok (.iload_n 1, 1) := by decide +kernel
theorem dX9_comes_342 : decode (mB 92) 342 = .ok (.iaload, 1) := by decide +kernel
theorem dX9_comes_343 : decode (mB 92) 343 = .ok (.aload_n 0, 1) := by decide +kernel
theorem dX9_comes_344 : decode (mB 92) 344 = .ok (.getfield 13, 3) := by decide +kernel
theorem dX9_comes_347 : decode (mB 92) 347 = .ok (.iload_n 1, 1) := by decide +kernel
theorem dX9_comes_348 : decode (mB 92) 348 = .ok (.iaload, 1) := by decide +kernel
theorem dX9_comes_349 : decode (mB 92) 349 = .ok (.if_icmp .lt 18, 3) := by decide +kernel
theorem dX9_comes_352 : decode (mB 92) 352 = .ok (.aload_n 0, 1) := by decide +kernel
theorem dX9_comes_353 : decode (mB 92) 353 = .ok (.getfield 38, 3) := by decide +kernel
theorem dX9_comes_356 : decode (mB 92) 356 = .ok (.getfield 143, 3) := by decide +kernel
theorem dX9_comes_359 : decode (mB 92) 359 = .ok (.bipush 20, 2) := by decide +kernel
theorem dX9_comes_361 : decode (mB 92) 361 = .ok (.iload_n 1, 1) := by decide +kernel
theorem dX9_comes_362 : decode (mB 92) 362 = .ok (.imul, 1) := by decide +kernel
theorem dX9_comes_363 : decode (mB 92) 363 = .ok (.iaload, 1) := by decide +kernel
theorem dX9_comes_364 : decode (mB 92) 364 = .ok (.goto 4, 3) := by decide +kernel
theorem dX9_comes_367 : decode (mB 92) 367 = .ok (.iconst (-1), 1) := by decide +kernel
theorem dX9_comes_368 : decode (mB 92) 368 = .ok (.istore 9, 2) := by decide +kernel
theorem dX9_comes_370 : decode (mB 92) 370 = .ok (.iload 9, 2) := by decide +kernel
theorem dX9_comes_372 : decode (mB 92) 372 = .ok (.ifCond .lt 8, 3) := by decide +kernel
theorem dX9_comes_375 : decode (mB 92) 375 = .ok (.aload_n 0, 1) := by decide +kernel
theorem dX9_comes_376 : decode (mB 92) 376 = .ok (.iload_n 1, 1) := by decide +kernel
theorem dX9_comes_377 : decode (mB 92) 377 = .ok (.invokevirtual 156, 3) := by decide +kernel
theorem dX9_comes_380 : decode (mB 92) 380 = .ok (.aload_n 0, 1) := by decide +kernel
theorem dX9_comes_381 : decode (mB 92) 381 = .ok (.getfield 38, 3) := by decide +kernel
theorem dX9_comes_384 : decode (mB 92) 384 = .ok (.getfield 143, 3) := by decide +kernel
theorem dX9_comes_387 : decode (mB 92) 387 = .ok (.bipush 20, 2) := by decide +kernel
theorem dX9_comes_389 : decode (mB 92) 389 = .ok (.iload_n 1, 1) := by decide +kernel
theorem dX9_comes_390 : decode (mB 92) 390 = .ok (.imul, 1) := by decide +kernel
theorem dX9_comes_391 : decode (mB 92) 391 = .ok (.aload_n 0, 1) := by decide +kernel
theorem dX9_comes_392 : decode (mB 92) 392 = .ok (.getfield 38, 3) := by decide +kernel
theorem dX9_comes_395 : decode (mB 92) 395 = .ok (.getfield 140, 3) := by decide +kernel
theorem dX9_comes_398 : decode (mB 92) 398 = .ok (.iload_n 1, 1) := by decide +kernel
theorem dX9_comes_399 : decode (mB 92) 399 = .ok (.iaload, 1) := by decide +kernel
theorem dX9_comes_400 : decode (mB 92) 400 = .ok (.iadd, 1) := by decide +kernel
theorem dX9_comes_401 : decode (mB 92) 401 = .ok (.iload 7, 2) := by decide +kernel
theorem dX9_comes_403 : decode (mB 92) 403 = .ok (.iastore, 1) := by decide +kernel
theorem dX9_comes_404 : decode (mB 92) 404 = .ok (.aload_n 0, 1) := by decide +kernel
theorem dX9_comes_405 : decode (mB 92) 405 = .ok (.getfield 38, 3) := by decide +kernel
theorem dX9_comes_408 : decode (mB 92) 408 = .ok (.getfield 140, 3) := by decide +kernel
theorem dX9_comes_411 : decode (mB 92) 411 = .ok (.iload_n 1, 1) := by decide +kernel
theorem dX9_comes_412 : decode (mB 92) 412 = .ok (.dup2, 1) := by decide +kernel
theorem dX9_comes_413 : decode (mB 92) 413 = .ok (.iaload, 1) := by decide +kernel
theorem dX9_comes_414 : decode (mB 92) 414 = .ok (.iconst 1, 1) := by decide +kernel
theorem dX9_comes_415 : decode (mB 92) 415 = .ok (.iadd, 1) := by decide +kernel
theorem dX9_comes_416 : decode (mB 92) 416 = .ok (.iastore, 1) := by decide +kernel
theorem dX9_comes_417 : decode (mB 92) 417 = .ok (.iload 9, 2) := by decide +kernel
theorem dX9_comes_419 : decode (mB 92) 419 = .ok (.ifCond .lt 9, 3) := by decide +kernel
theorem dX9_comes_422 : decode (mB 92) 422 = .ok (.aload_n 0, 1) := by decide +kernel
theorem dX9_comes_423 : decode (mB 92) 423 = .ok (.iload 9, 2) := by decide +kernel
theorem dX9_comes_425 : decode (mB 92) 425 = .ok (.invokevirtual 159, 3) := by decide +kernel
theorem dX9_comes_428 : decode (mB 92) 428 = .ok (.iload 7, 2) := by decide +kernel
theorem dX9_comes_430 : decode (mB 92) 430 = .ok (.ireturn, 1) := by decide +kernel
theorem dX9_refuse_0 : decode (mB 93) 0 = .ok (.aload_n 0, 1) := by decide +kernel
theorem dX9_refuse_1 : decode (mB 93) 1 = .ok (.iload_n 1, 1) := by decide +kernel
theorem dX9_refuse_2 : decode (mB 93) 2 = .ok (.invokevirtual 117, 3) := by decide +kernel
theorem dX9_refuse_5 : decode (mB 93) 5 = .ok (.istore_n 2, 1) := by decide +kernel
theorem dX9_refuse_6 : decode (mB 93) 6 = .ok (.aload_n 0, 1) := by decide +kernel
theorem dX9_refuse_7 : decode (mB 93) 7 = .ok (.getfield 38, 3) := by decide +kernel
theorem dX9_refuse_10 : decode (mB 93) 10 = .ok (.getfield 124, 3) := by decide +kernel
theorem dX9_refuse_13 : decode (mB 93) 13 = .ok (.iload_n 2, 1) := by decide +kernel
theorem dX9_refuse_14 : decode (mB 93) 14 = .ok (.iaload, 1) := by decide +kernel
theorem dX9_refuse_15 : decode (mB 93) 15 = .ok (.istore_n 3, 1) := by decide +kernel
theorem dX9_refuse_16 : decode (mB 93) 16 = .ok (.aload_n 0, 1) := by decide +kernel
theorem dX9_refuse_17 : decode (mB 93) 17 = .ok (.aload_n 0, 1) := by decide +kernel
theorem dX9_refuse_18 : decode (mB 93) 18 = .ok (.getfield 38, 3) := by decide +kernel
theorem dX9_refuse_21 : decode (mB 93) 21 = .ok (.getfield 111, 3) := by decide +kernel
theorem dX9_refuse_24 : decode (mB 93) 24 = .ok (.iload_n 2, 1) := by decide +kernel
theorem dX9_refuse_25 : decode (mB 93) 25 = .ok (.iaload, 1) := by decide +kernel
theorem dX9_refuse_26 : decode (mB 93) 26 = .ok (.bipush 10, 2) := by decide +kernel
theorem dX9_refuse_28 : decode (mB 93) 28 = .ok (.invokevirtual 136, 3) := by decide +kernel
theorem dX9_refuse_31 : decode (mB 93) 31 = .ok (.aload_n 0, 1) := by decide +kernel
theorem dX9_refuse_32 : decode (mB 93) 32 = .ok (.getfield 38, 3) := by decide +kernel
theorem dX9_refuse_35 : decode (mB 93) 35 = .ok (.iconst 0, 1) := by decide +kernel
theorem dX9_refuse_36 : decode (mB 93) 36 = .ok (.putfield 51, 3) := by decide +kernel
theorem dX9_refuse_39 : decode (mB 93) 39 = .ok (.aload_n 0, 1) := by decide +kernel
theorem dX9_refuse_40 : decode (mB 93) 40 = .ok (.iload_n 1, 1) := by decide +kernel
theorem dX9_refuse_41 : decode (mB 93) 41 = .ok (.invokevirtual 162, 3) := by decide +kernel
theorem dX9_refuse_44 : decode (mB 93) 44 = .ok (.aload_n 0, 1) := by decide +kernel
theorem dX9_refuse_45 : decode (mB 93) 45 = .ok (.iload_n 1, 1) := by decide +kernel
theorem dX9_refuse_46 : decode (mB 93) 46 = .ok (.iload_n 3, 1) := by decide +kernel
theorem dX9_refuse_47 : decode (mB 93) 47 = .ok (.iconst 0, 1) := by decide +kernel
theorem dX9_refuse_48 : decode (mB 93) 48 = .ok (.invokevirtual 165, 3) := by decide +kernel
theorem dX9_refuse_51 : decode (mB 93) 51 = .ok (.pop, 1) := by decide +kernel
theorem dX9_refuse_52 : decode (mB 93) 52 = .ok (.return_, 1) := by decide +kernel
theorem dX9_tell_0 : decode (mB 94) 0 = .ok (.iload_n 2, 1) := by decide +kernel
theorem dX9_tell_1 : decode (mB 94) 1 = .ok (.ifCond .lt 53, 3) := by decide +kernel
theorem dX9_tell_4 : decode (mB 94) 4 = .ok (.aload_n 0, 1) := by decide +kernel
theorem dX9_tell_5 : decode (mB 94) 5 = .ok (.iload_n 2, 1) := by decide +kernel
theorem dX9_tell_6 : decode (mB 94) 6 = .ok (.invokevirtual 117, 3) := by decide +kernel
theorem dX9_tell_9 : decode (mB 94) 9 = .ok (.istore 4, 2) := by decide +kernel
theorem dX9_tell_11 : decode (mB 94) 11 = .ok (.iload 4, 2) := by decide +kernel
theorem dX9_tell_13 : decode (mB 94) 13 = .ok (.ifCond .lt 31, 3) := by decide +kernel
theorem dX9_tell_16 : decode (mB 94) 16 = .ok (.aload_n 0, 1) := by decide +kernel
theorem dX9_tell_17 : decode (mB 94) 17 = .ok (.getfield 38, 3) := by decide +kernel
theorem dX9_tell_20 : decode (mB 94) 20 = .ok (.getfield 114, 3) := by decide +kernel
theorem dX9_tell_23 : decode (mB 94) 23 = .ok (.iload 4, 2) := by decide +kernel
theorem dX9_tell_25 : decode (mB 94) 25 = .ok (.iaload, 1) := by decide +kernel
theorem dX9_tell_26 : decode (mB 94) 26 = .ok (.iconst 2, 1) := by decide +kernel
theorem dX9_tell_27 : decode (mB 94) 27 = .ok (.if_icmp .ne 17, 3) := by decide +kernel
theorem dX9_tell_30 : decode (mB 94) 30 = .ok (.aload_n 0, 1) := by decide +kernel
theorem dX9_tell_31 : decode (mB 94) 31 = .ok (.getfield 38, 3) := by decide +kernel
theorem dX9_tell_34 : decode (mB 94) 34 = .ok (.getfield 133, 3) := by decide +kernel
theorem dX9_tell_37 : decode (mB 94) 37 = .ok (.iload 4, 2) := by decide +kernel
theorem dX9_tell_39 : decode (mB 94) 39 = .ok (.iaload, 1) := by decide +kernel
theorem dX9_tell_40 : decode (mB 94) 40 = .ok (.iload_n 1, 1) := by decide +kernel
theorem dX9_tell_41 : decode (mB 94) 41 = .ok (.if_icmp .eq 5, 3) := by decide +kernel
theorem dX9_tell_44 : decode (mB 94) 44 = .ok (.iconst 0, 1) := by decide +kernel
theorem dX9_tell_45 : decode (mB 94) 45 = .ok (.ireturn, 1) := by decide +kernel
theorem dX9_tell_46 : decode (mB 94) 46 = .ok (.aload_n 0, 1) := by decide +kernel
theorem dX9_tell_47 : decode (mB 94) 47 = .ok (.iload_n 2, 1) := by decide +kernel
theorem dX9_tell_48 : decode (mB 94) 48 = .ok (.iload_n 3, 1) := by decide +kernel
theorem dX9_tell_49 : decode (mB 94) 49 = .ok (.invokevirtual 169, 3) := by decide +kernel
theorem dX9_tell_52 : decode (mB 94) 52 = .ok (.iconst 1, 1) := by decide +kernel
theorem dX9_tell_53 : decode (mB 94) 53 = .ok (.ireturn, 1) := by decide +kernel
theorem dX9_tell_54 : decode (mB 94) 54 = .ok (.aload_n 0, 1) := by decide +kernel
theorem dX9_tell_55 : decode (mB 94) 55 = .ok (.iload_n 1, 1) := by decide +kernel
theorem dX9_tell_56 : decode (mB 94) 56 = .ok (.invokevirtual 173, 3) := by decide +kernel
theorem dX9_tell_59 : decode (mB 94) 59 = .ok (.istore 4, 2) := by decide +kernel
theorem dX9_tell_61 : decode (mB 94) 61 = .ok (.iload 4, 2) := by decide +kernel
theorem dX9_tell_63 : decode (mB 94) 63 = .ok (.ifCond .ge 5, 3) := by decide +kernel
theorem dX9_tell_66 : decode (mB 94) 66 = .ok (.iconst 0, 1) := by decide +kernel
theorem dX9_tell_67 : decode (mB 94) 67 = .ok (.ireturn, 1) := by decide +kernel
theorem dX9_tell_68 : decode (mB 94) 68 = .ok (.aload_n 0, 1) := by decide +kernel
theorem dX9_tell_69 : decode (mB 94) 69 = .ok (.iload 4, 2) := by decide +kernel
theorem dX9_tell_71 : decode (mB 94) 71 = .ok (.iload_n 3, 1) := by decide +kernel
theorem dX9_tell_72 : decode (mB 94) 72 = .ok (.invokevirtual 176, 3) := by decide +kernel
theorem dX9_tell_75 : decode (mB 94) 75 = .ok (.iconst 1, 1) := by decide +kernel
theorem dX9_tell_76 : decode (mB 94) 76 = .ok (.ireturn, 1) := by decide +kernel
theorem dX9_answerGuest_0 : decode (mB 95) 0 = .ok (.iload_n 2, 1) := by decide +kernel
theorem dX9_answerGuest_1 : decode (mB 95) 1 = .ok (.ifCond .eq 24, 3) := by decide +kernel
theorem dX9_answerGuest_4 : decode (mB 95) 4 = .ok (.aload_n 0, 1) := by decide +kernel
theorem dX9_answerGuest_5 : decode (mB 95) 5 = .ok (.getfield 38, 3) := by decide +kernel
theorem dX9_answerGuest_8 : decode (mB 95) 8 = .ok (.dup, 1) := by decide +kernel
theorem dX9_answerGuest_9 : decode (mB 95) 9 = .ok (.getfield 179, 3) := by decide +kernel
theorem dX9_answerGuest_12 : decode (mB 95) 12 = .ok (.iconst 1, 1) := by decide +kernel
theorem dX9_answerGuest_13 : decode (mB 95) 13 = .ok (.iadd, 1) := by decide +kernel
theorem dX9_answerGuest_14 : decode (mB 95) 14 = .ok (.putfield 179, 3) := by decide +kernel
theorem dX9_answerGuest_17 : decode (mB 95) 17 = .ok (.aload_n 0, 1) := by decide +kernel
theorem dX9_answerGuest_18 : decode (mB 95) 18 = .ok (.iload_n 1, 1) := by decide +kernel
theorem dX9_answerGuest_19 : decode (mB 95) 19 = .ok (.invokevirtual 182, 3) := by decide +kernel
theorem dX9_answerGuest_22 : decode (mB 95) 22 = .ok (.goto 32, 3) := by decide +kernel
theorem dX9_answerGuest_25 : decode (mB 95) 25 = .ok (.aload_n 0, 1) := by decide +kernel
theorem dX9_answerGuest_26 : decode (mB 95) 26 = .ok (.getfield 38, 3) := by decide +kernel
theorem dX9_answerGuest_29 : decode (mB 95) 29 = .ok (.getfield 105, 3) := by decide +kernel
theorem dX9_answerGuest_32 : decode (mB 95) 32 = .ok (.iload_n 1, 1) := by decide +kernel
theorem dX9_answerGuest_33 : decode (mB 95) 33 = .ok (.bipush (-3), 2) := by decide +kernel
theorem dX9_answerGuest_35 : decode (mB 95) 35 = .ok (.iastore, 1) := by decide +kernel
theorem dX9_answerGuest_36 : decode (mB 95) 36 = .ok (.aload_n 0, 1) := by decide +kernel
theorem dX9_answerGuest_37 : decode (mB 95) 37 = .ok (.getfield 38, 3) := by decide +kernel
theorem dX9_answerGuest_40 : decode (mB 95) 40 = .ok (.getfield 185, 3) := by decide +kernel
theorem dX9_answerGuest_43 : decode (mB 95) 43 = .ok (.iload_n 1, 1) := by decide +kernel
theorem dX9_answerGuest_44 : decode (mB 95) 44 = .ok (.aload_n 0, 1) := by decide +kernel
theorem dX9_answerGuest_45 : decode (mB 95) 45 = .ok (.getfield 38, 3) := by decide +kernel
theorem dX9_answerGuest_48 : decode (mB 95) 48 = .ok (.getfield 68, 3) := by decide +kernel
theorem dX9_answerGuest_51 : decode (mB 95) 51 = .ok (.iconst 1, 1) := by decide +kernel
theorem dX9_answerGuest_52 : decode (mB 95) 52 = .ok (.iadd, 1) := by decide +kernel
theorem dX9_answerGuest_53 : decode (mB 95) 53 = .ok (.iastore, 1) := by decide +kernel
theorem dX9_answerGuest_54 : decode (mB 95) 54 = .ok (.return_, 1) := by decide +kernel
theorem dX9_guestGoes_0 : decode (mB 96) 0 = .ok (.aload_n 0, 1) := by decide +kernel
theorem dX9_guestGoes_1 : decode (mB 96) 1 = .ok (.getfield 38, 3) := by decide +kernel
theorem dX9_guestGoes_4 : decode (mB 96) 4 = .ok (.dup, 1) := by decide +kernel
theorem dX9_guestGoes_5 : decode (mB 96) 5 = .ok (.getfield 102, 3) := by decide +kernel
theorem dX9_guestGoes_8 : decode (mB 96) 8 = .ok (.iconst 1, 1) := by decide +kernel
theorem dX9_guestGoes_9 : decode (mB 96) 9 = .ok (.isub, 1) := by decide +kernel
theorem dX9_guestGoes_10 : decode (mB 96) 10 = .ok (.putfield 102, 3) := by decide +kernel
theorem dX9_guestGoes_13 : decode (mB 96) 13 = .ok (.iload_n 1, 1) := by decide +kernel
theorem dX9_guestGoes_14 : decode (mB 96) 14 = .ok (.istore_n 2, 1) := by decide +kernel
theorem dX9_guestGoes_15 : decode (mB 96) 15 = .ok (.iload_n 2, 1) := by decide +kernel
theorem dX9_guestGoes_16 : decode (mB 96) 16 = .ok (.aload_n 0, 1) := by decide +kernel
theorem dX9_guestGoes_17 : decode (mB 96) 17 = .ok (.getfield 38, 3) := by decide +kernel
theorem dX9_guestGoes_20 : decode (mB 96) 20 = .ok (.getfield 102, 3) := by decide +kernel
theorem dX9_guestGoes_23 : decode (mB 96) 23 = .ok (.if_icmp .ge 109, 3) := by decide +kernel
theorem dX9_guestGoes_26 : decode (mB 96) 26 = .ok (.aload_n 0, 1) := by decide +kernel
theorem dX9_guestGoes_27 : decode (mB 96) 27 = .ok (.getfield 38, 3) := by decide +kernel
theorem dX9_guestGoes_30 : decode (mB 96) 30 = .ok (.getfield 188, 3) := by decide +kernel
theorem dX9_guestGoes_33 : decode (mB 96) 33 = .ok (.iload_n 2, 1) := by decide +kernel
theorem dX9_guestGoes_34 : decode (mB 96) 34 = .ok (.aload_n 0, 1) := by decide +kernel
theorem dX9_guestGoes_35 : decode (mB 96) 35 = .ok (.getfield 38, 3) := by decide +kernel
theorem dX9_guestGoes_38 : decode (mB 96) 38 = .ok (.getfield 188, 3) := by decide +kernel
theorem dX9_guestGoes_41 : decode (mB 96) 41 = .ok (.iload_n 2, 1) := by decide +kernel
theorem dX9_guestGoes_42 : decode (mB 96) 42 = .ok (.iconst 1, 1) := by decide +kernel
theorem dX9_guestGoes_43 : decode (mB 96) 43 = .ok (.iadd, 1) := by decide +kernel
theorem dX9_guestGoes_44 : decode (mB 96) 44 = .ok (.iaload, 1) := by decide +kernel
theorem dX9_guestGoes_45 : decode (mB 96) 45 = .ok (.iastore, 1) := by decide +kernel
theorem dX9_guestGoes_46 : decode (mB 96) 46 = .ok (.aload_n 0, 1) := by decide +kernel
theorem dX9_guestGoes_47 : decode (mB 96) 47 = .ok (.getfield 38, 3) := by decide +kernel
theorem dX9_guestGoes_50 : decode (mB 96) 50 = .ok (.getfield 105, 3) := by decide +kernel
theorem dX9_guestGoes_53 : decode (mB 96) 53 = .ok (.iload_n 2, 1) := by decide +kernel
theorem dX9_guestGoes_54 : decode (mB 96) 54 = .ok (.aload_n 0, 1) := by decide +kernel
theorem dX9_guestGoes_55 : decode (mB 96) 55 = .ok (.getfield 38, 3) := by decide +kernel
theorem dX9_guestGoes_58 : decode (mB 96) 58 = .ok (.getfield 105, 3) := by decide +kernel
theorem dX9_guestGoes_61 : decode (mB 96) 61 = .ok (.iload_n 2, 1) := by decide +kernel
theorem dX9_guestGoes_62 : decode (mB 96) 62 = .ok (.iconst 1, 1) := by decide +kernel
theorem dX9_guestGoes_63 : decode (mB 96) 63 = .ok (.iadd, 1) := by decide +kernel
theorem dX9_guestGoes_64 : decode (mB 96) 64 = .ok (.iaload, 1) := by decide +kernel
theorem dX9_guestGoes_65 : decode (mB 96) 65 = .ok (.iastore, 1) := by decide +kernel
theorem dX9_guestGoes_66 : decode (mB 96) 66 = .ok (.aload_n 0, 1) := by decide +kernel
theorem dX9_guestGoes_67 : decode (mB 96) 67 = .ok (.getfield 38, 3) := by decide +kernel
theorem dX9_guestGoes_70 : decode (mB 96) 70 = .ok (.getfield 185, 3) := by decide +kernel
theorem dX9_guestGoes_73 : decode (mB 96) 73 = .ok (.iload_n 2, 1) := by decide +kernel
theorem dX9_guestGoes_74 : decode (mB 96) 74 = .ok (.aload_n 0, 1) := by decide +kernel
theorem dX9_guestGoes_75 : decode (mB 96) 75 = .ok (.getfield 38, 3) := by decide +kernel
theorem dX9_guestGoes_78 : decode (mB 96) 78 = .ok (.getfield 185, 3) := by decide +kernel
theorem dX9_guestGoes_81 : decode (mB 96) 81 = .ok (.iload_n 2, 1) := by decide +kernel
theorem dX9_guestGoes_82 : decode (mB 96) 82 = .ok (.iconst 1, 1) := by decide +kernel
theorem dX9_guestGoes_83 : decode (mB 96) 83 = .ok (.iadd, 1) := by decide +kernel
theorem dX9_guestGoes_84 : decode (mB 96) 84 = .ok (.iaload, 1) := by decide +kernel
theorem dX9_guestGoes_85 : decode (mB 96) 85 = .ok (.iastore, 1) := by decide +kernel
theorem dX9_guestGoes_86 : decode (mB 96) 86 = .ok (.aload_n 0, 1) := by decide +kernel
theorem dX9_guestGoes_87 : decode (mB 96) 87 = .ok (.getfield 38, 3) := by decide +kernel
theorem dX9_guestGoes_90 : decode (mB 96) 90 = .ok (.getfield 191, 3) := by decide +kernel
theorem dX9_guestGoes_93 : decode (mB 96) 93 = .ok (.iload_n 2, 1) := by decide +kernel
theorem dX9_guestGoes_94 : decode (mB 96) 94 = .ok (.aload_n 0, 1) := by decide +kernel
theorem dX9_guestGoes_95 : decode (mB 96) 95 = .ok (.getfield 38, 3) := by decide +kernel
theorem dX9_guestGoes_98 : decode (mB 96) 98 = .ok (.getfield 191, 3) := by decide +kernel
theorem dX9_guestGoes_101 : decode (mB 96) 101 = .ok (.iload_n 2, 1) := by decide +kernel
theorem dX9_guestGoes_102 : decode (mB 96) 102 = .ok (.iconst 1, 1) := by decide +kernel
theorem dX9_guestGoes_103 : decode (mB 96) 103 = .ok (.iadd, 1) := by decide +kernel
theorem dX9_guestGoes_104 : decode (mB 96) 104 = .ok (.iaload, 1) := by decide +kernel
theorem dX9_guestGoes_105 : decode (mB 96) 105 = .ok (.iastore, 1) := by decide +kernel
theorem dX9_guestGoes_106 : decode (mB 96) 106 = .ok (.aload_n 0, 1) := by decide +kernel
theorem dX9_guestGoes_107 : decode (mB 96) 107 = .ok (.getfield 38, 3) := by decide +kernel
theorem dX9_guestGoes_110 : decode (mB 96) 110 = .ok (.getfield 194, 3) := by decide +kernel
theorem dX9_guestGoes_113 : decode (mB 96) 113 = .ok (.iload_n 2, 1) := by decide +kernel
theorem dX9_guestGoes_114 : decode (mB 96) 114 = .ok (.aload_n 0, 1) := by decide +kernel
theorem dX9_guestGoes_115 : decode (mB 96) 115 = .ok (.getfield 38, 3) := by decide +kernel
theorem dX9_guestGoes_118 : decode (mB 96) 118 = .ok (.getfield 194, 3) := by decide +kernel
theorem dX9_guestGoes_121 : decode (mB 96) 121 = .ok (.iload_n 2, 1) := by decide +kernel
theorem dX9_guestGoes_122 : decode (mB 96) 122 = .ok (.iconst 1, 1) := by decide +kernel
theorem dX9_guestGoes_123 : decode (mB 96) 123 = .ok (.iadd, 1) := by decide +kernel
theorem dX9_guestGoes_124 : decode (mB 96) 124 = .ok (.iaload, 1) := by decide +kernel
theorem dX9_guestGoes_125 : decode (mB 96) 125 = .ok (.iastore, 1) := by decide +kernel
theorem dX9_guestGoes_126 : decode (mB 96) 126 = .ok (.iinc 2 1, 3) := by decide +kernel
theorem dX9_guestGoes_129 : decode (mB 96) 129 = .ok (.goto (-114), 3) := by decide +kernel
theorem dX9_guestGoes_132 : decode (mB 96) 132 = .ok (.return_, 1) := by decide +kernel
theorem dX9_over_0 : decode (mB 97) 0 = .ok (.aload_n 0, 1) := by decide +kernel
theorem dX9_over_1 : decode (mB 97) 1 = .ok (.iload_n 1, 1) := by decide +kernel
theorem dX9_over_2 : decode (mB 97) 2 = .ok (.invokevirtual 117, 3) := by decide +kernel
theorem dX9_over_5 : decode (mB 97) 5 = .ok (.istore_n 3, 1) := by decide +kernel
theorem dX9_over_6 : decode (mB 97) 6 = .ok (.aload_n 0, 1) := by decide +kernel
theorem dX9_over_7 : decode (mB 97) 7 = .ok (.getfield 38, 3) := by decide +kernel
theorem dX9_over_10 : decode (mB 97) 10 = .ok (.getfield 111, 3) := by decide +kernel
theorem dX9_over_13 : decode (mB 97) 13 = .ok (.iload_n 3, 1) := by decide +kernel
theorem dX9_over_14 : decode (mB 97) 14 = .ok (.iaload, 1) := by decide +kernel
theorem dX9_over_15 : decode (mB 97) 15 = .ok (.istore 4, 2) := by decide +kernel
theorem dX9_over_17 : decode (mB 97) 17 = .ok (.aload_n 0, 1) := by decide +kernel
theorem dX9_over_18 : decode (mB 97) 18 = .ok (.getfield 38, 3) := by decide +kernel
theorem dX9_over_21 : decode (mB 97) 21 = .ok (.getfield 124, 3) := by decide +kernel
theorem dX9_over_24 : decode (mB 97) 24 = .ok (.iload_n 3, 1) := by decide +kernel
theorem dX9_over_25 : decode (mB 97) 25 = .ok (.iaload, 1) := by decide +kernel
theorem dX9_over_26 : decode (mB 97) 26 = .ok (.istore 5, 2) := by decide +kernel
theorem dX9_over_28 : decode (mB 97) 28 = .ok (.aload_n 0, 1) := by decide +kernel
theorem dX9_over_29 : decode (mB 97) 29 = .ok (.iload 4, 2) := by decide +kernel
theorem dX9_over_31 : decode (mB 97) 31 = .ok (.iload_n 2, 1) := by decide +kernel
theorem dX9_over_32 : decode (mB 97) 32 = .ok (.ifCond .eq 8, 3) := by decide +kernel
theorem dX9_over_35 : decode (mB 97) 35 = .ok (.bipush 8, 2) := by decide +kernel
theorem dX9_over_37 : decode (mB 97) 37 = .ok (.goto 5, 3) := by decide +kernel
theorem dX9_over_40 : decode (mB 97) 40 = .ok (.bipush 9, 2) := by decide +kernel
theorem dX9_over_42 : decode (mB 97) 42 = .ok (.invokevirtual 136, 3) := by decide +kernel
theorem dX9_over_45 : decode (mB 97) 45 = .ok (.iload_n 2, 1) := by decide +kernel
theorem dX9_over_46 : decode (mB 97) 46 = .ok (.ifCond .eq 51, 3) := by decide +kernel
theorem dX9_over_49 : decode (mB 97) 49 = .ok (.aload_n 0, 1) := by decide +kernel
theorem dX9_over_50 : decode (mB 97) 50 = .ok (.iload 4, 2) := by decide +kernel
theorem dX9_over_52 : decode (mB 97) 52 = .ok (.iconst 3, 1) := by decide +kernel
theorem dX9_over_53 : decode (mB 97) 53 = .ok (.invokevirtual 79, 3) := by decide +kernel
theorem dX9_over_56 : decode (mB 97) 56 = .ok (.ifCond .le 41, 3) := by decide +kernel
theorem dX9_over_59 : decode (mB 97) 59 = .ok (.aload_n 0, 1) := by decide +kernel
theorem dX9_over_60 : decode (mB 97) 60 = .ok (.getfield 38, 3) := by decide +kernel
theorem dX9_over_63 : decode (mB 97) 63 = .ok (.getfield 55, 3) := by decide +kernel
theorem dX9_over_66 : decode (mB 97) 66 = .ok (.bipush 8, 2) := by decide +kernel
theorem dX9_over_68 : decode (mB 97) 68 = .ok (.iload 4, 2) := by decide +kernel
theorem dX9_over_70 : decode (mB 97) 70 = .ok (.imul, 1) := by decide +kernel
theorem dX9_over_71 : decode (mB 97) 71 = .ok (.aload_n 0, 1) := by decide +kernel
theorem dX9_over_72 : decode (mB 97) 72 = .ok (.getfield 38, 3) := by decide +kernel
theorem dX9_over_75 : decode (mB 97) 75 = .ok (.getfield 121, 3) := by decide +kernel
theorem dX9_over_78 : decode (mB 97) 78 = .ok (.iload_n 3, 1) := by decide +kernel
theorem dX9_over_79 : decode (mB 97) 79 = .ok (.iaload, 1) := by decide +kernel
theorem dX9_over_80 : decode (mB 97) 80 = .ok (.iadd, 1) := by decide +kernel
theorem dX9_over_81 : decode (mB 97) 81 = .ok (.aload_n 0, 1) := by decide +kernel
theorem dX9_over_82 : decode (mB 97) 82 = .ok (.getfield 38, 3) := by decide +kernel
theorem dX9_over_85 : decode (mB 97) 85 = .ok (.getfield 68, 3) := by decide +kernel
theorem dX9_over_88 : decode (mB 97) 88 = .ok (.aload_n 0, 1) := by decide +kernel
theorem dX9_over_89 : decode (mB 97) 89 = .ok (.iload 4, 2) := by decide +kernel
theorem dX9_over_91 : decode (mB 97) 91 = .ok (.iconst 3, 1) := by decide +kernel
theorem dX9_over_92 : decode (mB 97) 92 = .ok (.invokevirtual 79, 3) := by decide +kernel
theorem dX9_over_95 : decode (mB 97) 95 = .ok (.iadd, 1) := by decide +kernel
theorem dX9_over_96 : decode (mB 97) 96 = .ok (.iastore, 1) := by decide +kernel
theorem dX9_over_97 : decode (mB 97) 97 = .ok (.aload_n 0, 1) := by decide +kernel
theorem dX9_over_98 : decode (mB 97) 98 = .ok (.iload_n 1, 1) := by decide +kernel
theorem dX9_over_99 : decode (mB 97) 99 = .ok (.invokevirtual 162, 3) := by decide +kernel
theorem dX9_over_102 : decode (mB 97) 102 = .ok (.aload_n 0, 1) := by decide +kernel
theorem dX9_over_103 : decode (mB 97) 103 = .ok (.iload_n 1, 1) := by decide +kernel
theorem dX9_over_104 : decode (mB 97) 104 = .ok (.iload 5, 2) := by decide +kernel
theorem dX9_over_106 : decode (mB 97) 106 = .ok (.iload_n 2, 1) := by decide +kernel
theorem dX9_over_107 : decode (mB 97) 107 = .ok (.invokevirtual 165, 3) := by decide +kernel
theorem dX9_over_110 : decode (mB 97) 110 = .ok (.ifCond .ne 24, 3) := by decide +kernel
theorem dX9_over_113 : decode (mB 97) 113 = .ok (.aload_n 0, 1) := by decide +kernel
theorem dX9_over_114 : decode (mB 97) 114 = .ok (.iload 4, 2) := by decide +kernel
theorem dX9_over_116 : decode (mB 97) 116 = .ok (.bipush 11, 2) := by decide +kernel
theorem dX9_over_118 : decode (mB 97) 118 = .ok (.invokevirtual 136, 3) := by decide +kernel
theorem dX9_over_121 : decode (mB 97) 121 = .ok (.aload_n 0, 1) := by decide +kernel
theorem dX9_over_122 : decode (mB 97) 122 = .ok (.getfield 38, 3) := by decide +kernel
theorem dX9_over_125 : decode (mB 97) 125 = .ok (.dup, 1) := by decide +kernel
theorem dX9_over_126 : decode (mB 97) 126 = .ok (.getfield 197, 3) := by decide +kernel
theorem dX9_over_129 : decode (mB 97) 129 = .ok (.iconst 1, 1) := by decide +kernel
theorem dX9_over_130 : decode (mB 97) 130 = .ok (.iadd, 1) := by decide +kernel
theorem dX9_over_131 : decode (mB 97) 131 = .ok (.putfield 197, 3) := by decide +kernel
theorem dX9_over_134 : decode (mB 97) 134 = .ok (.return_, 1) := by decide +kernel
theorem dX9_answered_0 : decode (mB 98) 0 = .ok (.iload_n 2, 1) := by decide +kernel
theorem dX9_answered_1 : decode (mB 98) 1 = .ok (.ifCond .eq 34, 3) := by decide +kernel
theorem dX9_answered_4 : decode (mB 98) 4 = .ok (.aload_n 0, 1) := by decide +kernel
theorem dX9_answered_5 : decode (mB 98) 5 = .ok (.getfield 38, 3) := by decide +kernel
theorem dX9_answered_8 : decode (mB 98) 8 = .ok (.getfield 200, 3) := by decide +kernel
theorem dX9_answered_11 : decode (mB 98) 11 = .ok (.aload_n 0, 1) := by decide +kernel
theorem dX9_answered_12 : decode (mB 98) 12 = .ok (.getfield 38, 3) := by decide +kernel
theorem dX9_answered_15 : decode (mB 98) 15 = .ok (.getfield 111, 3) := by decide +kernel
theorem dX9_answered_18 : decode (mB 98) 18 = .ok (.aload_n 0, 1) := by decide +kernel
theorem dX9_answered_19 : decode (mB 98) 19 = .ok (.iload_n 1, 1) := by decide +kernel
theorem dX9_answered_20 : decode (mB 98) 20 = .ok (.invokevirtual 117, 3) := by decide +kernel
theorem dX9_answered_23 : decode (mB 98) 23 = .ok (.iaload, 1) := by decide +kernel
theorem dX9_answered_24 : decode (mB 98) 24 = .ok (.iconst 0, 1) := by decide +kernel
theorem dX9_answered_25 : decode (mB 98) 25 = .ok (.iastore, 1) := by decide +kernel
theorem dX9_answered_26 : decode (mB 98) 26 = .ok (.aload_n 0, 1) := by decide +kernel
theorem dX9_answered_27 : decode (mB 98) 27 = .ok (.iload_n 1, 1) := by decide +kernel
theorem dX9_answered_28 : decode (mB 98) 28 = .ok (.iconst 1, 1) := by decide +kernel
theorem dX9_answered_29 : decode (mB 98) 29 = .ok (.invokevirtual 203, 3) := by decide +kernel
theorem dX9_answered_32 : decode (mB 98) 32 = .ok (.goto 8, 3) := by decide +kernel
theorem dX9_answered_35 : decode (mB 98) 35 = .ok (.aload_n 0, 1) := by decide +kernel
theorem dX9_answered_36 : decode (mB 98) 36 = .ok (.iload_n 1, 1) := by decide +kernel
theorem dX9_answered_37 : decode (mB 98) 37 = .ok (.invokevirtual 206, 3) := by decide +kernel
theorem dX9_answered_40 : decode (mB 98) 40 = .ok (.return_, 1) := by decide +kernel
theorem dX9_fail_0 : decode (mB 99) 0 = .ok (.aload_n 0, 1) := by decide +kernel
theorem dX9_fail_1 : decode (mB 99) 1 = .ok (.iload_n 1, 1) := by decide +kernel
theorem dX9_fail_2 : decode (mB 99) 2 = .ok (.invokevirtual 117, 3) := by decide +kernel
theorem dX9_fail_5 : decode (mB 99) 5 = .ok (.istore_n 2, 1) := by decide +kernel
theorem dX9_fail_6 : decode (mB 99) 6 = .ok (.aload_n 0, 1) := by decide +kernel
theorem dX9_fail_7 : decode (mB 99) 7 = .ok (.getfield 38, 3) := by decide +kernel
theorem dX9_fail_10 : decode (mB 99) 10 = .ok (.getfield 111, 3) := by decide +kernel
theorem dX9_fail_13 : decode (mB 99) 13 = .ok (.iload_n 2, 1) := by decide +kernel
theorem dX9_fail_14 : decode (mB 99) 14 = .ok (.iaload, 1) := by decide +kernel
theorem dX9_fail_15 : decode (mB 99) 15 = .ok (.istore_n 3, 1) := by decide +kernel
theorem dX9_fail_16 : decode (mB 99) 16 = .ok (.aload_n 0, 1) := by decide +kernel
theorem dX9_fail_17 : decode (mB 99) 17 = .ok (.getfield 38, 3) := by decide +kernel
theorem dX9_fail_20 : decode (mB 99) 20 = .ok (.getfield 133, 3) := by decide +kernel
theorem dX9_fail_23 : decode (mB 99) 23 = .ok (.iload_n 2, 1) := by decide +kernel
theorem dX9_fail_24 : decode (mB 99) 24 = .ok (.iconst (-1), 1) := by decide +kernel
theorem dX9_fail_25 : decode (mB 99) 25 = .ok (.iastore, 1) := by decide +kernel
theorem dX9_fail_26 : decode (mB 99) 26 = .ok (.aload_n 0, 1) := by decide +kernel
theorem dX9_fail_27 : decode (mB 99) 27 = .ok (.getfield 38, 3) := by decide +kernel
theorem dX9_fail_30 : decode (mB 99) 30 = .ok (.iconst 0, 1) := by decide +kernel
theorem dX9_fail_31 : decode (mB 99) 31 = .ok (.putfield 51, 3) := by decide +kernel
theorem dX9_fail_34 : decode (mB 99) 34 = .ok (.aload_n 0, 1) := by decide +kernel
theorem dX9_fail_35 : decode (mB 99) 35 = .ok (.iload_n 3, 1) := by decide +kernel
theorem dX9_fail_36 : decode (mB 99) 36 = .ok (.bipush 12, 2) := by decide +kernel
theorem dX9_fail_38 : decode (mB 99) 38 = .ok (.invokevirtual 136, 3) := by decide +kernel
theorem dX9_fail_41 : decode (mB 99) 41 = .ok (.aload_n 0, 1) := by decide +kernel
theorem dX9_fail_42 : decode (mB 99) 42 = .ok (.getfield 38, 3) := by decide +kernel
theorem dX9_fail_45 : decode (mB 99) 45 = .ok (.getfield 200, 3) := by decide +kernel
theorem dX9_fail_48 : decode (mB 99) 48 = .ok (.iload_n 3, 1) := by decide +kernel
theorem dX9_fail_49 : decode (mB 99) 49 = .ok (.dup2, 1) := by decide +kernel
theorem dX9_fail_50 : decode (mB 99) 50 = .ok (.iaload, 1) := by decide +kernel
theorem dX9_fail_51 : decode (mB 99) 51 = .ok (.iconst 1, 1) := by decide +kernel
theorem dX9_fail_52 : decode (mB 99) 52 = .ok (.iadd, 1) := by decide +kernel
theorem dX9_fail_53 : decode (mB 99) 53 = .ok (.iastore, 1) := by decide +kernel
theorem dX9_fail_54 : decode (mB 99) 54 = .ok (.aload_n 0, 1) := by decide +kernel
theorem dX9_fail_55 : decode (mB 99) 55 = .ok (.iload_n 3, 1) := by decide +kernel
theorem dX9_fail_56 : decode (mB 99) 56 = .ok (.iconst 4, 1) := by decide +kernel
theorem dX9_fail_57 : decode (mB 99) 57 = .ok (.invokevirtual 79, 3) := by decide +kernel
theorem dX9_fail_60 : decode (mB 99) 60 = .ok (.ifCond .le 54, 3) := by decide +kernel
theorem dX9_fail_63 : decode (mB 99) 63 = .ok (.aload_n 0, 1) := by decide +kernel
theorem dX9_fail_64 : decode (mB 99) 64 = .ok (.getfield 38, 3) := by decide +kernel
theorem dX9_fail_67 : decode (mB 99) 67 = .ok (.getfield 200, 3) := by decide +kernel
theorem dX9_fail_70 : decode (mB 99) 70 = .ok (.iload_n 3, 1) := by decide +kernel
theorem dX9_fail_71 : decode (mB 99) 71 = .ok (.iaload, 1) := by decide +kernel
theorem dX9_fail_72 : decode (mB 99) 72 = .ok (.aload_n 0, 1) := by decide +kernel
theorem dX9_fail_73 : decode (mB 99) 73 = .ok (.iload_n 3, 1) := by decide +kernel
theorem dX9_fail_74 : decode (mB 99) 74 = .ok (.iconst 4, 1) := by decide +kernel
theorem dX9_fail_75 : decode (mB 99) 75 = .ok (.invokevirtual 79, 3) := by decide +kernel
theorem dX9_fail_78 : decode (mB 99) 78 = .ok (.if_icmp .lt 36, 3) := by decide +kernel
theorem dX9_fail_81 : decode (mB 99) 81 = .ok (.aload_n 0, 1) := by decide +kernel
theorem dX9_fail_82 : decode (mB 99) 82 = .ok (.getfield 38, 3) := by decide +kernel
theorem dX9_fail_85 : decode (mB 99) 85 = .ok (.getfield 58, 3) := by decide +kernel
theorem dX9_fail_88 : decode (mB 99) 88 = .ok (.iload_n 3, 1) := by decide +kernel
theorem dX9_fail_89 : decode (mB 99) 89 = .ok (.aload_n 0, 1) := by decide +kernel
theorem dX9_fail_90 : decode (mB 99) 90 = .ok (.getfield 38, 3) := by decide +kernel
theorem dX9_fail_93 : decode (mB 99) 93 = .ok (.getfield 68, 3) := by decide +kernel
theorem dX9_fail_96 : decode (mB 99) 96 = .ok (.aload_n 0, 1) := by decide +kernel
theorem dX9_fail_97 : decode (mB 99) 97 = .ok (.iload_n 3, 1) := by decide +kernel
theorem dX9_fail_98 : decode (mB 99) 98 = .ok (.iconst 5, 1) := by decide +kernel
theorem dX9_fail_99 : decode (mB 99) 99 = .ok (.invokevirtual 79, 3) := by decide +kernel
theorem dX9_fail_102 : decode (mB 99) 102 = .ok (.iadd, 1) := by decide +kernel
theorem dX9_fail_103 : decode (mB 99) 103 = .ok (.iastore, 1) := by decide +kernel
theorem dX9_fail_104 : decode (mB 99) 104 = .ok (.aload_n 0, 1) := by decide +kernel
theorem dX9_fail_105 : decode (mB 99) 105 = .ok (.getfield 38, 3) := by decide +kernel
theorem dX9_fail_108 : decode (mB 99) 108 = .ok (.getfield 200, 3) := by decide +kernel
theorem dX9_fail_111 : decode (mB 99) 111 = .ok (.iload_n 3, 1) := by decide +kernel
theorem dX9_fail_112 : decode (mB 99) 112 = .ok (.iconst 0, 1) := by decide +kernel
theorem dX9_fail_113 : decode (mB 99) 113 = .ok (.iastore, 1) := by decide +kernel
theorem dX9_fail_114 : decode (mB 99) 114 = .ok (.aload_n 0, 1) := by decide +kernel
theorem dX9_fail_115 : decode (mB 99) 115 = .ok (.getfield 38, 3) := by decide +kernel
theorem dX9_fail_118 : decode (mB 99) 118 = .ok (.getfield 130, 3) := by decide +kernel
theorem dX9_fail_121 : decode (mB 99) 121 = .ok (.iload_n 2, 1) := by decide +kernel
theorem dX9_fail_122 : decode (mB 99) 122 = .ok (.iaload, 1) := by decide +kernel
theorem dX9_fail_123 : decode (mB 99) 123 = .ok (.aload_n 0, 1) := by decide +kernel
theorem dX9_fail_124 : decode (mB 99) 124 = .ok (.iload_n 3, 1) := by decide +kernel
theorem dX9_fail_125 : decode (mB 99) 125 = .ok (.iconst 1, 1) := by decide +kernel
theorem dX9_fail_126 : decode (mB 99) 126 = .ok (.invokevirtual 79, 3) := by decide +kernel
theorem dX9_fail_129 : decode (mB 99) 129 = .ok (.if_icmp .ge 51, 3) := by decide +kernel
theorem dX9_fail_132 : decode (mB 99) 132 = .ok (.aload_n 0, 1) := by decide +kernel
theorem dX9_fail_133 : decode (mB 99) 133 = .ok (.getfield 38, 3) := by decide +kernel
theorem dX9_fail_136 : decode (mB 99) 136 = .ok (.getfield 114, 3) := by decide +kernel
theorem dX9_fail_139 : decode (mB 99) 139 = .ok (.iload_n 2, 1) := by decide +kernel
theorem dX9_fail_140 : decode (mB 99) 140 = .ok (.iconst 3, 1) := by decide +kernel
theorem dX9_fail_141 : decode (mB 99) 141 = .ok (.iastore, 1) := by decide +kernel
theorem dX9_fail_142 : decode (mB 99) 142 = .ok (.aload_n 0, 1) := by decide +kernel
theorem dX9_fail_143 : decode (mB 99) 143 = .ok (.getfield 38, 3) := by decide +kernel
theorem dX9_fail_146 : decode (mB 99) 146 = .ok (.getfield 127, 3) := by decide +kernel
theorem dX9_fail_149 : decode (mB 99) 149 = .ok (.iload_n 2, 1) := by decide +kernel
theorem dX9_fail_150 : decode (mB 99) 150 = .ok (.aload_n 0, 1) := by decide +kernel
theorem dX9_fail_151 : decode (mB 99) 151 = .ok (.getfield 38, 3) := by decide +kernel
theorem dX9_fail_154 : decode (mB 99) 154 = .ok (.getfield 68, 3) := by decide +kernel
theorem dX9_fail_157 : decode (mB 99) 157 = .ok (.iconst 1, 1) := by decide +kernel
theorem dX9_fail_158 : decode (mB 99) 158 = .ok (.iadd, 1) := by decide +kernel
theorem dX9_fail_159 : decode (mB 99) 159 = .ok (.aload_n 0, 1) := by decide +kernel
theorem dX9_fail_160 : decode (mB 99) 160 = .ok (.iload_n 3, 1) := by decide +kernel
theorem dX9_fail_161 : decode (mB 99) 161 = .ok (.iconst 2, 1) := by decide +kernel
theorem dX9_fail_162 : decode (mB 99) 162 = .ok (.invokevirtual 79, 3) := by decide +kernel
theorem dX9_fail_165 : decode (mB 99) 165 = .ok (.aload_n 0, 1) := by decide +kernel
theorem dX9_fail_166 : decode (mB 99) 166 = .ok (.getfield 38, 3) := by decide +kernel
theorem dX9_fail_169 : decode (mB 99) 169 = .ok (.getfield 130, 3) := by decide +kernel
theorem dX9_fail_172 : decode (mB 99) 172 = .ok (.iload_n 2, 1) := by decide +kernel
theorem dX9_fail_173 : decode (mB 99) 173 = .ok (.iaload, 1) := by decide +kernel
theorem dX9_fail_174 : decode (mB 99) 174 = .ok (.ishl, 1) := by decide +kernel
theorem dX9_fail_175 : decode (mB 99) 175 = .ok (.iadd, 1) := by decide +kernel
theorem dX9_fail_176 : decode (mB 99) 176 = .ok (.iastore, 1) := by decide +kernel
theorem dX9_fail_177 : decode (mB 99) 177 = .ok (.goto 9, 3) := by decide +kernel
theorem dX9_fail_180 : decode (mB 99) 180 = .ok (.aload_n 0, 1) := by decide +kernel
theorem dX9_fail_181 : decode (mB 99) 181 = .ok (.iload_n 1, 1) := by decide +kernel
theorem dX9_fail_182 : decode (mB 99) 182 = .ok (.iconst 0, 1) := by decide +kernel
theorem dX9_fail_183 : decode (mB 99) 183 = .ok (.invokevirtual 203, 3) := by decide +kernel
theorem dX9_fail_186 : decode (mB 99) 186 = .ok (.return_, 1) := by decide +kernel
theorem dX9_rests_0 : decode (mB 100) 0 = .ok (.aload_n 0, 1) := by decide +kernel
theorem dX9_rests_1 : decode (mB 100) 1 = .ok (.getfield 38, 3) := by decide +kernel
theorem dX9_rests_4 : decode (mB 100) 4 = .ok (.getfield 58, 3) := by decide +kernel
theorem dX9_rests_7 : decode (mB 100) 7 = .ok (.iload_n 1, 1) := by decide +kernel
theorem dX9_rests_8 : decode (mB 100) 8 = .ok (.iaload, 1) := by decide +kernel
theorem dX9_rests_9 : decode (mB 100) 9 = .ok (.aload_n 0, 1) := by decide +kernel
theorem dX9_rests_10 : decode (mB 100) 10 = .ok (.getfield 38, 3) := by decide +kernel
theorem dX9_rests_13 : decode (mB 100) 13 = .ok (.getfield 68, 3) := by decide +kernel
theorem dX9_rests_16 : decode (mB 100) 16 = .ok (.if_icmp .lt 7, 3) := by decide +kernel
theorem dX9_rests_19 : decode (mB 100) 19 = .ok (.iconst 1, 1) := by decide +kernel
theorem dX9_rests_20 : decode (mB 100) 20 = .ok (.goto 4, 3) := by decide +kernel
theorem dX9_rests_23 : decode (mB 100) 23 = .ok (.iconst 0, 1) := by decide +kernel
theorem dX9_rests_24 : decode (mB 100) 24 = .ok (.ireturn, 1) := by decide +kernel
theorem dX9_ask_0 : decode (mB 101) 0 = .ok (.aload_n 0, 1) := by decide +kernel
theorem dX9_ask_1 : decode (mB 101) 1 = .ok (.iload_n 1, 1) := by decide +kernel
theorem dX9_ask_2 : decode (mB 101) 2 = .ok (.invokevirtual 117, 3) := by decide +kernel
theorem dX9_ask_5 : decode (mB 101) 5 = .ok (.istore_n 2, 1) := by decide +kernel
theorem dX9_ask_6 : decode (mB 101) 6 = .ok (.aload_n 0, 1) := by decide +kernel
theorem dX9_ask_7 : decode (mB 101) 7 = .ok (.getfield 38, 3) := by decide +kernel
theorem dX9_ask_10 : decode (mB 101) 10 = .ok (.getfield 111, 3) := by decide +kernel
theorem dX9_ask_13 : decode (mB 101) 13 = .ok (.iload_n 2, 1) := by decide +kernel
theorem dX9_ask_14 : decode (mB 101) 14 = .ok (.iaload, 1) := by decide +kernel
theorem dX9_ask_15 : decode (mB 101) 15 = .ok (.istore_n 3, 1) := by decide +kernel
theorem dX9_ask_16 : decode (mB 101) 16 = .ok (.aload_n 0, 1) := by decide +kernel
theorem dX9_ask_17 : decode (mB 101) 17 = .ok (.iload_n 3, 1) := by decide +kernel
theorem dX9_ask_18 : decode (mB 101) 18 = .ok (.invokevirtual 209, 3) := by decide +kernel
theorem dX9_ask_21 : decode (mB 101) 21 = .ok (.ifCond .eq 10, 3) := by decide +kernel
theorem dX9_ask_24 : decode (mB 101) 24 = .ok (.aload_n 0, 1) := by decide +kernel
theorem dX9_ask_25 : decode (mB 101) 25 = .ok (.iload_n 1, 1) := by decide +kernel
theorem dX9_ask_26 : decode (mB 101) 26 = .ok (.iconst 0, 1) := by decide +kernel
theorem dX9_ask_27 : decode (mB 101) 27 = .ok (.invokevirtual 203, 3) := by decide +kernel
theorem dX9_ask_30 : decode (mB 101) 30 = .ok (.return_, 1) := by decide +kernel
theorem dX9_ask_31 : decode (mB 101) 31 = .ok (.aload_n 0, 1) := by decide +kernel
theorem dX9_ask_32 : decode (mB 101) 32 = .ok (.getfield 38, 3) := by decide +kernel
theorem dX9_ask_35 : decode (mB 101) 35 = .ok (.getfield 114, 3) := by decide +kernel
theorem dX9_ask_38 : decode (mB 101) 38 = .ok (.iload_n 2, 1) := by decide +kernel
theorem dX9_ask_39 : decode (mB 101) 39 = .ok (.iconst 2, 1) := by decide +kernel
theorem dX9_ask_40 : decode (mB 101) 40 = .ok (.iastore, 1) := by decide +kernel
theorem dX9_ask_41 : decode (mB 101) 41 = .ok (.aload_n 0, 1) := by decide +kernel
theorem dX9_ask_42 : decode (mB 101) 42 = .ok (.getfield 38, 3) := by decide +kernel
theorem dX9_ask_45 : decode (mB 101) 45 = .ok (.getfield 127, 3) := by decide +kernel
theorem dX9_ask_48 : decode (mB 101) 48 = .ok (.iload_n 2, 1) := by decide +kernel
theorem dX9_ask_49 : decode (mB 101) 49 = .ok (.aload_n 0, 1) := by decide +kernel
theorem dX9_ask_50 : decode (mB 101) 50 = .ok (.getfield 38, 3) := by decide +kernel
theorem dX9_ask_53 : decode (mB 101) 53 = .ok (.getfield 68, 3) := by decide +kernel
theorem dX9_ask_56 : decode (mB 101) 56 = .ok (.aload_n 0, 1) := by decide +kernel
theorem dX9_ask_57 : decode (mB 101) 57 = .ok (.iload_n 3, 1) := by decide +kernel
theorem dX9_ask_58 : decode (mB 101) 58 = .ok (.iconst 0, 1) := by decide +kernel
theorem dX9_ask_59 : decode (mB 101) 59 = .ok (.invokevirtual 79, 3) := by decide +kernel
theorem dX9_ask_62 : decode (mB 101) 62 = .ok (.iadd, 1) := by decide +kernel
theorem dX9_ask_63 : decode (mB 101) 63 = .ok (.iastore, 1) := by decide +kernel
theorem dX9_ask_64 : decode (mB 101) 64 = .ok (.aload_n 0, 1) := by decide +kernel
theorem dX9_ask_65 : decode (mB 101) 65 = .ok (.getfield 38, 3) := by decide +kernel
theorem dX9_ask_68 : decode (mB 101) 68 = .ok (.getfield 133, 3) := by decide +kernel
theorem dX9_ask_71 : decode (mB 101) 71 = .ok (.iload_n 2, 1) := by decide +kernel
theorem dX9_ask_72 : decode (mB 101) 72 = .ok (.iconst (-1), 1) := by decide +kernel
theorem dX9_ask_73 : decode (mB 101) 73 = .ok (.iastore, 1) := by decide +kernel
theorem dX9_ask_74 : decode (mB 101) 74 = .ok (.aload_n 0, 1) := by decide +kernel
theorem dX9_ask_75 : decode (mB 101) 75 = .ok (.iload_n 3, 1) := by decide +kernel
theorem dX9_ask_76 : decode (mB 101) 76 = .ok (.iconst 1, 1) := by decide +kernel
theorem dX9_ask_77 : decode (mB 101) 77 = .ok (.iadd, 1) := by decide +kernel
theorem dX9_ask_78 : decode (mB 101) 78 = .ok (.aload_n 0, 1) := by decide +kernel
theorem dX9_ask_79 : decode (mB 101) 79 = .ok (.getfield 38, 3) := by decide +kernel
theorem dX9_ask_82 : decode (mB 101) 82 = .ok (.getfield 121, 3) := by decide +kernel
theorem dX9_ask_85 : decode (mB 101) 85 = .ok (.iload_n 2, 1) := by decide +kernel
theorem dX9_ask_86 : decode (mB 101) 86 = .ok (.iaload, 1) := by decide +kernel
theorem dX9_ask_87 : decode (mB 101) 87 = .ok (.iload_n 1, 1) := by decide +kernel
theorem dX9_ask_88 : decode (mB 101) 88 = .ok (.iconst (-1), 1) := by decide +kernel
theorem dX9_ask_89 : decode (mB 101) 89 = .ok (.invokevirtual 212, 3) := by decide +kernel
theorem dX9_ask_92 : decode (mB 101) 92 = .ok (.istore 4, 2) := by decide +kernel
theorem dX9_ask_94 : decode (mB 101) 94 = .ok (.iload 4, 2) := by decide +kernel
theorem dX9_ask_96 : decode (mB 101) 96 = .ok (.ifCond .ge 19, 3) := by decide +kernel
theorem dX9_ask_99 : decode (mB 101) 99 = .ok (.aload_n 0, 1) := by decide +kernel
theorem dX9_ask_100 : decode (mB 101) 100 = .ok (.iload_n 1, 1) := by decide +kernel
theorem dX9_ask_101 : decode (mB 101) 101 = .ok (.iload 4, 2) := by decide +kernel
theorem dX9_ask_103 : decode (mB 101) 103 = .ok (.iconst (-1), 1) := by decide +kernel
theorem dX9_ask_104 : decode (mB 101) 104 = .ok (.if_icmp .ne 7, 3) := by decide +kernel
theorem dX9_ask_107 : decode (mB 101) 107 = .ok (.iconst 1, 1) := by decide +kernel
theorem dX9_ask_108 : decode (mB 101) 108 = .ok (.goto 4, 3) := by decide +kernel
theorem dX9_ask_111 : decode (mB 101) 111 = .ok (.iconst 0, 1) := by decide +kernel
theorem dX9_ask_112 : decode (mB 101) 112 = .ok (.invokevirtual 169, 3) := by decide +kernel
theorem dX9_ask_115 : decode (mB 101) 115 = .ok (.return_, 1) := by decide +kernel
theorem dX9_guestAsks_0 : decode (mB 102) 0 = .ok (.aload_n 0, 1) := by decide +kernel
theorem dX9_guestAsks_1 : decode (mB 102) 1 = .ok (.getfield 38, 3) := by decide +kernel
theorem dX9_guestAsks_4 : decode (mB 102) 4 = .ok (.getfield 105, 3) := by decide +kernel
theorem dX9_guestAsks_7 : decode (mB 102) 7 = .ok (.iload_n 1, 1) := by decide +kernel
theorem dX9_guestAsks_8 : decode (mB 102) 8 = .ok (.bipush (-3), 2) := by decide +kernel
theorem dX9_guestAsks_10 : decode (mB 102) 10 = .ok (.iastore, 1) := by decide +kernel
theorem dX9_guestAsks_11 : decode (mB 102) 11 = .ok (.aload_n 0, 1) := by decide +kernel
theorem dX9_guestAsks_12 : decode (mB 102) 12 = .ok (.getfield 38, 3) := by decide +kernel
theorem dX9_guestAsks_15 : decode (mB 102) 15 = .ok (.getfield 185, 3) := by decide +kernel
theorem dX9_guestAsks_18 : decode (mB 102) 18 = .ok (.iload_n 1, 1) := by decide +kernel
theorem dX9_guestAsks_19 : decode (mB 102) 19 = .ok (.aload_n 0, 1) := by decide +kernel
theorem dX9_guestAsks_20 : decode (mB 102) 20 = .ok (.getfield 38, 3) := by decide +kernel
theorem dX9_guestAsks_23 : decode (mB 102) 23 = .ok (.getfield 68, 3) := by decide +kernel
theorem dX9_guestAsks_26 : decode (mB 102) 26 = .ok (.aload_n 0, 1) := by decide +kernel
theorem dX9_guestAsks_27 : decode (mB 102) 27 = .ok (.getfield 16, 3) := by decide +kernel
theorem dX9_guestAsks_30 : decode (mB 102) 30 = .ok (.iadd, 1) := by decide +kernel
theorem dX9_guestAsks_31 : decode (mB 102) 31 = .ok (.iastore, 1) := by decide +kernel
theorem dX9_guestAsks_32 : decode (mB 102) 32 = .ok (.aload_n 0, 1) := by decide +kernel
theorem dX9_guestAsks_33 : decode (mB 102) 33 = .ok (.iconst 0, 1) := by decide +kernel
theorem dX9_guestAsks_34 : decode (mB 102) 34 = .ok (.aload_n 0, 1) := by decide +kernel
theorem dX9_guestAsks_35 : decode (mB 102) 35 = .ok (.getfield 38, 3) := by decide +kernel
theorem dX9_guestAsks_38 : decode (mB 102) 38 = .ok (.getfield 188, 3) := by decide +kernel
theorem dX9_guestAsks_41 : decode (mB 102) 41 = .ok (.iload_n 1, 1) := by decide +kernel
theorem dX9_guestAsks_42 : decode (mB 102) 42 = .ok (.iaload, 1) := by decide +kernel
theorem dX9_guestAsks_43 : decode (mB 102) 43 = .ok (.bipush (-4), 2) := by decide +kernel
theorem dX9_guestAsks_45 : decode (mB 102) 45 = .ok (.iload_n 1, 1) := by decide +kernel
theorem dX9_guestAsks_46 : decode (mB 102) 46 = .ok (.invokevirtual 212, 3) := by decide +kernel
theorem dX9_guestAsks_49 : decode (mB 102) 49 = .ok (.istore_n 2, 1) := by decide +kernel
theorem dX9_guestAsks_50 : decode (mB 102) 50 = .ok (.iload_n 2, 1) := by decide +kernel
theorem dX9_guestAsks_51 : decode (mB 102) 51 = .ok (.ifCond .ge 18, 3) := by decide +kernel
theorem dX9_guestAsks_54 : decode (mB 102) 54 = .ok (.aload_n 0, 1) := by decide +kernel
theorem dX9_guestAsks_55 : decode (mB 102) 55 = .ok (.iload_n 1, 1) := by decide +kernel
theorem dX9_guestAsks_56 : decode (mB 102) 56 = .ok (.iload_n 2, 1) := by decide +kernel
theorem dX9_guestAsks_57 : decode (mB 102) 57 = .ok (.iconst (-1), 1) := by decide +kernel
theorem dX9_guestAsks_58 : decode (mB 102) 58 = .ok (.if_icmp .ne 7, 3) := by decide +kernel
theorem dX9_guestAsks_61 : decode (mB 102) 61 = .ok (.iconst 1, 1) := by decide +kernel
theorem dX9_guestAsks_62 : decode (mB 102) 62 = .ok (.goto 4, 3) := by decide +kernel
theorem dX9_guestAsks_65 : decode (mB 102) 65 = .ok (.iconst 0, 1) := by decide +kernel
theorem dX9_guestAsks_66 : decode (mB 102) 66 = .ok (.invokevirtual 176, 3) := by decide +kernel
theorem dX9_guestAsks_69 : decode (mB 102) 69 = .ok (.return_, 1) := by decide +kernel
theorem dX9_guestComes_0 : decode (mB 103) 0 = .ok (.aload_n 0, 1) := by decide +kernel
theorem dX9_guestComes_1 : decode (mB 103) 1 = .ok (.getfield 38, 3) := by decide +kernel
theorem dX9_guestComes_4 : decode (mB 103) 4 = .ok (.dup, 1) := by decide +kernel
theorem dX9_guestComes_5 : decode (mB 103) 5 = .ok (.getfield 216, 3) := by decide +kernel
theorem dX9_guestComes_8 : decode (mB 103) 8 = .ok (.iconst 1, 1) := by decide +kernel
theorem dX9_guestComes_9 : decode (mB 103) 9 = .ok (.iadd, 1) := by decide +kernel
theorem dX9_guestComes_10 : decode (mB 103) 10 = .ok (.putfield 216, 3) := by decide +kernel
theorem dX9_guestComes_13 : decode (mB 103) 13 = .ok (.aload_n 0, 1) := by decide +kernel
theorem dX9_guestComes_14 : decode (mB 103) 14 = .ok (.getfield 38, 3) := by decide +kernel
theorem dX9_guestComes_17 : decode (mB 103) 17 = .ok (.getfield 102, 3) := by decide +kernel
theorem dX9_guestComes_20 : decode (mB 103) 20 = .ok (.bipush 100, 2) := by decide +kernel
theorem dX9_guestComes_22 : decode (mB 103) 22 = .ok (.if_icmp .ne 25, 3) := by decide +kernel
theorem dX9_guestComes_25 : decode (mB 103) 25 = .ok (.aload_n 0, 1) := by decide +kernel
theorem dX9_guestComes_26 : decode (mB 103) 26 = .ok (.getfield 38, 3) := by decide +kernel
theorem dX9_guestComes_29 : decode (mB 103) 29 = .ok (.dup, 1) := by decide +kernel
theorem dX9_guestComes_30 : decode (mB 103) 30 = .ok (.getfield 219, 3) := by decide +kernel
theorem dX9_guestComes_33 : decode (mB 103) 33 = .ok (.iconst 1, 1) := by decide +kernel
theorem dX9_guestComes_34 : decode (mB 103) 34 = .ok (.iadd, 1) := by decide +kernel
theorem dX9_guestComes_35 : decode (mB 103) 35 = .ok (.putfield 219, 3) := by decide +kernel
theorem dX9_guestComes_38 : decode (mB 103) 38 = .ok (.aload_n 0, 1) := by decide +kernel
theorem dX9_guestComes_39 : decode (mB 103) 39 = .ok (.getfield 38, 3) := by decide +kernel
theorem dX9_guestComes_42 : decode (mB 103) 42 = .ok (.iconst 0, 1) := by decide +kernel
theorem dX9_guestComes_43 : decode (mB 103) 43 = .ok (.putfield 51, 3) := by decide +kernel
theorem dX9_guestComes_46 : decode (mB 103) 46 = .ok (.return_, 1) := by decide +kernel
theorem dX9_guestComes_47 : decode (mB 103) 47 = .ok (.aload_n 0, 1) := by decide +kernel
theorem dX9_guestComes_48 : decode (mB 103) 48 = .ok (.getfield 38, 3) := by decide +kernel
theorem dX9_guestComes_51 : decode (mB 103) 51 = .ok (.getfield 188, 3) := by decide +kernel
theorem dX9_guestComes_54 : decode (mB 103) 54 = .ok (.aload_n 0, 1) := by decide +kernel
theorem dX9_guestComes_55 : decode (mB 103) 55 = .ok (.getfield 38, 3) := by decide +kernel
theorem dX9_guestComes_58 : decode (mB 103) 58 = .ok (.getfield 102, 3) := by decide +kernel
theorem dX9_guestComes_61 : decode (mB 103) 61 = .ok (.iload_n 1, 1) := by decide +kernel
theorem dX9_guestComes_62 : decode (mB 103) 62 = .ok (.iastore, 1) := by decide +kernel
theorem dX9_guestComes_63 : decode (mB 103) 63 = .ok (.aload_n 0, 1) := by decide +kernel
theorem dX9_guestComes_64 : decode (mB 103) 64 = .ok (.getfield 38, 3) := by decide +kernel
theorem dX9_guestComes_67 : decode (mB 103) 67 = .ok (.getfield 191, 3) := by decide +kernel
theorem dX9_guestComes_70 : decode (mB 103) 70 = .ok (.aload_n 0, 1) := by decide +kernel
theorem dX9_guestComes_71 : decode (mB 103) 71 = .ok (.getfield 38, 3) := by decide +kernel
theorem dX9_guestComes_74 : decode (mB 103) 74 = .ok (.getfield 102, 3) := by decide +kernel
theorem dX9_guestComes_77 : decode (mB 103) 77 = .ok (.iconst 0, 1) := by decide +kernel
theorem dX9_guestComes_78 : decode (mB 103) 78 = .ok (.iastore, 1) := by decide +kernel
theorem dX9_guestComes_79 : decode (mB 103) 79 = .ok (.aload_n 0, 1) := by decide +kernel
theorem dX9_guestComes_80 : decode (mB 103) 80 = .ok (.getfield 38, 3) := by decide +kernel
theorem dX9_guestComes_83 : decode (mB 103) 83 = .ok (.getfield 194, 3) := by decide +kernel
theorem dX9_guestComes_86 : decode (mB 103) 86 = .ok (.aload_n 0, 1) := by decide +kernel
theorem dX9_guestComes_87 : decode (mB 103) 87 = .ok (.getfield 38, 3) := by decide +kernel
theorem dX9_guestComes_90 : decode (mB 103) 90 = .ok (.getfield 102, 3) := by decide +kernel
theorem dX9_guestComes_93 : decode (mB 103) 93 = .ok (.aload_n 0, 1) := by decide +kernel
theorem dX9_guestComes_94 : decode (mB 103) 94 = .ok (.getfield 38, 3) := by decide +kernel
theorem dX9_guestComes_97 : decode (mB 103) 97 = .ok (.getfield 216, 3) := by decide +kernel
theorem dX9_guestComes_100 : decode (mB 103) 100 = .ok (.iastore, 1) := by decide +kernel
theorem dX9_guestComes_101 : decode (mB 103) 101 = .ok (.aload_n 0, 1) := by decide +kernel
theorem dX9_guestComes_102 : decode (mB 103) 102 = .ok (.getfield 38, 3) := by decide +kernel
theorem dX9_guestComes_105 : decode (mB 103) 105 = .ok (.dup, 1) := by decide +kernel
theorem dX9_guestComes_106 : decode (mB 103) 106 = .ok (.getfield 102, 3) := by decide +kernel
theorem dX9_guestComes_109 : decode (mB 103) 109 = .ok (.iconst 1, 1) := by decide +kernel
theorem dX9_guestComes_110 : decode (mB 103) 110 = .ok (.iadd, 1) := by decide +kernel
theorem dX9_guestComes_111 : decode (mB 103) 111 = .ok (.putfield 102, 3) := by decide +kernel
theorem dX9_guestComes_114 : decode (mB 103) 114 = .ok (.aload_n 0, 1) := by decide +kernel
theorem dX9_guestComes_115 : decode (mB 103) 115 = .ok (.aload_n 0, 1) := by decide +kernel
theorem dX9_guestComes_116 : decode (mB 103) 116 = .ok (.getfield 38, 3) := by decide +kernel
theorem dX9_guestComes_119 : decode (mB 103) 119 = .ok (.getfield 102, 3) := by decide +kernel
theorem dX9_guestComes_122 : decode (mB 103) 122 = .ok (.iconst 1, 1) := by decide +kernel
theorem dX9_guestComes_123 : decode (mB 103) 123 = .ok (.isub, 1) := by decide +kernel
theorem dX9_guestComes_124 : decode (mB 103) 124 = .ok (.invokevirtual 222, 3) := by decide +kernel
theorem dX9_guestComes_127 : decode (mB 103) 127 = .ok (.return_, 1) := by decide +kernel
theorem dX9_mean_0 : decode (mB 104) 0 = .ok (.aload_n 0, 1) := by decide +kernel
theorem dX9_mean_1 : decode (mB 104) 1 = .ok (.iconst 0, 1) := by decide +kernel
theorem dX9_mean_2 : decode (mB 104) 2 = .ok (.putfield 225, 3) := by decide +kernel
theorem dX9_mean_5 : decode (mB 104) 5 = .ok (.iconst 0, 1) := by decide +kernel
theorem dX9_mean_6 : decode (mB 104) 6 = .ok (.istore_n 2, 1) := by decide +kernel
theorem dX9_mean_7 : decode (mB 104) 7 = .ok (.iload_n 2, 1) := by decide +kernel
theorem dX9_mean_8 : decode (mB 104) 8 = .ok (.aload_n 0, 1) := by decide +kernel
theorem dX9_mean_9 : decode (mB 104) 9 = .ok (.getfield 38, 3) := by decide +kernel
theorem dX9_mean_12 : decode (mB 104) 12 = .ok (.getfield 96, 3) := by decide +kernel
theorem dX9_mean_15 : decode (mB 104) 15 = .ok (.if_icmp .ge 69, 3) := by decide +kernel
theorem dX9_mean_18 : decode (mB 104) 18 = .ok (.aload_n 0, 1) := by decide +kernel
theorem dX9_mean_19 : decode (mB 104) 19 = .ok (.getfield 38, 3) := by decide +kernel
theorem dX9_mean_22 : decode (mB 104) 22 = .ok (.getfield 114, 3) := by decide +kernel
theorem dX9_mean_25 : decode (mB 104) 25 = .ok (.iload_n 2, 1) := by decide +kernel
theorem dX9_mean_26 : decode (mB 104) 26 = .ok (.iaload, 1) := by decide +kernel
theorem dX9_mean_27 : decode (mB 104) 27 = .ok (.iload_n 1, 1) := by decide +kernel
theorem dX9_mean_28 : decode (mB 104) 28 = .ok (.if_icmp .ne 50, 3) := by decide +kernel
theorem dX9_mean_31 : decode (mB 104) 31 = .ok (.aload_n 0, 1) := by decide +kernel
theorem dX9_mean_32 : decode (mB 104) 32 = .ok (.getfield 38, 3) := by decide +kernel
theorem dX9_mean_35 : decode (mB 104) 35 = .ok (.getfield 127, 3) := by decide +kernel
theorem dX9_mean_38 : decode (mB 104) 38 = .ok (.iload_n 2, 1) := by decide +kernel
theorem dX9_mean_39 : decode (mB 104) 39 = .ok (.iaload, 1) := by decide +kernel
theorem dX9_mean_40 : decode (mB 104) 40 = .ok (.aload_n 0, 1) := by decide +kernel
theorem dX9_mean_41 : decode (mB 104) 41 = .ok (.getfield 38, 3) := by decide +kernel
theorem dX9_mean_44 : decode (mB 104) 44 = .ok (.getfield 68, 3) := by decide +kernel
theorem dX9_mean_47 : decode (mB 104) 47 = .ok (.if_icmp .ne 31, 3) := by decide +kernel
theorem dX9_mean_50 : decode (mB 104) 50 = .ok (.aload_n 0, 1) := by decide +kernel
theorem dX9_mean_51 : decode (mB 104) 51 = .ok (.getfield 45, 3) := by decide +kernel
theorem dX9_mean_54 : decode (mB 104) 54 = .ok (.aload_n 0, 1) := by decide +kernel
theorem dX9_mean_55 : decode (mB 104) 55 = .ok (.getfield 225, 3) := by decide +kernel
theorem dX9_mean_58 : decode (mB 104) 58 = .ok (.aload_n 0, 1) := by decide +kernel
theorem dX9_mean_59 : decode (mB 104) 59 = .ok (.getfield 38, 3) := by decide +kernel
theorem dX9_mean_62 : decode (mB 104) 62 = .ok (.getfield 99, 3) := by decide +kernel
theorem dX9_mean_65 : decode (mB 104) 65 = .ok (.iload_n 2, 1) := by decide +kernel
theorem dX9_mean_66 : decode (mB 104) 66 = .ok (.iaload, 1) := by decide +kernel
theorem dX9_mean_67 : decode (mB 104) 67 = .ok (.iastore, 1) := by decide +kernel
theorem dX9_mean_68 : decode (mB 104) 68 = .ok (.aload_n 0, 1) := by decide +kernel
theorem dX9_mean_69 : decode (mB 104) 69 = .ok (.dup, 1) := by decide +kernel
theorem dX9_mean_70 : decode (mB 104) 70 = .ok (.getfield 225, 3) := by decide +kernel
theorem dX9_mean_73 : decode (mB 104) 73 = .ok (.iconst 1, 1) := by decide +kernel
theorem dX9_mean_74 : decode (mB 104) 74 = .ok (.iadd, 1) := by decide +kernel
theorem dX9_mean_75 : decode (mB 104) 75 = .ok (.putfield 225, 3) := by decide +kernel
theorem dX9_mean_78 : decode (mB 104) 78 = .ok (.iinc 2 1, 3) := by decide +kernel
theorem dX9_mean_81 : decode (mB 104) 81 = .ok (.goto (-74), 3) := by decide +kernel
theorem dX9_mean_84 : decode (mB 104) 84 = .ok (.return_, 1) := by decide +kernel
theorem dX9_isSo_0 : decode (mB 105) 0 = .ok (.aload_n 0, 1) := by decide +kernel
theorem dX9_isSo_1 : decode (mB 105) 1 = .ok (.iload_n 1, 1) := by decide +kernel
theorem dX9_isSo_2 : decode (mB 105) 2 = .ok (.invokevirtual 117, 3) := by decide +kernel
theorem dX9_isSo_5 : decode (mB 105) 5 = .ok (.istore_n 3, 1) := by decide +kernel
theorem dX9_isSo_6 : decode (mB 105) 6 = .ok (.iload_n 3, 1) := by decide +kernel
theorem dX9_isSo_7 : decode (mB 105) 7 = .ok (.ifCond .lt 39, 3) := by decide +kernel
theorem dX9_isSo_10 : decode (mB 105) 10 = .ok (.aload_n 0, 1) := by decide +kernel
theorem dX9_isSo_11 : decode (mB 105) 11 = .ok (.getfield 38, 3) := by decide +kernel
theorem dX9_isSo_14 : decode (mB 105) 14 = .ok (.getfield 114, 3) := by decide +kernel
theorem dX9_isSo_17 : decode (mB 105) 17 = .ok (.iload_n 3, 1) := by decide +kernel
theorem dX9_isSo_18 : decode (mB 105) 18 = .ok (.iaload, 1) := by decide +kernel
theorem dX9_isSo_19 : decode (mB 105) 19 = .ok (.iload_n 2, 1) := by decide +kernel
theorem dX9_isSo_20 : decode (mB 105) 20 = .ok (.if_icmp .ne 26, 3) := by decide +kernel
theorem dX9_isSo_23 : decode (mB 105) 23 = .ok (.aload_n 0, 1) := by decide +kernel
theorem dX9_isSo_24 : decode (mB 105) 24 = .ok (.getfield 38, 3) := by decide +kernel
theorem dX9_isSo_27 : decode (mB 105) 27 = .ok (.getfield 127, 3) := by decide +kernel
theorem dX9_isSo_30 : decode (mB 105) 30 = .ok (.iload_n 3, 1) := by decide +kernel
theorem dX9_isSo_31 : decode (mB 105) 31 = .ok (.iaload, 1) := by decide +kernel
theorem dX9_isSo_32 : decode (mB 105) 32 = .ok (.aload_n 0, 1) := by decide +kernel
theorem dX9_isSo_33 : decode (mB 105) 33 = .ok (.getfield 38, 3) := by decide +kernel
theorem dX9_isSo_36 : decode (mB 105) 36 = .ok (.getfield 68, 3) := by decide +kernel
theorem dX9_isSo_39 : decode (mB 105) 39 = .ok (.if_icmp .ne 7, 3) := by decide +kernel
theorem dX9_isSo_42 : decode (mB 105) 42 = .ok (.iconst 1, 1) := by decide +kernel
theorem dX9_isSo_43 : decode (mB 105) 43 = .ok (.goto 4, 3) := by decide +kernel
theorem dX9_isSo_46 : decode (mB 105) 46 = .ok (.iconst 0, 1) := by decide +kernel
theorem dX9_isSo_47 : decode (mB 105) 47 = .ok (.ireturn, 1) := by decide +kernel
theorem dX9_workEnds_0 : decode (mB 106) 0 = .ok (.aload_n 0, 1) := by decide +kernel
theorem dX9_workEnds_1 : decode (mB 106) 1 = .ok (.iconst 1, 1) := by decide +kernel
theorem dX9_workEnds_2 : decode (mB 106) 2 = .ok (.invokevirtual 228, 3) := by decide +kernel
theorem dX9_workEnds_5 : decode (mB 106) 5 = .ok (.iconst 0, 1) := by decide +kernel
theorem dX9_workEnds_6 : decode (mB 106) 6 = .ok (.istore_n 1, 1) := by decide +kernel
theorem dX9_workEnds_7 : decode (mB 106) 7 = .ok (.iload_n 1, 1) := by decide +kernel
theorem dX9_workEnds_8 : decode (mB 106) 8 = .ok (.aload_n 0, 1) := by decide +kernel
theorem dX9_workEnds_9 : decode (mB 106) 9 = .ok (.getfield 225, 3) := by decide +kernel
theorem dX9_workEnds_12 : decode (mB 106) 12 = .ok (.if_icmp .ge 61, 3) := by decide +kernel
theorem dX9_workEnds_15 : decode (mB 106) 15 = .ok (.aload_n 0, 1) := by decide +kernel
theorem dX9_workEnds_16 : decode (mB 106) 16 = .ok (.getfield 45, 3) := by decide +kernel
theorem dX9_workEnds_19 : decode (mB 106) 19 = .ok (.iload_n 1, 1) := by decide +kernel
theorem dX9_workEnds_20 : decode (mB 106) 20 = .ok (.iaload, 1) := by decide +kernel
theorem dX9_workEnds_21 : decode (mB 106) 21 = .ok (.istore_n 2, 1) := by decide +kernel
theorem dX9_workEnds_22 : decode (mB 106) 22 = .ok (.aload_n 0, 1) := by decide +kernel
theorem dX9_workEnds_23 : decode (mB 106) 23 = .ok (.iload_n 2, 1) := by decide +kernel
theorem dX9_workEnds_24 : decode (mB 106) 24 = .ok (.iconst 1, 1) := by decide +kernel
theorem dX9_workEnds_25 : decode (mB 106) 25 = .ok (.invokevirtual 231, 3) := by decide +kernel
theorem dX9_workEnds_28 : decode (mB 106) 28 = .ok (.ifCond .eq 39, 3) := by decide +kernel
theorem dX9_workEnds_31 : decode (mB 106) 31 = .ok (.aload_n 0, 1) := by decide +kernel
theorem dX9_workEnds_32 : decode (mB 106) 32 = .ok (.getfield 38, 3) := by decide +kernel
theorem dX9_workEnds_35 : decode (mB 106) 35 = .ok (.getfield 111, 3) := by decide +kernel
theorem dX9_workEnds_38 : decode (mB 106) 38 = .ok (.aload_n 0, 1) := by decide +kernel
theorem dX9_workEnds_39 : decode (mB 106) 39 = .ok (.iload_n 2, 1) := by decide +kernel
theorem dX9_workEnds_40 : decode (mB 106) 40 = .ok (.invokevirtual 117, 3) := by decide +kernel
theorem dX9_workEnds_43 : decode (mB 106) 43 = .ok (.iaload, 1) := by decide +kernel
theorem dX9_workEnds_44 : decode (mB 106) 44 = .ok (.aload_n 0, 1) := by decide +kernel
theorem dX9_workEnds_45 : decode (mB 106) 45 = .ok (.getfield 61, 3) := by decide +kernel
theorem dX9_workEnds_48 : decode (mB 106) 48 = .ok (.iconst 1, 1) := by decide +kernel
theorem dX9_workEnds_49 : decode (mB 106) 49 = .ok (.isub, 1) := by decide +kernel
theorem dX9_workEnds_50 : decode (mB 106) 50 = .ok (.if_icmp .ge 11, 3) := by decide +kernel
theorem dX9_workEnds_53 : decode (mB 106) 53 = .ok (.aload_n 0, 1) := by decide +kernel
theorem dX9_workEnds_54 : decode (mB 106) 54 = .ok (.iload_n 2, 1) := by decide +kernel
theorem dX9_workEnds_55 : decode (mB 106) 55 = .ok (.invokevirtual 234, 3) := by decide +kernel
theorem dX9_workEnds_58 : decode (mB 106) 58 = .ok (.goto 9, 3) := by decide +kernel
theorem dX9_workEnds_61 : decode (mB 106) 61 = .ok (.aload_n 0, 1) := by decide +kernel
theorem dX9_workEnds_62 : decode (mB 106) 62 = .ok (.iload_n 2, 1) := by decide +kernel
theorem dX9_workEnds_63 : decode (mB 106) 63 = .ok (.iconst 1, 1) := by decide +kernel
theorem dX9_workEnds_64 : decode (mB 106) 64 = .ok (.invokevirtual 203, 3) := by decide +kernel
theorem dX9_workEnds_67 : decode (mB 106) 67 = .ok (.iinc 1 1, 3) := by decide +kernel
theorem dX9_workEnds_70 : decode (mB 106) 70 = .ok (.goto (-63), 3) := by decide +kernel
theorem dX9_workEnds_73 : decode (mB 106) 73 = .ok (.return_, 1) := by decide +kernel
theorem dX9_pausesEnd_0 : decode (mB 107) 0 = .ok (.aload_n 0, 1) := by decide +kernel
theorem dX9_pausesEnd_1 : decode (mB 107) 1 = .ok (.iconst 3, 1) := by decide +kernel
theorem dX9_pausesEnd_2 : decode (mB 107) 2 = .ok (.invokevirtual 228, 3) := by decide +kernel
theorem dX9_pausesEnd_5 : decode (mB 107) 5 = .ok (.iconst 0, 1) := by decide +kernel
theorem dX9_pausesEnd_6 : decode (mB 107) 6 = .ok (.istore_n 1, 1) := by decide +kernel
theorem dX9_pausesEnd_7 : decode (mB 107) 7 = .ok (.iload_n 1, 1) := by decide +kernel
theorem dX9_pausesEnd_8 : decode (mB 107) 8 = .ok (.aload_n 0, 1) := by decide +kernel
theorem dX9_pausesEnd_9 : decode (mB 107) 9 = .ok (.getfield 225, 3) := by decide +kernel
theorem dX9_pausesEnd_12 : decode (mB 107) 12 = .ok (.if_icmp .ge 55, 3) := by decide +kernel
theorem dX9_pausesEnd_15 : decode (mB 107) 15 = .ok (.aload_n 0, 1) := by decide +kernel
theorem dX9_pausesEnd_16 : decode (mB 107) 16 = .ok (.aload_n 0, 1) := by decide +kernel
theorem dX9_pausesEnd_17 : decode (mB 107) 17 = .ok (.getfield 45, 3) := by decide +kernel
theorem dX9_pausesEnd_20 : decode (mB 107) 20 = .ok (.iload_n 1, 1) := by decide +kernel
theorem dX9_pausesEnd_21 : decode (mB 107) 21 = .ok (.iaload, 1) := by decide +kernel
theorem dX9_pausesEnd_22 : decode (mB 107) 22 = .ok (.iconst 3, 1) := by decide +kernel
theorem dX9_pausesEnd_23 : decode (mB 107) 23 = .ok (.invokevirtual 231, 3) := by decide +kernel
theorem dX9_pausesEnd_26 : decode (mB 107) 26 = .ok (.ifCond .eq 35, 3) := by decide +kernel
theorem dX9_pausesEnd_29 : decode (mB 107) 29 = .ok (.aload_n 0, 1) := by decide +kernel
theorem dX9_pausesEnd_30 : decode (mB 107) 30 = .ok (.getfield 38, 3) := by decide +kernel
theorem dX9_pausesEnd_33 : decode (mB 107) 33 = .ok (.getfield 130, 3) := by decide +kernel
theorem dX9_pausesEnd_36 : decode (mB 107) 36 = .ok (.aload_n 0, 1) := by decide +kernel
theorem dX9_pausesEnd_37 : decode (mB 107) 37 = .ok (.aload_n 0, 1) := by decide +kernel
theorem dX9_pausesEnd_38 : decode (mB 107) 38 = .ok (.getfield 45, 3) := by decide +kernel
theorem dX9_pausesEnd_41 : decode (mB 107) 41 = .ok (.iload_n 1, 1) := by decide +kernel
theorem dX9_pausesEnd_42 : decode (mB 107) 42 = .ok (.iaload, 1) := by decide +kernel
theorem dX9_pausesEnd_43 : decode (mB 107) 43 = .ok (.invokevirtual 117, 3) := by decide +kernel
theorem dX9_pausesEnd_46 : decode (mB 107) 46 = .ok (.dup2, 1) := by decide +kernel
theorem dX9_pausesEnd_47 : decode (mB 107) 47 = .ok (.iaload, 1) := by decide +kernel
theorem dX9_pausesEnd_48 : decode (mB 107) 48 = .ok (.iconst 1, 1) := by decide +kernel
theorem dX9_pausesEnd_49 : decode (mB 107) 49 = .ok (.iadd, 1) := by decide +kernel
theorem dX9_pausesEnd_50 : decode (mB 107) 50 = .ok (.iastore, 1) := by decide +kernel
theorem dX9_pausesEnd_51 : decode (mB 107) 51 = .ok (.aload_n 0, 1) := by decide +kernel
theorem dX9_pausesEnd_52 : decode (mB 107) 52 = .ok (.aload_n 0, 1) := by decide +kernel
theorem dX9_pausesEnd_53 : decode (mB 107) 53 = .ok (.getfield 45, 3) := by decide +kernel
theorem dX9_pausesEnd_56 : decode (mB 107) 56 = .ok (.iload_n 1, 1) := by decide +kernel
theorem dX9_pausesEnd_57 : decode (mB 107) 57 = .ok (.iaload, 1) := by decide +kernel
theorem dX9_pausesEnd_58 : decode (mB 107) 58 = .ok (.invokevirtual 234, 3) := by decide +kernel
theorem dX9_pausesEnd_61 : decode (mB 107) 61 = .ok (.iinc 1 1, 3) := by decide +kernel
theorem dX9_pausesEnd_64 : decode (mB 107) 64 = .ok (.goto (-57), 3) := by decide +kernel
theorem dX9_pausesEnd_67 : decode (mB 107) 67 = .ok (.return_, 1) := by decide +kernel
theorem dX9_deadlines_0 : decode (mB 108) 0 = .ok (.aload_n 0, 1) := by decide +kernel
theorem dX9_deadlines_1 : decode (mB 108) 1 = .ok (.iconst 2, 1) := by decide +kernel
theorem dX9_deadlines_2 : decode (mB 108) 2 = .ok (.invokevirtual 228, 3) := by decide +kernel
theorem dX9_deadlines_5 : decode (mB 108) 5 = .ok (.iconst 0, 1) := by decide +kernel
theorem dX9_deadlines_6 : decode (mB 108) 6 = .ok (.istore_n 1, 1) := by decide +kernel
theorem dX9_deadlines_7 : decode (mB 108) 7 = .ok (.iload_n 1, 1) := by decide +kernel
theorem dX9_deadlines_8 : decode (mB 108) 8 = .ok (.aload_n 0, 1) := by decide +kernel
theorem dX9_deadlines_9 : decode (mB 108) 9 = .ok (.getfield 225, 3) := by decide +kernel
theorem dX9_deadlines_12 : decode (mB 108) 12 = .ok (.if_icmp .ge 33, 3) := by decide +kernel
theorem dX9_deadlines_15 : decode (mB 108) 15 = .ok (.aload_n 0, 1) := by decide +kernel
theorem dX9_deadlines_16 : decode (mB 108) 16 = .ok (.aload_n 0, 1) := by decide +kernel
theorem dX9_deadlines_17 : decode (mB 108) 17 = .ok (.getfield 45, 3) := by decide +kernel
theorem dX9_deadlines_20 : decode (mB 108) 20 = .ok (.iload_n 1, 1) := by decide +kernel
theorem dX9_deadlines_21 : decode (mB 108) 21 = .ok (.iaload, 1) := by decide +kernel
theorem dX9_deadlines_22 : decode (mB 108) 22 = .ok (.iconst 2, 1) := by decide +kernel
theorem dX9_deadlines_23 : decode (mB 108) 23 = .ok (.invokevirtual 231, 3) := by decide +kernel
theorem dX9_deadlines_26 : decode (mB 108) 26 = .ok (.ifCond .eq 13, 3) := by decide +kernel
theorem dX9_deadlines_29 : decode (mB 108) 29 = .ok (.aload_n 0, 1) := by decide +kernel
theorem dX9_deadlines_30 : decode (mB 108) 30 = .ok (.aload_n 0, 1) := by decide +kernel
theorem dX9_deadlines_31 : decode (mB 108) 31 = .ok (.getfield 45, 3) := by decide +kernel
theorem dX9_deadlines_34 : decode (mB 108) 34 = .ok (.iload_n 1, 1) := by decide +kernel
theorem dX9_deadlines_35 : decode (mB 108) 35 = .ok (.iaload, 1) := by decide +kernel
theorem dX9_deadlines_36 : decode (mB 108) 36 = .ok (.invokevirtual 206, 3) := by decide +kernel
theorem dX9_deadlines_39 : decode (mB 108) 39 = .ok (.iinc 1 1, 3) := by decide +kernel
theorem dX9_deadlines_42 : decode (mB 108) 42 = .ok (.goto (-35), 3) := by decide +kernel
theorem dX9_deadlines_45 : decode (mB 108) 45 = .ok (.return_, 1) := by decide +kernel
theorem dX9_guestDeadlines_0 : decode (mB 109) 0 = .ok (.iconst 0, 1) := by decide +kernel
theorem dX9_guestDeadlines_1 : decode (mB 109) 1 = .ok (.istore_n 1, 1) := by decide +kernel
theorem dX9_guestDeadlines_2 : decode (mB 109) 2 = .ok (.iconst 0, 1) := by decide +kernel
theorem dX9_guestDeadlines_3 : decode (mB 109) 3 = .ok (.istore_n 2, 1) := by decide +kernel
theorem dX9_guestDeadlines_4 : decode (mB 109) 4 = .ok (.iload_n 2, 1) := by decide +kernel
theorem dX9_guestDeadlines_5 : decode (mB 109) 5 = .ok (.aload_n 0, 1) := by decide +kernel
theorem dX9_guestDeadlines_6 : decode (mB 109) 6 = .ok (.getfield 38, 3) := by decide +kernel
theorem dX9_guestDeadlines_9 : decode (mB 109) 9 = .ok (.getfield 102, 3) := by decide +kernel
theorem dX9_guestDeadlines_12 : decode (mB 109) 12 = .ok (.if_icmp .ge 46, 3) := by decide +kernel
theorem dX9_guestDeadlines_15 : decode (mB 109) 15 = .ok (.aload_n 0, 1) := by decide +kernel
theorem dX9_guestDeadlines_16 : decode (mB 109) 16 = .ok (.getfield 38, 3) := by decide +kernel
theorem dX9_guestDeadlines_19 : decode (mB 109) 19 = .ok (.getfield 185, 3) := by decide +kernel
theorem dX9_guestDeadlines_22 : decode (mB 109) 22 = .ok (.iload_n 2, 1) := by decide +kernel
theorem dX9_guestDeadlines_23 : decode (mB 109) 23 = .ok (.iaload, 1) := by decide +kernel
theorem dX9_guestDeadlines_24 : decode (mB 109) 24 = .ok (.aload_n 0, 1) := by decide +kernel
theorem dX9_guestDeadlines_25 : decode (mB 109) 25 = .ok (.getfield 38, 3) := by decide +kernel
theorem dX9_guestDeadlines_28 : decode (mB 109) 28 = .ok (.getfield 68, 3) := by decide +kernel
theorem dX9_guestDeadlines_31 : decode (mB 109) 31 = .ok (.if_icmp .ne 21, 3) := by decide +kernel
theorem dX9_guestDeadlines_34 : decode (mB 109) 34 = .ok (.aload_n 0, 1) := by decide +kernel
theorem dX9_guestDeadlines_35 : decode (mB 109) 35 = .ok (.getfield 48, 3) := by decide +kernel
theorem dX9_guestDeadlines_38 : decode (mB 109) 38 = .ok (.iload_n 1, 1) := by decide +kernel
theorem dX9_guestDeadlines_39 : decode (mB 109) 39 = .ok (.aload_n 0, 1) := by decide +kernel
theorem dX9_guestDeadlines_40 : decode (mB 109) 40 = .ok (.getfield 38, 3) := by decide +kernel
theorem dX9_guestDeadlines_43 : decode (mB 109) 43 = .ok (.getfield 194, 3) := by decide +kernel
theorem dX9_guestDeadlines_46 : decode (mB 109) 46 = .ok (.iload_n 2, 1) := by decide +kernel
theorem dX9_guestDeadlines_47 : decode (mB 109) 47 = .ok (.iaload, 1) := by decide +kernel
theorem dX9_guestDeadlines_48 : decode (mB 109) 48 = .ok (.iastore, 1) := by decide +kernel
theorem dX9_guestDeadlines_49 : decode (mB 109) 49 = .ok (.iinc 1 1, 3) := by decide +kernel
theorem dX9_guestDeadlines_52 : decode (mB 109) 52 = .ok (.iinc 2 1, 3) := by decide +kernel
theorem dX9_guestDeadlines_55 : decode (mB 109) 55 = .ok (.goto (-51), 3) := by decide +kernel
theorem dX9_guestDeadlines_58 : decode (mB 109) 58 = .ok (.iconst 0, 1) := by decide +kernel
theorem dX9_guestDeadlines_59 : decode (mB 109) 59 = .ok (.istore_n 2, 1) := by decide +kernel
theorem dX9_guestDeadlines_60 : decode (mB 109) 60 = .ok (.iload_n 2, 1) := by decide +kernel
theorem dX9_guestDeadlines_61 : decode (mB 109) 61 = .ok (.iload_n 1, 1) := by decide +kernel
theorem dX9_guestDeadlines_62 : decode (mB 109) 62 = .ok (.if_icmp .ge 152, 3) := by decide +kernel
theorem dX9_guestDeadlines_65 : decode (mB 109) 65 = .ok (.iconst 0, 1) := by decide +kernel
theorem dX9_guestDeadlines_66 : decode (mB 109) 66 = .ok (.istore_n 3, 1) := by decide +kernel
theorem dX9_guestDeadlines_67 : decode (mB 109) 67 = .ok (.iload_n 3, 1) := by decide +kernel
theorem dX9_guestDeadlines_68 : decode (mB 109) 68 = .ok (.aload_n 0, 1) := by decide +kernel
theorem dX9_guestDeadlines_69 : decode (mB 109) 69 = .ok (.getfield 38, 3) := by decide +kernel
theorem dX9_guestDeadlines_72 : decode (mB 109) 72 = .ok (.getfield 102, 3) := by decide +kernel
theorem dX9_guestDeadlines_75 : decode (mB 109) 75 = .ok (.if_icmp .ge 27, 3) := by decide +kernel
theorem dX9_guestDeadlines_78 : decode (mB 109) 78 = .ok (.aload_n 0, 1) := by decide +kernel
theorem dX9_guestDeadlines_79 : decode (mB 109) 79 = .ok (.getfield 38, 3) := by decide +kernel
theorem dX9_guestDeadlines_82 : decode (mB 109) 82 = .ok (.getfield 194, 3) := by decide +kernel
theorem dX9_guestDeadlines_85 : decode (mB 109) 85 = .ok (.iload_n 3, 1) := by decide +kernel
theorem dX9_guestDeadlines_86 : decode (mB 109) 86 = .ok (.iaload, 1) := by decide +kernel
theorem dX9_guestDeadlines_87 : decode (mB 109) 87 = .ok (.aload_n 0, 1) := by decide +kernel
theorem dX9_guestDeadlines_88 : decode (mB 109) 88 = .ok (.getfield 48, 3) := by decide +kernel
theorem dX9_guestDeadlines_91 : decode (mB 109) 91 = .ok (.iload_n 2, 1) := by decide +kernel
theorem dX9_guestDeadlines_92 : decode (mB 109) 92 = .ok (.iaload, 1) := by decide +kernel
theorem dX9_guestDeadlines_93 : decode (mB 109) 93 = .ok (.if_icmp .eq 9, 3) := by decide +kernel
theorem dX9_guestDeadlines_96 : decode (mB 109) 96 = .ok (.iinc 3 1, 3) := by decide +kernel
theorem dX9_guestDeadlines_99 : decode (mB 109) 99 = .ok (.goto (-32), 3) := by decide +kernel
theorem dX9_guestDeadlines_102 : decode (mB 109) 102 = .ok (.iload_n 3, 1) := by decide +kernel
theorem dX9_guestDeadlines_103 : decode (mB 109) 103 = .ok (.aload_n 0, 1) := by decide +kernel
theorem dX9_guestDeadlines_104 : decode (mB 109) 104 = .ok (.getfield 38, 3) := by decide +kernel
theorem dX9_guestDeadlines_107 : decode (mB 109) 107 = .ok (.getfield 102, 3) := by decide +kernel
theorem dX9_guestDeadlines_110 : decode (mB 109) 110 = .ok (.if_icmp .ge 98, 3) := by decide +kernel
theorem dX9_guestDeadlines_113 : decode (mB 109) 113 = .ok (.aload_n 0, 1) := by decide +kernel
theorem dX9_guestDeadlines_114 : decode (mB 109) 114 = .ok (.getfield 38, 3) := by decide +kernel
theorem dX9_guestDeadlines_117 : decode (mB 109) 117 = .ok (.getfield 185, 3) := by decide +kernel
theorem dX9_guestDeadlines_120 : decode (mB 109) 120 = .ok (.iload_n 3, 1) := by decide +kernel
theorem dX9_guestDeadlines_121 : decode (mB 109) 121 = .ok (.iaload, 1) := by decide +kernel
theorem dX9_guestDeadlines_122 : decode (mB 109) 122 = .ok (.aload_n 0, 1) := by decide +kernel
theorem dX9_guestDeadlines_123 : decode (mB 109) 123 = .ok (.getfield 38, 3) := by decide +kernel
theorem dX9_guestDeadlines_126 : decode (mB 109) 126 = .ok (.getfield 68, 3) := by decide +kernel
theorem dX9_guestDeadlines_129 : decode (mB 109) 129 = .ok (.if_icmp .ne 79, 3) := by decide +kernel
theorem dX9_guestDeadlines_132 : decode (mB 109) 132 = .ok (.aload_n 0, 1) := by decide +kernel
theorem dX9_guestDeadlines_133 : decode (mB 109) 133 = .ok (.getfield 38, 3) := by decide +kernel
theorem dX9_guestDeadlines_136 : decode (mB 109) 136 = .ok (.iconst 0, 1) := by decide +kernel
theorem dX9_guestDeadlines_137 : decode (mB 109) 137 = .ok (.putfield 51, 3) := by decide +kernel
theorem dX9_guestDeadlines_140 : decode (mB 109) 140 = .ok (.aload_n 0, 1) := by decide +kernel
theorem dX9_guestDeadlines_141 : decode (mB 109) 141 = .ok (.getfield 38, 3) := by decide +kernel
theorem dX9_guestDeadlines_144 : decode (mB 109) 144 = .ok (.getfield 191, 3) := by decide +kernel
theorem dX9_guestDeadlines_147 : decode (mB 109) 147 = .ok (.iload_n 3, 1) := by decide +kernel
theorem dX9_guestDeadlines_148 : decode (mB 109) 148 = .ok (.iaload, 1) := by decide +kernel
theorem dX9_guestDeadlines_149 : decode (mB 109) 149 = .ok (.aload_n 0, 1) := by decide +kernel
theorem dX9_guestDeadlines_150 : decode (mB 109) 150 = .ok (.getfield 83, 3) := by decide +kernel
theorem dX9_guestDeadlines_153 : decode (mB 109) 153 = .ok (.if_icmp .ge 37, 3) := by decide +kernel
theorem dX9_guestDeadlines_156 : decode (mB 109) 156 = .ok (.aload_n 0, 1) := by decide +kernel
theorem dX9_guestDeadlines_157 : decode (mB 109) 157 = .ok (.getfield 38, 3) := by decide +kernel
theorem dX9_guestDeadlines_160 : decode (mB 109) 160 = .ok (.getfield 191, 3) := by decide +kernel
theorem dX9_guestDeadlines_163 : decode (mB 109) 163 = .ok (.iload_n 3, 1) := by decide +kernel
theorem dX9_guestDeadlines_164 : decode (mB 109) 164 = .ok (.dup2, 1) := by decide +kernel
theorem dX9_guestDeadlines_165 : decode (mB 109) 165 = .ok (.iaload, 1) := by decide +kernel
theorem dX9_guestDeadlines_166 : decode (mB 109) 166 = .ok (.iconst 1, 1) := by decide +kernel
theorem dX9_guestDeadlines_167 : decode (mB 109) 167 = .ok (.iadd, 1) := by decide +kernel
theorem dX9_guestDeadlines_168 : decode (mB 109) 168 = .ok (.iastore, 1) := by decide +kernel
theorem dX9_guestDeadlines_169 : decode (mB 109) 169 = .ok (.aload_n 0, 1) := by decide +kernel
theorem dX9_guestDeadlines_170 : decode (mB 109) 170 = .ok (.getfield 38, 3) := by decide +kernel
theorem dX9_guestDeadlines_173 : decode (mB 109) 173 = .ok (.dup, 1) := by decide +kernel
theorem dX9_guestDeadlines_174 : decode (mB 109) 174 = .ok (.getfield 237, 3) := by decide +kernel
theorem dX9_guestDeadlines_177 : decode (mB 109) 177 = .ok (.iconst 1, 1) := by decide +kernel
theorem dX9_guestDeadlines_178 : decode (mB 109) 178 = .ok (.iadd, 1) := by decide +kernel
theorem dX9_guestDeadlines_179 : decode (mB 109) 179 = .ok (.putfield 237, 3) := by decide +kernel
theorem dX9_guestDeadlines_182 : decode (mB 109) 182 = .ok (.aload_n 0, 1) := by decide +kernel
theorem dX9_guestDeadlines_183 : decode (mB 109) 183 = .ok (.iload_n 3, 1) := by decide +kernel
theorem dX9_guestDeadlines_184 : decode (mB 109) 184 = .ok (.invokevirtual 222, 3) := by decide +kernel
theorem dX9_guestDeadlines_187 : decode (mB 109) 187 = .ok (.goto 21, 3) := by decide +kernel
theorem dX9_guestDeadlines_190 : decode (mB 109) 190 = .ok (.aload_n 0, 1) := by decide +kernel
theorem dX9_guestDeadlines_191 : decode (mB 109) 191 = .ok (.getfield 38, 3) := by decide +kernel
theorem dX9_guestDeadlines_194 : decode (mB 109) 194 = .ok (.dup, 1) := by decide +kernel
theorem dX9_guestDeadlines_195 : decode (mB 109) 195 = .ok (.getfield 219, 3) := by decide +kernel
theorem dX9_guestDeadlines_198 : decode (mB 109) 198 = .ok (.iconst 1, 1) := by decide +kernel
theorem dX9_guestDeadlines_199 : decode (mB 109) 199 = .ok (.iadd, 1) := by decide +kernel
theorem dX9_guestDeadlines_200 : decode (mB 109) 200 = .ok (.putfield 219, 3) := by decide +kernel
theorem dX9_guestDeadlines_203 : decode (mB 109) 203 = .ok (.aload_n 0, 1) := by decide +kernel
theorem dX9_guestDeadlines_204 : decode (mB 109) 204 = .ok (.iload_n 3, 1) := by decide +kernel
theorem dX9_guestDeadlines_205 : decode (mB 109) 205 = .ok (.invokevirtual 182, 3) := by decide +kernel
theorem dX9_guestDeadlines_208 : decode (mB 109) 208 = .ok (.iinc 2 1, 3) := by decide +kernel
theorem dX9_guestDeadlines_211 : decode (mB 109) 211 = .ok (.goto (-151), 3) := by decide +kernel
theorem dX9_guestDeadlines_214 : decode (mB 109) 214 = .ok (.return_, 1) := by decide +kernel
theorem dX9_handsTake_0 : decode (mB 110) 0 = .ok (.iconst 0, 1) := by decide +kernel
theorem dX9_handsTake_1 : decode (mB 110) 1 = .ok (.istore_n 1, 1) := by decide +kernel
theorem dX9_handsTake_2 : decode (mB 110) 2 = .ok (.iload_n 1, 1) := by decide +kernel
theorem dX9_handsTake_3 : decode (mB 110) 3 = .ok (.aload_n 0, 1) := by decide +kernel
theorem dX9_handsTake_4 : decode (mB 110) 4 = .ok (.getfield 61, 3) := by decide +kernel
theorem dX9_handsTake_7 : decode (mB 110) 7 = .ok (.if_icmp .ge 62, 3) := by decide +kernel
theorem dX9_handsTake_10 : decode (mB 110) 10 = .ok (.aload_n 0, 1) := by decide +kernel
theorem dX9_handsTake_11 : decode (mB 110) 11 = .ok (.getfield 38, 3) := by decide +kernel
theorem dX9_handsTake_14 : decode (mB 110) 14 = .ok (.getfield 140, 3) := by decide +kernel
theorem dX9_handsTake_17 : decode (mB 110) 17 = .ok (.iload_n 1, 1) := by decide +kernel
theorem dX9_handsTake_18 : decode (mB 110) 18 = .ok (.iaload, 1) := by decide +kernel
theorem dX9_handsTake_19 : decode (mB 110) 19 = .ok (.ifCond .le 44, 3) := by decide +kernel
theorem dX9_handsTake_22 : decode (mB 110) 22 = .ok (.aload_n 0, 1) := by decide +kernel
theorem dX9_handsTake_23 : decode (mB 110) 23 = .ok (.iload_n 1, 1) := by decide +kernel
theorem dX9_handsTake_24 : decode (mB 110) 24 = .ok (.invokevirtual 146, 3) := by decide +kernel
theorem dX9_handsTake_27 : decode (mB 110) 27 = .ok (.aload_n 0, 1) := by decide +kernel
theorem dX9_handsTake_28 : decode (mB 110) 28 = .ok (.iload_n 1, 1) := by decide +kernel
theorem dX9_handsTake_29 : decode (mB 110) 29 = .ok (.bipush 7, 2) := by decide +kernel
theorem dX9_handsTake_31 : decode (mB 110) 31 = .ok (.invokevirtual 79, 3) := by decide +kernel
theorem dX9_handsTake_34 : decode (mB 110) 34 = .ok (.if_icmp .ge 29, 3) := by decide +kernel
theorem dX9_handsTake_37 : decode (mB 110) 37 = .ok (.aload_n 0, 1) := by decide +kernel
theorem dX9_handsTake_38 : decode (mB 110) 38 = .ok (.getfield 38, 3) := by decide +kernel
theorem dX9_handsTake_41 : decode (mB 110) 41 = .ok (.getfield 143, 3) := by decide +kernel
theorem dX9_handsTake_44 : decode (mB 110) 44 = .ok (.bipush 20, 2) := by decide +kernel
theorem dX9_handsTake_46 : decode (mB 110) 46 = .ok (.iload_n 1, 1) := by decide +kernel
theorem dX9_handsTake_47 : decode (mB 110) 47 = .ok (.imul, 1) := by decide +kernel
theorem dX9_handsTake_48 : decode (mB 110) 48 = .ok (.iaload, 1) := by decide +kernel
theorem dX9_handsTake_49 : decode (mB 110) 49 = .ok (.istore_n 2, 1) := by decide +kernel
theorem dX9_handsTake_50 : decode (mB 110) 50 = .ok (.aload_n 0, 1) := by decide +kernel
theorem dX9_handsTake_51 : decode (mB 110) 51 = .ok (.iload_n 1, 1) := by decide +kernel
theorem dX9_handsTake_52 : decode (mB 110) 52 = .ok (.invokevirtual 156, 3) := by decide +kernel
theorem dX9_handsTake_55 : decode (mB 110) 55 = .ok (.aload_n 0, 1) := by decide +kernel
theorem dX9_handsTake_56 : decode (mB 110) 56 = .ok (.iload_n 2, 1) := by decide +kernel
theorem dX9_handsTake_57 : decode (mB 110) 57 = .ok (.invokevirtual 152, 3) := by decide +kernel
theorem dX9_handsTake_60 : decode (mB 110) 60 = .ok (.goto (-50), 3) := by decide +kernel
theorem dX9_handsTake_63 : decode (mB 110) 63 = .ok (.iinc 1 1, 3) := by decide +kernel
theorem dX9_handsTake_66 : decode (mB 110) 66 = .ok (.goto (-64), 3) := by decide +kernel
theorem dX9_handsTake_69 : decode (mB 110) 69 = .ok (.return_, 1) := by decide +kernel
theorem dX9_guestsCome_0 : decode (mB 111) 0 = .ok (.aload_n 0, 1) := by decide +kernel
theorem dX9_guestsCome_1 : decode (mB 111) 1 = .ok (.getfield 240, 3) := by decide +kernel
theorem dX9_guestsCome_4 : decode (mB 111) 4 = .ok (.ifCond .eq 35, 3) := by decide +kernel
theorem dX9_guestsCome_7 : decode (mB 111) 7 = .ok (.iconst 0, 1) := by decide +kernel
theorem dX9_guestsCome_8 : decode (mB 111) 8 = .ok (.istore_n 1, 1) := by decide +kernel
theorem dX9_guestsCome_9 : decode (mB 111) 9 = .ok (.iload_n 1, 1) := by decide +kernel
theorem dX9_guestsCome_10 : decode (mB 111) 10 = .ok (.aload_n 0, 1) := by decide +kernel
theorem dX9_guestsCome_11 : decode (mB 111) 11 = .ok (.getfield 243, 3) := by decide +kernel
theorem dX9_guestsCome_14 : decode (mB 111) 14 = .ok (.if_icmp .ge 17, 3) := by decide +kernel
theorem dX9_guestsCome_17 : decode (mB 111) 17 = .ok (.aload_n 0, 1) := by decide +kernel
theorem dX9_guestsCome_18 : decode (mB 111) 18 = .ok (.aload_n 0, 1) := by decide +kernel
theorem dX9_guestsCome_19 : decode (mB 111) 19 = .ok (.getfield 246, 3) := by decide +kernel
theorem dX9_guestsCome_22 : decode (mB 111) 22 = .ok (.invokevirtual 249, 3) := by decide +kernel
theorem dX9_guestsCome_25 : decode (mB 111) 25 = .ok (.iinc 1 1, 3) := by decide +kernel
theorem dX9_guestsCome_28 : decode (mB 111) 28 = .ok (.goto (-19), 3) := by decide +kernel
theorem dX9_guestsCome_31 : decode (mB 111) 31 = .ok (.aload_n 0, 1) := by decide +kernel
theorem dX9_guestsCome_32 : decode (mB 111) 32 = .ok (.iconst 0, 1) := by decide +kernel
theorem dX9_guestsCome_33 : decode (mB 111) 33 = .ok (.putfield 243, 3) := by decide +kernel
theorem dX9_guestsCome_36 : decode (mB 111) 36 = .ok (.goto 112, 3) := by decide +kernel
theorem dX9_guestsCome_39 : decode (mB 111) 39 = .ok (.iconst 0, 1) := by decide +kernel
theorem dX9_guestsCome_40 : decode (mB 111) 40 = .ok (.istore_n 1, 1) := by decide +kernel
theorem dX9_guestsCome_41 : decode (mB 111) 41 = .ok (.iconst 0, 1) := by decide +kernel
theorem dX9_guestsCome_42 : decode (mB 111) 42 = .ok (.istore_n 2, 1) := by decide +kernel
theorem dX9_guestsCome_43 : decode (mB 111) 43 = .ok (.iload_n 2, 1) := by decide +kernel
theorem dX9_guestsCome_44 : decode (mB 111) 44 = .ok (.aload_n 0, 1) := by decide +kernel
theorem dX9_guestsCome_45 : decode (mB 111) 45 = .ok (.getfield 90, 3) := by decide +kernel
theorem dX9_guestsCome_48 : decode (mB 111) 48 = .ok (.if_icmp .ge 95, 3) := by decide +kernel
theorem dX9_guestsCome_51 : decode (mB 111) 51 = .ok (.aload_n 0, 1) := by decide +kernel
theorem dX9_guestsCome_52 : decode (mB 111) 52 = .ok (.getfield 20, 3) := by decide +kernel
theorem dX9_guestsCome_55 : decode (mB 111) 55 = .ok (.iload_n 2, 1) := by decide +kernel
theorem dX9_guestsCome_56 : decode (mB 111) 56 = .ok (.iaload, 1) := by decide +kernel
theorem dX9_guestsCome_57 : decode (mB 111) 57 = .ok (.aload_n 0, 1) := by decide +kernel
theorem dX9_guestsCome_58 : decode (mB 111) 58 = .ok (.getfield 38, 3) := by decide +kernel
theorem dX9_guestsCome_61 : decode (mB 111) 61 = .ok (.getfield 68, 3) := by decide +kernel
theorem dX9_guestsCome_64 : decode (mB 111) 64 = .ok (.if_icmp .ne 34, 3) := by decide +kernel
theorem dX9_guestsCome_67 : decode (mB 111) 67 = .ok (.iconst 0, 1) := by decide +kernel
theorem dX9_guestsCome_68 : decode (mB 111) 68 = .ok (.istore_n 3, 1) := by decide +kernel
theorem dX9_guestsCome_69 : decode (mB 111) 69 = .ok (.iload_n 3, 1) := by decide +kernel
theorem dX9_guestsCome_70 : decode (mB 111) 70 = .ok (.aload_n 0, 1) := by decide +kernel
theorem dX9_guestsCome_71 : decode (mB 111) 71 = .ok (.getfield 26, 3) := by decide +kernel
theorem dX9_guestsCome_74 : decode (mB 111) 74 = .ok (.iload_n 2, 1) := by decide +kernel
theorem dX9_guestsCome_75 : decode (mB 111) 75 = .ok (.iaload, 1) := by decide +kernel
theorem dX9_guestsCome_76 : decode (mB 111) 76 = .ok (.if_icmp .ge 19, 3) := by decide +kernel
theorem dX9_guestsCome_79 : decode (mB 111) 79 = .ok (.aload_n 0, 1) := by decide +kernel
theorem dX9_guestsCome_80 : decode (mB 111) 80 = .ok (.aload_n 0, 1) := by decide +kernel
theorem dX9_guestsCome_81 : decode (mB 111) 81 = .ok (.getfield 23, 3) := by decide +kernel
theorem dX9_guestsCome_84 : decode (mB 111) 84 = .ok (.iload_n 2, 1) := by decide +kernel
theorem dX9_guestsCome_85 : decode (mB 111) 85 = .ok (.iaload, 1) := by decide +kernel
theorem dX9_guestsCome_86 : decode (mB 111) 86 = .ok (.invokevirtual 249, 3) := by decide +kernel
theorem dX9_guestsCome_89 : decode (mB 111) 89 = .ok (.iinc 3 1, 3) := by decide +kernel
theorem dX9_guestsCome_92 : decode (mB 111) 92 = .ok (.goto (-23), 3) := by decide +kernel
theorem dX9_guestsCome_95 : decode (mB 111) 95 = .ok (.goto 42, 3) := by decide +kernel
theorem dX9_guestsCome_98 : decode (mB 111) 98 = .ok (.aload_n 0, 1) := by decide +kernel
theorem dX9_guestsCome_99 : decode (mB 111) 99 = .ok (.getfield 20, 3) := by decide +kernel
theorem dX9_guestsCome_102 : decode (mB 111) 102 = .ok (.iload_n 1, 1) := by decide +kernel
theorem dX9_guestsCome_103 : decode (mB 111) 103 = .ok (.aload_n 0, 1) := by decide +kernel
theorem dX9_guestsCome_104 : decode (mB 111) 104 = .ok (.getfield 20, 3) := by decide +kernel
theorem dX9_guestsCome_107 : decode (mB 111) 107 = .ok (.iload_n 2, 1) := by decide +kernel
theorem dX9_guestsCome_108 : decode (mB 111) 108 = .ok (.iaload, 1) := by decide +kernel
theorem dX9_guestsCome_109 : decode (mB 111) 109 = .ok (.iastore, 1) := by decide +kernel
theorem dX9_guestsCome_110 : decode (mB 111) 110 = .ok (.aload_n 0, 1) := by decide +kernel
theorem dX9_guestsCome_111 : decode (mB 111) 111 = .ok (.getfield 23, 3) := by decide +kernel
theorem dX9_guestsCome_114 : decode (mB 111) 114 = .ok (.iload_n 1, 1) := by decide +kernel
theorem dX9_guestsCome_115 : decode (mB 111) 115 = .ok (.aload_n 0, 1) := by decide +kernel
theorem dX9_guestsCome_116 : decode (mB 111) 116 = .ok (.getfield 23, 3) := by decide +kernel
theorem dX9_guestsCome_119 : decode (mB 111) 119 = .ok (.iload_n 2, 1) := by decide +kernel
theorem dX9_guestsCome_120 : decode (mB 111) 120 = .ok (.iaload, 1) := by decide +kernel
theorem dX9_guestsCome_121 : decode (mB 111) 121 = .ok (.iastore, 1) := by decide +kernel
theorem dX9_guestsCome_122 : decode (mB 111) 122 = .ok (.aload_n 0, 1) := by decide +kernel
theorem dX9_guestsCome_123 : decode (mB 111) 123 = .ok (.getfield 26, 3) := by decide +kernel
theorem dX9_guestsCome_126 : decode (mB 111) 126 = .ok (.iload_n 1, 1) := by decide +kernel
theorem dX9_guestsCome_127 : decode (mB 111) 127 = .ok (.aload_n 0, 1) := by decide +kernel
theorem dX9_guestsCome_128 : decode (mB 111) 128 = .ok (.getfield 26, 3) := by decide +kernel
theorem dX9_guestsCome_131 : decode (mB 111) 131 = .ok (.iload_n 2, 1) := by decide +kernel
theorem dX9_guestsCome_132 : decode (mB 111) 132 = .ok (.iaload, 1) := by decide +kernel
theorem dX9_guestsCome_133 : decode (mB 111) 133 = .ok (.iastore, 1) := by decide +kernel
theorem dX9_guestsCome_134 : decode (mB 111) 134 = .ok (.iinc 1 1, 3) := by decide +kernel
theorem dX9_guestsCome_137 : decode (mB 111) 137 = .ok (.iinc 2 1, 3) := by decide +kernel
theorem dX9_guestsCome_140 : decode (mB 111) 140 = .ok (.goto (-97), 3) := by decide +kernel
theorem dX9_guestsCome_143 : decode (mB 111) 143 = .ok (.aload_n 0, 1) := by decide +kernel
theorem dX9_guestsCome_144 : decode (mB 111) 144 = .ok (.iload_n 1, 1) := by decide +kernel
theorem dX9_guestsCome_145 : decode (mB 111) 145 = .ok (.putfield 90, 3) := by decide +kernel
theorem dX9_guestsCome_148 : decode (mB 111) 148 = .ok (.iconst 0, 1) := by decide +kernel
theorem dX9_guestsCome_149 : decode (mB 111) 149 = .ok (.istore_n 1, 1) := by decide +kernel
theorem dX9_guestsCome_150 : decode (mB 111) 150 = .ok (.aload_n 0, 1) := by decide +kernel
theorem dX9_guestsCome_151 : decode (mB 111) 151 = .ok (.getfield 93, 3) := by decide +kernel
theorem dX9_guestsCome_154 : decode (mB 111) 154 = .ok (.ifCond .le 51, 3) := by decide +kernel
theorem dX9_guestsCome_157 : decode (mB 111) 157 = .ok (.iload_n 1, 1) := by decide +kernel
theorem dX9_guestsCome_158 : decode (mB 111) 158 = .ok (.aload_n 0, 1) := by decide +kernel
theorem dX9_guestsCome_159 : decode (mB 111) 159 = .ok (.getfield 32, 3) := by decide +kernel
theorem dX9_guestsCome_162 : decode (mB 111) 162 = .ok (.aload_n 0, 1) := by decide +kernel
theorem dX9_guestsCome_163 : decode (mB 111) 163 = .ok (.getfield 38, 3) := by decide +kernel
theorem dX9_guestsCome_166 : decode (mB 111) 166 = .ok (.getfield 68, 3) := by decide +kernel
theorem dX9_guestsCome_169 : decode (mB 111) 169 = .ok (.aload_n 0, 1) := by decide +kernel
theorem dX9_guestsCome_170 : decode (mB 111) 170 = .ok (.getfield 93, 3) := by decide +kernel
theorem dX9_guestsCome_173 : decode (mB 111) 173 = .ok (.irem, 1) := by decide +kernel
theorem dX9_guestsCome_174 : decode (mB 111) 174 = .ok (.iaload, 1) := by decide +kernel
theorem dX9_guestsCome_175 : decode (mB 111) 175 = .ok (.if_icmp .ge 30, 3) := by decide +kernel
theorem dX9_guestsCome_178 : decode (mB 111) 178 = .ok (.aload_n 0, 1) := by decide +kernel
theorem dX9_guestsCome_179 : decode (mB 111) 179 = .ok (.aload_n 0, 1) := by decide +kernel
theorem dX9_guestsCome_180 : decode (mB 111) 180 = .ok (.getfield 29, 3) := by decide +kernel
theorem dX9_guestsCome_183 : decode (mB 111) 183 = .ok (.aload_n 0, 1) := by decide +kernel
theorem dX9_guestsCome_184 : decode (mB 111) 184 = .ok (.getfield 38, 3) := by decide +kernel
theorem dX9_guestsCome_187 : decode (mB 111) 187 = .ok (.getfield 68, 3) := by decide +kernel
theorem dX9_guestsCome_190 : decode (mB 111) 190 = .ok (.aload_n 0, 1) := by decide +kernel
theorem dX9_guestsCome_191 : decode (mB 111) 191 = .ok (.getfield 93, 3) := by decide +kernel
theorem dX9_guestsCome_194 : decode (mB 111) 194 = .ok (.irem, 1) := by decide +kernel
theorem dX9_guestsCome_195 : decode (mB 111) 195 = .ok (.iaload, 1) := by decide +kernel
theorem dX9_guestsCome_196 : decode (mB 111) 196 = .ok (.invokevirtual 249, 3) := by decide +kernel
theorem dX9_guestsCome_199 : decode (mB 111) 199 = .ok (.iinc 1 1, 3) := by decide +kernel
theorem dX9_guestsCome_202 : decode (mB 111) 202 = .ok (.goto (-52), 3) := by decide +kernel
theorem dX9_guestsCome_205 : decode (mB 111) 205 = .ok (.return_, 1) := by decide +kernel
theorem dX9_oneTick_0 : decode (mB 112) 0 = .ok (.aload_n 0, 1) := by decide +kernel
theorem dX9_oneTick_1 : decode (mB 112) 1 = .ok (.getfield 38, 3) := by decide +kernel
theorem dX9_oneTick_4 : decode (mB 112) 4 = .ok (.dup, 1) := by decide +kernel
theorem dX9_oneTick_5 : decode (mB 112) 5 = .ok (.getfield 68, 3) := by decide +kernel
theorem dX9_oneTick_8 : decode (mB 112) 8 = .ok (.iconst 1, 1) := by decide +kernel
theorem dX9_oneTick_9 : decode (mB 112) 9 = .ok (.iadd, 1) := by decide +kernel
theorem dX9_oneTick_10 : decode (mB 112) 10 = .ok (.putfield 68, 3) := by decide +kernel
theorem dX9_oneTick_13 : decode (mB 112) 13 = .ok (.aload_n 0, 1) := by decide +kernel
theorem dX9_oneTick_14 : decode (mB 112) 14 = .ok (.getfield 38, 3) := by decide +kernel
theorem dX9_oneTick_17 : decode (mB 112) 17 = .ok (.iconst 1, 1) := by decide +kernel
theorem dX9_oneTick_18 : decode (mB 112) 18 = .ok (.putfield 51, 3) := by decide +kernel
theorem dX9_oneTick_21 : decode (mB 112) 21 = .ok (.aload_n 0, 1) := by decide +kernel
theorem dX9_oneTick_22 : decode (mB 112) 22 = .ok (.invokevirtual 252, 3) := by decide +kernel
theorem dX9_oneTick_25 : decode (mB 112) 25 = .ok (.aload_n 0, 1) := by decide +kernel
theorem dX9_oneTick_26 : decode (mB 112) 26 = .ok (.invokevirtual 255, 3) := by decide +kernel
theorem dX9_oneTick_29 : decode (mB 112) 29 = .ok (.aload_n 0, 1) := by decide +kernel
theorem dX9_oneTick_30 : decode (mB 112) 30 = .ok (.invokevirtual 258, 3) := by decide +kernel
theorem dX9_oneTick_33 : decode (mB 112) 33 = .ok (.aload_n 0, 1) := by decide +kernel
theorem dX9_oneTick_34 : decode (mB 112) 34 = .ok (.invokevirtual 261, 3) := by decide +kernel
theorem dX9_oneTick_37 : decode (mB 112) 37 = .ok (.aload_n 0, 1) := by decide +kernel
theorem dX9_oneTick_38 : decode (mB 112) 38 = .ok (.invokevirtual 264, 3) := by decide +kernel
theorem dX9_oneTick_41 : decode (mB 112) 41 = .ok (.aload_n 0, 1) := by decide +kernel
theorem dX9_oneTick_42 : decode (mB 112) 42 = .ok (.invokevirtual 267, 3) := by decide +kernel
theorem dX9_oneTick_45 : decode (mB 112) 45 = .ok (.return_, 1) := by decide +kernel
theorem dX9_ticks_0 : decode (mB 113) 0 = .ok (.iload_n 1, 1) := by decide +kernel
theorem dX9_ticks_1 : decode (mB 113) 1 = .ok (.iconst 1, 1) := by decide +kernel
theorem dX9_ticks_2 : decode (mB 113) 2 = .ok (.sipush 500, 3) := by decide +kernel
theorem dX9_ticks_5 : decode (mB 113) 5 = .ok (.invokestatic 64, 3) := by decide +kernel
theorem dX9_ticks_8 : decode (mB 113) 8 = .ok (.ifCond .eq 17, 3) := by decide +kernel
theorem dX9_ticks_11 : decode (mB 113) 11 = .ok (.aload_n 0, 1) := by decide +kernel
theorem dX9_ticks_12 : decode (mB 113) 12 = .ok (.getfield 38, 3) := by decide +kernel
theorem dX9_ticks_15 : decode (mB 113) 15 = .ok (.getfield 68, 3) := by decide +kernel
theorem dX9_ticks_18 : decode (mB 113) 18 = .ok (.iload_n 1, 1) := by decide +kernel
theorem dX9_ticks_19 : decode (mB 113) 19 = .ok (.iadd, 1) := by decide +kernel
theorem dX9_ticks_20 : decode (mB 113) 20 = .ok (.ldc 86, 2) := by decide +kernel
theorem dX9_ticks_22 : decode (mB 113) 22 = .ok (.if_icmp .le 5, 3) := by decide +kernel
theorem dX9_ticks_25 : decode (mB 113) 25 = .ok (.iconst (-1), 1) := by decide +kernel
theorem dX9_ticks_26 : decode (mB 113) 26 = .ok (.ireturn, 1) := by decide +kernel
theorem dX9_ticks_27 : decode (mB 113) 27 = .ok (.aload_n 0, 1) := by decide +kernel
theorem dX9_ticks_28 : decode (mB 113) 28 = .ok (.getfield 61, 3) := by decide +kernel
theorem dX9_ticks_31 : decode (mB 113) 31 = .ok (.ifCond .ne 6, 3) := by decide +kernel
theorem dX9_ticks_34 : decode (mB 113) 34 = .ok (.bipush (-3), 2) := by decide +kernel
theorem dX9_ticks_36 : decode (mB 113) 36 = .ok (.ireturn, 1) := by decide +kernel
theorem dX9_ticks_37 : decode (mB 113) 37 = .ok (.iconst 0, 1) := by decide +kernel
theorem dX9_ticks_38 : decode (mB 113) 38 = .ok (.istore_n 2, 1) := by decide +kernel
theorem dX9_ticks_39 : decode (mB 113) 39 = .ok (.iload_n 2, 1) := by decide +kernel
theorem dX9_ticks_40 : decode (mB 113) 40 = .ok (.iload_n 1, 1) := by decide +kernel
theorem dX9_ticks_41 : decode (mB 113) 41 = .ok (.if_icmp .ge 13, 3) := by decide +kernel
theorem dX9_ticks_44 : decode (mB 113) 44 = .ok (.aload_n 0, 1) := by decide +kernel
theorem dX9_ticks_45 : decode (mB 113) 45 = .ok (.invokevirtual 270, 3) := by decide +kernel
theorem dX9_ticks_48 : decode (mB 113) 48 = .ok (.iinc 2 1, 3) := by decide +kernel
theorem dX9_ticks_51 : decode (mB 113) 51 = .ok (.goto (-12), 3) := by decide +kernel
theorem dX9_ticks_54 : decode (mB 113) 54 = .ok (.aload_n 0, 1) := by decide +kernel
theorem dX9_ticks_55 : decode (mB 113) 55 = .ok (.getfield 38, 3) := by decide +kernel
theorem dX9_ticks_58 : decode (mB 113) 58 = .ok (.getfield 68, 3) := by decide +kernel
theorem dX9_ticks_61 : decode (mB 113) 61 = .ok (.ireturn, 1) := by decide +kernel
theorem dX9_about_0 : decode (mB 114) 0 = .ok (.aload_n 0, 1) := by decide +kernel
theorem dX9_about_1 : decode (mB 114) 1 = .ok (.iload_n 1, 1) := by decide +kernel
theorem dX9_about_2 : decode (mB 114) 2 = .ok (.invokevirtual 71, 3) := by decide +kernel
theorem dX9_about_5 : decode (mB 114) 5 = .ok (.ifCond .eq 13, 3) := by decide +kernel
theorem dX9_about_8 : decode (mB 114) 8 = .ok (.iload_n 2, 1) := by decide +kernel
theorem dX9_about_9 : decode (mB 114) 9 = .ok (.iconst 0, 1) := by decide +kernel
theorem dX9_about_10 : decode (mB 114) 10 = .ok (.bipush 12, 2) := by decide +kernel
theorem dX9_about_12 : decode (mB 114) 12 = .ok (.invokestatic 64, 3) := by decide +kernel
theorem dX9_about_15 : decode (mB 114) 15 = .ok (.ifCond .ne 5, 3) := by decide +kernel
theorem dX9_about_18 : decode (mB 114) 18 = .ok (.iconst (-1), 1) := by decide +kernel
theorem dX9_about_19 : decode (mB 114) 19 = .ok (.ireturn, 1) := by decide +kernel
theorem dX9_about_20 : decode (mB 114) 20 = .ok (.iload_n 2, 1) := by decide +kernel
theorem dX9_about_21 : decode (mB 114) 21 = .ok (.iconst 4, 1) := by decide +kernel
theorem dX9_about_22 : decode (mB 114) 22 = .ok (.if_icmp .ge 64, 3) := by decide +kernel
theorem dX9_about_25 : decode (mB 114) 25 = .ok (.iconst 0, 1) := by decide +kernel
theorem dX9_about_26 : decode (mB 114) 26 = .ok (.istore_n 3, 1) := by decide +kernel
theorem dX9_about_27 : decode (mB 114) 27 = .ok (.iconst 0, 1) := by decide +kernel
theorem dX9_about_28 : decode (mB 114) 28 = .ok (.istore 4, 2) := by decide +kernel
theorem dX9_about_30 : decode (mB 114) 30 = .ok (.iload 4, 2) := by decide +kernel
theorem dX9_about_32 : decode (mB 114) 32 = .ok (.aload_n 0, 1) := by decide +kernel
theorem dX9_about_33 : decode (mB 114) 33 = .ok (.getfield 38, 3) := by decide +kernel
theorem dX9_about_36 : decode (mB 114) 36 = .ok (.getfield 96, 3) := by decide +kernel
theorem dX9_about_39 : decode (mB 114) 39 = .ok (.if_icmp .ge 45, 3) := by decide +kernel
theorem dX9_about_42 : decode (mB 114) 42 = .ok (.iload_n 3, 1) := by decide +kernel
theorem dX9_about_43 : decode (mB 114) 43 = .ok (.aload_n 0, 1) := by decide +kernel
theorem dX9_about_44 : decode (mB 114) 44 = .ok (.getfield 38, 3) := by decide +kernel
theorem dX9_about_47 : decode (mB 114) 47 = .ok (.getfield 111, 3) := by decide +kernel
theorem dX9_about_50 : decode (mB 114) 50 = .ok (.iload 4, 2) := by decide +kernel
theorem dX9_about_52 : decode (mB 114) 52 = .ok (.iaload, 1) := by decide +kernel
theorem dX9_about_53 : decode (mB 114) 53 = .ok (.iload_n 1, 1) := by decide +kernel
theorem dX9_about_54 : decode (mB 114) 54 = .ok (.if_icmp .ne 21, 3) := by decide +kernel
theorem dX9_about_57 : decode (mB 114) 57 = .ok (.aload_n 0, 1) := by decide +kernel
theorem dX9_about_58 : decode (mB 114) 58 = .ok (.getfield 38, 3) := by decide +kernel
theorem dX9_about_61 : decode (mB 114) 61 = .ok (.getfield 114, 3) := by decide +kernel
theorem dX9_about_64 : decode (mB 114) 64 = .ok (.iload 4, 2) := by decide +kernel
theorem dX9_about_66 : decode (mB 114) 66 = .ok (.iaload, 1) := by decide +kernel
theorem dX9_about_67 : decode (mB 114) 67 = .ok (.iload_n 2, 1) := by decide +kernel
theorem dX9_about_68 : decode (mB 114) 68 = .ok (.if_icmp .ne 7, 3) := by decide +kernel
theorem dX9_about_71 : decode (mB 114) 71 = .ok (.iconst 1, 1) := by decide +kernel
theorem dX9_about_72 : decode (mB 114) 72 = .ok (.goto 4, 3) := by decide +kernel
theorem dX9_about_75 : decode (mB 114) 75 = .ok (.iconst 0, 1) := by decide +kernel
theorem dX9_about_76 : decode (mB 114) 76 = .ok (.iadd, 1) := by decide +kernel
theorem dX9_about_77 : decode (mB 114) 77 = .ok (.istore_n 3, 1) := by decide +kernel
theorem dX9_about_78 : decode (mB 114) 78 = .ok (.iinc 4 1, 3) := by decide +kernel
theorem dX9_about_81 : decode (mB 114) 81 = .ok (.goto (-51), 3) := by decide +kernel
theorem dX9_about_84 : decode (mB 114) 84 = .ok (.iload_n 3, 1) := by decide +kernel
theorem dX9_about_85 : decode (mB 114) 85 = .ok (.ireturn, 1) := by decide +kernel
theorem dX9_about_86 : decode (mB 114) 86 = .ok (.iload_n 2, 1) := by decide +kernel
theorem dX9_about_87 : decode (mB 114) 87 = .ok (.iconst 4, 1) := by decide +kernel
theorem dX9_about_88 : decode (mB 114) 88 = .ok (.if_icmp .ne 27, 3) := by decide +kernel
theorem dX9_about_91 : decode (mB 114) 91 = .ok (.aload_n 0, 1) := by decide +kernel
theorem dX9_about_92 : decode (mB 114) 92 = .ok (.iload_n 1, 1) := by decide +kernel
theorem dX9_about_93 : decode (mB 114) 93 = .ok (.invokevirtual 209, 3) := by decide +kernel
theorem dX9_about_96 : decode (mB 114) 96 = .ok (.ifCond .eq 15, 3) := by decide +kernel
theorem dX9_about_99 : decode (mB 114) 99 = .ok (.aload_n 0, 1) := by decide +kernel
theorem dX9_about_100 : decode (mB 114) 100 = .ok (.getfield 38, 3) := by decide +kernel
theorem dX9_about_103 : decode (mB 114) 103 = .ok (.getfield 58, 3) := by decide +kernel
theorem dX9_about_106 : decode (mB 114) 106 = .ok (.iload_n 1, 1) := by decide +kernel
theorem dX9_about_107 : decode (mB 114) 107 = .ok (.iaload, 1) := by decide +kernel
theorem dX9_about_108 : decode (mB 114) 108 = .ok (.goto 38, 3) := by decide +kernel
theorem dX9_about_111 : decode (mB 114) 111 = .ok (.iconst (-1), 1) := by decide +kernel
theorem dX9_about_112 : decode (mB 114) 112 = .ok (.goto 34, 3) := by decide +kernel
theorem dX9_about_115 : decode (mB 114) 115 = .ok (.iload_n 2, 1) := by decide +kernel
theorem dX9_about_116 : decode (mB 114) 116 = .ok (.iconst 5, 1) := by decide +kernel
theorem dX9_about_117 : decode (mB 114) 117 = .ok (.if_icmp .ne 15, 3) := by decide +kernel
theorem dX9_about_120 : decode (mB 114) 120 = .ok (.aload_n 0, 1) := by decide +kernel
theorem dX9_about_121 : decode (mB 114) 121 = .ok (.getfield 38, 3) := by decide +kernel
theorem dX9_about_124 : decode (mB 114) 124 = .ok (.getfield 200, 3) := by decide +kernel
theorem dX9_about_127 : decode (mB 114) 127 = .ok (.iload_n 1, 1) := by decide +kernel
theorem dX9_about_128 : decode (mB 114) 128 = .ok (.iaload, 1) := by decide +kernel
theorem dX9_about_129 : decode (mB 114) 129 = .ok (.goto 17, 3) := by decide +kernel
theorem dX9_about_132 : decode (mB 114) 132 = .ok (.aload_n 0, 1) := by decide +kernel
theorem dX9_about_133 : decode (mB 114) 133 = .ok (.getfield 38, 3) := by decide +kernel
theorem dX9_about_136 : decode (mB 114) 136 = .ok (.getfield 108, 3) := by decide +kernel
theorem dX9_about_139 : decode (mB 114) 139 = .ok (.bipush 13, 2) := by decide +kernel
theorem dX9_about_141 : decode (mB 114) 141 = .ok (.iload_n 1, 1) := by decide +kernel
theorem dX9_about_142 : decode (mB 114) 142 = .ok (.imul, 1) := by decide +kernel
theorem dX9_about_143 : decode (mB 114) 143 = .ok (.iload_n 2, 1) := by decide +kernel
theorem dX9_about_144 : decode (mB 114) 144 = .ok (.iadd, 1) := by decide +kernel
theorem dX9_about_145 : decode (mB 114) 145 = .ok (.iaload, 1) := by decide +kernel
theorem dX9_about_146 : decode (mB 114) 146 = .ok (.ireturn, 1) := by decide +kernel
theorem dX9_ruleOf_0 : decode (mB 115) 0 = .ok (.aload_n 0, 1) := by decide +kernel
theorem dX9_ruleOf_1 : decode (mB 115) 1 = .ok (.iload_n 1, 1) := by decide +kernel
theorem dX9_ruleOf_2 : decode (mB 115) 2 = .ok (.invokevirtual 71, 3) := by decide +kernel
theorem dX9_ruleOf_5 : decode (mB 115) 5 = .ok (.ifCond .eq 13, 3) := by decide +kernel
theorem dX9_ruleOf_8 : decode (mB 115) 8 = .ok (.iload_n 2, 1) := by decide +kernel
theorem dX9_ruleOf_9 : decode (mB 115) 9 = .ok (.iconst 0, 1) := by decide +kernel
theorem dX9_ruleOf_10 : decode (mB 115) 10 = .ok (.bipush 9, 2) := by decide +kernel
theorem dX9_ruleOf_12 : decode (mB 115) 12 = .ok (.invokestatic 64, 3) := by decide +kernel
theorem dX9_ruleOf_15 : decode (mB 115) 15 = .ok (.ifCond .ne 5, 3) := by decide +kernel
theorem dX9_ruleOf_18 : decode (mB 115) 18 = .ok (.iconst (-1), 1) := by decide +kernel
theorem dX9_ruleOf_19 : decode (mB 115) 19 = .ok (.ireturn, 1) := by decide +kernel
theorem dX9_ruleOf_20 : decode (mB 115) 20 = .ok (.iload_n 2, 1) := by decide +kernel
theorem dX9_ruleOf_21 : decode (mB 115) 21 = .ok (.bipush 9, 2) := by decide +kernel
theorem dX9_ruleOf_23 : decode (mB 115) 23 = .ok (.if_icmp .ne 12, 3) := by decide +kernel
theorem dX9_ruleOf_26 : decode (mB 115) 26 = .ok (.aload_n 0, 1) := by decide +kernel
theorem dX9_ruleOf_27 : decode (mB 115) 27 = .ok (.getfield 13, 3) := by decide +kernel
theorem dX9_ruleOf_30 : decode (mB 115) 30 = .ok (.iload_n 1, 1) := by decide +kernel
theorem dX9_ruleOf_31 : decode (mB 115) 31 = .ok (.iaload, 1) := by decide +kernel
theorem dX9_ruleOf_32 : decode (mB 115) 32 = .ok (.goto 9, 3) := by decide +kernel
theorem dX9_ruleOf_35 : decode (mB 115) 35 = .ok (.aload_n 0, 1) := by decide +kernel
theorem dX9_ruleOf_36 : decode (mB 115) 36 = .ok (.iload_n 1, 1) := by decide +kernel
theorem dX9_ruleOf_37 : decode (mB 115) 37 = .ok (.iload_n 2, 1) := by decide +kernel
theorem dX9_ruleOf_38 : decode (mB 115) 38 = .ok (.invokevirtual 79, 3) := by decide +kernel
theorem dX9_ruleOf_41 : decode (mB 115) 41 = .ok (.ireturn, 1) := by decide +kernel
theorem dX9_kept_0 : decode (mB 116) 0 = .ok (.aload_n 0, 1) := by decide +kernel
theorem dX9_kept_1 : decode (mB 116) 1 = .ok (.iload_n 1, 1) := by decide +kernel
theorem dX9_kept_2 : decode (mB 116) 2 = .ok (.invokevirtual 71, 3) := by decide +kernel
theorem dX9_kept_5 : decode (mB 116) 5 = .ok (.ifCond .eq 10, 3) := by decide +kernel
theorem dX9_kept_8 : decode (mB 116) 8 = .ok (.iload_n 2, 1) := by decide +kernel
theorem dX9_kept_9 : decode (mB 116) 9 = .ok (.invokestatic 87, 3) := by decide +kernel
theorem dX9_kept_12 : decode (mB 116) 12 = .ok (.ifCond .ne 5, 3) := by decide +kernel
theorem dX9_kept_15 : decode (mB 116) 15 = .ok (.iconst (-1), 1) := by decide +kernel
theorem dX9_kept_16 : decode (mB 116) 16 = .ok (.ireturn, 1) := by decide +kernel
theorem dX9_kept_17 : decode (mB 116) 17 = .ok (.aload_n 0, 1) := by decide +kernel
theorem dX9_kept_18 : decode (mB 116) 18 = .ok (.getfield 38, 3) := by decide +kernel
theorem dX9_kept_21 : decode (mB 116) 21 = .ok (.getfield 55, 3) := by decide +kernel
theorem dX9_kept_24 : decode (mB 116) 24 = .ok (.bipush 8, 2) := by decide +kernel
theorem dX9_kept_26 : decode (mB 116) 26 = .ok (.iload_n 1, 1) := by decide +kernel
theorem dX9_kept_27 : decode (mB 116) 27 = .ok (.imul, 1) := by decide +kernel
theorem dX9_kept_28 : decode (mB 116) 28 = .ok (.iload_n 2, 1) := by decide +kernel
theorem dX9_kept_29 : decode (mB 116) 29 = .ok (.iadd, 1) := by decide +kernel
theorem dX9_kept_30 : decode (mB 116) 30 = .ok (.iaload, 1) := by decide +kernel
theorem dX9_kept_31 : decode (mB 116) 31 = .ok (.istore_n 3, 1) := by decide +kernel
theorem dX9_kept_32 : decode (mB 116) 32 = .ok (.iload_n 3, 1) := by decide +kernel
theorem dX9_kept_33 : decode (mB 116) 33 = .ok (.aload_n 0, 1) := by decide +kernel
theorem dX9_kept_34 : decode (mB 116) 34 = .ok (.getfield 38, 3) := by decide +kernel
theorem dX9_kept_37 : decode (mB 116) 37 = .ok (.getfield 68, 3) := by decide +kernel
theorem dX9_kept_40 : decode (mB 116) 40 = .ok (.if_icmp .lt 7, 3) := by decide +kernel
theorem dX9_kept_43 : decode (mB 116) 43 = .ok (.iload_n 3, 1) := by decide +kernel
theorem dX9_kept_44 : decode (mB 116) 44 = .ok (.goto 5, 3) := by decide +kernel
theorem dX9_kept_47 : decode (mB 116) 47 = .ok (.bipush (-4), 2) := by decide +kernel
theorem dX9_kept_49 : decode (mB 116) 49 = .ok (.ireturn, 1) := by decide +kernel
theorem dX9_callerOf_0 : decode (mB 117) 0 = .ok (.aload_n 0, 1) := by decide +kernel
theorem dX9_callerOf_1 : decode (mB 117) 1 = .ok (.getfield 38, 3) := by decide +kernel
theorem dX9_callerOf_4 : decode (mB 117) 4 = .ok (.getfield 99, 3) := by decide +kernel
theorem dX9_callerOf_7 : decode (mB 117) 7 = .ok (.iload_n 1, 1) := by decide +kernel
theorem dX9_callerOf_8 : decode (mB 117) 8 = .ok (.iaload, 1) := by decide +kernel
theorem dX9_callerOf_9 : decode (mB 117) 9 = .ok (.istore_n 2, 1) := by decide +kernel
theorem dX9_callerOf_10 : decode (mB 117) 10 = .ok (.aload_n 0, 1) := by decide +kernel
theorem dX9_callerOf_11 : decode (mB 117) 11 = .ok (.getfield 38, 3) := by decide +kernel
theorem dX9_callerOf_14 : decode (mB 117) 14 = .ok (.getfield 124, 3) := by decide +kernel
theorem dX9_callerOf_17 : decode (mB 117) 17 = .ok (.iload_n 1, 1) := by decide +kernel
theorem dX9_callerOf_18 : decode (mB 117) 18 = .ok (.iaload, 1) := by decide +kernel
theorem dX9_callerOf_19 : decode (mB 117) 19 = .ok (.ifCond .ge 19, 3) := by decide +kernel
theorem dX9_callerOf_22 : decode (mB 117) 22 = .ok (.aload_n 0, 1) := by decide +kernel
theorem dX9_callerOf_23 : decode (mB 117) 23 = .ok (.iload_n 2, 1) := by decide +kernel
theorem dX9_callerOf_24 : decode (mB 117) 24 = .ok (.invokevirtual 173, 3) := by decide +kernel
theorem dX9_callerOf_27 : decode (mB 117) 27 = .ok (.ifCond .lt 8, 3) := by decide +kernel
theorem dX9_callerOf_30 : decode (mB 117) 30 = .ok (.bipush (-4), 2) := by decide +kernel
theorem dX9_callerOf_32 : decode (mB 117) 32 = .ok (.goto 5, 3) := by decide +kernel
theorem dX9_callerOf_35 : decode (mB 117) 35 = .ok (.bipush (-3), 2) := by decide +kernel
theorem dX9_callerOf_37 : decode (mB 117) 37 = .ok (.ireturn, 1) := by decide +kernel
theorem dX9_callerOf_38 : decode (mB 117) 38 = .ok (.aload_n 0, 1) := by decide +kernel
theorem dX9_callerOf_39 : decode (mB 117) 39 = .ok (.aload_n 0, 1) := by decide +kernel
theorem dX9_callerOf_40 : decode (mB 117) 40 = .ok (.getfield 38, 3) := by decide +kernel
theorem dX9_callerOf_43 : decode (mB 117) 43 = .ok (.getfield 124, 3) := by decide +kernel
theorem dX9_callerOf_46 : decode (mB 117) 46 = .ok (.iload_n 1, 1) := by decide +kernel
theorem dX9_callerOf_47 : decode (mB 117) 47 = .ok (.iaload, 1) := by decide +kernel
theorem dX9_callerOf_48 : decode (mB 117) 48 = .ok (.invokevirtual 117, 3) := by decide +kernel
theorem dX9_callerOf_51 : decode (mB 117) 51 = .ok (.istore_n 3, 1) := by decide +kernel
theorem dX9_callerOf_52 : decode (mB 117) 52 = .ok (.iload_n 3, 1) := by decide +kernel
theorem dX9_callerOf_53 : decode (mB 117) 53 = .ok (.ifCond .lt 41, 3) := by decide +kernel
theorem dX9_callerOf_56 : decode (mB 117) 56 = .ok (.aload_n 0, 1) := by decide +kernel
theorem dX9_callerOf_57 : decode (mB 117) 57 = .ok (.getfield 38, 3) := by decide +kernel
theorem dX9_callerOf_60 : decode (mB 117) 60 = .ok (.getfield 114, 3) := by decide +kernel
theorem dX9_callerOf_63 : decode (mB 117) 63 = .ok (.iload_n 3, 1) := by decide +kernel
theorem dX9_callerOf_64 : decode (mB 117) 64 = .ok (.iaload, 1) := by decide +kernel
theorem dX9_callerOf_65 : decode (mB 117) 65 = .ok (.iconst 2, 1) := by decide +kernel
theorem dX9_callerOf_66 : decode (mB 117) 66 = .ok (.if_icmp .ne 28, 3) := by decide +kernel
theorem dX9_callerOf_69 : decode (mB 117) 69 = .ok (.aload_n 0, 1) := by decide +kernel
theorem dX9_callerOf_70 : decode (mB 117) 70 = .ok (.getfield 38, 3) := by decide +kernel
theorem dX9_callerOf_73 : decode (mB 117) 73 = .ok (.getfield 133, 3) := by decide +kernel
theorem dX9_callerOf_76 : decode (mB 117) 76 = .ok (.iload_n 3, 1) := by decide +kernel
theorem dX9_callerOf_77 : decode (mB 117) 77 = .ok (.iaload, 1) := by decide +kernel
theorem dX9_callerOf_78 : decode (mB 117) 78 = .ok (.iload_n 2, 1) := by decide +kernel
theorem dX9_callerOf_79 : decode (mB 117) 79 = .ok (.if_icmp .ne 15, 3) := by decide +kernel
theorem dX9_callerOf_82 : decode (mB 117) 82 = .ok (.aload_n 0, 1) := by decide +kernel
theorem dX9_callerOf_83 : decode (mB 117) 83 = .ok (.getfield 38, 3) := by decide +kernel
theorem dX9_callerOf_86 : decode (mB 117) 86 = .ok (.getfield 124, 3) := by decide +kernel
theorem dX9_callerOf_89 : decode (mB 117) 89 = .ok (.iload_n 1, 1) := by decide +kernel
theorem dX9_callerOf_90 : decode (mB 117) 90 = .ok (.iaload, 1) := by decide +kernel
theorem dX9_callerOf_91 : decode (mB 117) 91 = .ok (.goto 5, 3) := by decide +kernel
theorem dX9_callerOf_94 : decode (mB 117) 94 = .ok (.bipush (-3), 2) := by decide +kernel
theorem dX9_callerOf_96 : decode (mB 117) 96 = .ok (.ireturn, 1) := by decide +kernel
theorem dX9_job_0 : decode (mB 118) 0 = .ok (.iload_n 1, 1) := by decide +kernel
theorem dX9_job_1 : decode (mB 118) 1 = .ok (.ifCond .lt 14, 3) := by decide +kernel
theorem dX9_job_4 : decode (mB 118) 4 = .ok (.iload_n 1, 1) := by decide +kernel
theorem dX9_job_5 : decode (mB 118) 5 = .ok (.aload_n 0, 1) := by decide +kernel
theorem dX9_job_6 : decode (mB 118) 6 = .ok (.getfield 38, 3) := by decide +kernel
theorem dX9_job_9 : decode (mB 118) 9 = .ok (.getfield 96, 3) := by decide +kernel
theorem dX9_job_12 : decode (mB 118) 12 = .ok (.if_icmp .lt 5, 3) := by decide +kernel
theorem dX9_job_15 : decode (mB 118) 15 = .ok (.iconst (-1), 1) := by decide +kernel
theorem dX9_job_16 : decode (mB 118) 16 = .ok (.ireturn, 1) := by decide +kernel
theorem dX9_job_17 : decode (mB 118) 17 = .ok (.iload_n 2, 1) := by decide +kernel
theorem dX9_job_18 : decode (mB 118) 18 = .ok (.tableswitch 125 0 6 #[42, 52, 62, 72, 82, 88, 115], 42) := by decide +kernel
theorem dX9_job_60 : decode (mB 118) 60 = .ok (.aload_n 0, 1) := by decide +kernel
theorem dX9_job_61 : decode (mB 118) 61 = .ok (.getfield 38, 3) := by decide +kernel
theorem dX9_job_64 : decode (mB 118) 64 = .ok (.getfield 99, 3) := by decide +kernel
theorem dX9_job_67 : decode (mB 118) 67 = .ok (.iload_n 1, 1) := by decide +kernel
theorem dX9_job_68 : decode (mB 118) 68 = .ok (.iaload, 1) := by decide +kernel
theorem dX9_job_69 : decode (mB 118) 69 = .ok (.ireturn, 1) := by decide +kernel
theorem dX9_job_70 : decode (mB 118) 70 = .ok (.aload_n 0, 1) := by decide +kernel
theorem dX9_job_71 : decode (mB 118) 71 = .ok (.getfield 38, 3) := by decide +kernel
theorem dX9_job_74 : decode (mB 118) 74 = .ok (.getfield 111, 3) := by decide +kernel
theorem dX9_job_77 : decode (mB 118) 77 = .ok (.iload_n 1, 1) := by decide +kernel
theorem dX9_job_78 : decode (mB 118) 78 = .ok (.iaload, 1) := by decide +kernel
theorem dX9_job_79 : decode (mB 118) 79 = .ok (.ireturn, 1) := by decide +kernel
theorem dX9_job_80 : decode (mB 118) 80 = .ok (.aload_n 0, 1) := by decide +kernel
theorem dX9_job_81 : decode (mB 118) 81 = .ok (.getfield 38, 3) := by decide +kernel
theorem dX9_job_84 : decode (mB 118) 84 = .ok (.getfield 121, 3) := by decide +kernel
theorem dX9_job_87 : decode (mB 118) 87 = .ok (.iload_n 1, 1) := by decide +kernel
theorem dX9_job_88 : decode (mB 118) 88 = .ok (.iaload, 1) := by decide +kernel
theorem dX9_job_89 : decode (mB 118) 89 = .ok (.ireturn, 1) := by decide +kernel
theorem dX9_job_90 : decode (mB 118) 90 = .ok (.aload_n 0, 1) := by decide +kernel
theorem dX9_job_91 : decode (mB 118) 91 = .ok (.getfield 38, 3) := by decide +kernel
theorem dX9_job_94 : decode (mB 118) 94 = .ok (.getfield 114, 3) := by decide +kernel
theorem dX9_job_97 : decode (mB 118) 97 = .ok (.iload_n 1, 1) := by decide +kernel
theorem dX9_job_98 : decode (mB 118) 98 = .ok (.iaload, 1) := by decide +kernel
theorem dX9_job_99 : decode (mB 118) 99 = .ok (.ireturn, 1) := by decide +kernel
theorem dX9_job_100 : decode (mB 118) 100 = .ok (.aload_n 0, 1) := by decide +kernel
theorem dX9_job_101 : decode (mB 118) 101 = .ok (.iload_n 1, 1) := by decide +kernel
theorem dX9_job_102 : decode (mB 118) 102 = .ok (.invokevirtual 273, 3) := by decide +kernel
theorem dX9_job_105 : decode (mB 118) 105 = .ok (.ireturn, 1) := by decide +kernel
theorem dX9_job_106 : decode (mB 118) 106 = .ok (.aload_n 0, 1) := by decide +kernel
theorem dX9_job_107 : decode (mB 118) 107 = .ok (.getfield 38, 3) := by decide +kernel
theorem dX9_job_110 : decode (mB 118) 110 = .ok (.getfield 114, 3) := by decide +kernel
theorem dX9_job_113 : decode (mB 118) 113 = .ok (.iload_n 1, 1) := by decide +kernel
theorem dX9_job_114 : decode (mB 118) 114 = .ok (.iaload, 1) := by decide +kernel
theorem dX9_job_115 : decode (mB 118) 115 = .ok (.ifCond .ne 8, 3) := by decide +kernel
theorem dX9_job_118 : decode (mB 118) 118 = .ok (.bipush (-4), 2) := by decide +kernel
theorem dX9_job_120 : decode (mB 118) 120 = .ok (.goto 12, 3) := by decide +kernel
theorem dX9_job_123 : decode (mB 118) 123 = .ok (.aload_n 0, 1) := by decide +kernel
theorem dX9_job_124 : decode (mB 118) 124 = .ok (.getfield 38, 3) := by decide +kernel
theorem dX9_job_127 : decode (mB 118) 127 = .ok (.getfield 127, 3) := by decide +kernel
theorem dX9_job_130 : decode (mB 118) 130 = .ok (.iload_n 1, 1) := by decide +kernel
theorem dX9_job_131 : decode (mB 118) 131 = .ok (.iaload, 1) := by decide +kernel
theorem dX9_job_132 : decode (mB 118) 132 = .ok (.ireturn, 1) := by decide +kernel
theorem dX9_job_133 : decode (mB 118) 133 = .ok (.aload_n 0, 1) := by decide +kernel
theorem dX9_job_134 : decode (mB 118) 134 = .ok (.getfield 38, 3) := by decide +kernel
theorem dX9_job_137 : decode (mB 118) 137 = .ok (.getfield 130, 3) := by decide +kernel
theorem dX9_job_140 : decode (mB 118) 140 = .ok (.iload_n 1, 1) := by decide +kernel
theorem dX9_job_141 : decode (mB 118) 141 = .ok (.iaload, 1) := by decide +kernel
theorem dX9_job_142 : decode (mB 118) 142 = .ok (.ireturn, 1) := by decide +kernel
theorem dX9_job_143 : decode (mB 118) 143 = .ok (.iconst (-1), 1) := by decide +kernel
theorem dX9_job_144 : decode (mB 118) 144 = .ok (.ireturn, 1) := by decide +kernel
theorem dX9_row_0 : decode (mB 119) 0 = .ok (.aload_n 0, 1) := by decide +kernel
theorem dX9_row_1 : decode (mB 119) 1 = .ok (.iload_n 1, 1) := by decide +kernel
theorem dX9_row_2 : decode (mB 119) 2 = .ok (.invokevirtual 71, 3) := by decide +kernel
theorem dX9_row_5 : decode (mB 119) 5 = .ok (.ifCond .eq 37, 3) := by decide +kernel
theorem dX9_row_8 : decode (mB 119) 8 = .ok (.iload_n 2, 1) := by decide +kernel
theorem dX9_row_9 : decode (mB 119) 9 = .ok (.ifCond .lt 33, 3) := by decide +kernel
theorem dX9_row_12 : decode (mB 119) 12 = .ok (.iload_n 2, 1) := by decide +kernel
theorem dX9_row_13 : decode (mB 119) 13 = .ok (.aload_n 0, 1) := by decide +kernel
theorem dX9_row_14 : decode (mB 119) 14 = .ok (.getfield 38, 3) := by decide +kernel
theorem dX9_row_17 : decode (mB 119) 17 = .ok (.getfield 140, 3) := by decide +kernel
theorem dX9_row_20 : decode (mB 119) 20 = .ok (.iload_n 1, 1) := by decide +kernel
theorem dX9_row_21 : decode (mB 119) 21 = .ok (.iaload, 1) := by decide +kernel
theorem dX9_row_22 : decode (mB 119) 22 = .ok (.if_icmp .ge 20, 3) := by decide +kernel
theorem dX9_row_25 : decode (mB 119) 25 = .ok (.aload_n 0, 1) := by decide +kernel
theorem dX9_row_26 : decode (mB 119) 26 = .ok (.getfield 38, 3) := by decide +kernel
theorem dX9_row_29 : decode (mB 119) 29 = .ok (.getfield 143, 3) := by decide +kernel
theorem dX9_row_32 : decode (mB 119) 32 = .ok (.bipush 20, 2) := by decide +kernel
theorem dX9_row_34 : decode (mB 119) 34 = .ok (.iload_n 1, 1) := by decide +kernel
theorem dX9_row_35 : decode (mB 119) 35 = .ok (.imul, 1) := by decide +kernel
theorem dX9_row_36 : decode (mB 119) 36 = .ok (.iload_n 2, 1) := by decide +kernel
theorem dX9_row_37 : decode (mB 119) 37 = .ok (.iadd, 1) := by decide +kernel
theorem dX9_row_38 : decode (mB 119) 38 = .ok (.iaload, 1) := by decide +kernel
theorem dX9_row_39 : decode (mB 119) 39 = .ok (.goto 4, 3) := by decide +kernel
theorem dX9_row_42 : decode (mB 119) 42 = .ok (.iconst (-1), 1) := by decide +kernel
theorem dX9_row_43 : decode (mB 119) 43 = .ok (.ireturn, 1) := by decide +kernel
theorem dX9_guest_0 : decode (mB 120) 0 = .ok (.iload_n 1, 1) := by decide +kernel
theorem dX9_guest_1 : decode (mB 120) 1 = .ok (.ifCond .lt 23, 3) := by decide +kernel
theorem dX9_guest_4 : decode (mB 120) 4 = .ok (.iload_n 1, 1) := by decide +kernel
theorem dX9_guest_5 : decode (mB 120) 5 = .ok (.aload_n 0, 1) := by decide +kernel
theorem dX9_guest_6 : decode (mB 120) 6 = .ok (.getfield 38, 3) := by decide +kernel
theorem dX9_guest_9 : decode (mB 120) 9 = .ok (.getfield 102, 3) := by decide +kernel
theorem dX9_guest_12 : decode (mB 120) 12 = .ok (.if_icmp .ge 12, 3) := by decide +kernel
theorem dX9_guest_15 : decode (mB 120) 15 = .ok (.iload_n 2, 1) := by decide +kernel
theorem dX9_guest_16 : decode (mB 120) 16 = .ok (.iconst 0, 1) := by decide +kernel
theorem dX9_guest_17 : decode (mB 120) 17 = .ok (.iconst 3, 1) := by decide +kernel
theorem dX9_guest_18 : decode (mB 120) 18 = .ok (.invokestatic 64, 3) := by decide +kernel
theorem dX9_guest_21 : decode (mB 120) 21 = .ok (.ifCond .ne 5, 3) := by decide +kernel
theorem dX9_guest_24 : decode (mB 120) 24 = .ok (.iconst (-1), 1) := by decide +kernel
theorem dX9_guest_25 : decode (mB 120) 25 = .ok (.ireturn, 1) := by decide +kernel
theorem dX9_guest_26 : decode (mB 120) 26 = .ok (.iload_n 2, 1) := by decide +kernel
theorem dX9_guest_27 : decode (mB 120) 27 = .ok (.ifCond .ne 15, 3) := by decide +kernel
theorem dX9_guest_30 : decode (mB 120) 30 = .ok (.aload_n 0, 1) := by decide +kernel
theorem dX9_guest_31 : decode (mB 120) 31 = .ok (.getfield 38, 3) := by decide +kernel
theorem dX9_guest_34 : decode (mB 120) 34 = .ok (.getfield 188, 3) := by decide +kernel
theorem dX9_guest_37 : decode (mB 120) 37 = .ok (.iload_n 1, 1) := by decide +kernel
theorem dX9_guest_38 : decode (mB 120) 38 = .ok (.iaload, 1) := by decide +kernel
theorem dX9_guest_39 : decode (mB 120) 39 = .ok (.goto 46, 3) := by decide +kernel
theorem dX9_guest_42 : decode (mB 120) 42 = .ok (.iload_n 2, 1) := by decide +kernel
theorem dX9_guest_43 : decode (mB 120) 43 = .ok (.iconst 1, 1) := by decide +kernel
theorem dX9_guest_44 : decode (mB 120) 44 = .ok (.if_icmp .ne 15, 3) := by decide +kernel
theorem dX9_guest_47 : decode (mB 120) 47 = .ok (.aload_n 0, 1) := by decide +kernel
theorem dX9_guest_48 : decode (mB 120) 48 = .ok (.getfield 38, 3) := by decide +kernel
theorem dX9_guest_51 : decode (mB 120) 51 = .ok (.getfield 105, 3) := by decide +kernel
theorem dX9_guest_54 : decode (mB 120) 54 = .ok (.iload_n 1, 1) := by decide +kernel
theorem dX9_guest_55 : decode (mB 120) 55 = .ok (.iaload, 1) := by decide +kernel
theorem dX9_guest_56 : decode (mB 120) 56 = .ok (.goto 29, 3) := by decide +kernel
theorem dX9_guest_59 : decode (mB 120) 59 = .ok (.iload_n 2, 1) := by decide +kernel
theorem dX9_guest_60 : decode (mB 120) 60 = .ok (.iconst 2, 1) := by decide +kernel
theorem dX9_guest_61 : decode (mB 120) 61 = .ok (.if_icmp .ne 15, 3) := by decide +kernel
theorem dX9_guest_64 : decode (mB 120) 64 = .ok (.aload_n 0, 1) := by decide +kernel
theorem dX9_guest_65 : decode (mB 120) 65 = .ok (.getfield 38, 3) := by decide +kernel
theorem dX9_guest_68 : decode (mB 120) 68 = .ok (.getfield 185, 3) := by decide +kernel
theorem dX9_guest_71 : decode (mB 120) 71 = .ok (.iload_n 1, 1) := by decide +kernel
theorem dX9_guest_72 : decode (mB 120) 72 = .ok (.iaload, 1) := by decide +kernel
theorem dX9_guest_73 : decode (mB 120) 73 = .ok (.goto 12, 3) := by decide +kernel
theorem dX9_guest_76 : decode (mB 120) 76 = .ok (.aload_n 0, 1) := by decide +kernel
theorem dX9_guest_77 : decode (mB 120) 77 = .ok (.getfield 38, 3) := by decide +kernel
theorem dX9_guest_80 : decode (mB 120) 80 = .ok (.getfield 191, 3) := by decide +kernel
theorem dX9_guest_83 : decode (mB 120) 83 = .ok (.iload_n 1, 1) := by decide +kernel
theorem dX9_guest_84 : decode (mB 120) 84 = .ok (.iaload, 1) := by decide +kernel
theorem dX9_guest_85 : decode (mB 120) 85 = .ok (.ireturn, 1) := by decide +kernel
theorem dX9_count_0 : decode (mB 121) 0 = .ok (.iload_n 1, 1) := by decide +kernel
theorem dX9_count_1 : decode (mB 121) 1 = .ok (.tableswitch 161 0 11 #[63, 68, 76, 84, 92, 100, 108, 116, 124, 132, 137, 145], 63) := by decide +kernel
theorem dX9_count_64 : decode (mB 121) 64 = .ok (.aload_n 0, 1) := by decide +kernel
theorem dX9_count_65 : decode (mB 121) 65 = .ok (.getfield 61, 3) := by decide +kernel
theorem dX9_count_68 : decode (mB 121) 68 = .ok (.ireturn, 1) := by decide +kernel
theorem dX9_count_69 : decode (mB 121) 69 = .ok (.aload_n 0, 1) := by decide +kernel
theorem dX9_count_70 : decode (mB 121) 70 = .ok (.getfield 38, 3) := by decide +kernel
theorem dX9_count_73 : decode (mB 121) 73 = .ok (.getfield 68, 3) := by decide +kernel
theorem dX9_count_76 : decode (mB 121) 76 = .ok (.ireturn, 1) := by decide +kernel
theorem dX9_count_77 : decode (mB 121) 77 = .ok (.aload_n 0, 1) := by decide +kernel
theorem dX9_count_78 : decode (mB 121) 78 = .ok (.getfield 38, 3) := by decide +kernel
theorem dX9_count_81 : decode (mB 121) 81 = .ok (.getfield 96, 3) := by decide +kernel
theorem dX9_count_84 : decode (mB 121) 84 = .ok (.ireturn, 1) := by decide +kernel
theorem dX9_count_85 : decode (mB 121) 85 = .ok (.aload_n 0, 1) := by decide +kernel
theorem dX9_count_86 : decode (mB 121) 86 = .ok (.getfield 38, 3) := by decide +kernel
theorem dX9_count_89 : decode (mB 121) 89 = .ok (.getfield 102, 3) := by decide +kernel
theorem dX9_count_92 : decode (mB 121) 92 = .ok (.ireturn, 1) := by decide +kernel
theorem dX9_count_93 : decode (mB 121) 93 = .ok (.aload_n 0, 1) := by decide +kernel
theorem dX9_count_94 : decode (mB 121) 94 = .ok (.getfield 38, 3) := by decide +kernel
theorem dX9_count_97 : decode (mB 121) 97 = .ok (.getfield 216, 3) := by decide +kernel
theorem dX9_count_100 : decode (mB 121) 100 = .ok (.ireturn, 1) := by decide +kernel
theorem dX9_count_101 : decode (mB 121) 101 = .ok (.aload_n 0, 1) := by decide +kernel
theorem dX9_count_102 : decode (mB 121) 102 = .ok (.getfield 38, 3) := by decide +kernel
theorem dX9_count_105 : decode (mB 121) 105 = .ok (.getfield 179, 3) := by decide +kernel
theorem dX9_count_108 : decode (mB 121) 108 = .ok (.ireturn, 1) := by decide +kernel
theorem dX9_count_109 : decode (mB 121) 109 = .ok (.aload_n 0, 1) := by decide +kernel
theorem dX9_count_110 : decode (mB 121) 110 = .ok (.getfield 38, 3) := by decide +kernel
theorem dX9_count_113 : decode (mB 121) 113 = .ok (.getfield 219, 3) := by decide +kernel
theorem dX9_count_116 : decode (mB 121) 116 = .ok (.ireturn, 1) := by decide +kernel
theorem dX9_count_117 : decode (mB 121) 117 = .ok (.aload_n 0, 1) := by decide +kernel
theorem dX9_count_118 : decode (mB 121) 118 = .ok (.getfield 38, 3) := by decide +kernel
theorem dX9_count_121 : decode (mB 121) 121 = .ok (.getfield 237, 3) := by decide +kernel
theorem dX9_count_124 : decode (mB 121) 124 = .ok (.ireturn, 1) := by decide +kernel
theorem dX9_count_125 : decode (mB 121) 125 = .ok (.aload_n 0, 1) := by decide +kernel
theorem dX9_count_126 : decode (mB 121) 126 = .ok (.getfield 38, 3) := by decide +kernel
theorem dX9_count_129 : decode (mB 121) 129 = .ok (.getfield 197, 3) := by decide +kernel
theorem dX9_count_132 : decode (mB 121) 132 = .ok (.ireturn, 1) := by decide +kernel
theorem dX9_count_133 : decode (mB 121) 133 = .ok (.aload_n 0, 1) := by decide +kernel
theorem dX9_count_134 : decode (mB 121) 134 = .ok (.getfield 90, 3) := by decide +kernel
theorem dX9_count_137 : decode (mB 121) 137 = .ok (.ireturn, 1) := by decide +kernel
theorem dX9_count_138 : decode (mB 121) 138 = .ok (.aload_n 0, 1) := by decide +kernel
theorem dX9_count_139 : decode (mB 121) 139 = .ok (.getfield 38, 3) := by decide +kernel
theorem dX9_count_142 : decode (mB 121) 142 = .ok (.getfield 149, 3) := by decide +kernel
theorem dX9_count_145 : decode (mB 121) 145 = .ok (.ireturn, 1) := by decide +kernel
theorem dX9_count_146 : decode (mB 121) 146 = .ok (.aload_n 0, 1) := by decide +kernel
theorem dX9_count_147 : decode (mB 121) 147 = .ok (.getfield 38, 3) := by decide +kernel
theorem dX9_count_150 : decode (mB 121) 150 = .ok (.getfield 51, 3) := by decide +kernel
theorem dX9_count_153 : decode (mB 121) 153 = .ok (.ifCond .eq 7, 3) := by decide +kernel
theorem dX9_count_156 : decode (mB 121) 156 = .ok (.iconst 1, 1) := by decide +kernel
theorem dX9_count_157 : decode (mB 121) 157 = .ok (.goto 4, 3) := by decide +kernel
theorem dX9_count_160 : decode (mB 121) 160 = .ok (.iconst 0, 1) := by decide +kernel
theorem dX9_count_161 : decode (mB 121) 161 = .ok (.ireturn, 1) := by decide +kernel
theorem dX9_count_162 : decode (mB 121) 162 = .ok (.iconst (-1), 1) := by decide +kernel
theorem dX9_count_163 : decode (mB 121) 163 = .ok (.ireturn, 1) := by decide +kernel
theorem dX9_tried_0 : decode (mB 122) 0 = .ok (.aload_n 0, 1) := by decide +kernel
theorem dX9_tried_1 : decode (mB 122) 1 = .ok (.getfield 42, 3) := by decide +kernel
theorem dX9_tried_4 : decode (mB 122) 4 = .ok (.aload_n 0, 1) := by decide +kernel
theorem dX9_tried_5 : decode (mB 122) 5 = .ok (.getfield 38, 3) := by decide +kernel
theorem dX9_tried_8 : decode (mB 122) 8 = .ok (.invokevirtual 276, 3) := by decide +kernel
theorem dX9_tried_11 : decode (mB 122) 11 = .ok (.aload_n 0, 1) := by decide +kernel
theorem dX9_tried_12 : decode (mB 122) 12 = .ok (.iconst 1, 1) := by decide +kernel
theorem dX9_tried_13 : decode (mB 122) 13 = .ok (.putfield 240, 3) := by decide +kernel
theorem dX9_tried_16 : decode (mB 122) 16 = .ok (.aload_n 0, 1) := by decide +kernel
theorem dX9_tried_17 : decode (mB 122) 17 = .ok (.iload_n 1, 1) := by decide +kernel
theorem dX9_tried_18 : decode (mB 122) 18 = .ok (.putfield 246, 3) := by decide +kernel
theorem dX9_tried_21 : decode (mB 122) 21 = .ok (.aload_n 0, 1) := by decide +kernel
theorem dX9_tried_22 : decode (mB 122) 22 = .ok (.iload_n 2, 1) := by decide +kernel
theorem dX9_tried_23 : decode (mB 122) 23 = .ok (.putfield 243, 3) := by decide +kernel
theorem dX9_tried_26 : decode (mB 122) 26 = .ok (.iconst 0, 1) := by decide +kernel
theorem dX9_tried_27 : decode (mB 122) 27 = .ok (.istore 5, 2) := by decide +kernel
theorem dX9_tried_29 : decode (mB 122) 29 = .ok (.bipush (-4), 2) := by decide +kernel
theorem dX9_tried_31 : decode (mB 122) 31 = .ok (.istore 6, 2) := by decide +kernel
theorem dX9_tried_33 : decode (mB 122) 33 = .ok (.iconst 1, 1) := by decide +kernel
theorem dX9_tried_34 : decode (mB 122) 34 = .ok (.istore 7, 2) := by decide +kernel
theorem dX9_tried_36 : decode (mB 122) 36 = .ok (.iload 7, 2) := by decide +kernel
theorem dX9_tried_38 : decode (mB 122) 38 = .ok (.iload_n 3, 1) := by decide +kernel
theorem dX9_tried_39 : decode (mB 122) 39 = .ok (.if_icmp .gt 69, 3) := by decide +kernel
theorem dX9_tried_42 : decode (mB 122) 42 = .ok (.iload 4, 2) := by decide +kernel
theorem dX9_tried_44 : decode (mB 122) 44 = .ok (.ifCond .ne 8, 3) := by decide +kernel
theorem dX9_tried_47 : decode (mB 122) 47 = .ok (.iload 6, 2) := by decide +kernel
theorem dX9_tried_49 : decode (mB 122) 49 = .ok (.ifCond .ge 59, 3) := by decide +kernel
theorem dX9_tried_52 : decode (mB 122) 52 = .ok (.aload_n 0, 1) := by decide +kernel
theorem dX9_tried_53 : decode (mB 122) 53 = .ok (.invokevirtual 270, 3) := by decide +kernel
theorem dX9_tried_56 : decode (mB 122) 56 = .ok (.aload_n 0, 1) := by decide +kernel
theorem dX9_tried_57 : decode (mB 122) 57 = .ok (.getfield 38, 3) := by decide +kernel
theorem dX9_tried_60 : decode (mB 122) 60 = .ok (.getfield 51, 3) := by decide +kernel
theorem dX9_tried_63 : decode (mB 122) 63 = .ok (.ifCond .eq 10, 3) := by decide +kernel
theorem dX9_tried_66 : decode (mB 122) 66 = .ok (.iload 5, 2) := by decide +kernel
theorem dX9_tried_68 : decode (mB 122) 68 = .ok (.iconst 1, 1) := by decide +kernel
theorem dX9_tried_69 : decode (mB 122) 69 = .ok (.iadd, 1) := by decide +kernel
theorem dX9_tried_70 : decode (mB 122) 70 = .ok (.goto 4, 3) := by decide +kernel
theorem dX9_tried_73 : decode (mB 122) 73 = .ok (.iconst 0, 1) := by decide +kernel
theorem dX9_tried_74 : decode (mB 122) 74 = .ok (.istore 5, 2) := by decide +kernel
theorem dX9_tried_76 : decode (mB 122) 76 = .ok (.iload 6, 2) := by decide +kernel
theorem dX9_tried_78 : decode (mB 122) 78 = .ok (.ifCond .ge 20, 3) := by decide +kernel
theorem dX9_tried_81 : decode (mB 122) 81 = .ok (.iload 5, 2) := by decide +kernel
theorem dX9_tried_83 : decode (mB 122) 83 = .ok (.bipush 24, 2) := by decide +kernel
theorem dX9_tried_85 : decode (mB 122) 85 = .ok (.if_icmp .ne 13, 3) := by decide +kernel
theorem dX9_tried_88 : decode (mB 122) 88 = .ok (.iload 7, 2) := by decide +kernel
theorem dX9_tried_90 : decode (mB 122) 90 = .ok (.bipush 24, 2) := by decide +kernel
theorem dX9_tried_92 : decode (mB 122) 92 = .ok (.isub, 1) := by decide +kernel
theorem dX9_tried_93 : decode (mB 122) 93 = .ok (.iconst 1, 1) := by decide +kernel
theorem dX9_tried_94 : decode (mB 122) 94 = .ok (.iadd, 1) := by decide +kernel
theorem dX9_tried_95 : decode (mB 122) 95 = .ok (.goto 5, 3) := by decide +kernel
theorem dX9_tried_98 : decode (mB 122) 98 = .ok (.iload 6, 2) := by decide +kernel
theorem dX9_tried_100 : decode (mB 122) 100 = .ok (.istore 6, 2) := by decide +kernel
theorem dX9_tried_102 : decode (mB 122) 102 = .ok (.iinc 7 1, 3) := by decide +kernel
theorem dX9_tried_105 : decode (mB 122) 105 = .ok (.goto (-69), 3) := by decide +kernel
theorem dX9_tried_108 : decode (mB 122) 108 = .ok (.aload_n 0, 1) := by decide +kernel
theorem dX9_tried_109 : decode (mB 122) 109 = .ok (.aload_n 0, 1) := by decide +kernel
theorem dX9_tried_110 : decode (mB 122) 110 = .ok (.getfield 38, 3) := by decide +kernel
theorem dX9_tried_113 : decode (mB 122) 113 = .ok (.getfield 219, 3) := by decide +kernel
theorem dX9_tried_116 : decode (mB 122) 116 = .ok (.aload_n 0, 1) := by decide +kernel
theorem dX9_tried_117 : decode (mB 122) 117 = .ok (.getfield 42, 3) := by decide +kernel
theorem dX9_tried_120 : decode (mB 122) 120 = .ok (.getfield 219, 3) := by decide +kernel
theorem dX9_tried_123 : decode (mB 122) 123 = .ok (.isub, 1) := by decide +kernel
theorem dX9_tried_124 : decode (mB 122) 124 = .ok (.aload_n 0, 1) := by decide +kernel
theorem dX9_tried_125 : decode (mB 122) 125 = .ok (.getfield 38, 3) := by decide +kernel
theorem dX9_tried_128 : decode (mB 122) 128 = .ok (.getfield 197, 3) := by decide +kernel
theorem dX9_tried_131 : decode (mB 122) 131 = .ok (.iadd, 1) := by decide +kernel
theorem dX9_tried_132 : decode (mB 122) 132 = .ok (.aload_n 0, 1) := by decide +kernel
theorem dX9_tried_133 : decode (mB 122) 133 = .ok (.getfield 42, 3) := by decide +kernel
theorem dX9_tried_136 : decode (mB 122) 136 = .ok (.getfield 197, 3) := by decide +kernel
theorem dX9_tried_139 : decode (mB 122) 139 = .ok (.isub, 1) := by decide +kernel
theorem dX9_tried_140 : decode (mB 122) 140 = .ok (.putfield 280, 3) := by decide +kernel
theorem dX9_tried_143 : decode (mB 122) 143 = .ok (.aload_n 0, 1) := by decide +kernel
theorem dX9_tried_144 : decode (mB 122) 144 = .ok (.iconst 0, 1) := by decide +kernel
theorem dX9_tried_145 : decode (mB 122) 145 = .ok (.putfield 240, 3) := by decide +kernel
theorem dX9_tried_148 : decode (mB 122) 148 = .ok (.aload_n 0, 1) := by decide +kernel
theorem dX9_tried_149 : decode (mB 122) 149 = .ok (.getfield 38, 3) := by decide +kernel
theorem dX9_tried_152 : decode (mB 122) 152 = .ok (.aload_n 0, 1) := by decide +kernel
theorem dX9_tried_153 : decode (mB 122) 153 = .ok (.getfield 42, 3) := by decide +kernel
theorem dX9_tried_156 : decode (mB 122) 156 = .ok (.invokevirtual 276, 3) := by decide +kernel
theorem dX9_tried_159 : decode (mB 122) 159 = .ok (.iload 6, 2) := by decide +kernel
theorem dX9_tried_161 : decode (mB 122) 161 = .ok (.ireturn, 1) := by decide +kernel
theorem dX9_rest_0 : decode (mB 123) 0 = .ok (.iload_n 1, 1) := by decide +kernel
theorem dX9_rest_1 : decode (mB 123) 1 = .ok (.bipush 24, 2) := by decide +kernel
theorem dX9_rest_3 : decode (mB 123) 3 = .ok (.sipush 400, 3) := by decide +kernel
theorem dX9_rest_6 : decode (mB 123) 6 = .ok (.invokestatic 64, 3) := by decide +kernel
theorem dX9_rest_9 : decode (mB 123) 9 = .ok (.ifCond .ne 5, 3) := by decide +kernel
theorem dX9_rest_12 : decode (mB 123) 12 = .ok (.iconst (-1), 1) := by decide +kernel
theorem dX9_rest_13 : decode (mB 123) 13 = .ok (.ireturn, 1) := by decide +kernel
theorem dX9_rest_14 : decode (mB 123) 14 = .ok (.aload_n 0, 1) := by decide +kernel
theorem dX9_rest_15 : decode (mB 123) 15 = .ok (.getfield 61, 3) := by decide +kernel
theorem dX9_rest_18 : decode (mB 123) 18 = .ok (.ifCond .ne 8, 3) := by decide +kernel
theorem dX9_rest_21 : decode (mB 123) 21 = .ok (.bipush (-3), 2) := by decide +kernel
theorem dX9_rest_23 : decode (mB 123) 23 = .ok (.goto 11, 3) := by decide +kernel
theorem dX9_rest_26 : decode (mB 123) 26 = .ok (.aload_n 0, 1) := by decide +kernel
theorem dX9_rest_27 : decode (mB 123) 27 = .ok (.iconst 0, 1) := by decide +kernel
theorem dX9_rest_28 : decode (mB 123) 28 = .ok (.iconst 0, 1) := by decide +kernel
theorem dX9_rest_29 : decode (mB 123) 29 = .ok (.iload_n 1, 1) := by decide +kernel
theorem dX9_rest_30 : decode (mB 123) 30 = .ok (.iconst 0, 1) := by decide +kernel
theorem dX9_rest_31 : decode (mB 123) 31 = .ok (.invokevirtual 283, 3) := by decide +kernel
theorem dX9_rest_34 : decode (mB 123) 34 = .ok (.ireturn, 1) := by decide +kernel
theorem dX9_bears_0 : decode (mB 124) 0 = .ok (.iload_n 1, 1) := by decide +kernel
theorem dX9_bears_1 : decode (mB 124) 1 = .ok (.invokestatic 87, 3) := by decide +kernel
theorem dX9_bears_4 : decode (mB 124) 4 = .ok (.ifCond .eq 15, 3) := by decide +kernel
theorem dX9_bears_7 : decode (mB 124) 7 = .ok (.iload_n 2, 1) := by decide +kernel
theorem dX9_bears_8 : decode (mB 124) 8 = .ok (.bipush 24, 2) := by decide +kernel
theorem dX9_bears_10 : decode (mB 124) 10 = .ok (.sipush 400, 3) := by decide +kernel
theorem dX9_bears_13 : decode (mB 124) 13 = .ok (.invokestatic 64, 3) := by decide +kernel
theorem dX9_bears_16 : decode (mB 124) 16 = .ok (.ifCond .ne 5, 3) := by decide +kernel
theorem dX9_bears_19 : decode (mB 124) 19 = .ok (.iconst (-1), 1) := by decide +kernel
theorem dX9_bears_20 : decode (mB 124) 20 = .ok (.ireturn, 1) := by decide +kernel
theorem dX9_bears_21 : decode (mB 124) 21 = .ok (.aload_n 0, 1) := by decide +kernel
theorem dX9_bears_22 : decode (mB 124) 22 = .ok (.getfield 61, 3) := by decide +kernel
theorem dX9_bears_25 : decode (mB 124) 25 = .ok (.ifCond .ne 6, 3) := by decide +kernel
theorem dX9_bears_28 : decode (mB 124) 28 = .ok (.bipush (-3), 2) := by decide +kernel
theorem dX9_bears_30 : decode (mB 124) 30 = .ok (.ireturn, 1) := by decide +kernel
theorem dX9_bears_31 : decode (mB 124) 31 = .ok (.iconst 0, 1) := by decide +kernel
theorem dX9_bears_32 : decode (mB 124) 32 = .ok (.istore_n 3, 1) := by decide +kernel
theorem dX9_bears_33 : decode (mB 124) 33 = .ok (.iload_n 3, 1) := by decide +kernel
theorem dX9_bears_34 : decode (mB 124) 34 = .ok (.bipush 30, 2) := by decide +kernel
theorem dX9_bears_36 : decode (mB 124) 36 = .ok (.if_icmp .gt 20, 3) := by decide +kernel
theorem dX9_bears_39 : decode (mB 124) 39 = .ok (.aload_n 0, 1) := by decide +kernel
theorem dX9_bears_40 : decode (mB 124) 40 = .ok (.iload_n 1, 1) := by decide +kernel
theorem dX9_bears_41 : decode (mB 124) 41 = .ok (.iload_n 3, 1) := by decide +kernel
theorem dX9_bears_42 : decode (mB 124) 42 = .ok (.iload_n 2, 1) := by decide +kernel
theorem dX9_bears_43 : decode (mB 124) 43 = .ok (.iconst 0, 1) := by decide +kernel
theorem dX9_bears_44 : decode (mB 124) 44 = .ok (.invokevirtual 283, 3) := by decide +kernel
theorem dX9_bears_47 : decode (mB 124) 47 = .ok (.ifCond .lt 9, 3) := by decide +kernel
theorem dX9_bears_50 : decode (mB 124) 50 = .ok (.iinc 3 1, 3) := by decide +kernel
theorem dX9_bears_53 : decode (mB 124) 53 = .ok (.goto (-20), 3) := by decide +kernel
theorem dX9_bears_56 : decode (mB 124) 56 = .ok (.iload_n 3, 1) := by decide +kernel
theorem dX9_bears_57 : decode (mB 124) 57 = .ok (.ifCond .ne 8, 3) := by decide +kernel
theorem dX9_bears_60 : decode (mB 124) 60 = .ok (.bipush (-4), 2) := by decide +kernel
theorem dX9_bears_62 : decode (mB 124) 62 = .ok (.goto 6, 3) := by decide +kernel
theorem dX9_bears_65 : decode (mB 124) 65 = .ok (.iload_n 3, 1) := by decide +kernel
theorem dX9_bears_66 : decode (mB 124) 66 = .ok (.iconst 1, 1) := by decide +kernel
theorem dX9_bears_67 : decode (mB 124) 67 = .ok (.isub, 1) := by decide +kernel
theorem dX9_bears_68 : decode (mB 124) 68 = .ok (.ireturn, 1) := by decide +kernel
theorem dX9_best_0 : decode (mB 125) 0 = .ok (.aload_n 0, 1) := by decide +kernel
theorem dX9_best_1 : decode (mB 125) 1 = .ok (.iload_n 1, 1) := by decide +kernel
theorem dX9_best_2 : decode (mB 125) 2 = .ok (.invokevirtual 71, 3) := by decide +kernel
theorem dX9_best_5 : decode (mB 125) 5 = .ok (.ifCond .eq 33, 3) := by decide +kernel
theorem dX9_best_8 : decode (mB 125) 8 = .ok (.iload_n 2, 1) := by decide +kernel
theorem dX9_best_9 : decode (mB 125) 9 = .ok (.invokestatic 87, 3) := by decide +kernel
theorem dX9_best_12 : decode (mB 125) 12 = .ok (.ifCond .eq 26, 3) := by decide +kernel
theorem dX9_best_15 : decode (mB 125) 15 = .ok (.iload_n 3, 1) := by decide +kernel
theorem dX9_best_16 : decode (mB 125) 16 = .ok (.iconst 0, 1) := by decide +kernel
theorem dX9_best_17 : decode (mB 125) 17 = .ok (.bipush 30, 2) := by decide +kernel
theorem dX9_best_19 : decode (mB 125) 19 = .ok (.invokestatic 64, 3) := by decide +kernel
theorem dX9_best_22 : decode (mB 125) 22 = .ok (.ifCond .eq 16, 3) := by decide +kernel
theorem dX9_best_25 : decode (mB 125) 25 = .ok (.iload 4, 2) := by decide +kernel
theorem dX9_best_27 : decode (mB 125) 27 = .ok (.bipush 24, 2) := by decide +kernel
theorem dX9_best_29 : decode (mB 125) 29 = .ok (.sipush 400, 3) := by decide +kernel
theorem dX9_best_32 : decode (mB 125) 32 = .ok (.invokestatic 64, 3) := by decide +kernel
theorem dX9_best_35 : decode (mB 125) 35 = .ok (.ifCond .ne 5, 3) := by decide +kernel
theorem dX9_best_38 : decode (mB 125) 38 = .ok (.iconst (-1), 1) := by decide +kernel
theorem dX9_best_39 : decode (mB 125) 39 = .ok (.ireturn, 1) := by decide +kernel
theorem dX9_best_40 : decode (mB 125) 40 = .ok (.aload_n 0, 1) := by decide +kernel
theorem dX9_best_41 : decode (mB 125) 41 = .ok (.iload_n 1, 1) := by decide +kernel
theorem dX9_best_42 : decode (mB 125) 42 = .ok (.iconst 1, 1) := by decide +kernel
theorem dX9_best_43 : decode (mB 125) 43 = .ok (.invokevirtual 79, 3) := by decide +kernel
theorem dX9_best_46 : decode (mB 125) 46 = .ok (.istore 5, 2) := by decide +kernel
theorem dX9_best_48 : decode (mB 125) 48 = .ok (.aload_n 0, 1) := by decide +kernel
theorem dX9_best_49 : decode (mB 125) 49 = .ok (.iload_n 1, 1) := by decide +kernel
theorem dX9_best_50 : decode (mB 125) 50 = .ok (.iconst 2, 1) := by decide +kernel
theorem dX9_best_51 : decode (mB 125) 51 = .ok (.invokevirtual 79, 3) := by decide +kernel
theorem dX9_best_54 : decode (mB 125) 54 = .ok (.istore 6, 2) := by decide +kernel
theorem dX9_best_56 : decode (mB 125) 56 = .ok (.bipush (-4), 2) := by decide +kernel
theorem dX9_best_58 : decode (mB 125) 58 = .ok (.istore 7, 2) := by decide +kernel
theorem dX9_best_60 : decode (mB 125) 60 = .ok (.iconst 0, 1) := by decide +kernel
theorem dX9_best_61 : decode (mB 125) 61 = .ok (.istore 8, 2) := by decide +kernel
theorem dX9_best_63 : decode (mB 125) 63 = .ok (.iconst 0, 1) := by decide +kernel
theorem dX9_best_64 : decode (mB 125) 64 = .ok (.istore 9, 2) := by decide +kernel
theorem dX9_best_66 : decode (mB 125) 66 = .ok (.iload 9, 2) := by decide +kernel
theorem dX9_best_68 : decode (mB 125) 68 = .ok (.iconst 4, 1) := by decide +kernel
theorem dX9_best_69 : decode (mB 125) 69 = .ok (.if_icmp .ge 104, 3) := by decide +kernel
theorem dX9_best_72 : decode (mB 125) 72 = .ok (.iconst 0, 1) := by decide +kernel
theorem dX9_best_73 : decode (mB 125) 73 = .ok (.istore 10, 2) := by decide +kernel
theorem dX9_best_75 : decode (mB 125) 75 = .ok (.iload 10, 2) := by decide +kernel
theorem dX9_best_77 : decode (mB 125) 77 = .ok (.iconst 4, 1) := by decide +kernel
theorem dX9_best_78 : decode (mB 125) 78 = .ok (.if_icmp .ge 89, 3) := by decide +kernel
theorem dX9_best_81 : decode (mB 125) 81 = .ok (.aload_n 0, 1) := by decide +kernel
theorem dX9_best_82 : decode (mB 125) 82 = .ok (.getfield 9, 3) := by decide +kernel
theorem dX9_best_85 : decode (mB 125) 85 = .ok (.bipush 9, 2) := by decide +kernel
theorem dX9_best_87 : decode (mB 125) 87 = .ok (.iload_n 1, 1) := by decide +kernel
theorem dX9_best_88 : decode (mB 125) 88 = .ok (.imul, 1) := by decide +kernel
theorem dX9_best_89 : decode (mB 125) 89 = .ok (.iconst 1, 1) := by decide +kernel
theorem dX9_best_90 : decode (mB 125) 90 = .ok (.iadd, 1) := by decide +kernel
theorem dX9_best_91 : decode (mB 125) 91 = .ok (.iload 9, 2) := by decide +kernel
theorem dX9_best_93 : decode (mB 125) 93 = .ok (.iastore, 1) := by decide +kernel
theorem dX9_best_94 : decode (mB 125) 94 = .ok (.aload_n 0, 1) := by decide +kernel
theorem dX9_best_95 : decode (mB 125) 95 = .ok (.getfield 9, 3) := by decide +kernel
theorem dX9_best_98 : decode (mB 125) 98 = .ok (.bipush 9, 2) := by decide +kernel
theorem dX9_best_100 : decode (mB 125) 100 = .ok (.iload_n 1, 1) := by decide +kernel
theorem dX9_best_101 : decode (mB 125) 101 = .ok (.imul, 1) := by decide +kernel
theorem dX9_best_102 : decode (mB 125) 102 = .ok (.iconst 2, 1) := by decide +kernel
theorem dX9_best_103 : decode (mB 125) 103 = .ok (.iadd, 1) := by decide +kernel
theorem dX9_best_104 : decode (mB 125) 104 = .ok (.iload 10, 2) := by decide +kernel
theorem dX9_best_106 : decode (mB 125) 106 = .ok (.iastore, 1) := by decide +kernel
theorem dX9_best_107 : decode (mB 125) 107 = .ok (.aload_n 0, 1) := by decide +kernel
theorem dX9_best_108 : decode (mB 125) 108 = .ok (.iload_n 2, 1) := by decide +kernel
theorem dX9_best_109 : decode (mB 125) 109 = .ok (.iload_n 3, 1) := by decide +kernel
theorem dX9_best_110 : decode (mB 125) 110 = .ok (.iload 4, 2) := by decide +kernel
theorem dX9_best_112 : decode (mB 125) 112 = .ok (.iconst 1, 1) := by decide +kernel
theorem dX9_best_113 : decode (mB 125) 113 = .ok (.invokevirtual 283, 3) := by decide +kernel
theorem dX9_best_116 : decode (mB 125) 116 = .ok (.ifCond .lt 7, 3) := by decide +kernel
theorem dX9_best_119 : decode (mB 125) 119 = .ok (.iconst 1, 1) := by decide +kernel
theorem dX9_best_120 : decode (mB 125) 120 = .ok (.goto 4, 3) := by decide +kernel
theorem dX9_best_123 : decode (mB 125) 123 = .ok (.iconst 0, 1) := by decide +kernel
theorem dX9_best_124 : decode (mB 125) 124 = .ok (.istore 11, 2) := by decide +kernel
theorem dX9_best_126 : decode (mB 125) 126 = .ok (.iload 11, 2) := by decide +kernel
theorem dX9_best_128 : decode (mB 125) 128 = .ok (.ifCond .eq 33, 3) := by decide +kernel
theorem dX9_best_131 : decode (mB 125) 131 = .ok (.iload 7, 2) := by decide +kernel
theorem dX9_best_133 : decode (mB 125) 133 = .ok (.ifCond .lt 12, 3) := by decide +kernel
theorem dX9_best_136 : decode (mB 125) 136 = .ok (.aload_n 0, 1) := by decide +kernel
theorem dX9_best_137 : decode (mB 125) 137 = .ok (.getfield 280, 3) := by decide +kernel
theorem dX9_best_140 : decode (mB 125) 140 = .ok (.iload 8, 2) := by decide +kernel
theorem dX9_best_142 : decode (mB 125) 142 = .ok (.if_icmp .ge 19, 3) := by decide +kernel
theorem dX9_best_145 : decode (mB 125) 145 = .ok (.bipush 10, 2) := by decide +kernel
theorem dX9_best_147 : decode (mB 125) 147 = .ok (.iload 9, 2) := by decide +kernel
theorem dX9_best_149 : decode (mB 125) 149 = .ok (.imul, 1) := by decide +kernel
theorem dX9_best_150 : decode (mB 125) 150 = .ok (.iload 10, 2) := by decide +kernel
theorem dX9_best_152 : decode (mB 125) 152 = .ok (.iadd, 1) := by decide +kernel
theorem dX9_best_153 : decode (mB 125) 153 = .ok (.istore 7, 2) := by decide +kernel
theorem dX9_best_155 : decode (mB 125) 155 = .ok (.aload_n 0, 1) := by decide +kernel
theorem dX9_best_156 : decode (mB 125) 156 = .ok (.getfield 280, 3) := by decide +kernel
theorem dX9_best_159 : decode (mB 125) 159 = .ok (.istore 8, 2) := by decide +kernel
theorem dX9_best_161 : decode (mB 125) 161 = .ok (.iinc 10 1, 3) := by decide +kernel
theorem dX9_best_164 : decode (mB 125) 164 = .ok (.goto (-89), 3) := by decide +kernel
theorem dX9_best_167 : decode (mB 125) 167 = .ok (.iinc 9 1, 3) := by decide +kernel
theorem dX9_best_170 : decode (mB 125) 170 = .ok (.goto (-104), 3) := by decide +kernel
theorem dX9_best_173 : decode (mB 125) 173 = .ok (.aload_n 0, 1) := by decide +kernel
theorem dX9_best_174 : decode (mB 125) 174 = .ok (.getfield 9, 3) := by decide +kernel
theorem dX9_best_177 : decode (mB 125) 177 = .ok (.bipush 9, 2) := by decide +kernel
theorem dX9_best_179 : decode (mB 125) 179 = .ok (.iload_n 1, 1) := by decide +kernel
theorem dX9_best_180 : decode (mB 125) 180 = .ok (.imul, 1) := by decide +kernel
theorem dX9_best_181 : decode (mB 125) 181 = .ok (.iconst 1, 1) := by decide +kernel
theorem dX9_best_182 : decode (mB 125) 182 = .ok (.iadd, 1) := by decide +kernel
theorem dX9_best_183 : decode (mB 125) 183 = .ok (.iload 5, 2) := by decide +kernel
theorem dX9_best_185 : decode (mB 125) 185 = .ok (.iastore, 1) := by decide +kernel
theorem dX9_best_186 : decode (mB 125) 186 = .ok (.aload_n 0, 1) := by decide +kernel
theorem dX9_best_187 : decode (mB 125) 187 = .ok (.getfield 9, 3) := by decide +kernel
theorem dX9_best_190 : decode (mB 125) 190 = .ok (.bipush 9, 2) := by decide +kernel
theorem dX9_best_192 : decode (mB 125) 192 = .ok (.iload_n 1, 1) := by decide +kernel
theorem dX9_best_193 : decode (mB 125) 193 = .ok (.imul, 1) := by decide +kernel
theorem dX9_best_194 : decode (mB 125) 194 = .ok (.iconst 2, 1) := by decide +kernel
theorem dX9_best_195 : decode (mB 125) 195 = .ok (.iadd, 1) := by decide +kernel
theorem dX9_best_196 : decode (mB 125) 196 = .ok (.iload 6, 2) := by decide +kernel
theorem dX9_best_198 : decode (mB 125) 198 = .ok (.iastore, 1) := by decide +kernel
theorem dX9_best_199 : decode (mB 125) 199 = .ok (.aload_n 0, 1) := by decide +kernel
theorem dX9_best_200 : decode (mB 125) 200 = .ok (.iload 7, 2) := by decide +kernel
theorem dX9_best_202 : decode (mB 125) 202 = .ok (.ifCond .ge 10, 3) := by decide +kernel
theorem dX9_best_205 : decode (mB 125) 205 = .ok (.aload_n 0, 1) := by decide +kernel
theorem dX9_best_206 : decode (mB 125) 206 = .ok (.getfield 287, 3) := by decide +kernel
theorem dX9_best_209 : decode (mB 125) 209 = .ok (.goto 5, 3) := by decide +kernel
theorem dX9_best_212 : decode (mB 125) 212 = .ok (.iload 8, 2) := by decide +kernel
theorem dX9_best_214 : decode (mB 125) 214 = .ok (.putfield 287, 3) := by decide +kernel
theorem dX9_best_217 : decode (mB 125) 217 = .ok (.iload 7, 2) := by decide +kernel
theorem dX9_best_219 : decode (mB 125) 219 = .ok (.ireturn, 1) := by decide +kernel
theorem dX9_price_0 : decode (mB 126) 0 = .ok (.aload_n 0, 1) := by decide +kernel
theorem dX9_price_1 : decode (mB 126) 1 = .ok (.getfield 287, 3) := by decide +kernel
theorem dX9_price_4 : decode (mB 126) 4 = .ok (.ireturn, 1) := by decide +kernel
theorem dJ9_floorMod_7cf53_0 : decode (mB 127) 0 = .ok (.iload_n 0, 1) := by decide +kernel
theorem dJ9_floorMod_7cf53_1 : decode (mB 127) 1 = .ok (.iload_n 1, 1) := by decide +kernel
theorem dJ9_floorMod_7cf53_2 : decode (mB 127) 2 = .ok (.irem, 1) := by decide +kernel
theorem dJ9_floorMod_7cf53_3 : decode (mB 127) 3 = .ok (.istore_n 2, 1) := by decide +kernel
theorem dJ9_floorMod_7cf53_4 : decode (mB 127) 4 = .ok (.iload_n 0, 1) := by decide +kernel
theorem dJ9_floorMod_7cf53_5 : decode (mB 127) 5 = .ok (.iload_n 1, 1) := by decide +kernel
theorem dJ9_floorMod_7cf53_6 : decode (mB 127) 6 = .ok (.ixor, 1) := by decide +kernel
theorem dJ9_floorMod_7cf53_7 : decode (mB 127) 7 = .ok (.ifCond .ge 11, 3) := by decide +kernel
theorem dJ9_floorMod_7cf53_10 : decode (mB 127) 10 = .ok (.iload_n 2, 1) := by decide +kernel
theorem dJ9_floorMod_7cf53_11 : decode (mB 127) 11 = .ok (.ifCond .eq 7, 3) := by decide +kernel
theorem dJ9_floorMod_7cf53_14 : decode (mB 127) 14 = .ok (.iload_n 2, 1) := by decide +kernel
theorem dJ9_floorMod_7cf53_15 : decode (mB 127) 15 = .ok (.iload_n 1, 1) := by decide +kernel
theorem dJ9_floorMod_7cf53_16 : decode (mB 127) 16 = .ok (.iadd, 1) := by decide +kernel
theorem dJ9_floorMod_7cf53_17 : decode (mB 127) 17 = .ok (.ireturn, 1) := by decide +kernel
theorem dJ9_floorMod_7cf53_18 : decode (mB 127) 18 = .ok (.iload_n 2, 1) := by decide +kernel
theorem dJ9_floorMod_7cf53_19 : decode (mB 127) 19 = .ok (.ireturn, 1) := by decide +kernel
theorem dJ9_max_7cf53_0 : decode (mB 128) 0 = .ok (.iload_n 0, 1) := by decide +kernel
theorem dJ9_max_7cf53_1 : decode (mB 128) 1 = .ok (.iload_n 1, 1) := by decide +kernel
theorem dJ9_max_7cf53_2 : decode (mB 128) 2 = .ok (.if_icmp .lt 7, 3) := by decide +kernel
theorem dJ9_max_7cf53_5 : decode (mB 128) 5 = .ok (.iload_n 0, 1) := by decide +kernel
theorem dJ9_max_7cf53_6 : decode (mB 128) 6 = .ok (.goto 4, 3) := by decide +kernel
theorem dJ9_max_7cf53_9 : decode (mB 128) 9 = .ok (.iload_n 1, 1) := by decide +kernel
theorem dJ9_max_7cf53_10 : decode (mB 128) 10 = .ok (.ireturn, 1) := by decide +kernel
theorem dJ9_min_7cf53_0 : decode (mB 129) 0 = .ok (.iload_n 0, 1) := by decide +kernel
theorem dJ9_min_7cf53_1 : decode (mB 129) 1 = .ok (.iload_n 1, 1) := by decide +kernel
theorem dJ9_min_7cf53_2 : decode (mB 129) 2 = .ok (.if_icmp .gt 7, 3) := by decide +kernel
theorem dJ9_min_7cf53_5 : decode (mB 129) 5 = .ok (.iload_n 0, 1) := by decide +kernel
theorem dJ9_min_7cf53_6 : decode (mB 129) 6 = .ok (.goto 4, 3) := by decide +kernel
theorem dJ9_min_7cf53_9 : decode (mB 129) 9 = .ok (.iload_n 1, 1) := by decide +kernel
theorem dJ9_min_7cf53_10 : decode (mB 129) 10 = .ok (.ireturn, 1) := by decide +kernel
theorem dJ7_fill_53178_0 : decode (mB 130) 0 = .ok (.iconst 0, 1) := by decide +kernel
theorem dJ7_fill_53178_1 : decode (mB 130) 1 = .ok (.istore_n 2, 1) := by decide +kernel
theorem dJ7_fill_53178_2 : decode (mB 130) 2 = .ok (.aload_n 0, 1) := by decide +kernel
theorem dJ7_fill_53178_3 : decode (mB 130) 3 = .ok (.arraylength, 1) := by decide +kernel
theorem dJ7_fill_53178_4 : decode (mB 130) 4 = .ok (.istore_n 3, 1) := by decide +kernel
theorem dJ7_fill_53178_5 : decode (mB 130) 5 = .ok (.iload_n 2, 1) := by decide +kernel
theorem dJ7_fill_53178_6 : decode (mB 130) 6 = .ok (.iload_n 3, 1) := by decide +kernel
theorem dJ7_fill_53178_7 : decode (mB 130) 7 = .ok (.if_icmp .ge 13, 3) := by decide +kernel
theorem dJ7_fill_53178_10 : decode (mB 130) 10 = .ok (.aload_n 0, 1) := by decide +kernel
theorem dJ7_fill_53178_11 : decode (mB 130) 11 = .ok (.iload_n 2, 1) := by decide +kernel
theorem dJ7_fill_53178_12 : decode (mB 130) 12 = .ok (.iload_n 1, 1) := by decide +kernel
theorem dJ7_fill_53178_13 : decode (mB 130) 13 = .ok (.iastore, 1) := by decide +kernel
theorem dJ7_fill_53178_14 : decode (mB 130) 14 = .ok (.iinc 2 1, 3) := by decide +kernel
theorem dJ7_fill_53178_17 : decode (mB 130) 17 = .ok (.goto (-12), 3) := by decide +kernel
theorem dJ7_fill_53178_20 : decode (mB 130) 20 = .ok (.return_, 1) := by decide +kernel
theorem dL_law_0 : decode code 0 = .ok (.new 7, 3) := by decide +kernel
theorem dL_law_3 : decode code 3 = .ok (.dup, 1) := by decide +kernel
theorem dL_law_4 : decode code 4 = .ok (.invokespecial 9, 3) := by decide +kernel
theorem dL_law_7 : decode code 7 = .ok (.astore_n 1, 1) := by decide +kernel
theorem dL_law_8 : decode code 8 = .ok (.new 10, 3) := by decide +kernel
theorem dL_law_11 : decode code 11 = .ok (.dup, 1) := by decide +kernel
theorem dL_law_12 : decode code 12 = .ok (.invokespecial 12, 3) := by decide +kernel
theorem dL_law_15 : decode code 15 = .ok (.astore_n 2, 1) := by decide +kernel
theorem dL_law_16 : decode code 16 = .ok (.iconst 0, 1) := by decide +kernel
theorem dL_law_17 : decode code 17 = .ok (.istore_n 3, 1) := by decide +kernel
theorem dL_law_18 : decode code 18 = .ok (.iload_n 3, 1) := by decide +kernel
theorem dL_law_19 : decode code 19 = .ok (.aload_n 0, 1) := by decide +kernel
theorem dL_law_20 : decode code 20 = .ok (.arraylength, 1) := by decide +kernel
theorem dL_law_21 : decode code 21 = .ok (.iconst 5, 1) := by decide +kernel
theorem dL_law_22 : decode code 22 = .ok (.isub, 1) := by decide +kernel
theorem dL_law_23 : decode code 23 = .ok (.if_icmp .gt 697, 3) := by decide +kernel
theorem dL_law_26 : decode code 26 = .ok (.aload_n 0, 1) := by decide +kernel
theorem dL_law_27 : decode code 27 = .ok (.iload_n 3, 1) := by decide +kernel
theorem dL_law_28 : decode code 28 = .ok (.iaload, 1) := by decide +kernel
theorem dL_law_29 : decode code 29 = .ok (.bipush 31, 2) := by decide +kernel
theorem dL_law_31 : decode code 31 = .ok (.iand, 1) := by decide +kernel
theorem dL_law_32 : decode code 32 = .ok (.tableswitch 682 0 17 #[88, 131, 174, 207, 250, 273, 316, 339, 372, 405, 438, 471, 504, 537, 560, 583, 616, 669], 88) := by decide +kernel
theorem dL_law_120 : decode code 120 = .ok (.aload_n 1, 1) := by decide +kernel
theorem dL_law_121 : decode code 121 = .ok (.aload_n 0, 1) := by decide +kernel
theorem dL_law_122 : decode code 122 = .ok (.iload_n 3, 1) := by decide +kernel
theorem dL_law_123 : decode code 123 = .ok (.iconst 1, 1) := by decide +kernel
theorem dL_law_124 : decode code 124 = .ok (.iadd, 1) := by decide +kernel
theorem dL_law_125 : decode code 125 = .ok (.iaload, 1) := by decide +kernel
theorem dL_law_126 : decode code 126 = .ok (.aload_n 0, 1) := by decide +kernel
theorem dL_law_127 : decode code 127 = .ok (.iload_n 3, 1) := by decide +kernel
theorem dL_law_128 : decode code 128 = .ok (.iconst 2, 1) := by decide +kernel
theorem dL_law_129 : decode code 129 = .ok (.iadd, 1) := by decide +kernel
theorem dL_law_130 : decode code 130 = .ok (.iaload, 1) := by decide +kernel
theorem dL_law_131 : decode code 131 = .ok (.aload_n 0, 1) := by decide +kernel
theorem dL_law_132 : decode code 132 = .ok (.iload_n 3, 1) := by decide +kernel
theorem dL_law_133 : decode code 133 = .ok (.iconst 3, 1) := by decide +kernel
theorem dL_law_134 : decode code 134 = .ok (.iadd, 1) := by decide +kernel
theorem dL_law_135 : decode code 135 = .ok (.iaload, 1) := by decide +kernel
theorem dL_law_136 : decode code 136 = .ok (.invokevirtual 13, 3) := by decide +kernel
theorem dL_law_139 : decode code 139 = .ok (.aload_n 2, 1) := by decide +kernel
theorem dL_law_140 : decode code 140 = .ok (.aload_n 0, 1) := by decide +kernel
theorem dL_law_141 : decode code 141 = .ok (.iload_n 3, 1) := by decide +kernel
theorem dL_law_142 : decode code 142 = .ok (.iconst 1, 1) := by decide +kernel
theorem dL_law_143 : decode code 143 = .ok (.iadd, 1) := by decide +kernel
theorem dL_law_144 : decode code 144 = .ok (.iaload, 1) := by decide +kernel
theorem dL_law_145 : decode code 145 = .ok (.aload_n 0, 1) := by decide +kernel
theorem dL_law_146 : decode code 146 = .ok (.iload_n 3, 1) := by decide +kernel
theorem dL_law_147 : decode code 147 = .ok (.iconst 2, 1) := by decide +kernel
theorem dL_law_148 : decode code 148 = .ok (.iadd, 1) := by decide +kernel
theorem dL_law_149 : decode code 149 = .ok (.iaload, 1) := by decide +kernel
theorem dL_law_150 : decode code 150 = .ok (.aload_n 0, 1) := by decide +kernel
theorem dL_law_151 : decode code 151 = .ok (.iload_n 3, 1) := by decide +kernel
theorem dL_law_152 : decode code 152 = .ok (.iconst 3, 1) := by decide +kernel
theorem dL_law_153 : decode code 153 = .ok (.iadd, 1) := by decide +kernel
theorem dL_law_154 : decode code 154 = .ok (.iaload, 1) := by decide +kernel
theorem dL_law_155 : decode code 155 = .ok (.invokevirtual 17, 3) := by decide +kernel
theorem dL_law_158 : decode code 158 = .ok (.if_icmp .eq 556, 3) := by decide +kernel
theorem dL_law_161 : decode code 161 = .ok (.iconst 0, 1) := by decide +kernel
theorem dL_law_162 : decode code 162 = .ok (.ireturn, 1) := by decide +kernel
theorem dL_law_163 : decode code 163 = .ok (.aload_n 1, 1) := by decide +kernel
theorem dL_law_164 : decode code 164 = .ok (.aload_n 0, 1) := by decide +kernel
theorem dL_law_165 : decode code 165 = .ok (.iload_n 3, 1) := by decide +kernel
theorem dL_law_166 : decode code 166 = .ok (.iconst 1, 1) := by decide +kernel
theorem dL_law_167 : decode code 167 = .ok (.iadd, 1) := by decide +kernel
theorem dL_law_168 : decode code 168 = .ok (.iaload, 1) := by decide +kernel
theorem dL_law_169 : decode code 169 = .ok (.aload_n 0, 1) := by decide +kernel
theorem dL_law_170 : decode code 170 = .ok (.iload_n 3, 1) := by decide +kernel
theorem dL_law_171 : decode code 171 = .ok (.iconst 2, 1) := by decide +kernel
theorem dL_law_172 : decode code 172 = .ok (.iadd, 1) := by decide +kernel
theorem dL_law_173 : decode code 173 = .ok (.iaload, 1) := by decide +kernel
theorem dL_law_174 : decode code 174 = .ok (.aload_n 0, 1) := by decide +kernel
theorem dL_law_175 : decode code 175 = .ok (.iload_n 3, 1) := by decide +kernel
theorem dL_law_176 : decode code 176 = .ok (.iconst 3, 1) := by decide +kernel
theorem dL_law_177 : decode code 177 = .ok (.iadd, 1) := by decide +kernel
theorem dL_law_178 : decode code 178 = .ok (.iaload, 1) := by decide +kernel
theorem dL_law_179 : decode code 179 = .ok (.invokevirtual 18, 3) := by decide +kernel
theorem dL_law_182 : decode code 182 = .ok (.aload_n 2, 1) := by decide +kernel
theorem dL_law_183 : decode code 183 = .ok (.aload_n 0, 1) := by decide +kernel
theorem dL_law_184 : decode code 184 = .ok (.iload_n 3, 1) := by decide +kernel
theorem dL_law_185 : decode code 185 = .ok (.iconst 1, 1) := by decide +kernel
theorem dL_law_186 : decode code 186 = .ok (.iadd, 1) := by decide +kernel
theorem dL_law_187 : decode code 187 = .ok (.iaload, 1) := by decide +kernel
theorem dL_law_188 : decode code 188 = .ok (.aload_n 0, 1) := by decide +kernel
theorem dL_law_189 : decode code 189 = .ok (.iload_n 3, 1) := by decide +kernel
theorem dL_law_190 : decode code 190 = .ok (.iconst 2, 1) := by decide +kernel
theorem dL_law_191 : decode code 191 = .ok (.iadd, 1) := by decide +kernel
theorem dL_law_192 : decode code 192 = .ok (.iaload, 1) := by decide +kernel
theorem dL_law_193 : decode code 193 = .ok (.aload_n 0, 1) := by decide +kernel
theorem dL_law_194 : decode code 194 = .ok (.iload_n 3, 1) := by decide +kernel
theorem dL_law_195 : decode code 195 = .ok (.iconst 3, 1) := by decide +kernel
theorem dL_law_196 : decode code 196 = .ok (.iadd, 1) := by decide +kernel
theorem dL_law_197 : decode code 197 = .ok (.iaload, 1) := by decide +kernel
theorem dL_law_198 : decode code 198 = .ok (.invokevirtual 21, 3) := by decide +kernel
theorem dL_law_201 : decode code 201 = .ok (.if_icmp .eq 513, 3) := by decide +kernel
theorem dL_law_204 : decode code 204 = .ok (.iconst 0, 1) := by decide +kernel
theorem dL_law_205 : decode code 205 = .ok (.ireturn, 1) := by decide +kernel
theorem dL_law_206 : decode code 206 = .ok (.aload_n 1, 1) := by decide +kernel
theorem dL_law_207 : decode code 207 = .ok (.aload_n 0, 1) := by decide +kernel
theorem dL_law_208 : decode code 208 = .ok (.iload_n 3, 1) := by decide +kernel
theorem dL_law_209 : decode code 209 = .ok (.iconst 1, 1) := by decide +kernel
theorem dL_law_210 : decode code 210 = .ok (.iadd, 1) := by decide +kernel
theorem dL_law_211 : decode code 211 = .ok (.iaload, 1) := by decide +kernel
theorem dL_law_212 : decode code 212 = .ok (.aload_n 0, 1) := by decide +kernel
theorem dL_law_213 : decode code 213 = .ok (.iload_n 3, 1) := by decide +kernel
theorem dL_law_214 : decode code 214 = .ok (.iconst 2, 1) := by decide +kernel
theorem dL_law_215 : decode code 215 = .ok (.iadd, 1) := by decide +kernel
theorem dL_law_216 : decode code 216 = .ok (.iaload, 1) := by decide +kernel
theorem dL_law_217 : decode code 217 = .ok (.invokevirtual 22, 3) := by decide +kernel
theorem dL_law_220 : decode code 220 = .ok (.aload_n 2, 1) := by decide +kernel
theorem dL_law_221 : decode code 221 = .ok (.aload_n 0, 1) := by decide +kernel
theorem dL_law_222 : decode code 222 = .ok (.iload_n 3, 1) := by decide +kernel
theorem dL_law_223 : decode code 223 = .ok (.iconst 1, 1) := by decide +kernel
theorem dL_law_224 : decode code 224 = .ok (.iadd, 1) := by decide +kernel
theorem dL_law_225 : decode code 225 = .ok (.iaload, 1) := by decide +kernel
theorem dL_law_226 : decode code 226 = .ok (.aload_n 0, 1) := by decide +kernel
theorem dL_law_227 : decode code 227 = .ok (.iload_n 3, 1) := by decide +kernel
theorem dL_law_228 : decode code 228 = .ok (.iconst 2, 1) := by decide +kernel
theorem dL_law_229 : decode code 229 = .ok (.iadd, 1) := by decide +kernel
theorem dL_law_230 : decode code 230 = .ok (.iaload, 1) := by decide +kernel
theorem dL_law_231 : decode code 231 = .ok (.invokevirtual 26, 3) := by decide +kernel
theorem dL_law_234 : decode code 234 = .ok (.if_icmp .eq 480, 3) := by decide +kernel
theorem dL_law_237 : decode code 237 = .ok (.iconst 0, 1) := by decide +kernel
theorem dL_law_238 : decode code 238 = .ok (.ireturn, 1) := by decide +kernel
theorem dL_law_239 : decode code 239 = .ok (.aload_n 1, 1) := by decide +kernel
theorem dL_law_240 : decode code 240 = .ok (.aload_n 0, 1) := by decide +kernel
theorem dL_law_241 : decode code 241 = .ok (.iload_n 3, 1) := by decide +kernel
theorem dL_law_242 : decode code 242 = .ok (.iconst 1, 1) := by decide +kernel
theorem dL_law_243 : decode code 243 = .ok (.iadd, 1) := by decide +kernel
theorem dL_law_244 : decode code 244 = .ok (.iaload, 1) := by decide +kernel
theorem dL_law_245 : decode code 245 = .ok (.aload_n 0, 1) := by decide +kernel
theorem dL_law_246 : decode code 246 = .ok (.iload_n 3, 1) := by decide +kernel
theorem dL_law_247 : decode code 247 = .ok (.iconst 2, 1) := by decide +kernel
theorem dL_law_248 : decode code 248 = .ok (.iadd, 1) := by decide +kernel
theorem dL_law_249 : decode code 249 = .ok (.iaload, 1) := by decide +kernel
theorem dL_law_250 : decode code 250 = .ok (.aload_n 0, 1) := by decide +kernel
theorem dL_law_251 : decode code 251 = .ok (.iload_n 3, 1) := by decide +kernel
theorem dL_law_252 : decode code 252 = .ok (.iconst 3, 1) := by decide +kernel
theorem dL_law_253 : decode code 253 = .ok (.iadd, 1) := by decide +kernel
theorem dL_law_254 : decode code 254 = .ok (.iaload, 1) := by decide +kernel
theorem dL_law_255 : decode code 255 = .ok (.invokevirtual 27, 3) := by decide +kernel
theorem dL_law_258 : decode code 258 = .ok (.aload_n 2, 1) := by decide +kernel
theorem dL_law_259 : decode code 259 = .ok (.aload_n 0, 1) := by decide +kernel
theorem dL_law_260 : decode code 260 = .ok (.iload_n 3, 1) := by decide +kernel
theorem dL_law_261 : decode code 261 = .ok (.iconst 1, 1) := by decide +kernel
theorem dL_law_262 : decode code 262 = .ok (.iadd, 1) := by decide +kernel
theorem dL_law_263 : decode code 263 = .ok (.iaload, 1) := by decide +kernel
theorem dL_law_264 : decode code 264 = .ok (.aload_n 0, 1) := by decide +kernel
theorem dL_law_265 : decode code 265 = .ok (.iload_n 3, 1) := by decide +kernel
theorem dL_law_266 : decode code 266 = .ok (.iconst 2, 1) := by decide +kernel
theorem dL_law_267 : decode code 267 = .ok (.iadd, 1) := by decide +kernel
theorem dL_law_268 : decode code 268 = .ok (.iaload, 1) := by decide +kernel
theorem dL_law_269 : decode code 269 = .ok (.aload_n 0, 1) := by decide +kernel
theorem dL_law_270 : decode code 270 = .ok (.iload_n 3, 1) := by decide +kernel
theorem dL_law_271 : decode code 271 = .ok (.iconst 3, 1) := by decide +kernel
theorem dL_law_272 : decode code 272 = .ok (.iadd, 1) := by decide +kernel
theorem dL_law_273 : decode code 273 = .ok (.iaload, 1) := by decide +kernel
theorem dL_law_274 : decode code 274 = .ok (.invokevirtual 30, 3) := by decide +kernel
theorem dL_law_277 : decode code 277 = .ok (.if_icmp .eq 437, 3) := by decide +kernel
theorem dL_law_280 : decode code 280 = .ok (.iconst 0, 1) := by decide +kernel
theorem dL_law_281 : decode code 281 = .ok (.ireturn, 1) := by decide +kernel
theorem dL_law_282 : decode code 282 = .ok (.aload_n 1, 1) := by decide +kernel
theorem dL_law_283 : decode code 283 = .ok (.aload_n 0, 1) := by decide +kernel
theorem dL_law_284 : decode code 284 = .ok (.iload_n 3, 1) := by decide +kernel
theorem dL_law_285 : decode code 285 = .ok (.iconst 1, 1) := by decide +kernel
theorem dL_law_286 : decode code 286 = .ok (.iadd, 1) := by decide +kernel
theorem dL_law_287 : decode code 287 = .ok (.iaload, 1) := by decide +kernel
theorem dL_law_288 : decode code 288 = .ok (.invokevirtual 31, 3) := by decide +kernel
theorem dL_law_291 : decode code 291 = .ok (.aload_n 2, 1) := by decide +kernel
theorem dL_law_292 : decode code 292 = .ok (.aload_n 0, 1) := by decide +kernel
theorem dL_law_293 : decode code 293 = .ok (.iload_n 3, 1) := by decide +kernel
theorem dL_law_294 : decode code 294 = .ok (.iconst 1, 1) := by decide +kernel
theorem dL_law_295 : decode code 295 = .ok (.iadd, 1) := by decide +kernel
theorem dL_law_296 : decode code 296 = .ok (.iaload, 1) := by decide +kernel
theorem dL_law_297 : decode code 297 = .ok (.invokevirtual 35, 3) := by decide +kernel
theorem dL_law_300 : decode code 300 = .ok (.if_icmp .eq 414, 3) := by decide +kernel
theorem dL_law_303 : decode code 303 = .ok (.iconst 0, 1) := by decide +kernel
theorem dL_law_304 : decode code 304 = .ok (.ireturn, 1) := by decide +kernel
theorem dL_law_305 : decode code 305 = .ok (.aload_n 1, 1) := by decide +kernel
theorem dL_law_306 : decode code 306 = .ok (.aload_n 0, 1) := by decide +kernel
theorem dL_law_307 : decode code 307 = .ok (.iload_n 3, 1) := by decide +kernel
theorem dL_law_308 : decode code 308 = .ok (.iconst 1, 1) := by decide +kernel
theorem dL_law_309 : decode code 309 = .ok (.iadd, 1) := by decide +kernel
theorem dL_law_310 : decode code 310 = .ok (.iaload, 1) := by decide +kernel
theorem dL_law_311 : decode code 311 = .ok (.aload_n 0, 1) := by decide +kernel
theorem dL_law_312 : decode code 312 = .ok (.iload_n 3, 1) := by decide +kernel
theorem dL_law_313 : decode code 313 = .ok (.iconst 2, 1) := by decide +kernel
theorem dL_law_314 : decode code 314 = .ok (.iadd, 1) := by decide +kernel
theorem dL_law_315 : decode code 315 = .ok (.iaload, 1) := by decide +kernel
theorem dL_law_316 : decode code 316 = .ok (.aload_n 0, 1) := by decide +kernel
theorem dL_law_317 : decode code 317 = .ok (.iload_n 3, 1) := by decide +kernel
theorem dL_law_318 : decode code 318 = .ok (.iconst 3, 1) := by decide +kernel
theorem dL_law_319 : decode code 319 = .ok (.iadd, 1) := by decide +kernel
theorem dL_law_320 : decode code 320 = .ok (.iaload, 1) := by decide +kernel
theorem dL_law_321 : decode code 321 = .ok (.invokevirtual 36, 3) := by decide +kernel
theorem dL_law_324 : decode code 324 = .ok (.aload_n 2, 1) := by decide +kernel
theorem dL_law_325 : decode code 325 = .ok (.aload_n 0, 1) := by decide +kernel
theorem dL_law_326 : decode code 326 = .ok (.iload_n 3, 1) := by decide +kernel
theorem dL_law_327 : decode code 327 = .ok (.iconst 1, 1) := by decide +kernel
theorem dL_law_328 : decode code 328 = .ok (.iadd, 1) := by decide +kernel
theorem dL_law_329 : decode code 329 = .ok (.iaload, 1) := by decide +kernel
theorem dL_law_330 : decode code 330 = .ok (.aload_n 0, 1) := by decide +kernel
theorem dL_law_331 : decode code 331 = .ok (.iload_n 3, 1) := by decide +kernel
theorem dL_law_332 : decode code 332 = .ok (.iconst 2, 1) := by decide +kernel
theorem dL_law_333 : decode code 333 = .ok (.iadd, 1) := by decide +kernel
theorem dL_law_334 : decode code 334 = .ok (.iaload, 1) := by decide +kernel
theorem dL_law_335 : decode code 335 = .ok (.aload_n 0, 1) := by decide +kernel
theorem dL_law_336 : decode code 336 = .ok (.iload_n 3, 1) := by decide +kernel
theorem dL_law_337 : decode code 337 = .ok (.iconst 3, 1) := by decide +kernel
theorem dL_law_338 : decode code 338 = .ok (.iadd, 1) := by decide +kernel
theorem dL_law_339 : decode code 339 = .ok (.iaload, 1) := by decide +kernel
theorem dL_law_340 : decode code 340 = .ok (.invokevirtual 39, 3) := by decide +kernel
theorem dL_law_343 : decode code 343 = .ok (.if_icmp .eq 371, 3) := by decide +kernel
theorem dL_law_346 : decode code 346 = .ok (.iconst 0, 1) := by decide +kernel
theorem dL_law_347 : decode code 347 = .ok (.ireturn, 1) := by decide +kernel
theorem dL_law_348 : decode code 348 = .ok (.aload_n 1, 1) := by decide +kernel
theorem dL_law_349 : decode code 349 = .ok (.aload_n 0, 1) := by decide +kernel
theorem dL_law_350 : decode code 350 = .ok (.iload_n 3, 1) := by decide +kernel
theorem dL_law_351 : decode code 351 = .ok (.iconst 1, 1) := by decide +kernel
theorem dL_law_352 : decode code 352 = .ok (.iadd, 1) := by decide +kernel
theorem dL_law_353 : decode code 353 = .ok (.iaload, 1) := by decide +kernel
theorem dL_law_354 : decode code 354 = .ok (.invokevirtual 40, 3) := by decide +kernel
theorem dL_law_357 : decode code 357 = .ok (.aload_n 2, 1) := by decide +kernel
theorem dL_law_358 : decode code 358 = .ok (.aload_n 0, 1) := by decide +kernel
theorem dL_law_359 : decode code 359 = .ok (.iload_n 3, 1) := by decide +kernel
theorem dL_law_360 : decode code 360 = .ok (.iconst 1, 1) := by decide +kernel
theorem dL_law_361 : decode code 361 = .ok (.iadd, 1) := by decide +kernel
theorem dL_law_362 : decode code 362 = .ok (.iaload, 1) := by decide +kernel
theorem dL_law_363 : decode code 363 = .ok (.invokevirtual 43, 3) := by decide +kernel
theorem dL_law_366 : decode code 366 = .ok (.if_icmp .eq 348, 3) := by decide +kernel
theorem dL_law_369 : decode code 369 = .ok (.iconst 0, 1) := by decide +kernel
theorem dL_law_370 : decode code 370 = .ok (.ireturn, 1) := by decide +kernel
theorem dL_law_371 : decode code 371 = .ok (.aload_n 1, 1) := by decide +kernel
theorem dL_law_372 : decode code 372 = .ok (.aload_n 0, 1) := by decide +kernel
theorem dL_law_373 : decode code 373 = .ok (.iload_n 3, 1) := by decide +kernel
theorem dL_law_374 : decode code 374 = .ok (.iconst 1, 1) := by decide +kernel
theorem dL_law_375 : decode code 375 = .ok (.iadd, 1) := by decide +kernel
theorem dL_law_376 : decode code 376 = .ok (.iaload, 1) := by decide +kernel
theorem dL_law_377 : decode code 377 = .ok (.aload_n 0, 1) := by decide +kernel
theorem dL_law_378 : decode code 378 = .ok (.iload_n 3, 1) := by decide +kernel
theorem dL_law_379 : decode code 379 = .ok (.iconst 2, 1) := by decide +kernel
theorem dL_law_380 : decode code 380 = .ok (.iadd, 1) := by decide +kernel
theorem dL_law_381 : decode code 381 = .ok (.iaload, 1) := by decide +kernel
theorem dL_law_382 : decode code 382 = .ok (.invokevirtual 44, 3) := by decide +kernel
theorem dL_law_385 : decode code 385 = .ok (.aload_n 2, 1) := by decide +kernel
theorem dL_law_386 : decode code 386 = .ok (.aload_n 0, 1) := by decide +kernel
theorem dL_law_387 : decode code 387 = .ok (.iload_n 3, 1) := by decide +kernel
theorem dL_law_388 : decode code 388 = .ok (.iconst 1, 1) := by decide +kernel
theorem dL_law_389 : decode code 389 = .ok (.iadd, 1) := by decide +kernel
theorem dL_law_390 : decode code 390 = .ok (.iaload, 1) := by decide +kernel
theorem dL_law_391 : decode code 391 = .ok (.aload_n 0, 1) := by decide +kernel
theorem dL_law_392 : decode code 392 = .ok (.iload_n 3, 1) := by decide +kernel
theorem dL_law_393 : decode code 393 = .ok (.iconst 2, 1) := by decide +kernel
theorem dL_law_394 : decode code 394 = .ok (.iadd, 1) := by decide +kernel
theorem dL_law_395 : decode code 395 = .ok (.iaload, 1) := by decide +kernel
theorem dL_law_396 : decode code 396 = .ok (.invokevirtual 47, 3) := by decide +kernel
theorem dL_law_399 : decode code 399 = .ok (.if_icmp .eq 315, 3) := by decide +kernel
theorem dL_law_402 : decode code 402 = .ok (.iconst 0, 1) := by decide +kernel
theorem dL_law_403 : decode code 403 = .ok (.ireturn, 1) := by decide +kernel
theorem dL_law_404 : decode code 404 = .ok (.aload_n 1, 1) := by decide +kernel
theorem dL_law_405 : decode code 405 = .ok (.aload_n 0, 1) := by decide +kernel
theorem dL_law_406 : decode code 406 = .ok (.iload_n 3, 1) := by decide +kernel
theorem dL_law_407 : decode code 407 = .ok (.iconst 1, 1) := by decide +kernel
theorem dL_law_408 : decode code 408 = .ok (.iadd, 1) := by decide +kernel
theorem dL_law_409 : decode code 409 = .ok (.iaload, 1) := by decide +kernel
theorem dL_law_410 : decode code 410 = .ok (.aload_n 0, 1) := by decide +kernel
theorem dL_law_411 : decode code 411 = .ok (.iload_n 3, 1) := by decide +kernel
theorem dL_law_412 : decode code 412 = .ok (.iconst 2, 1) := by decide +kernel
theorem dL_law_413 : decode code 413 = .ok (.iadd, 1) := by decide +kernel
theorem dL_law_414 : decode code 414 = .ok (.iaload, 1) := by decide +kernel
theorem dL_law_415 : decode code 415 = .ok (.invokevirtual 48, 3) := by decide +kernel
theorem dL_law_418 : decode code 418 = .ok (.aload_n 2, 1) := by decide +kernel
theorem dL_law_419 : decode code 419 = .ok (.aload_n 0, 1) := by decide +kernel
theorem dL_law_420 : decode code 420 = .ok (.iload_n 3, 1) := by decide +kernel
theorem dL_law_421 : decode code 421 = .ok (.iconst 1, 1) := by decide +kernel
theorem dL_law_422 : decode code 422 = .ok (.iadd, 1) := by decide +kernel
theorem dL_law_423 : decode code 423 = .ok (.iaload, 1) := by decide +kernel
theorem dL_law_424 : decode code 424 = .ok (.aload_n 0, 1) := by decide +kernel
theorem dL_law_425 : decode code 425 = .ok (.iload_n 3, 1) := by decide +kernel
theorem dL_law_426 : decode code 426 = .ok (.iconst 2, 1) := by decide +kernel
theorem dL_law_427 : decode code 427 = .ok (.iadd, 1) := by decide +kernel
theorem dL_law_428 : decode code 428 = .ok (.iaload, 1) := by decide +kernel
theorem dL_law_429 : decode code 429 = .ok (.invokevirtual 51, 3) := by decide +kernel
theorem dL_law_432 : decode code 432 = .ok (.if_icmp .eq 282, 3) := by decide +kernel
theorem dL_law_435 : decode code 435 = .ok (.iconst 0, 1) := by decide +kernel
theorem dL_law_436 : decode code 436 = .ok (.ireturn, 1) := by decide +kernel
theorem dL_law_437 : decode code 437 = .ok (.aload_n 1, 1) := by decide +kernel
theorem dL_law_438 : decode code 438 = .ok (.aload_n 0, 1) := by decide +kernel
theorem dL_law_439 : decode code 439 = .ok (.iload_n 3, 1) := by decide +kernel
theorem dL_law_440 : decode code 440 = .ok (.iconst 1, 1) := by decide +kernel
theorem dL_law_441 : decode code 441 = .ok (.iadd, 1) := by decide +kernel
theorem dL_law_442 : decode code 442 = .ok (.iaload, 1) := by decide +kernel
theorem dL_law_443 : decode code 443 = .ok (.aload_n 0, 1) := by decide +kernel
theorem dL_law_444 : decode code 444 = .ok (.iload_n 3, 1) := by decide +kernel
theorem dL_law_445 : decode code 445 = .ok (.iconst 2, 1) := by decide +kernel
theorem dL_law_446 : decode code 446 = .ok (.iadd, 1) := by decide +kernel
theorem dL_law_447 : decode code 447 = .ok (.iaload, 1) := by decide +kernel
theorem dL_law_448 : decode code 448 = .ok (.invokevirtual 52, 3) := by decide +kernel
theorem dL_law_451 : decode code 451 = .ok (.aload_n 2, 1) := by decide +kernel
theorem dL_law_452 : decode code 452 = .ok (.aload_n 0, 1) := by decide +kernel
theorem dL_law_453 : decode code 453 = .ok (.iload_n 3, 1) := by decide +kernel
theorem dL_law_454 : decode code 454 = .ok (.iconst 1, 1) := by decide +kernel
theorem dL_law_455 : decode code 455 = .ok (.iadd, 1) := by decide +kernel
theorem dL_law_456 : decode code 456 = .ok (.iaload, 1) := by decide +kernel
theorem dL_law_457 : decode code 457 = .ok (.aload_n 0, 1) := by decide +kernel
theorem dL_law_458 : decode code 458 = .ok (.iload_n 3, 1) := by decide +kernel
theorem dL_law_459 : decode code 459 = .ok (.iconst 2, 1) := by decide +kernel
theorem dL_law_460 : decode code 460 = .ok (.iadd, 1) := by decide +kernel
theorem dL_law_461 : decode code 461 = .ok (.iaload, 1) := by decide +kernel
theorem dL_law_462 : decode code 462 = .ok (.invokevirtual 55, 3) := by decide +kernel
theorem dL_law_465 : decode code 465 = .ok (.if_icmp .eq 249, 3) := by decide +kernel
theorem dL_law_468 : decode code 468 = .ok (.iconst 0, 1) := by decide +kernel
theorem dL_law_469 : decode code 469 = .ok (.ireturn, 1) := by decide +kernel
theorem dL_law_470 : decode code 470 = .ok (.aload_n 1, 1) := by decide +kernel
theorem dL_law_471 : decode code 471 = .ok (.aload_n 0, 1) := by decide +kernel
theorem dL_law_472 : decode code 472 = .ok (.iload_n 3, 1) := by decide +kernel
theorem dL_law_473 : decode code 473 = .ok (.iconst 1, 1) := by decide +kernel
theorem dL_law_474 : decode code 474 = .ok (.iadd, 1) := by decide +kernel
theorem dL_law_475 : decode code 475 = .ok (.iaload, 1) := by decide +kernel
theorem dL_law_476 : decode code 476 = .ok (.aload_n 0, 1) := by decide +kernel
theorem dL_law_477 : decode code 477 = .ok (.iload_n 3, 1) := by decide +kernel
theorem dL_law_478 : decode code 478 = .ok (.iconst 2, 1) := by decide +kernel
theorem dL_law_479 : decode code 479 = .ok (.iadd, 1) := by decide +kernel
theorem dL_law_480 : decode code 480 = .ok (.iaload, 1) := by decide +kernel
theorem dL_law_481 : decode code 481 = .ok (.invokevirtual 56, 3) := by decide +kernel
theorem dL_law_484 : decode code 484 = .ok (.aload_n 2, 1) := by decide +kernel
theorem dL_law_485 : decode code 485 = .ok (.aload_n 0, 1) := by decide +kernel
theorem dL_law_486 : decode code 486 = .ok (.iload_n 3, 1) := by decide +kernel
theorem dL_law_487 : decode code 487 = .ok (.iconst 1, 1) := by decide +kernel
theorem dL_law_488 : decode code 488 = .ok (.iadd, 1) := by decide +kernel
theorem dL_law_489 : decode code 489 = .ok (.iaload, 1) := by decide +kernel
theorem dL_law_490 : decode code 490 = .ok (.aload_n 0, 1) := by decide +kernel
theorem dL_law_491 : decode code 491 = .ok (.iload_n 3, 1) := by decide +kernel
theorem dL_law_492 : decode code 492 = .ok (.iconst 2, 1) := by decide +kernel
theorem dL_law_493 : decode code 493 = .ok (.iadd, 1) := by decide +kernel
theorem dL_law_494 : decode code 494 = .ok (.iaload, 1) := by decide +kernel
theorem dL_law_495 : decode code 495 = .ok (.invokevirtual 59, 3) := by decide +kernel
theorem dL_law_498 : decode code 498 = .ok (.if_icmp .eq 216, 3) := by decide +kernel
theorem dL_law_501 : decode code 501 = .ok (.iconst 0, 1) := by decide +kernel
theorem dL_law_502 : decode code 502 = .ok (.ireturn, 1) := by decide +kernel
theorem dL_law_503 : decode code 503 = .ok (.aload_n 1, 1) := by decide +kernel
theorem dL_law_504 : decode code 504 = .ok (.aload_n 0, 1) := by decide +kernel
theorem dL_law_505 : decode code 505 = .ok (.iload_n 3, 1) := by decide +kernel
theorem dL_law_506 : decode code 506 = .ok (.iconst 1, 1) := by decide +kernel
theorem dL_law_507 : decode code 507 = .ok (.iadd, 1) := by decide +kernel
theorem dL_law_508 : decode code 508 = .ok (.iaload, 1) := by decide +kernel
theorem dL_law_509 : decode code 509 = .ok (.aload_n 0, 1) := by decide +kernel
theorem dL_law_510 : decode code 510 = .ok (.iload_n 3, 1) := by decide +kernel
theorem dL_law_511 : decode code 511 = .ok (.iconst 2, 1) := by decide +kernel
theorem dL_law_512 : decode code 512 = .ok (.iadd, 1) := by decide +kernel
theorem dL_law_513 : decode code 513 = .ok (.iaload, 1) := by decide +kernel
theorem dL_law_514 : decode code 514 = .ok (.invokevirtual 60, 3) := by decide +kernel
theorem dL_law_517 : decode code 517 = .ok (.aload_n 2, 1) := by decide +kernel
theorem dL_law_518 : decode code 518 = .ok (.aload_n 0, 1) := by decide +kernel
theorem dL_law_519 : decode code 519 = .ok (.iload_n 3, 1) := by decide +kernel
theorem dL_law_520 : decode code 520 = .ok (.iconst 1, 1) := by decide +kernel
theorem dL_law_521 : decode code 521 = .ok (.iadd, 1) := by decide +kernel
theorem dL_law_522 : decode code 522 = .ok (.iaload, 1) := by decide +kernel
theorem dL_law_523 : decode code 523 = .ok (.aload_n 0, 1) := by decide +kernel
theorem dL_law_524 : decode code 524 = .ok (.iload_n 3, 1) := by decide +kernel
theorem dL_law_525 : decode code 525 = .ok (.iconst 2, 1) := by decide +kernel
theorem dL_law_526 : decode code 526 = .ok (.iadd, 1) := by decide +kernel
theorem dL_law_527 : decode code 527 = .ok (.iaload, 1) := by decide +kernel
theorem dL_law_528 : decode code 528 = .ok (.invokevirtual 63, 3) := by decide +kernel
theorem dL_law_531 : decode code 531 = .ok (.if_icmp .eq 183, 3) := by decide +kernel
theorem dL_law_534 : decode code 534 = .ok (.iconst 0, 1) := by decide +kernel
theorem dL_law_535 : decode code 535 = .ok (.ireturn, 1) := by decide +kernel
theorem dL_law_536 : decode code 536 = .ok (.aload_n 1, 1) := by decide +kernel
theorem dL_law_537 : decode code 537 = .ok (.aload_n 0, 1) := by decide +kernel
theorem dL_law_538 : decode code 538 = .ok (.iload_n 3, 1) := by decide +kernel
theorem dL_law_539 : decode code 539 = .ok (.iconst 1, 1) := by decide +kernel
theorem dL_law_540 : decode code 540 = .ok (.iadd, 1) := by decide +kernel
theorem dL_law_541 : decode code 541 = .ok (.iaload, 1) := by decide +kernel
theorem dL_law_542 : decode code 542 = .ok (.aload_n 0, 1) := by decide +kernel
theorem dL_law_543 : decode code 543 = .ok (.iload_n 3, 1) := by decide +kernel
theorem dL_law_544 : decode code 544 = .ok (.iconst 2, 1) := by decide +kernel
theorem dL_law_545 : decode code 545 = .ok (.iadd, 1) := by decide +kernel
theorem dL_law_546 : decode code 546 = .ok (.iaload, 1) := by decide +kernel
theorem dL_law_547 : decode code 547 = .ok (.invokevirtual 64, 3) := by decide +kernel
theorem dL_law_550 : decode code 550 = .ok (.aload_n 2, 1) := by decide +kernel
theorem dL_law_551 : decode code 551 = .ok (.aload_n 0, 1) := by decide +kernel
theorem dL_law_552 : decode code 552 = .ok (.iload_n 3, 1) := by decide +kernel
theorem dL_law_553 : decode code 553 = .ok (.iconst 1, 1) := by decide +kernel
theorem dL_law_554 : decode code 554 = .ok (.iadd, 1) := by decide +kernel
theorem dL_law_555 : decode code 555 = .ok (.iaload, 1) := by decide +kernel
theorem dL_law_556 : decode code 556 = .ok (.aload_n 0, 1) := by decide +kernel
theorem dL_law_557 : decode code 557 = .ok (.iload_n 3, 1) := by decide +kernel
theorem dL_law_558 : decode code 558 = .ok (.iconst 2, 1) := by decide +kernel
theorem dL_law_559 : decode code 559 = .ok (.iadd, 1) := by decide +kernel
theorem dL_law_560 : decode code 560 = .ok (.iaload, 1) := by decide +kernel
theorem dL_law_561 : decode code 561 = .ok (.invokevirtual 67, 3) := by decide +kernel
theorem dL_law_564 : decode code 564 = .ok (.if_icmp .eq 150, 3) := by decide +kernel
theorem dL_law_567 : decode code 567 = .ok (.iconst 0, 1) := by decide +kernel
theorem dL_law_568 : decode code 568 = .ok (.ireturn, 1) := by decide +kernel
theorem dL_law_569 : decode code 569 = .ok (.aload_n 1, 1) := by decide +kernel
theorem dL_law_570 : decode code 570 = .ok (.aload_n 0, 1) := by decide +kernel
theorem dL_law_571 : decode code 571 = .ok (.iload_n 3, 1) := by decide +kernel
theorem dL_law_572 : decode code 572 = .ok (.iconst 1, 1) := by decide +kernel
theorem dL_law_573 : decode code 573 = .ok (.iadd, 1) := by decide +kernel
theorem dL_law_574 : decode code 574 = .ok (.iaload, 1) := by decide +kernel
theorem dL_law_575 : decode code 575 = .ok (.invokevirtual 68, 3) := by decide +kernel
theorem dL_law_578 : decode code 578 = .ok (.aload_n 2, 1) := by decide +kernel
theorem dL_law_579 : decode code 579 = .ok (.aload_n 0, 1) := by decide +kernel
theorem dL_law_580 : decode code 580 = .ok (.iload_n 3, 1) := by decide +kernel
theorem dL_law_581 : decode code 581 = .ok (.iconst 1, 1) := by decide +kernel
theorem dL_law_582 : decode code 582 = .ok (.iadd, 1) := by decide +kernel
theorem dL_law_583 : decode code 583 = .ok (.iaload, 1) := by decide +kernel
theorem dL_law_584 : decode code 584 = .ok (.invokevirtual 71, 3) := by decide +kernel
theorem dL_law_587 : decode code 587 = .ok (.if_icmp .eq 127, 3) := by decide +kernel
theorem dL_law_590 : decode code 590 = .ok (.iconst 0, 1) := by decide +kernel
theorem dL_law_591 : decode code 591 = .ok (.ireturn, 1) := by decide +kernel
theorem dL_law_592 : decode code 592 = .ok (.aload_n 1, 1) := by decide +kernel
theorem dL_law_593 : decode code 593 = .ok (.aload_n 0, 1) := by decide +kernel
theorem dL_law_594 : decode code 594 = .ok (.iload_n 3, 1) := by decide +kernel
theorem dL_law_595 : decode code 595 = .ok (.iconst 1, 1) := by decide +kernel
theorem dL_law_596 : decode code 596 = .ok (.iadd, 1) := by decide +kernel
theorem dL_law_597 : decode code 597 = .ok (.iaload, 1) := by decide +kernel
theorem dL_law_598 : decode code 598 = .ok (.invokevirtual 72, 3) := by decide +kernel
theorem dL_law_601 : decode code 601 = .ok (.aload_n 2, 1) := by decide +kernel
theorem dL_law_602 : decode code 602 = .ok (.aload_n 0, 1) := by decide +kernel
theorem dL_law_603 : decode code 603 = .ok (.iload_n 3, 1) := by decide +kernel
theorem dL_law_604 : decode code 604 = .ok (.iconst 1, 1) := by decide +kernel
theorem dL_law_605 : decode code 605 = .ok (.iadd, 1) := by decide +kernel
theorem dL_law_606 : decode code 606 = .ok (.iaload, 1) := by decide +kernel
theorem dL_law_607 : decode code 607 = .ok (.invokevirtual 75, 3) := by decide +kernel
theorem dL_law_610 : decode code 610 = .ok (.if_icmp .eq 104, 3) := by decide +kernel
theorem dL_law_613 : decode code 613 = .ok (.iconst 0, 1) := by decide +kernel
theorem dL_law_614 : decode code 614 = .ok (.ireturn, 1) := by decide +kernel
theorem dL_law_615 : decode code 615 = .ok (.aload_n 1, 1) := by decide +kernel
theorem dL_law_616 : decode code 616 = .ok (.aload_n 0, 1) := by decide +kernel
theorem dL_law_617 : decode code 617 = .ok (.iload_n 3, 1) := by decide +kernel
theorem dL_law_618 : decode code 618 = .ok (.iconst 1, 1) := by decide +kernel
theorem dL_law_619 : decode code 619 = .ok (.iadd, 1) := by decide +kernel
theorem dL_law_620 : decode code 620 = .ok (.iaload, 1) := by decide +kernel
theorem dL_law_621 : decode code 621 = .ok (.aload_n 0, 1) := by decide +kernel
theorem dL_law_622 : decode code 622 = .ok (.iload_n 3, 1) := by decide +kernel
theorem dL_law_623 : decode code 623 = .ok (.iconst 2, 1) := by decide +kernel
theorem dL_law_624 : decode code 624 = .ok (.iadd, 1) := by decide +kernel
theorem dL_law_625 : decode code 625 = .ok (.iaload, 1) := by decide +kernel
theorem dL_law_626 : decode code 626 = .ok (.invokevirtual 76, 3) := by decide +kernel
theorem dL_law_629 : decode code 629 = .ok (.aload_n 2, 1) := by decide +kernel
theorem dL_law_630 : decode code 630 = .ok (.aload_n 0, 1) := by decide +kernel
theorem dL_law_631 : decode code 631 = .ok (.iload_n 3, 1) := by decide +kernel
theorem dL_law_632 : decode code 632 = .ok (.iconst 1, 1) := by decide +kernel
theorem dL_law_633 : decode code 633 = .ok (.iadd, 1) := by decide +kernel
theorem dL_law_634 : decode code 634 = .ok (.iaload, 1) := by decide +kernel
theorem dL_law_635 : decode code 635 = .ok (.aload_n 0, 1) := by decide +kernel
theorem dL_law_636 : decode code 636 = .ok (.iload_n 3, 1) := by decide +kernel
theorem dL_law_637 : decode code 637 = .ok (.iconst 2, 1) := by decide +kernel
theorem dL_law_638 : decode code 638 = .ok (.iadd, 1) := by decide +kernel
theorem dL_law_639 : decode code 639 = .ok (.iaload, 1) := by decide +kernel
theorem dL_law_640 : decode code 640 = .ok (.invokevirtual 79, 3) := by decide +kernel
theorem dL_law_643 : decode code 643 = .ok (.if_icmp .eq 71, 3) := by decide +kernel
theorem dL_law_646 : decode code 646 = .ok (.iconst 0, 1) := by decide +kernel
theorem dL_law_647 : decode code 647 = .ok (.ireturn, 1) := by decide +kernel
theorem dL_law_648 : decode code 648 = .ok (.aload_n 1, 1) := by decide +kernel
theorem dL_law_649 : decode code 649 = .ok (.aload_n 0, 1) := by decide +kernel
theorem dL_law_650 : decode code 650 = .ok (.iload_n 3, 1) := by decide +kernel
theorem dL_law_651 : decode code 651 = .ok (.iconst 1, 1) := by decide +kernel
theorem dL_law_652 : decode code 652 = .ok (.iadd, 1) := by decide +kernel
theorem dL_law_653 : decode code 653 = .ok (.iaload, 1) := by decide +kernel
theorem dL_law_654 : decode code 654 = .ok (.aload_n 0, 1) := by decide +kernel
theorem dL_law_655 : decode code 655 = .ok (.iload_n 3, 1) := by decide +kernel
theorem dL_law_656 : decode code 656 = .ok (.iconst 2, 1) := by decide +kernel
theorem dL_law_657 : decode code 657 = .ok (.iadd, 1) := by decide +kernel
theorem dL_law_658 : decode code 658 = .ok (.iaload, 1) := by decide +kernel
theorem dL_law_659 : decode code 659 = .ok (.aload_n 0, 1) := by decide +kernel
theorem dL_law_660 : decode code 660 = .ok (.iload_n 3, 1) := by decide +kernel
theorem dL_law_661 : decode code 661 = .ok (.iconst 3, 1) := by decide +kernel
theorem dL_law_662 : decode code 662 = .ok (.iadd, 1) := by decide +kernel
theorem dL_law_663 : decode code 663 = .ok (.iaload, 1) := by decide +kernel
theorem dL_law_664 : decode code 664 = .ok (.aload_n 0, 1) := by decide +kernel
theorem dL_law_665 : decode code 665 = .ok (.iload_n 3, 1) := by decide +kernel
theorem dL_law_666 : decode code 666 = .ok (.iconst 4, 1) := by decide +kernel
theorem dL_law_667 : decode code 667 = .ok (.iadd, 1) := by decide +kernel
theorem dL_law_668 : decode code 668 = .ok (.iaload, 1) := by decide +kernel
theorem dL_law_669 : decode code 669 = .ok (.invokevirtual 80, 3) := by decide +kernel
theorem dL_law_672 : decode code 672 = .ok (.aload_n 2, 1) := by decide +kernel
theorem dL_law_673 : decode code 673 = .ok (.aload_n 0, 1) := by decide +kernel
theorem dL_law_674 : decode code 674 = .ok (.iload_n 3, 1) := by decide +kernel
theorem dL_law_675 : decode code 675 = .ok (.iconst 1, 1) := by decide +kernel
theorem dL_law_676 : decode code 676 = .ok (.iadd, 1) := by decide +kernel
theorem dL_law_677 : decode code 677 = .ok (.iaload, 1) := by decide +kernel
theorem dL_law_678 : decode code 678 = .ok (.aload_n 0, 1) := by decide +kernel
theorem dL_law_679 : decode code 679 = .ok (.iload_n 3, 1) := by decide +kernel
theorem dL_law_680 : decode code 680 = .ok (.iconst 2, 1) := by decide +kernel
theorem dL_law_681 : decode code 681 = .ok (.iadd, 1) := by decide +kernel
theorem dL_law_682 : decode code 682 = .ok (.iaload, 1) := by decide +kernel
theorem dL_law_683 : decode code 683 = .ok (.aload_n 0, 1) := by decide +kernel
theorem dL_law_684 : decode code 684 = .ok (.iload_n 3, 1) := by decide +kernel
theorem dL_law_685 : decode code 685 = .ok (.iconst 3, 1) := by decide +kernel
theorem dL_law_686 : decode code 686 = .ok (.iadd, 1) := by decide +kernel
theorem dL_law_687 : decode code 687 = .ok (.iaload, 1) := by decide +kernel
theorem dL_law_688 : decode code 688 = .ok (.aload_n 0, 1) := by decide +kernel
theorem dL_law_689 : decode code 689 = .ok (.iload_n 3, 1) := by decide +kernel
theorem dL_law_690 : decode code 690 = .ok (.iconst 4, 1) := by decide +kernel
theorem dL_law_691 : decode code 691 = .ok (.iadd, 1) := by decide +kernel
theorem dL_law_692 : decode code 692 = .ok (.iaload, 1) := by decide +kernel
theorem dL_law_693 : decode code 693 = .ok (.invokevirtual 84, 3) := by decide +kernel
theorem dL_law_696 : decode code 696 = .ok (.if_icmp .eq 18, 3) := by decide +kernel
theorem dL_law_699 : decode code 699 = .ok (.iconst 0, 1) := by decide +kernel
theorem dL_law_700 : decode code 700 = .ok (.ireturn, 1) := by decide +kernel
theorem dL_law_701 : decode code 701 = .ok (.aload_n 1, 1) := by decide +kernel
theorem dL_law_702 : decode code 702 = .ok (.invokevirtual 85, 3) := by decide +kernel
theorem dL_law_705 : decode code 705 = .ok (.aload_n 2, 1) := by decide +kernel
theorem dL_law_706 : decode code 706 = .ok (.invokevirtual 89, 3) := by decide +kernel
theorem dL_law_709 : decode code 709 = .ok (.if_icmp .eq 5, 3) := by decide +kernel
theorem dL_law_712 : decode code 712 = .ok (.iconst 0, 1) := by decide +kernel
theorem dL_law_713 : decode code 713 = .ok (.ireturn, 1) := by decide +kernel
theorem dL_law_714 : decode code 714 = .ok (.iinc 3 5, 3) := by decide +kernel
theorem dL_law_717 : decode code 717 = .ok (.goto (-699), 3) := by decide +kernel
theorem dL_law_720 : decode code 720 = .ok (.iconst 1, 1) := by decide +kernel
theorem dL_law_721 : decode code 721 = .ok (.ireturn, 1) := by decide +kernel
