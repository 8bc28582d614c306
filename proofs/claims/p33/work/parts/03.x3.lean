theorem dX3_init_0 : decode cX3_init 0 = .ok (.aload_n 0, 1) := by decide +kernel
theorem dX3_init_1 : decode cX3_init 1 = .ok (.invokespecial 3, 3) := by decide +kernel
theorem dX3_init_4 : decode cX3_init 4 = .ok (.aload_n 0, 1) := by decide +kernel
theorem dX3_init_5 : decode cX3_init 5 = .ok (.bipush 10, 2) := by decide +kernel
theorem dX3_init_7 : decode cX3_init 7 = .ok (.anewarray 9, 3) := by decide +kernel
theorem dX3_init_10 : decode cX3_init 10 = .ok (.putfield 11, 3) := by decide +kernel
theorem dX3_init_13 : decode cX3_init 13 = .ok (.aload_n 0, 1) := by decide +kernel
theorem dX3_init_14 : decode cX3_init 14 = .ok (.iconst 3, 1) := by decide +kernel
theorem dX3_init_15 : decode cX3_init 15 = .ok (.anewarray 15, 3) := by decide +kernel
theorem dX3_init_18 : decode cX3_init 18 = .ok (.putfield 17, 3) := by decide +kernel
theorem dX3_init_21 : decode cX3_init 21 = .ok (.aload_n 0, 1) := by decide +kernel
theorem dX3_init_22 : decode cX3_init 22 = .ok (.iconst 3, 1) := by decide +kernel
theorem dX3_init_23 : decode cX3_init 23 = .ok (.anewarray 21, 3) := by decide +kernel
theorem dX3_init_26 : decode cX3_init 26 = .ok (.putfield 23, 3) := by decide +kernel
theorem dX3_init_29 : decode cX3_init 29 = .ok (.aload_n 0, 1) := by decide +kernel
theorem dX3_init_30 : decode cX3_init 30 = .ok (.iconst 1, 1) := by decide +kernel
theorem dX3_init_31 : decode cX3_init 31 = .ok (.putfield 27, 3) := by decide +kernel
theorem dX3_init_34 : decode cX3_init 34 = .ok (.aload_n 0, 1) := by decide +kernel
theorem dX3_init_35 : decode cX3_init 35 = .ok (.iconst 2, 1) := by decide +kernel
theorem dX3_init_36 : decode cX3_init 36 = .ok (.putfield 31, 3) := by decide +kernel
theorem dX3_init_39 : decode cX3_init 39 = .ok (.aload_n 0, 1) := by decide +kernel
theorem dX3_init_40 : decode cX3_init 40 = .ok (.iconst 1, 1) := by decide +kernel
theorem dX3_init_41 : decode cX3_init 41 = .ok (.putfield 35, 3) := by decide +kernel
theorem dX3_init_44 : decode cX3_init 44 = .ok (.aload_n 0, 1) := by decide +kernel
theorem dX3_init_45 : decode cX3_init 45 = .ok (.iconst (-1), 1) := by decide +kernel
theorem dX3_init_46 : decode cX3_init 46 = .ok (.putfield 38, 3) := by decide +kernel
theorem dX3_init_49 : decode cX3_init 49 = .ok (.iconst 0, 1) := by decide +kernel
theorem dX3_init_50 : decode cX3_init 50 = .ok (.istore_n 1, 1) := by decide +kernel
theorem dX3_init_51 : decode cX3_init 51 = .ok (.iload_n 1, 1) := by decide +kernel
theorem dX3_init_52 : decode cX3_init 52 = .ok (.aload_n 0, 1) := by decide +kernel
theorem dX3_init_53 : decode cX3_init 53 = .ok (.getfield 11, 3) := by decide +kernel
theorem dX3_init_56 : decode cX3_init 56 = .ok (.arraylength, 1) := by decide +kernel
theorem dX3_init_57 : decode cX3_init 57 = .ok (.if_icmp .ge 23, 3) := by decide +kernel
theorem dX3_init_60 : decode cX3_init 60 = .ok (.aload_n 0, 1) := by decide +kernel
theorem dX3_init_61 : decode cX3_init 61 = .ok (.getfield 11, 3) := by decide +kernel
theorem dX3_init_64 : decode cX3_init 64 = .ok (.iload_n 1, 1) := by decide +kernel
theorem dX3_init_65 : decode cX3_init 65 = .ok (.new 9, 3) := by decide +kernel
theorem dX3_init_68 : decode cX3_init 68 = .ok (.dup, 1) := by decide +kernel
theorem dX3_init_69 : decode cX3_init 69 = .ok (.iload_n 1, 1) := by decide +kernel
theorem dX3_init_70 : decode cX3_init 70 = .ok (.invokespecial 41, 3) := by decide +kernel
theorem dX3_init_73 : decode cX3_init 73 = .ok (.aastore, 1) := by decide +kernel
theorem dX3_init_74 : decode cX3_init 74 = .ok (.iinc 1 1, 3) := by decide +kernel
theorem dX3_init_77 : decode cX3_init 77 = .ok (.goto (-26), 3) := by decide +kernel
theorem dX3_init_80 : decode cX3_init 80 = .ok (.iconst 0, 1) := by decide +kernel
theorem dX3_init_81 : decode cX3_init 81 = .ok (.istore_n 1, 1) := by decide +kernel
theorem dX3_init_82 : decode cX3_init 82 = .ok (.iload_n 1, 1) := by decide +kernel
theorem dX3_init_83 : decode cX3_init 83 = .ok (.aload_n 0, 1) := by decide +kernel
theorem dX3_init_84 : decode cX3_init 84 = .ok (.getfield 17, 3) := by decide +kernel
theorem dX3_init_87 : decode cX3_init 87 = .ok (.arraylength, 1) := by decide +kernel
theorem dX3_init_88 : decode cX3_init 88 = .ok (.if_icmp .ge 22, 3) := by decide +kernel
theorem dX3_init_91 : decode cX3_init 91 = .ok (.aload_n 0, 1) := by decide +kernel
theorem dX3_init_92 : decode cX3_init 92 = .ok (.getfield 17, 3) := by decide +kernel
theorem dX3_init_95 : decode cX3_init 95 = .ok (.iload_n 1, 1) := by decide +kernel
theorem dX3_init_96 : decode cX3_init 96 = .ok (.new 15, 3) := by decide +kernel
theorem dX3_init_99 : decode cX3_init 99 = .ok (.dup, 1) := by decide +kernel
theorem dX3_init_100 : decode cX3_init 100 = .ok (.invokespecial 44, 3) := by decide +kernel
theorem dX3_init_103 : decode cX3_init 103 = .ok (.aastore, 1) := by decide +kernel
theorem dX3_init_104 : decode cX3_init 104 = .ok (.iinc 1 1, 3) := by decide +kernel
theorem dX3_init_107 : decode cX3_init 107 = .ok (.goto (-25), 3) := by decide +kernel
theorem dX3_init_110 : decode cX3_init 110 = .ok (.iconst 0, 1) := by decide +kernel
theorem dX3_init_111 : decode cX3_init 111 = .ok (.istore_n 1, 1) := by decide +kernel
theorem dX3_init_112 : decode cX3_init 112 = .ok (.iload_n 1, 1) := by decide +kernel
theorem dX3_init_113 : decode cX3_init 113 = .ok (.aload_n 0, 1) := by decide +kernel
theorem dX3_init_114 : decode cX3_init 114 = .ok (.getfield 23, 3) := by decide +kernel
theorem dX3_init_117 : decode cX3_init 117 = .ok (.arraylength, 1) := by decide +kernel
theorem dX3_init_118 : decode cX3_init 118 = .ok (.if_icmp .ge 22, 3) := by decide +kernel
theorem dX3_init_121 : decode cX3_init 121 = .ok (.aload_n 0, 1) := by decide +kernel
theorem dX3_init_122 : decode cX3_init 122 = .ok (.getfield 23, 3) := by decide +kernel
theorem dX3_init_125 : decode cX3_init 125 = .ok (.iload_n 1, 1) := by decide +kernel
theorem dX3_init_126 : decode cX3_init 126 = .ok (.new 21, 3) := by decide +kernel
theorem dX3_init_129 : decode cX3_init 129 = .ok (.dup, 1) := by decide +kernel
theorem dX3_init_130 : decode cX3_init 130 = .ok (.invokespecial 45, 3) := by decide +kernel
theorem dX3_init_133 : decode cX3_init 133 = .ok (.aastore, 1) := by decide +kernel
theorem dX3_init_134 : decode cX3_init 134 = .ok (.iinc 1 1, 3) := by decide +kernel
theorem dX3_init_137 : decode cX3_init 137 = .ok (.goto (-25), 3) := by decide +kernel
theorem dX3_init_140 : decode cX3_init 140 = .ok (.return_, 1) := by decide +kernel
set_option maxRecDepth 20000 in
theorem ggX3_addLoad_X3_isOutside : GoodIn wsX3_addLoad wsX3_isOutside := goodIn_r _ [11] (by decide +kernel) (by decide +kernel)
set_option maxRecDepth 20000 in
theorem gX3_addLoad_X3_isOutside : GoodIn wsX3_addLoad (va_wsS RX3 46 yX3_isOutside wsX3_isOutside) := goodIn_app (goodIn_of _ (by decide +kernel)) ggX3_addLoad_X3_isOutside
set_option maxRecDepth 20000 in
theorem ggX3_addLoad_X2_install : GoodIn wsX3_addLoad wsX2_install := goodIn_r _ [16, 17, 18, 19, 36, 37, 38, 39, 40, 41] (by decide +kernel) (by decide +kernel)
set_option maxRecDepth 20000 in
theorem gX3_addLoad_X2_install : GoodIn wsX3_addLoad (wsV RX3 65 RX2 yX2_install wsX2_install) := goodIn_app (goodIn_of _ (by decide +kernel)) ggX3_addLoad_X2_install
theorem dX3_addLoad_0 : decode cX3_addLoad 0 = .ok (.iload_n 1, 1) := by decide +kernel
theorem dX3_addLoad_1 : decode cX3_addLoad 1 = .ok (.iconst 1, 1) := by decide +kernel
theorem dX3_addLoad_2 : decode cX3_addLoad 2 = .ok (.iconst 5, 1) := by decide +kernel
theorem dX3_addLoad_3 : decode cX3_addLoad 3 = .ok (.invokestatic 46, 3) := by decide +kernel
theorem dX3_addLoad_6 : decode cX3_addLoad 6 = .ok (.ifCond .ne 14, 3) := by decide +kernel
theorem dX3_addLoad_9 : decode cX3_addLoad 9 = .ok (.iload_n 2, 1) := by decide +kernel
theorem dX3_addLoad_10 : decode cX3_addLoad 10 = .ok (.iconst 1, 1) := by decide +kernel
theorem dX3_addLoad_11 : decode cX3_addLoad 11 = .ok (.sipush 500, 3) := by decide +kernel
theorem dX3_addLoad_14 : decode cX3_addLoad 14 = .ok (.invokestatic 46, 3) := by decide +kernel
theorem dX3_addLoad_17 : decode cX3_addLoad 17 = .ok (.ifCond .eq 13, 3) := by decide +kernel
theorem dX3_addLoad_20 : decode cX3_addLoad 20 = .ok (.new 50, 3) := by decide +kernel
theorem dX3_addLoad_23 : decode cX3_addLoad 23 = .ok (.dup, 1) := by decide +kernel
theorem dX3_addLoad_24 : decode cX3_addLoad 24 = .ok (.ldc 52, 2) := by decide +kernel
theorem dX3_addLoad_26 : decode cX3_addLoad 26 = .ok (.invokespecial 54, 3) := by decide +kernel
theorem dX3_addLoad_29 : decode cX3_addLoad 29 = .ok (.athrow, 1) := by decide +kernel
theorem dX3_addLoad_30 : decode cX3_addLoad 30 = .ok (.aload_n 0, 1) := by decide +kernel
theorem dX3_addLoad_31 : decode cX3_addLoad 31 = .ok (.getfield 57, 3) := by decide +kernel
theorem dX3_addLoad_34 : decode cX3_addLoad 34 = .ok (.aload_n 0, 1) := by decide +kernel
theorem dX3_addLoad_35 : decode cX3_addLoad 35 = .ok (.getfield 11, 3) := by decide +kernel
theorem dX3_addLoad_38 : decode cX3_addLoad 38 = .ok (.arraylength, 1) := by decide +kernel
theorem dX3_addLoad_39 : decode cX3_addLoad 39 = .ok (.if_icmp .lt 13, 3) := by decide +kernel
theorem dX3_addLoad_42 : decode cX3_addLoad 42 = .ok (.new 60, 3) := by decide +kernel
theorem dX3_addLoad_45 : decode cX3_addLoad 45 = .ok (.dup, 1) := by decide +kernel
theorem dX3_addLoad_46 : decode cX3_addLoad 46 = .ok (.ldc 62, 2) := by decide +kernel
theorem dX3_addLoad_48 : decode cX3_addLoad 48 = .ok (.invokespecial 64, 3) := by decide +kernel
theorem dX3_addLoad_51 : decode cX3_addLoad 51 = .ok (.athrow, 1) := by decide +kernel
theorem dX3_addLoad_52 : decode cX3_addLoad 52 = .ok (.aload_n 0, 1) := by decide +kernel
theorem dX3_addLoad_53 : decode cX3_addLoad 53 = .ok (.getfield 11, 3) := by decide +kernel
theorem dX3_addLoad_56 : decode cX3_addLoad 56 = .ok (.aload_n 0, 1) := by decide +kernel
theorem dX3_addLoad_57 : decode cX3_addLoad 57 = .ok (.getfield 57, 3) := by decide +kernel
theorem dX3_addLoad_60 : decode cX3_addLoad 60 = .ok (.aaload, 1) := by decide +kernel
theorem dX3_addLoad_61 : decode cX3_addLoad 61 = .ok (.iload_n 1, 1) := by decide +kernel
theorem dX3_addLoad_62 : decode cX3_addLoad 62 = .ok (.iload_n 2, 1) := by decide +kernel
theorem dX3_addLoad_63 : decode cX3_addLoad 63 = .ok (.aload_n 0, 1) := by decide +kernel
theorem dX3_addLoad_64 : decode cX3_addLoad 64 = .ok (.getfield 27, 3) := by decide +kernel
theorem dX3_addLoad_67 : decode cX3_addLoad 67 = .ok (.ifCond .eq 7, 3) := by decide +kernel
theorem dX3_addLoad_70 : decode cX3_addLoad 70 = .ok (.iconst 1, 1) := by decide +kernel
theorem dX3_addLoad_71 : decode cX3_addLoad 71 = .ok (.goto 4, 3) := by decide +kernel
theorem dX3_addLoad_74 : decode cX3_addLoad 74 = .ok (.iconst 2, 1) := by decide +kernel
theorem dX3_addLoad_75 : decode cX3_addLoad 75 = .ok (.invokevirtual 65, 3) := by decide +kernel
theorem dX3_addLoad_78 : decode cX3_addLoad 78 = .ok (.aload_n 0, 1) := by decide +kernel
theorem dX3_addLoad_79 : decode cX3_addLoad 79 = .ok (.dup, 1) := by decide +kernel
theorem dX3_addLoad_80 : decode cX3_addLoad 80 = .ok (.getfield 57, 3) := by decide +kernel
theorem dX3_addLoad_83 : decode cX3_addLoad 83 = .ok (.iconst 1, 1) := by decide +kernel
theorem dX3_addLoad_84 : decode cX3_addLoad 84 = .ok (.iadd, 1) := by decide +kernel
theorem dX3_addLoad_85 : decode cX3_addLoad 85 = .ok (.putfield 57, 3) := by decide +kernel
theorem dX3_addLoad_88 : decode cX3_addLoad 88 = .ok (.aload_n 0, 1) := by decide +kernel
theorem dX3_addLoad_89 : decode cX3_addLoad 89 = .ok (.getfield 57, 3) := by decide +kernel
theorem dX3_addLoad_92 : decode cX3_addLoad 92 = .ok (.iconst 1, 1) := by decide +kernel
theorem dX3_addLoad_93 : decode cX3_addLoad 93 = .ok (.isub, 1) := by decide +kernel
theorem dX3_addLoad_94 : decode cX3_addLoad 94 = .ok (.ireturn, 1) := by decide +kernel
set_option maxRecDepth 20000 in
theorem ggX3_addBattery_X3_isOutside : GoodIn wsX3_addBattery wsX3_isOutside := goodIn_r _ [10] (by decide +kernel) (by decide +kernel)
set_option maxRecDepth 20000 in
theorem gX3_addBattery_X3_isOutside : GoodIn wsX3_addBattery (va_wsS RX3 46 yX3_isOutside wsX3_isOutside) := goodIn_app (goodIn_of _ (by decide +kernel)) ggX3_addBattery_X3_isOutside
set_option maxRecDepth 20000 in
theorem ggX3_addBattery_X0_install : GoodIn wsX3_addBattery wsX0_install := goodIn_r _ [15, 16, 17, 18, 19, 36, 37, 38, 39, 40, 41] (by decide +kernel) (by decide +kernel)
set_option maxRecDepth 20000 in
theorem gX3_addBattery_X0_install : GoodIn wsX3_addBattery (wsV RX3 76 RX0 yX0_install wsX0_install) := goodIn_app (goodIn_of _ (by decide +kernel)) ggX3_addBattery_X0_install
theorem dX3_addBattery_0 : decode cX3_addBattery 0 = .ok (.iload_n 1, 1) := by decide +kernel
theorem dX3_addBattery_1 : decode cX3_addBattery 1 = .ok (.iconst 1, 1) := by decide +kernel
theorem dX3_addBattery_2 : decode cX3_addBattery 2 = .ok (.sipush 20000, 3) := by decide +kernel
theorem dX3_addBattery_5 : decode cX3_addBattery 5 = .ok (.invokestatic 46, 3) := by decide +kernel
theorem dX3_addBattery_8 : decode cX3_addBattery 8 = .ok (.ifCond .ne 25, 3) := by decide +kernel
theorem dX3_addBattery_11 : decode cX3_addBattery 11 = .ok (.iload_n 2, 1) := by decide +kernel
theorem dX3_addBattery_12 : decode cX3_addBattery 12 = .ok (.iconst 1, 1) := by decide +kernel
theorem dX3_addBattery_13 : decode cX3_addBattery 13 = .ok (.sipush 500, 3) := by decide +kernel
theorem dX3_addBattery_16 : decode cX3_addBattery 16 = .ok (.invokestatic 46, 3) := by decide +kernel
theorem dX3_addBattery_19 : decode cX3_addBattery 19 = .ok (.ifCond .ne 14, 3) := by decide +kernel
theorem dX3_addBattery_22 : decode cX3_addBattery 22 = .ok (.iload_n 3, 1) := by decide +kernel
theorem dX3_addBattery_23 : decode cX3_addBattery 23 = .ok (.iconst 1, 1) := by decide +kernel
theorem dX3_addBattery_24 : decode cX3_addBattery 24 = .ok (.sipush 500, 3) := by decide +kernel
theorem dX3_addBattery_27 : decode cX3_addBattery 27 = .ok (.invokestatic 46, 3) := by decide +kernel
theorem dX3_addBattery_30 : decode cX3_addBattery 30 = .ok (.ifCond .eq 13, 3) := by decide +kernel
theorem dX3_addBattery_33 : decode cX3_addBattery 33 = .ok (.new 50, 3) := by decide +kernel
theorem dX3_addBattery_36 : decode cX3_addBattery 36 = .ok (.dup, 1) := by decide +kernel
theorem dX3_addBattery_37 : decode cX3_addBattery 37 = .ok (.ldc 69, 2) := by decide +kernel
theorem dX3_addBattery_39 : decode cX3_addBattery 39 = .ok (.invokespecial 54, 3) := by decide +kernel
theorem dX3_addBattery_42 : decode cX3_addBattery 42 = .ok (.athrow, 1) := by decide +kernel
theorem dX3_addBattery_43 : decode cX3_addBattery 43 = .ok (.aload_n 0, 1) := by decide +kernel
theorem dX3_addBattery_44 : decode cX3_addBattery 44 = .ok (.getfield 71, 3) := by decide +kernel
theorem dX3_addBattery_47 : decode cX3_addBattery 47 = .ok (.aload_n 0, 1) := by decide +kernel
theorem dX3_addBattery_48 : decode cX3_addBattery 48 = .ok (.getfield 17, 3) := by decide +kernel
theorem dX3_addBattery_51 : decode cX3_addBattery 51 = .ok (.arraylength, 1) := by decide +kernel
theorem dX3_addBattery_52 : decode cX3_addBattery 52 = .ok (.if_icmp .lt 13, 3) := by decide +kernel
theorem dX3_addBattery_55 : decode cX3_addBattery 55 = .ok (.new 60, 3) := by decide +kernel
theorem dX3_addBattery_58 : decode cX3_addBattery 58 = .ok (.dup, 1) := by decide +kernel
theorem dX3_addBattery_59 : decode cX3_addBattery 59 = .ok (.ldc 74, 2) := by decide +kernel
theorem dX3_addBattery_61 : decode cX3_addBattery 61 = .ok (.invokespecial 64, 3) := by decide +kernel
theorem dX3_addBattery_64 : decode cX3_addBattery 64 = .ok (.athrow, 1) := by decide +kernel
theorem dX3_addBattery_65 : decode cX3_addBattery 65 = .ok (.aload_n 0, 1) := by decide +kernel
theorem dX3_addBattery_66 : decode cX3_addBattery 66 = .ok (.getfield 17, 3) := by decide +kernel
theorem dX3_addBattery_69 : decode cX3_addBattery 69 = .ok (.aload_n 0, 1) := by decide +kernel
theorem dX3_addBattery_70 : decode cX3_addBattery 70 = .ok (.getfield 71, 3) := by decide +kernel
theorem dX3_addBattery_73 : decode cX3_addBattery 73 = .ok (.aaload, 1) := by decide +kernel
theorem dX3_addBattery_74 : decode cX3_addBattery 74 = .ok (.iload_n 1, 1) := by decide +kernel
theorem dX3_addBattery_75 : decode cX3_addBattery 75 = .ok (.iload_n 2, 1) := by decide +kernel
theorem dX3_addBattery_76 : decode cX3_addBattery 76 = .ok (.iload_n 3, 1) := by decide +kernel
theorem dX3_addBattery_77 : decode cX3_addBattery 77 = .ok (.invokevirtual 76, 3) := by decide +kernel
theorem dX3_addBattery_80 : decode cX3_addBattery 80 = .ok (.aload_n 0, 1) := by decide +kernel
theorem dX3_addBattery_81 : decode cX3_addBattery 81 = .ok (.dup, 1) := by decide +kernel
theorem dX3_addBattery_82 : decode cX3_addBattery 82 = .ok (.getfield 71, 3) := by decide +kernel
theorem dX3_addBattery_85 : decode cX3_addBattery 85 = .ok (.iconst 1, 1) := by decide +kernel
theorem dX3_addBattery_86 : decode cX3_addBattery 86 = .ok (.iadd, 1) := by decide +kernel
theorem dX3_addBattery_87 : decode cX3_addBattery 87 = .ok (.putfield 71, 3) := by decide +kernel
theorem dX3_addBattery_90 : decode cX3_addBattery 90 = .ok (.aload_n 0, 1) := by decide +kernel
theorem dX3_addBattery_91 : decode cX3_addBattery 91 = .ok (.getfield 71, 3) := by decide +kernel
theorem dX3_addBattery_94 : decode cX3_addBattery 94 = .ok (.iconst 1, 1) := by decide +kernel
theorem dX3_addBattery_95 : decode cX3_addBattery 95 = .ok (.isub, 1) := by decide +kernel
theorem dX3_addBattery_96 : decode cX3_addBattery 96 = .ok (.ireturn, 1) := by decide +kernel
set_option maxRecDepth 20000 in
theorem ggX3_addGenerator_X3_isOutside : GoodIn wsX3_addGenerator wsX3_isOutside := goodIn_r _ [10] (by decide +kernel) (by decide +kernel)
set_option maxRecDepth 20000 in
theorem gX3_addGenerator_X3_isOutside : GoodIn wsX3_addGenerator (va_wsS RX3 46 yX3_isOutside wsX3_isOutside) := goodIn_app (goodIn_of _ (by decide +kernel)) ggX3_addGenerator_X3_isOutside
set_option maxRecDepth 20000 in
theorem ggX3_addGenerator_X1_install : GoodIn wsX3_addGenerator wsX1_install := goodIn_r _ [15, 16, 17, 18, 19, 36, 37, 38, 39, 40, 41, 42, 43, 44, 45, 46, 47, 48, 49, 50] (by decide +kernel) (by decide +kernel)
set_option maxRecDepth 20000 in
theorem gX3_addGenerator_X1_install : GoodIn wsX3_addGenerator (wsV RX3 84 RX1 yX1_install wsX1_install) := goodIn_app (goodIn_of _ (by decide +kernel)) ggX3_addGenerator_X1_install
theorem dX3_addGenerator_0 : decode cX3_addGenerator 0 = .ok (.iload_n 1, 1) := by decide +kernel
theorem dX3_addGenerator_1 : decode cX3_addGenerator 1 = .ok (.iconst 1, 1) := by decide +kernel
theorem dX3_addGenerator_2 : decode cX3_addGenerator 2 = .ok (.sipush 1000, 3) := by decide +kernel
theorem dX3_addGenerator_5 : decode cX3_addGenerator 5 = .ok (.invokestatic 46, 3) := by decide +kernel
theorem dX3_addGenerator_8 : decode cX3_addGenerator 8 = .ok (.ifCond .ne 24, 3) := by decide +kernel
theorem dX3_addGenerator_11 : decode cX3_addGenerator 11 = .ok (.iload_n 2, 1) := by decide +kernel
theorem dX3_addGenerator_12 : decode cX3_addGenerator 12 = .ok (.iconst 1, 1) := by decide +kernel
theorem dX3_addGenerator_13 : decode cX3_addGenerator 13 = .ok (.bipush 10, 2) := by decide +kernel
theorem dX3_addGenerator_15 : decode cX3_addGenerator 15 = .ok (.invokestatic 46, 3) := by decide +kernel
theorem dX3_addGenerator_18 : decode cX3_addGenerator 18 = .ok (.ifCond .ne 14, 3) := by decide +kernel
theorem dX3_addGenerator_21 : decode cX3_addGenerator 21 = .ok (.iload_n 3, 1) := by decide +kernel
theorem dX3_addGenerator_22 : decode cX3_addGenerator 22 = .ok (.iconst 1, 1) := by decide +kernel
theorem dX3_addGenerator_23 : decode cX3_addGenerator 23 = .ok (.sipush 1000, 3) := by decide +kernel
theorem dX3_addGenerator_26 : decode cX3_addGenerator 26 = .ok (.invokestatic 46, 3) := by decide +kernel
theorem dX3_addGenerator_29 : decode cX3_addGenerator 29 = .ok (.ifCond .eq 13, 3) := by decide +kernel
theorem dX3_addGenerator_32 : decode cX3_addGenerator 32 = .ok (.new 50, 3) := by decide +kernel
theorem dX3_addGenerator_35 : decode cX3_addGenerator 35 = .ok (.dup, 1) := by decide +kernel
theorem dX3_addGenerator_36 : decode cX3_addGenerator 36 = .ok (.ldc 77, 2) := by decide +kernel
theorem dX3_addGenerator_38 : decode cX3_addGenerator 38 = .ok (.invokespecial 54, 3) := by decide +kernel
theorem dX3_addGenerator_41 : decode cX3_addGenerator 41 = .ok (.athrow, 1) := by decide +kernel
theorem dX3_addGenerator_42 : decode cX3_addGenerator 42 = .ok (.aload_n 0, 1) := by decide +kernel
theorem dX3_addGenerator_43 : decode cX3_addGenerator 43 = .ok (.getfield 79, 3) := by decide +kernel
theorem dX3_addGenerator_46 : decode cX3_addGenerator 46 = .ok (.aload_n 0, 1) := by decide +kernel
theorem dX3_addGenerator_47 : decode cX3_addGenerator 47 = .ok (.getfield 23, 3) := by decide +kernel
theorem dX3_addGenerator_50 : decode cX3_addGenerator 50 = .ok (.arraylength, 1) := by decide +kernel
theorem dX3_addGenerator_51 : decode cX3_addGenerator 51 = .ok (.if_icmp .lt 13, 3) := by decide +kernel
theorem dX3_addGenerator_54 : decode cX3_addGenerator 54 = .ok (.new 60, 3) := by decide +kernel
theorem dX3_addGenerator_57 : decode cX3_addGenerator 57 = .ok (.dup, 1) := by decide +kernel
theorem dX3_addGenerator_58 : decode cX3_addGenerator 58 = .ok (.ldc 82, 2) := by decide +kernel
theorem dX3_addGenerator_60 : decode cX3_addGenerator 60 = .ok (.invokespecial 64, 3) := by decide +kernel
theorem dX3_addGenerator_63 : decode cX3_addGenerator 63 = .ok (.athrow, 1) := by decide +kernel
theorem dX3_addGenerator_64 : decode cX3_addGenerator 64 = .ok (.aload_n 0, 1) := by decide +kernel
theorem dX3_addGenerator_65 : decode cX3_addGenerator 65 = .ok (.getfield 23, 3) := by decide +kernel
theorem dX3_addGenerator_68 : decode cX3_addGenerator 68 = .ok (.aload_n 0, 1) := by decide +kernel
theorem dX3_addGenerator_69 : decode cX3_addGenerator 69 = .ok (.getfield 79, 3) := by decide +kernel
theorem dX3_addGenerator_72 : decode cX3_addGenerator 72 = .ok (.aaload, 1) := by decide +kernel
theorem dX3_addGenerator_73 : decode cX3_addGenerator 73 = .ok (.iload_n 1, 1) := by decide +kernel
theorem dX3_addGenerator_74 : decode cX3_addGenerator 74 = .ok (.iload_n 2, 1) := by decide +kernel
theorem dX3_addGenerator_75 : decode cX3_addGenerator 75 = .ok (.iload_n 3, 1) := by decide +kernel
theorem dX3_addGenerator_76 : decode cX3_addGenerator 76 = .ok (.invokevirtual 84, 3) := by decide +kernel
theorem dX3_addGenerator_79 : decode cX3_addGenerator 79 = .ok (.aload_n 0, 1) := by decide +kernel
theorem dX3_addGenerator_80 : decode cX3_addGenerator 80 = .ok (.dup, 1) := by decide +kernel
theorem dX3_addGenerator_81 : decode cX3_addGenerator 81 = .ok (.getfield 79, 3) := by decide +kernel
theorem dX3_addGenerator_84 : decode cX3_addGenerator 84 = .ok (.iconst 1, 1) := by decide +kernel
theorem dX3_addGenerator_85 : decode cX3_addGenerator 85 = .ok (.iadd, 1) := by decide +kernel
theorem dX3_addGenerator_86 : decode cX3_addGenerator 86 = .ok (.putfield 79, 3) := by decide +kernel
theorem dX3_addGenerator_89 : decode cX3_addGenerator 89 = .ok (.aload_n 0, 1) := by decide +kernel
theorem dX3_addGenerator_90 : decode cX3_addGenerator 90 = .ok (.getfield 79, 3) := by decide +kernel
theorem dX3_addGenerator_93 : decode cX3_addGenerator 93 = .ok (.iconst 1, 1) := by decide +kernel
theorem dX3_addGenerator_94 : decode cX3_addGenerator 94 = .ok (.isub, 1) := by decide +kernel
theorem dX3_addGenerator_95 : decode cX3_addGenerator 95 = .ok (.ireturn, 1) := by decide +kernel
set_option maxRecDepth 20000 in
theorem ggX3_switchLoad_X3_findLoad : GoodIn wsX3_switchLoad wsX3_findLoad := goodIn_ca (goodIn_r _ [6, 7, 8, 9, 10, 17, 18, 19, 20, 21, 22, 23, 24, 25, 26, 27, 28, 29, 30, 31, 32] (by decide +kernel) (by decide +kernel)) (goodIn_sub (fun _ h => List.mem_cons_of_mem _ (List.mem_append_right _ h)) (by decide +kernel))
set_option maxRecDepth 20000 in
theorem gX3_switchLoad_X3_findLoad : GoodIn wsX3_switchLoad (wsV RX3 85 RX3 yX3_findLoad wsX3_findLoad) := goodIn_app (goodIn_of _ (by decide +kernel)) ggX3_switchLoad_X3_findLoad
theorem dX3_switchLoad_0 : decode cX3_switchLoad 0 = .ok (.aload_n 0, 1) := by decide +kernel
theorem dX3_switchLoad_1 : decode cX3_switchLoad 1 = .ok (.iload_n 1, 1) := by decide +kernel
theorem dX3_switchLoad_2 : decode cX3_switchLoad 2 = .ok (.invokevirtual 85, 3) := by decide +kernel
theorem dX3_switchLoad_5 : decode cX3_switchLoad 5 = .ok (.astore_n 3, 1) := by decide +kernel
theorem dX3_switchLoad_6 : decode cX3_switchLoad 6 = .ok (.iload_n 2, 1) := by decide +kernel
theorem dX3_switchLoad_7 : decode cX3_switchLoad 7 = .ok (.ifCond .ne 11, 3) := by decide +kernel
theorem dX3_switchLoad_10 : decode cX3_switchLoad 10 = .ok (.aload_n 3, 1) := by decide +kernel
theorem dX3_switchLoad_11 : decode cX3_switchLoad 11 = .ok (.iconst 0, 1) := by decide +kernel
theorem dX3_switchLoad_12 : decode cX3_switchLoad 12 = .ok (.putfield 89, 3) := by decide +kernel
theorem dX3_switchLoad_15 : decode cX3_switchLoad 15 = .ok (.goto 15, 3) := by decide +kernel
theorem dX3_switchLoad_18 : decode cX3_switchLoad 18 = .ok (.aload_n 3, 1) := by decide +kernel
theorem dX3_switchLoad_19 : decode cX3_switchLoad 19 = .ok (.getfield 89, 3) := by decide +kernel
theorem dX3_switchLoad_22 : decode cX3_switchLoad 22 = .ok (.ifCond .ne 8, 3) := by decide +kernel
theorem dX3_switchLoad_25 : decode cX3_switchLoad 25 = .ok (.aload_n 3, 1) := by decide +kernel
theorem dX3_switchLoad_26 : decode cX3_switchLoad 26 = .ok (.iconst 2, 1) := by decide +kernel
theorem dX3_switchLoad_27 : decode cX3_switchLoad 27 = .ok (.putfield 89, 3) := by decide +kernel
theorem dX3_switchLoad_30 : decode cX3_switchLoad 30 = .ok (.aload_n 3, 1) := by decide +kernel
theorem dX3_switchLoad_31 : decode cX3_switchLoad 31 = .ok (.getfield 89, 3) := by decide +kernel
theorem dX3_switchLoad_34 : decode cX3_switchLoad 34 = .ok (.ireturn, 1) := by decide +kernel
set_option maxRecDepth 20000 in
theorem ggX3_setPower_X3_findLoad : GoodIn wsX3_setPower wsX3_findLoad := goodIn_ca (goodIn_r _ [8, 9, 10, 11, 12, 22, 23, 24, 25, 26, 27, 28, 29, 30, 31, 32, 33, 34, 35, 36, 37] (by decide +kernel) (by decide +kernel)) (goodIn_sub (fun _ h => List.mem_cons_of_mem _ (List.mem_append_right _ h)) (by decide +kernel))
set_option maxRecDepth 20000 in
theorem gX3_setPower_X3_findLoad : GoodIn wsX3_setPower (wsV RX3 85 RX3 yX3_findLoad wsX3_findLoad) := goodIn_app (goodIn_of _ (by decide +kernel)) ggX3_setPower_X3_findLoad
set_option maxRecDepth 20000 in
theorem ggX3_setPower_X3_isOutside : GoodIn wsX3_setPower wsX3_isOutside := goodIn_r _ [15] (by decide +kernel) (by decide +kernel)
set_option maxRecDepth 20000 in
theorem gX3_setPower_X3_isOutside : GoodIn wsX3_setPower (va_wsS RX3 46 yX3_isOutside wsX3_isOutside) := goodIn_app (goodIn_of _ (by decide +kernel)) ggX3_setPower_X3_isOutside
theorem dX3_setPower_0 : decode cX3_setPower 0 = .ok (.aload_n 0, 1) := by decide +kernel
theorem dX3_setPower_1 : decode cX3_setPower 1 = .ok (.iload_n 1, 1) := by decide +kernel
theorem dX3_setPower_2 : decode cX3_setPower 2 = .ok (.invokevirtual 85, 3) := by decide +kernel
theorem dX3_setPower_5 : decode cX3_setPower 5 = .ok (.astore_n 3, 1) := by decide +kernel
theorem dX3_setPower_6 : decode cX3_setPower 6 = .ok (.iload_n 2, 1) := by decide +kernel
theorem dX3_setPower_7 : decode cX3_setPower 7 = .ok (.iconst 1, 1) := by decide +kernel
theorem dX3_setPower_8 : decode cX3_setPower 8 = .ok (.sipush 500, 3) := by decide +kernel
theorem dX3_setPower_11 : decode cX3_setPower 11 = .ok (.invokestatic 46, 3) := by decide +kernel
theorem dX3_setPower_14 : decode cX3_setPower 14 = .ok (.ifCond .eq 13, 3) := by decide +kernel
theorem dX3_setPower_17 : decode cX3_setPower 17 = .ok (.new 50, 3) := by decide +kernel
theorem dX3_setPower_20 : decode cX3_setPower 20 = .ok (.dup, 1) := by decide +kernel
theorem dX3_setPower_21 : decode cX3_setPower 21 = .ok (.ldc 92, 2) := by decide +kernel
theorem dX3_setPower_23 : decode cX3_setPower 23 = .ok (.invokespecial 54, 3) := by decide +kernel
theorem dX3_setPower_26 : decode cX3_setPower 26 = .ok (.athrow, 1) := by decide +kernel
theorem dX3_setPower_27 : decode cX3_setPower 27 = .ok (.aload_n 3, 1) := by decide +kernel
theorem dX3_setPower_28 : decode cX3_setPower 28 = .ok (.getfield 94, 3) := by decide +kernel
theorem dX3_setPower_31 : decode cX3_setPower 31 = .ok (.istore 4, 2) := by decide +kernel
theorem dX3_setPower_33 : decode cX3_setPower 33 = .ok (.aload_n 3, 1) := by decide +kernel
theorem dX3_setPower_34 : decode cX3_setPower 34 = .ok (.iload_n 2, 1) := by decide +kernel
theorem dX3_setPower_35 : decode cX3_setPower 35 = .ok (.putfield 94, 3) := by decide +kernel
theorem dX3_setPower_38 : decode cX3_setPower 38 = .ok (.iload 4, 2) := by decide +kernel
theorem dX3_setPower_40 : decode cX3_setPower 40 = .ok (.ireturn, 1) := by decide +kernel
set_option maxRecDepth 20000 in
theorem ggX3_refuel_X3_findGenerator : GoodIn wsX3_refuel wsX3_findGenerator := goodIn_ca (goodIn_r _ [13, 14, 15, 16, 17, 36, 37, 38, 39, 40, 41, 42, 43, 44, 45, 46, 47, 48, 49, 50, 51] (by decide +kernel) (by decide +kernel)) (goodIn_sub (fun _ h => List.mem_cons_of_mem _ (List.mem_append_right _ h)) (by decide +kernel))
set_option maxRecDepth 20000 in
theorem gX3_refuel_X3_findGenerator : GoodIn wsX3_refuel (wsV RX3 97 RX3 yX3_findGenerator wsX3_findGenerator) := goodIn_app (goodIn_of _ (by decide +kernel)) ggX3_refuel_X3_findGenerator
set_option maxRecDepth 20000 in
theorem ggX3_refuel_X3_isOutside : GoodIn wsX3_refuel wsX3_isOutside := goodIn_r _ [20] (by decide +kernel) (by decide +kernel)
set_option maxRecDepth 20000 in
theorem gX3_refuel_X3_isOutside : GoodIn wsX3_refuel (va_wsS RX3 46 yX3_isOutside wsX3_isOutside) := goodIn_app (goodIn_of _ (by decide +kernel)) ggX3_refuel_X3_isOutside
theorem dX3_refuel_0 : decode cX3_refuel 0 = .ok (.aload_n 0, 1) := by decide +kernel
theorem dX3_refuel_1 : decode cX3_refuel 1 = .ok (.iload_n 1, 1) := by decide +kernel
theorem dX3_refuel_2 : decode cX3_refuel 2 = .ok (.invokevirtual 97, 3) := by decide +kernel
theorem dX3_refuel_5 : decode cX3_refuel 5 = .ok (.astore_n 3, 1) := by decide +kernel
theorem dX3_refuel_6 : decode cX3_refuel 6 = .ok (.iload_n 2, 1) := by decide +kernel
theorem dX3_refuel_7 : decode cX3_refuel 7 = .ok (.iconst 1, 1) := by decide +kernel
theorem dX3_refuel_8 : decode cX3_refuel 8 = .ok (.sipush 1000, 3) := by decide +kernel
theorem dX3_refuel_11 : decode cX3_refuel 11 = .ok (.invokestatic 46, 3) := by decide +kernel
theorem dX3_refuel_14 : decode cX3_refuel 14 = .ok (.ifCond .eq 13, 3) := by decide +kernel
theorem dX3_refuel_17 : decode cX3_refuel 17 = .ok (.new 50, 3) := by decide +kernel
theorem dX3_refuel_20 : decode cX3_refuel 20 = .ok (.dup, 1) := by decide +kernel
theorem dX3_refuel_21 : decode cX3_refuel 21 = .ok (.ldc 101, 2) := by decide +kernel
theorem dX3_refuel_23 : decode cX3_refuel 23 = .ok (.invokespecial 54, 3) := by decide +kernel
theorem dX3_refuel_26 : decode cX3_refuel 26 = .ok (.athrow, 1) := by decide +kernel
theorem dX3_refuel_27 : decode cX3_refuel 27 = .ok (.iload_n 2, 1) := by decide +kernel
theorem dX3_refuel_28 : decode cX3_refuel 28 = .ok (.aload_n 3, 1) := by decide +kernel
theorem dX3_refuel_29 : decode cX3_refuel 29 = .ok (.getfield 103, 3) := by decide +kernel
theorem dX3_refuel_32 : decode cX3_refuel 32 = .ok (.aload_n 3, 1) := by decide +kernel
theorem dX3_refuel_33 : decode cX3_refuel 33 = .ok (.getfield 106, 3) := by decide +kernel
theorem dX3_refuel_36 : decode cX3_refuel 36 = .ok (.isub, 1) := by decide +kernel
theorem dX3_refuel_37 : decode cX3_refuel 37 = .ok (.invokestatic 109, 3) := by decide +kernel
theorem dX3_refuel_40 : decode cX3_refuel 40 = .ok (.istore 4, 2) := by decide +kernel
theorem dX3_refuel_42 : decode cX3_refuel 42 = .ok (.aload_n 3, 1) := by decide +kernel
theorem dX3_refuel_43 : decode cX3_refuel 43 = .ok (.dup, 1) := by decide +kernel
theorem dX3_refuel_44 : decode cX3_refuel 44 = .ok (.getfield 106, 3) := by decide +kernel
theorem dX3_refuel_47 : decode cX3_refuel 47 = .ok (.iload 4, 2) := by decide +kernel
theorem dX3_refuel_49 : decode cX3_refuel 49 = .ok (.iadd, 1) := by decide +kernel
theorem dX3_refuel_50 : decode cX3_refuel 50 = .ok (.putfield 106, 3) := by decide +kernel
theorem dX3_refuel_53 : decode cX3_refuel 53 = .ok (.iload 4, 2) := by decide +kernel
theorem dX3_refuel_55 : decode cX3_refuel 55 = .ok (.ireturn, 1) := by decide +kernel
set_option maxRecDepth 20000 in
theorem ggX3_setFailures_X3_findGenerator : GoodIn wsX3_setFailures wsX3_findGenerator := goodIn_ca (goodIn_r _ [8, 9, 10, 11, 12, 31, 32, 33, 34, 35, 36, 37, 38, 39, 40, 41, 42, 43, 44, 45, 46] (by decide +kernel) (by decide +kernel)) (goodIn_sub (fun _ h => List.mem_cons_of_mem _ (List.mem_append_right _ h)) (by decide +kernel))
set_option maxRecDepth 20000 in
theorem gX3_setFailures_X3_findGenerator : GoodIn wsX3_setFailures (wsV RX3 97 RX3 yX3_findGenerator wsX3_findGenerator) := goodIn_app (goodIn_of _ (by decide +kernel)) ggX3_setFailures_X3_findGenerator
set_option maxRecDepth 20000 in
theorem ggX3_setFailures_X3_isOutside : GoodIn wsX3_setFailures wsX3_isOutside := goodIn_r _ [15] (by decide +kernel) (by decide +kernel)
set_option maxRecDepth 20000 in
theorem gX3_setFailures_X3_isOutside : GoodIn wsX3_setFailures (va_wsS RX3 46 yX3_isOutside wsX3_isOutside) := goodIn_app (goodIn_of _ (by decide +kernel)) ggX3_setFailures_X3_isOutside
theorem dX3_setFailures_0 : decode cX3_setFailures 0 = .ok (.aload_n 0, 1) := by decide +kernel
theorem dX3_setFailures_1 : decode cX3_setFailures 1 = .ok (.iload_n 1, 1) := by decide +kernel
theorem dX3_setFailures_2 : decode cX3_setFailures 2 = .ok (.invokevirtual 97, 3) := by decide +kernel
theorem dX3_setFailures_5 : decode cX3_setFailures 5 = .ok (.astore_n 3, 1) := by decide +kernel
theorem dX3_setFailures_6 : decode cX3_setFailures 6 = .ok (.iload_n 2, 1) := by decide +kernel
theorem dX3_setFailures_7 : decode cX3_setFailures 7 = .ok (.iconst 0, 1) := by decide +kernel
theorem dX3_setFailures_8 : decode cX3_setFailures 8 = .ok (.iconst 5, 1) := by decide +kernel
theorem dX3_setFailures_9 : decode cX3_setFailures 9 = .ok (.invokestatic 46, 3) := by decide +kernel
theorem dX3_setFailures_12 : decode cX3_setFailures 12 = .ok (.ifCond .eq 13, 3) := by decide +kernel
theorem dX3_setFailures_15 : decode cX3_setFailures 15 = .ok (.new 50, 3) := by decide +kernel
theorem dX3_setFailures_18 : decode cX3_setFailures 18 = .ok (.dup, 1) := by decide +kernel
theorem dX3_setFailures_19 : decode cX3_setFailures 19 = .ok (.ldc 115, 2) := by decide +kernel
theorem dX3_setFailures_21 : decode cX3_setFailures 21 = .ok (.invokespecial 54, 3) := by decide +kernel
theorem dX3_setFailures_24 : decode cX3_setFailures 24 = .ok (.athrow, 1) := by decide +kernel
theorem dX3_setFailures_25 : decode cX3_setFailures 25 = .ok (.aload_n 3, 1) := by decide +kernel
theorem dX3_setFailures_26 : decode cX3_setFailures 26 = .ok (.getfield 117, 3) := by decide +kernel
theorem dX3_setFailures_29 : decode cX3_setFailures 29 = .ok (.istore 4, 2) := by decide +kernel
theorem dX3_setFailures_31 : decode cX3_setFailures 31 = .ok (.aload_n 3, 1) := by decide +kernel
theorem dX3_setFailures_32 : decode cX3_setFailures 32 = .ok (.iload_n 2, 1) := by decide +kernel
theorem dX3_setFailures_33 : decode cX3_setFailures 33 = .ok (.putfield 117, 3) := by decide +kernel
theorem dX3_setFailures_36 : decode cX3_setFailures 36 = .ok (.iload 4, 2) := by decide +kernel
theorem dX3_setFailures_38 : decode cX3_setFailures 38 = .ok (.ireturn, 1) := by decide +kernel
set_option maxRecDepth 20000 in
theorem ggX3_setTests_X3_findGenerator : GoodIn wsX3_setTests wsX3_findGenerator := goodIn_ca (goodIn_r _ [9, 10, 11, 12, 13, 32, 33, 34, 35, 36, 37, 38, 39, 40, 41, 42, 43, 44, 45, 46, 47] (by decide +kernel) (by decide +kernel)) (goodIn_sub (fun _ h => List.mem_cons_of_mem _ (List.mem_append_right _ h)) (by decide +kernel))
set_option maxRecDepth 20000 in
theorem gX3_setTests_X3_findGenerator : GoodIn wsX3_setTests (wsV RX3 97 RX3 yX3_findGenerator wsX3_findGenerator) := goodIn_app (goodIn_of _ (by decide +kernel)) ggX3_setTests_X3_findGenerator
set_option maxRecDepth 20000 in
theorem ggX3_setTests_X3_isOutside : GoodIn wsX3_setTests wsX3_isOutside := goodIn_r _ [16] (by decide +kernel) (by decide +kernel)
set_option maxRecDepth 20000 in
theorem gX3_setTests_X3_isOutside : GoodIn wsX3_setTests (va_wsS RX3 46 yX3_isOutside wsX3_isOutside) := goodIn_app (goodIn_of _ (by decide +kernel)) ggX3_setTests_X3_isOutside
theorem dX3_setTests_0 : decode cX3_setTests 0 = .ok (.aload_n 0, 1) := by decide +kernel
theorem dX3_setTests_1 : decode cX3_setTests 1 = .ok (.iload_n 1, 1) := by decide +kernel
theorem dX3_setTests_2 : decode cX3_setTests 2 = .ok (.invokevirtual 97, 3) := by decide +kernel
theorem dX3_setTests_5 : decode cX3_setTests 5 = .ok (.astore 4, 2) := by decide +kernel
theorem dX3_setTests_7 : decode cX3_setTests 7 = .ok (.iload_n 2, 1) := by decide +kernel
theorem dX3_setTests_8 : decode cX3_setTests 8 = .ok (.iconst 0, 1) := by decide +kernel
theorem dX3_setTests_9 : decode cX3_setTests 9 = .ok (.sipush 10000, 3) := by decide +kernel
theorem dX3_setTests_12 : decode cX3_setTests 12 = .ok (.invokestatic 46, 3) := by decide +kernel
theorem dX3_setTests_15 : decode cX3_setTests 15 = .ok (.ifCond .ne 13, 3) := by decide +kernel
theorem dX3_setTests_18 : decode cX3_setTests 18 = .ok (.iload_n 3, 1) := by decide +kernel
theorem dX3_setTests_19 : decode cX3_setTests 19 = .ok (.iconst 1, 1) := by decide +kernel
theorem dX3_setTests_20 : decode cX3_setTests 20 = .ok (.bipush 60, 2) := by decide +kernel
theorem dX3_setTests_22 : decode cX3_setTests 22 = .ok (.invokestatic 46, 3) := by decide +kernel
theorem dX3_setTests_25 : decode cX3_setTests 25 = .ok (.ifCond .eq 13, 3) := by decide +kernel
theorem dX3_setTests_28 : decode cX3_setTests 28 = .ok (.new 50, 3) := by decide +kernel
theorem dX3_setTests_31 : decode cX3_setTests 31 = .ok (.dup, 1) := by decide +kernel
theorem dX3_setTests_32 : decode cX3_setTests 32 = .ok (.ldc 120, 2) := by decide +kernel
theorem dX3_setTests_34 : decode cX3_setTests 34 = .ok (.invokespecial 54, 3) := by decide +kernel
theorem dX3_setTests_37 : decode cX3_setTests 37 = .ok (.athrow, 1) := by decide +kernel
theorem dX3_setTests_38 : decode cX3_setTests 38 = .ok (.aload 4, 2) := by decide +kernel
theorem dX3_setTests_40 : decode cX3_setTests 40 = .ok (.getfield 122, 3) := by decide +kernel
theorem dX3_setTests_43 : decode cX3_setTests 43 = .ok (.istore 5, 2) := by decide +kernel
theorem dX3_setTests_45 : decode cX3_setTests 45 = .ok (.aload 4, 2) := by decide +kernel
theorem dX3_setTests_47 : decode cX3_setTests 47 = .ok (.iload_n 2, 1) := by decide +kernel
theorem dX3_setTests_48 : decode cX3_setTests 48 = .ok (.putfield 122, 3) := by decide +kernel
theorem dX3_setTests_51 : decode cX3_setTests 51 = .ok (.aload 4, 2) := by decide +kernel
theorem dX3_setTests_53 : decode cX3_setTests 53 = .ok (.iload_n 3, 1) := by decide +kernel
theorem dX3_setTests_54 : decode cX3_setTests 54 = .ok (.putfield 125, 3) := by decide +kernel
theorem dX3_setTests_57 : decode cX3_setTests 57 = .ok (.iload 5, 2) := by decide +kernel
theorem dX3_setTests_59 : decode cX3_setTests 59 = .ok (.ireturn, 1) := by decide +kernel
set_option maxRecDepth 20000 in
theorem ggX3_setTimes_X3_isOutside : GoodIn wsX3_setTimes wsX3_isOutside := goodIn_r _ [8] (by decide +kernel) (by decide +kernel)
set_option maxRecDepth 20000 in
theorem gX3_setTimes_X3_isOutside : GoodIn wsX3_setTimes (va_wsS RX3 46 yX3_isOutside wsX3_isOutside) := goodIn_app (goodIn_of _ (by decide +kernel)) ggX3_setTimes_X3_isOutside
theorem dX3_setTimes_0 : decode cX3_setTimes 0 = .ok (.iload_n 1, 1) := by decide +kernel
theorem dX3_setTimes_1 : decode cX3_setTimes 1 = .ok (.iconst 0, 1) := by decide +kernel
theorem dX3_setTimes_2 : decode cX3_setTimes 2 = .ok (.bipush 30, 2) := by decide +kernel
theorem dX3_setTimes_4 : decode cX3_setTimes 4 = .ok (.invokestatic 46, 3) := by decide +kernel
theorem dX3_setTimes_7 : decode cX3_setTimes 7 = .ok (.ifCond .ne 13, 3) := by decide +kernel
theorem dX3_setTimes_10 : decode cX3_setTimes 10 = .ok (.iload_n 2, 1) := by decide +kernel
theorem dX3_setTimes_11 : decode cX3_setTimes 11 = .ok (.iconst 1, 1) := by decide +kernel
theorem dX3_setTimes_12 : decode cX3_setTimes 12 = .ok (.bipush 10, 2) := by decide +kernel
theorem dX3_setTimes_14 : decode cX3_setTimes 14 = .ok (.invokestatic 46, 3) := by decide +kernel
theorem dX3_setTimes_17 : decode cX3_setTimes 17 = .ok (.ifCond .eq 13, 3) := by decide +kernel
theorem dX3_setTimes_20 : decode cX3_setTimes 20 = .ok (.new 50, 3) := by decide +kernel
theorem dX3_setTimes_23 : decode cX3_setTimes 23 = .ok (.dup, 1) := by decide +kernel
theorem dX3_setTimes_24 : decode cX3_setTimes 24 = .ok (.ldc 128, 2) := by decide +kernel
theorem dX3_setTimes_26 : decode cX3_setTimes 26 = .ok (.invokespecial 54, 3) := by decide +kernel
theorem dX3_setTimes_29 : decode cX3_setTimes 29 = .ok (.athrow, 1) := by decide +kernel
theorem dX3_setTimes_30 : decode cX3_setTimes 30 = .ok (.aload_n 0, 1) := by decide +kernel
theorem dX3_setTimes_31 : decode cX3_setTimes 31 = .ok (.getfield 31, 3) := by decide +kernel
theorem dX3_setTimes_34 : decode cX3_setTimes 34 = .ok (.istore_n 3, 1) := by decide +kernel
theorem dX3_setTimes_35 : decode cX3_setTimes 35 = .ok (.aload_n 0, 1) := by decide +kernel
theorem dX3_setTimes_36 : decode cX3_setTimes 36 = .ok (.iload_n 1, 1) := by decide +kernel
theorem dX3_setTimes_37 : decode cX3_setTimes 37 = .ok (.putfield 31, 3) := by decide +kernel
theorem dX3_setTimes_40 : decode cX3_setTimes 40 = .ok (.aload_n 0, 1) := by decide +kernel
theorem dX3_setTimes_41 : decode cX3_setTimes 41 = .ok (.iload_n 2, 1) := by decide +kernel
theorem dX3_setTimes_42 : decode cX3_setTimes 42 = .ok (.putfield 35, 3) := by decide +kernel
theorem dX3_setTimes_45 : decode cX3_setTimes 45 = .ok (.iload_n 3, 1) := by decide +kernel
theorem dX3_setTimes_46 : decode cX3_setTimes 46 = .ok (.ireturn, 1) := by decide +kernel
theorem dX3_setMains_0 : decode cX3_setMains 0 = .ok (.aload_n 0, 1) := by decide +kernel
theorem dX3_setMains_1 : decode cX3_setMains 1 = .ok (.getfield 27, 3) := by decide +kernel
theorem dX3_setMains_4 : decode cX3_setMains 4 = .ok (.istore_n 2, 1) := by decide +kernel
theorem dX3_setMains_5 : decode cX3_setMains 5 = .ok (.aload_n 0, 1) := by decide +kernel
theorem dX3_setMains_6 : decode cX3_setMains 6 = .ok (.iload_n 1, 1) := by decide +kernel
theorem dX3_setMains_7 : decode cX3_setMains 7 = .ok (.putfield 27, 3) := by decide +kernel
theorem dX3_setMains_10 : decode cX3_setMains 10 = .ok (.iload_n 2, 1) := by decide +kernel
theorem dX3_setMains_11 : decode cX3_setMains 11 = .ok (.ireturn, 1) := by decide +kernel
set_option maxRecDepth 20000 in
theorem ggX3_pass_X3_isOutside : GoodIn wsX3_pass wsX3_isOutside := goodIn_r _ [6] (by decide +kernel) (by decide +kernel)
set_option maxRecDepth 20000 in
theorem gX3_pass_X3_isOutside : GoodIn wsX3_pass (va_wsS RX3 46 yX3_isOutside wsX3_isOutside) := goodIn_app (goodIn_of _ (by decide +kernel)) ggX3_pass_X3_isOutside
set_option maxRecDepth 20000 in
theorem ggX3_pass_X3_passOneMinute : GoodIn wsX3_pass wsX3_passOneMinute := goodIn_r _ [10, 11, 12, 13, 14, 15, 16, 17, 18, 19, 20, 5, 21, 22, 23, 24, 25, 26, 27, 28, 29, 30, 31, 32, 33, 34, 35, 36, 37, 38, 39, 40, 41, 42, 43, 44, 45, 46, 47, 48, 49, 50, 51, 52, 53, 54, 55, 56, 57, 58, 59, 60, 61, 62, 63, 64, 65, 66, 67, 68, 69, 70, 71, 72, 73, 74, 75, 76, 77, 78, 79, 80, 81, 82, 83, 84, 85, 86, 87, 88, 89, 90, 91, 92, 93, 94, 95, 96, 97, 98, 99, 100, 101, 102, 103, 104, 105, 106, 107, 108, 109, 110, 111, 112, 113, 114, 115, 116, 117, 118, 119, 120, 121, 122, 123, 124, 125, 126, 127, 128, 129, 130, 131, 132, 133, 134, 135, 136, 137, 138, 139, 140, 141, 142, 143, 144, 145, 146, 147, 148, 149, 150, 151, 152, 153, 154, 155, 156, 157, 158, 159, 160, 161, 162, 163, 164, 165, 166, 167, 168, 169, 170, 171, 172, 173, 174, 175, 176, 177, 178, 179, 180, 181, 182, 183, 184, 185, 186, 187, 188, 189, 190, 191, 192, 193, 194, 195, 196, 197, 198, 199, 200, 201, 202, 203, 204, 205, 206, 207, 208, 209] (by decide +kernel) (by decide +kernel)
set_option maxRecDepth 20000 in
theorem gX3_pass_X3_passOneMinute : GoodIn wsX3_pass (wsV RX3 132 RX3 yX3_passOneMinute wsX3_passOneMinute) := goodIn_app (goodIn_of _ (by decide +kernel)) ggX3_pass_X3_passOneMinute
theorem dX3_pass_0 : decode cX3_pass 0 = .ok (.iload_n 1, 1) := by decide +kernel
theorem dX3_pass_1 : decode cX3_pass 1 = .ok (.iconst 1, 1) := by decide +kernel
theorem dX3_pass_2 : decode cX3_pass 2 = .ok (.sipush 500, 3) := by decide +kernel
theorem dX3_pass_5 : decode cX3_pass 5 = .ok (.invokestatic 46, 3) := by decide +kernel
theorem dX3_pass_8 : decode cX3_pass 8 = .ok (.ifCond .eq 13, 3) := by decide +kernel
theorem dX3_pass_11 : decode cX3_pass 11 = .ok (.new 50, 3) := by decide +kernel
theorem dX3_pass_14 : decode cX3_pass 14 = .ok (.dup, 1) := by decide +kernel
theorem dX3_pass_15 : decode cX3_pass 15 = .ok (.ldc 130, 2) := by decide +kernel
theorem dX3_pass_17 : decode cX3_pass 17 = .ok (.invokespecial 54, 3) := by decide +kernel
theorem dX3_pass_20 : decode cX3_pass 20 = .ok (.athrow, 1) := by decide +kernel
theorem dX3_pass_21 : decode cX3_pass 21 = .ok (.iconst 0, 1) := by decide +kernel
theorem dX3_pass_22 : decode cX3_pass 22 = .ok (.istore_n 2, 1) := by decide +kernel
theorem dX3_pass_23 : decode cX3_pass 23 = .ok (.iconst 0, 1) := by decide +kernel
theorem dX3_pass_24 : decode cX3_pass 24 = .ok (.istore_n 3, 1) := by decide +kernel
theorem dX3_pass_25 : decode cX3_pass 25 = .ok (.iload_n 3, 1) := by decide +kernel
theorem dX3_pass_26 : decode cX3_pass 26 = .ok (.iload_n 1, 1) := by decide +kernel
theorem dX3_pass_27 : decode cX3_pass 27 = .ok (.if_icmp .ge 16, 3) := by decide +kernel
theorem dX3_pass_30 : decode cX3_pass 30 = .ok (.iload_n 2, 1) := by decide +kernel
theorem dX3_pass_31 : decode cX3_pass 31 = .ok (.aload_n 0, 1) := by decide +kernel
theorem dX3_pass_32 : decode cX3_pass 32 = .ok (.invokevirtual 132, 3) := by decide +kernel
theorem dX3_pass_35 : decode cX3_pass 35 = .ok (.iadd, 1) := by decide +kernel
theorem dX3_pass_36 : decode cX3_pass 36 = .ok (.istore_n 2, 1) := by decide +kernel
theorem dX3_pass_37 : decode cX3_pass 37 = .ok (.iinc 3 1, 3) := by decide +kernel
theorem dX3_pass_40 : decode cX3_pass 40 = .ok (.goto (-15), 3) := by decide +kernel
theorem dX3_pass_43 : decode cX3_pass 43 = .ok (.iload_n 2, 1) := by decide +kernel
theorem dX3_pass_44 : decode cX3_pass 44 = .ok (.ireturn, 1) := by decide +kernel
theorem dX3_time_0 : decode cX3_time 0 = .ok (.aload_n 0, 1) := by decide +kernel
theorem dX3_time_1 : decode cX3_time 1 = .ok (.getfield 136, 3) := by decide +kernel
theorem dX3_time_4 : decode cX3_time 4 = .ok (.ireturn, 1) := by decide +kernel
theorem dX3_outage_0 : decode cX3_outage 0 = .ok (.aload_n 0, 1) := by decide +kernel
theorem dX3_outage_1 : decode cX3_outage 1 = .ok (.getfield 139, 3) := by decide +kernel
theorem dX3_outage_4 : decode cX3_outage 4 = .ok (.ireturn, 1) := by decide +kernel
set_option maxRecDepth 20000 in
theorem ggX3_stateOf_X3_findLoad : GoodIn wsX3_stateOf wsX3_findLoad := goodIn_ca (goodIn_r _ [6, 7, 8, 9, 10, 17, 18, 19, 20, 21, 22, 23, 24, 25, 26, 27, 28, 29, 30, 31, 32] (by decide +kernel) (by decide +kernel)) (goodIn_sub (fun _ h => List.mem_cons_of_mem _ (List.mem_append_right _ h)) (by decide +kernel))
set_option maxRecDepth 20000 in
theorem gX3_stateOf_X3_findLoad : GoodIn wsX3_stateOf (wsV RX3 85 RX3 yX3_findLoad wsX3_findLoad) := goodIn_app (goodIn_of _ (by decide +kernel)) ggX3_stateOf_X3_findLoad
theorem dX3_stateOf_0 : decode cX3_stateOf 0 = .ok (.aload_n 0, 1) := by decide +kernel
theorem dX3_stateOf_1 : decode cX3_stateOf 1 = .ok (.iload_n 1, 1) := by decide +kernel
theorem dX3_stateOf_2 : decode cX3_stateOf 2 = .ok (.invokevirtual 85, 3) := by decide +kernel
theorem dX3_stateOf_5 : decode cX3_stateOf 5 = .ok (.getfield 89, 3) := by decide +kernel
theorem dX3_stateOf_8 : decode cX3_stateOf 8 = .ok (.ireturn, 1) := by decide +kernel
theorem dX3_demand_0 : decode cX3_demand 0 = .ok (.iconst 0, 1) := by decide +kernel
theorem dX3_demand_1 : decode cX3_demand 1 = .ok (.istore_n 1, 1) := by decide +kernel
theorem dX3_demand_2 : decode cX3_demand 2 = .ok (.aload_n 0, 1) := by decide +kernel
theorem dX3_demand_3 : decode cX3_demand 3 = .ok (.getfield 11, 3) := by decide +kernel
theorem dX3_demand_6 : decode cX3_demand 6 = .ok (.astore_n 2, 1) := by decide +kernel
theorem dX3_demand_7 : decode cX3_demand 7 = .ok (.aload_n 2, 1) := by decide +kernel
theorem dX3_demand_8 : decode cX3_demand 8 = .ok (.arraylength, 1) := by decide +kernel
theorem dX3_demand_9 : decode cX3_demand 9 = .ok (.istore_n 3, 1) := by decide +kernel
theorem dX3_demand_10 : decode cX3_demand 10 = .ok (.iconst 0, 1) := by decide +kernel
theorem dX3_demand_11 : decode cX3_demand 11 = .ok (.istore 4, 2) := by decide +kernel
theorem dX3_demand_13 : decode cX3_demand 13 = .ok (.iload 4, 2) := by decide +kernel
theorem dX3_demand_15 : decode cX3_demand 15 = .ok (.iload_n 3, 1) := by decide +kernel
theorem dX3_demand_16 : decode cX3_demand 16 = .ok (.if_icmp .ge 32, 3) := by decide +kernel
theorem dX3_demand_19 : decode cX3_demand 19 = .ok (.aload_n 2, 1) := by decide +kernel
theorem dX3_demand_20 : decode cX3_demand 20 = .ok (.iload 4, 2) := by decide +kernel
theorem dX3_demand_22 : decode cX3_demand 22 = .ok (.aaload, 1) := by decide +kernel
theorem dX3_demand_23 : decode cX3_demand 23 = .ok (.astore 5, 2) := by decide +kernel
theorem dX3_demand_25 : decode cX3_demand 25 = .ok (.aload 5, 2) := by decide +kernel
theorem dX3_demand_27 : decode cX3_demand 27 = .ok (.getfield 89, 3) := by decide +kernel
theorem dX3_demand_30 : decode cX3_demand 30 = .ok (.iconst 1, 1) := by decide +kernel
theorem dX3_demand_31 : decode cX3_demand 31 = .ok (.if_icmp .ne 11, 3) := by decide +kernel
theorem dX3_demand_34 : decode cX3_demand 34 = .ok (.iload_n 1, 1) := by decide +kernel
theorem dX3_demand_35 : decode cX3_demand 35 = .ok (.aload 5, 2) := by decide +kernel
theorem dX3_demand_37 : decode cX3_demand 37 = .ok (.getfield 94, 3) := by decide +kernel
theorem dX3_demand_40 : decode cX3_demand 40 = .ok (.iadd, 1) := by decide +kernel
theorem dX3_demand_41 : decode cX3_demand 41 = .ok (.istore_n 1, 1) := by decide +kernel
theorem dX3_demand_42 : decode cX3_demand 42 = .ok (.iinc 4 1, 3) := by decide +kernel
theorem dX3_demand_45 : decode cX3_demand 45 = .ok (.goto (-32), 3) := by decide +kernel
theorem dX3_demand_48 : decode cX3_demand 48 = .ok (.iload_n 1, 1) := by decide +kernel
theorem dX3_demand_49 : decode cX3_demand 49 = .ok (.ireturn, 1) := by decide +kernel
set_option maxRecDepth 20000 in
theorem ggX3_chargeOf_X3_findBattery : GoodIn wsX3_chargeOf wsX3_findBattery := goodIn_ca (goodIn_r _ [6, 7, 8, 9, 10, 17, 18, 19, 20, 21, 22, 23, 24, 25, 26, 27, 28, 29, 30, 31, 32] (by decide +kernel) (by decide +kernel)) (goodIn_sub (fun _ h => List.mem_cons_of_mem _ (List.mem_append_right _ h)) (by decide +kernel))
set_option maxRecDepth 20000 in
theorem gX3_chargeOf_X3_findBattery : GoodIn wsX3_chargeOf (wsV RX3 149 RX3 yX3_findBattery wsX3_findBattery) := goodIn_app (goodIn_of _ (by decide +kernel)) ggX3_chargeOf_X3_findBattery
theorem dX3_chargeOf_0 : decode cX3_chargeOf 0 = .ok (.aload_n 0, 1) := by decide +kernel
theorem dX3_chargeOf_1 : decode cX3_chargeOf 1 = .ok (.iload_n 1, 1) := by decide +kernel
theorem dX3_chargeOf_2 : decode cX3_chargeOf 2 = .ok (.invokevirtual 149, 3) := by decide +kernel
theorem dX3_chargeOf_5 : decode cX3_chargeOf 5 = .ok (.getfield 153, 3) := by decide +kernel
theorem dX3_chargeOf_8 : decode cX3_chargeOf 8 = .ok (.ireturn, 1) := by decide +kernel
set_option maxRecDepth 20000 in
theorem ggX3_capacityOf_X3_findBattery : GoodIn wsX3_capacityOf wsX3_findBattery := goodIn_ca (goodIn_r _ [6, 7, 8, 9, 10, 17, 18, 19, 20, 21, 22, 23, 24, 25, 26, 27, 28, 29, 30, 31, 32] (by decide +kernel) (by decide +kernel)) (goodIn_sub (fun _ h => List.mem_cons_of_mem _ (List.mem_append_right _ h)) (by decide +kernel))
set_option maxRecDepth 20000 in
theorem gX3_capacityOf_X3_findBattery : GoodIn wsX3_capacityOf (wsV RX3 149 RX3 yX3_findBattery wsX3_findBattery) := goodIn_app (goodIn_of _ (by decide +kernel)) ggX3_capacityOf_X3_findBattery
theorem dX3_capacityOf_0 : decode cX3_capacityOf 0 = .ok (.aload_n 0, 1) := by decide +kernel
theorem dX3_capacityOf_1 : decode cX3_capacityOf 1 = .ok (.iload_n 1, 1) := by decide +kernel
theorem dX3_capacityOf_2 : decode cX3_capacityOf 2 = .ok (.invokevirtual 149, 3) := by decide +kernel
theorem dX3_capacityOf_5 : decode cX3_capacityOf 5 = .ok (.getfield 156, 3) := by decide +kernel
theorem dX3_capacityOf_8 : decode cX3_capacityOf 8 = .ok (.ireturn, 1) := by decide +kernel
set_option maxRecDepth 20000 in
theorem ggX3_energyOf_X3_findLoad : GoodIn wsX3_energyOf wsX3_findLoad := goodIn_ca (goodIn_r _ [6, 7, 8, 9, 10, 17, 18, 19, 20, 21, 22, 23, 24, 25, 26, 27, 28, 29, 30, 31, 32] (by decide +kernel) (by decide +kernel)) (goodIn_sub (fun _ h => List.mem_cons_of_mem _ (List.mem_append_right _ h)) (by decide +kernel))
set_option maxRecDepth 20000 in
theorem gX3_energyOf_X3_findLoad : GoodIn wsX3_energyOf (wsV RX3 85 RX3 yX3_findLoad wsX3_findLoad) := goodIn_app (goodIn_of _ (by decide +kernel)) ggX3_energyOf_X3_findLoad
theorem dX3_energyOf_0 : decode cX3_energyOf 0 = .ok (.aload_n 0, 1) := by decide +kernel
theorem dX3_energyOf_1 : decode cX3_energyOf 1 = .ok (.iload_n 1, 1) := by decide +kernel
theorem dX3_energyOf_2 : decode cX3_energyOf 2 = .ok (.invokevirtual 85, 3) := by decide +kernel
theorem dX3_energyOf_5 : decode cX3_energyOf 5 = .ok (.getfield 173, 3) := by decide +kernel
theorem dX3_energyOf_8 : decode cX3_energyOf 8 = .ok (.ireturn, 1) := by decide +kernel
set_option maxRecDepth 20000 in
theorem ggX3_darkMinutes_X3_findLoad : GoodIn wsX3_darkMinutes wsX3_findLoad := goodIn_ca (goodIn_r _ [6, 7, 8, 9, 10, 17, 18, 19, 20, 21, 22, 23, 24, 25, 26, 27, 28, 29, 30, 31, 32] (by decide +kernel) (by decide +kernel)) (goodIn_sub (fun _ h => List.mem_cons_of_mem _ (List.mem_append_right _ h)) (by decide +kernel))
set_option maxRecDepth 20000 in
theorem gX3_darkMinutes_X3_findLoad : GoodIn wsX3_darkMinutes (wsV RX3 85 RX3 yX3_findLoad wsX3_findLoad) := goodIn_app (goodIn_of _ (by decide +kernel)) ggX3_darkMinutes_X3_findLoad
theorem dX3_darkMinutes_0 : decode cX3_darkMinutes 0 = .ok (.aload_n 0, 1) := by decide +kernel
theorem dX3_darkMinutes_1 : decode cX3_darkMinutes 1 = .ok (.iload_n 1, 1) := by decide +kernel
theorem dX3_darkMinutes_2 : decode cX3_darkMinutes 2 = .ok (.invokevirtual 85, 3) := by decide +kernel
theorem dX3_darkMinutes_5 : decode cX3_darkMinutes 5 = .ok (.getfield 176, 3) := by decide +kernel
theorem dX3_darkMinutes_8 : decode cX3_darkMinutes 8 = .ok (.ireturn, 1) := by decide +kernel
theorem dX3_fromMains_0 : decode cX3_fromMains 0 = .ok (.aload_n 0, 1) := by decide +kernel
theorem dX3_fromMains_1 : decode cX3_fromMains 1 = .ok (.getfield 179, 3) := by decide +kernel
theorem dX3_fromMains_4 : decode cX3_fromMains 4 = .ok (.ireturn, 1) := by decide +kernel
theorem dX3_fromGenerators_0 : decode cX3_fromGenerators 0 = .ok (.aload_n 0, 1) := by decide +kernel
theorem dX3_fromGenerators_1 : decode cX3_fromGenerators 1 = .ok (.getfield 182, 3) := by decide +kernel
theorem dX3_fromGenerators_4 : decode cX3_fromGenerators 4 = .ok (.ireturn, 1) := by decide +kernel
theorem dX3_fromBatteries_0 : decode cX3_fromBatteries 0 = .ok (.aload_n 0, 1) := by decide +kernel
theorem dX3_fromBatteries_1 : decode cX3_fromBatteries 1 = .ok (.getfield 185, 3) := by decide +kernel
theorem dX3_fromBatteries_4 : decode cX3_fromBatteries 4 = .ok (.ireturn, 1) := by decide +kernel
theorem dX3_intoBatteries_0 : decode cX3_intoBatteries 0 = .ok (.aload_n 0, 1) := by decide +kernel
theorem dX3_intoBatteries_1 : decode cX3_intoBatteries 1 = .ok (.getfield 188, 3) := by decide +kernel
theorem dX3_intoBatteries_4 : decode cX3_intoBatteries 4 = .ok (.ireturn, 1) := by decide +kernel
theorem dX3_isOutside_0 : decode cX3_isOutside 0 = .ok (.iload_n 0, 1) := by decide +kernel
theorem dX3_isOutside_1 : decode cX3_isOutside 1 = .ok (.iload_n 1, 1) := by decide +kernel
theorem dX3_isOutside_2 : decode cX3_isOutside 2 = .ok (.if_icmp .lt 8, 3) := by decide +kernel
theorem dX3_isOutside_5 : decode cX3_isOutside 5 = .ok (.iload_n 0, 1) := by decide +kernel
theorem dX3_isOutside_6 : decode cX3_isOutside 6 = .ok (.iload_n 2, 1) := by decide +kernel
theorem dX3_isOutside_7 : decode cX3_isOutside 7 = .ok (.if_icmp .le 7, 3) := by decide +kernel
theorem dX3_isOutside_10 : decode cX3_isOutside 10 = .ok (.iconst 1, 1) := by decide +kernel
theorem dX3_isOutside_11 : decode cX3_isOutside 11 = .ok (.goto 4, 3) := by decide +kernel
theorem dX3_isOutside_14 : decode cX3_isOutside 14 = .ok (.iconst 0, 1) := by decide +kernel
theorem dX3_isOutside_15 : decode cX3_isOutside 15 = .ok (.ireturn, 1) := by decide +kernel
theorem dX3_findLoad_0 : decode cX3_findLoad 0 = .ok (.iload_n 1, 1) := by decide +kernel
theorem dX3_findLoad_1 : decode cX3_findLoad 1 = .ok (.ifCond .lt 11, 3) := by decide +kernel
theorem dX3_findLoad_4 : decode cX3_findLoad 4 = .ok (.iload_n 1, 1) := by decide +kernel
theorem dX3_findLoad_5 : decode cX3_findLoad 5 = .ok (.aload_n 0, 1) := by decide +kernel
theorem dX3_findLoad_6 : decode cX3_findLoad 6 = .ok (.getfield 57, 3) := by decide +kernel
theorem dX3_findLoad_9 : decode cX3_findLoad 9 = .ok (.if_icmp .lt 13, 3) := by decide +kernel
theorem dX3_findLoad_12 : decode cX3_findLoad 12 = .ok (.new 200, 3) := by decide +kernel
theorem dX3_findLoad_15 : decode cX3_findLoad 15 = .ok (.dup, 1) := by decide +kernel
theorem dX3_findLoad_16 : decode cX3_findLoad 16 = .ok (.ldc 202, 2) := by decide +kernel
theorem dX3_findLoad_18 : decode cX3_findLoad 18 = .ok (.invokespecial 204, 3) := by decide +kernel
theorem dX3_findLoad_21 : decode cX3_findLoad 21 = .ok (.athrow, 1) := by decide +kernel
theorem dX3_findLoad_22 : decode cX3_findLoad 22 = .ok (.aload_n 0, 1) := by decide +kernel
theorem dX3_findLoad_23 : decode cX3_findLoad 23 = .ok (.getfield 11, 3) := by decide +kernel
theorem dX3_findLoad_26 : decode cX3_findLoad 26 = .ok (.iload_n 1, 1) := by decide +kernel
theorem dX3_findLoad_27 : decode cX3_findLoad 27 = .ok (.aaload, 1) := by decide +kernel
theorem dX3_findLoad_28 : decode cX3_findLoad 28 = .ok (.areturn, 1) := by decide +kernel
theorem dX3_findBattery_0 : decode cX3_findBattery 0 = .ok (.iload_n 1, 1) := by decide +kernel
theorem dX3_findBattery_1 : decode cX3_findBattery 1 = .ok (.ifCond .lt 11, 3) := by decide +kernel
theorem dX3_findBattery_4 : decode cX3_findBattery 4 = .ok (.iload_n 1, 1) := by decide +kernel
theorem dX3_findBattery_5 : decode cX3_findBattery 5 = .ok (.aload_n 0, 1) := by decide +kernel
theorem dX3_findBattery_6 : decode cX3_findBattery 6 = .ok (.getfield 71, 3) := by decide +kernel
theorem dX3_findBattery_9 : decode cX3_findBattery 9 = .ok (.if_icmp .lt 13, 3) := by decide +kernel
theorem dX3_findBattery_12 : decode cX3_findBattery 12 = .ok (.new 200, 3) := by decide +kernel
theorem dX3_findBattery_15 : decode cX3_findBattery 15 = .ok (.dup, 1) := by decide +kernel
theorem dX3_findBattery_16 : decode cX3_findBattery 16 = .ok (.ldc 205, 2) := by decide +kernel
theorem dX3_findBattery_18 : decode cX3_findBattery 18 = .ok (.invokespecial 204, 3) := by decide +kernel
theorem dX3_findBattery_21 : decode cX3_findBattery 21 = .ok (.athrow, 1) := by decide +kernel
theorem dX3_findBattery_22 : decode cX3_findBattery 22 = .ok (.aload_n 0, 1) := by decide +kernel
theorem dX3_findBattery_23 : decode cX3_findBattery 23 = .ok (.getfield 17, 3) := by decide +kernel
theorem dX3_findBattery_26 : decode cX3_findBattery 26 = .ok (.iload_n 1, 1) := by decide +kernel
theorem dX3_findBattery_27 : decode cX3_findBattery 27 = .ok (.aaload, 1) := by decide +kernel
theorem dX3_findBattery_28 : decode cX3_findBattery 28 = .ok (.areturn, 1) := by decide +kernel
theorem dX3_findGenerator_0 : decode cX3_findGenerator 0 = .ok (.iload_n 1, 1) := by decide +kernel
theorem dX3_findGenerator_1 : decode cX3_findGenerator 1 = .ok (.ifCond .lt 11, 3) := by decide +kernel
theorem dX3_findGenerator_4 : decode cX3_findGenerator 4 = .ok (.iload_n 1, 1) := by decide +kernel
theorem dX3_findGenerator_5 : decode cX3_findGenerator 5 = .ok (.aload_n 0, 1) := by decide +kernel
theorem dX3_findGenerator_6 : decode cX3_findGenerator 6 = .ok (.getfield 79, 3) := by decide +kernel
theorem dX3_findGenerator_9 : decode cX3_findGenerator 9 = .ok (.if_icmp .lt 13, 3) := by decide +kernel
theorem dX3_findGenerator_12 : decode cX3_findGenerator 12 = .ok (.new 200, 3) := by decide +kernel
theorem dX3_findGenerator_15 : decode cX3_findGenerator 15 = .ok (.dup, 1) := by decide +kernel
theorem dX3_findGenerator_16 : decode cX3_findGenerator 16 = .ok (.ldc 207, 2) := by decide +kernel
theorem dX3_findGenerator_18 : decode cX3_findGenerator 18 = .ok (.invokespecial 204, 3) := by decide +kernel
theorem dX3_findGenerator_21 : decode cX3_findGenerator 21 = .ok (.athrow, 1) := by decide +kernel
theorem dX3_findGenerator_22 : decode cX3_findGenerator 22 = .ok (.aload_n 0, 1) := by decide +kernel
theorem dX3_findGenerator_23 : decode cX3_findGenerator 23 = .ok (.getfield 23, 3) := by decide +kernel
theorem dX3_findGenerator_26 : decode cX3_findGenerator 26 = .ok (.iload_n 1, 1) := by decide +kernel
theorem dX3_findGenerator_27 : decode cX3_findGenerator 27 = .ok (.aaload, 1) := by decide +kernel
theorem dX3_findGenerator_28 : decode cX3_findGenerator 28 = .ok (.areturn, 1) := by decide +kernel
set_option maxRecDepth 20000 in
theorem ggX3_passOneMinute_X3_moveGenerators : GoodIn wsX3_passOneMinute wsX3_moveGenerators := goodIn_r _ [12, 7, 13, 14, 5, 15, 16, 17, 11, 18, 19, 6, 20, 21, 4, 22, 23, 24, 25, 26, 27, 28, 29, 30, 31, 32, 33, 34, 35, 36, 37, 38, 39, 40, 41, 42, 43, 44, 45, 46, 158, 159, 160, 161, 162, 163, 164, 165, 166, 167, 168, 169, 170, 171, 172, 173, 180, 181, 182, 183, 184, 185, 186, 187, 188, 189, 190, 191, 192, 193, 194] (by decide +kernel) (by decide +kernel)
set_option maxRecDepth 20000 in
theorem gX3_passOneMinute_X3_moveGenerators : GoodIn wsX3_passOneMinute (wsV RX3 218 RX3 yX3_moveGenerators wsX3_moveGenerators) := goodIn_app (goodIn_of _ (by decide +kernel)) ggX3_passOneMinute_X3_moveGenerators
set_option maxRecDepth 20000 in
theorem ggX3_passOneMinute_X3_shedLoads : GoodIn wsX3_passOneMinute wsX3_shedLoads := goodIn_r _ [50, 51, 52, 53, 54, 55, 11, 56, 7, 57, 58, 59, 60, 28, 61, 33, 39, 62, 63, 64, 65, 1, 66, 67, 68, 69, 70, 71, 72, 73, 74, 75, 76, 77, 78, 79, 80, 81, 82, 83, 84, 85, 86, 87, 88, 89, 90, 91, 92, 93, 94, 95, 96, 97, 98, 195, 196, 197, 198, 199, 200, 158, 159, 160, 161, 162, 163, 164, 165, 166, 167, 168, 169, 170, 171, 172, 173, 180, 181, 182, 183, 184, 185, 186, 187, 188, 189, 190, 191, 192, 193, 194, 174, 175, 176, 177, 178, 179] (by decide +kernel) (by decide +kernel)
set_option maxRecDepth 20000 in
theorem gX3_passOneMinute_X3_shedLoads : GoodIn wsX3_passOneMinute (wsV RX3 221 RX3 yX3_shedLoads wsX3_shedLoads) := goodIn_app (goodIn_of _ (by decide +kernel)) ggX3_passOneMinute_X3_shedLoads
set_option maxRecDepth 20000 in
theorem ggX3_passOneMinute_X3_returnLoad : GoodIn wsX3_passOneMinute wsX3_returnLoad := goodIn_r _ [102, 103, 4, 104, 5, 52, 51, 82, 83, 84, 11, 85, 81, 86, 87, 88, 89, 90, 91, 92, 93, 94, 95, 96, 97, 98, 77, 78, 79, 80, 53, 54, 55, 56, 7, 57, 58, 59, 60, 28, 61, 33, 39, 158, 159, 160, 161, 162, 163, 164, 165, 166, 167, 168, 169, 170, 171, 172, 173, 195, 196, 197, 198, 199, 200, 180, 181, 182, 183, 184, 185, 186, 187, 188, 189, 190, 191, 192, 193, 194] (by decide +kernel) (by decide +kernel)
set_option maxRecDepth 20000 in
theorem gX3_passOneMinute_X3_returnLoad : GoodIn wsX3_passOneMinute (wsV RX3 224 RX3 yX3_returnLoad wsX3_returnLoad) := goodIn_app (goodIn_of _ (by decide +kernel)) ggX3_passOneMinute_X3_returnLoad
set_option maxRecDepth 20000 in
theorem ggX3_passOneMinute_X3_serveLoads : GoodIn wsX3_passOneMinute wsX3_serveLoads := goodIn_r _ [108, 81, 51, 109, 52, 110, 5, 111, 112, 113, 114, 115, 116, 11, 117, 7, 118, 74, 75, 76, 13, 119, 120, 121, 28, 122, 123, 124, 125, 59, 60, 61, 33, 39, 126, 127, 128, 129, 1, 2, 66, 67, 68, 69, 70, 71, 72, 73, 158, 159, 160, 161, 162, 163, 164, 165, 166, 167, 168, 169, 170, 171, 172, 173, 195, 196, 197, 198, 199, 200, 180, 181, 182, 183, 184, 185, 186, 187, 188, 189, 190, 191, 192, 193, 194, 174, 175, 176, 177, 178, 179] (by decide +kernel) (by decide +kernel)
set_option maxRecDepth 20000 in
theorem gX3_passOneMinute_X3_serveLoads : GoodIn wsX3_passOneMinute (wsV RX3 227 RX3 yX3_serveLoads wsX3_serveLoads) := goodIn_app (goodIn_of _ (by decide +kernel)) ggX3_passOneMinute_X3_serveLoads
set_option maxRecDepth 20000 in
theorem ggX3_passOneMinute_X3_chargeBatteries : GoodIn wsX3_passOneMinute wsX3_chargeBatteries := goodIn_r _ [133, 5, 134, 7, 135, 136, 137, 11, 138, 1, 118, 74, 75, 76, 2, 139, 140, 141, 69, 142, 143, 144, 72, 73, 119, 120, 121, 28, 122, 123, 124, 125, 59, 60, 61, 33, 39, 114, 115, 116, 117, 13, 158, 159, 160, 161, 162, 163, 164, 165, 166, 167, 168, 169, 170, 171, 172, 173, 174, 175, 176, 177, 178, 179, 180, 181, 182, 183, 184, 185, 186, 187, 188, 189, 190, 191, 192, 193, 194] (by decide +kernel) (by decide +kernel)
set_option maxRecDepth 20000 in
theorem gX3_passOneMinute_X3_chargeBatteries : GoodIn wsX3_passOneMinute (wsV RX3 230 RX3 yX3_chargeBatteries wsX3_chargeBatteries) := goodIn_app (goodIn_of _ (by decide +kernel)) ggX3_passOneMinute_X3_chargeBatteries
set_option maxRecDepth 20000 in
theorem ggX3_passOneMinute_X1_burnFuel : GoodIn wsX3_passOneMinute wsX1_burnFuel := goodIn_r _ [148, 33, 124, 149, 150, 75, 151, 152, 35, 36, 37, 28, 38, 39, 40, 180, 181, 182, 183, 184, 185, 186, 187, 188, 189, 190, 191, 192, 193, 194] (by decide +kernel) (by decide +kernel)
set_option maxRecDepth 20000 in
theorem gX3_passOneMinute_X1_burnFuel : GoodIn wsX3_passOneMinute (wsV RX3 233 RX1 yX1_burnFuel wsX1_burnFuel) := goodIn_app (goodIn_of _ (by decide +kernel)) ggX3_passOneMinute_X1_burnFuel
set_option maxRecDepth 20000 in
theorem ggX3_passOneMinute_X0_wearOut : GoodIn wsX3_passOneMinute wsX0_wearOut := goodIn_r _ [156, 157, 72, 144, 174, 175, 176, 177, 178, 179] (by decide +kernel) (by decide +kernel)
set_option maxRecDepth 20000 in
theorem gX3_passOneMinute_X0_wearOut : GoodIn wsX3_passOneMinute (wsV RX3 236 RX0 yX0_wearOut wsX0_wearOut) := goodIn_app (goodIn_of _ (by decide +kernel)) ggX3_passOneMinute_X0_wearOut
theorem dX3_passOneMinute_0 : decode cX3_passOneMinute 0 = .ok (.aload_n 0, 1) := by decide +kernel
theorem dX3_passOneMinute_1 : decode cX3_passOneMinute 1 = .ok (.getfield 17, 3) := by decide +kernel
theorem dX3_passOneMinute_4 : decode cX3_passOneMinute 4 = .ok (.astore_n 1, 1) := by decide +kernel
theorem dX3_passOneMinute_5 : decode cX3_passOneMinute 5 = .ok (.aload_n 1, 1) := by decide +kernel
theorem dX3_passOneMinute_6 : decode cX3_passOneMinute 6 = .ok (.arraylength, 1) := by decide +kernel
theorem dX3_passOneMinute_7 : decode cX3_passOneMinute 7 = .ok (.istore_n 2, 1) := by decide +kernel
theorem dX3_passOneMinute_8 : decode cX3_passOneMinute 8 = .ok (.iconst 0, 1) := by decide +kernel
theorem dX3_passOneMinute_9 : decode cX3_passOneMinute 9 = .ok (.istore_n 3, 1) := by decide +kernel
theorem dX3_passOneMinute_10 : decode cX3_passOneMinute 10 = .ok (.iload_n 3, 1) := by decide +kernel
theorem dX3_passOneMinute_11 : decode cX3_passOneMinute 11 = .ok (.iload_n 2, 1) := by decide +kernel
theorem dX3_passOneMinute_12 : decode cX3_passOneMinute 12 = .ok (.if_icmp .ge 24, 3) := by decide +kernel
theorem dX3_passOneMinute_15 : decode cX3_passOneMinute 15 = .ok (.aload_n 1, 1) := by decide +kernel
theorem dX3_passOneMinute_16 : decode cX3_passOneMinute 16 = .ok (.iload_n 3, 1) := by decide +kernel
theorem dX3_passOneMinute_17 : decode cX3_passOneMinute 17 = .ok (.aaload, 1) := by decide +kernel
theorem dX3_passOneMinute_18 : decode cX3_passOneMinute 18 = .ok (.astore 4, 2) := by decide +kernel
theorem dX3_passOneMinute_20 : decode cX3_passOneMinute 20 = .ok (.aload 4, 2) := by decide +kernel
theorem dX3_passOneMinute_22 : decode cX3_passOneMinute 22 = .ok (.aload 4, 2) := by decide +kernel
theorem dX3_passOneMinute_24 : decode cX3_passOneMinute 24 = .ok (.getfield 153, 3) := by decide +kernel
theorem dX3_passOneMinute_27 : decode cX3_passOneMinute 27 = .ok (.putfield 215, 3) := by decide +kernel
theorem dX3_passOneMinute_30 : decode cX3_passOneMinute 30 = .ok (.iinc 3 1, 3) := by decide +kernel
theorem dX3_passOneMinute_33 : decode cX3_passOneMinute 33 = .ok (.goto (-23), 3) := by decide +kernel
theorem dX3_passOneMinute_36 : decode cX3_passOneMinute 36 = .ok (.aload_n 0, 1) := by decide +kernel
theorem dX3_passOneMinute_37 : decode cX3_passOneMinute 37 = .ok (.dup, 1) := by decide +kernel
theorem dX3_passOneMinute_38 : decode cX3_passOneMinute 38 = .ok (.getfield 136, 3) := by decide +kernel
theorem dX3_passOneMinute_41 : decode cX3_passOneMinute 41 = .ok (.iconst 1, 1) := by decide +kernel
theorem dX3_passOneMinute_42 : decode cX3_passOneMinute 42 = .ok (.iadd, 1) := by decide +kernel
theorem dX3_passOneMinute_43 : decode cX3_passOneMinute 43 = .ok (.putfield 136, 3) := by decide +kernel
theorem dX3_passOneMinute_46 : decode cX3_passOneMinute 46 = .ok (.aload_n 0, 1) := by decide +kernel
theorem dX3_passOneMinute_47 : decode cX3_passOneMinute 47 = .ok (.aload_n 0, 1) := by decide +kernel
theorem dX3_passOneMinute_48 : decode cX3_passOneMinute 48 = .ok (.getfield 27, 3) := by decide +kernel
theorem dX3_passOneMinute_51 : decode cX3_passOneMinute 51 = .ok (.ifCond .eq 7, 3) := by decide +kernel
theorem dX3_passOneMinute_54 : decode cX3_passOneMinute 54 = .ok (.iconst 0, 1) := by decide +kernel
theorem dX3_passOneMinute_55 : decode cX3_passOneMinute 55 = .ok (.goto 9, 3) := by decide +kernel
theorem dX3_passOneMinute_58 : decode cX3_passOneMinute 58 = .ok (.aload_n 0, 1) := by decide +kernel
theorem dX3_passOneMinute_59 : decode cX3_passOneMinute 59 = .ok (.getfield 139, 3) := by decide +kernel
theorem dX3_passOneMinute_62 : decode cX3_passOneMinute 62 = .ok (.iconst 1, 1) := by decide +kernel
theorem dX3_passOneMinute_63 : decode cX3_passOneMinute 63 = .ok (.iadd, 1) := by decide +kernel
theorem dX3_passOneMinute_64 : decode cX3_passOneMinute 64 = .ok (.putfield 139, 3) := by decide +kernel
theorem dX3_passOneMinute_67 : decode cX3_passOneMinute 67 = .ok (.aload_n 0, 1) := by decide +kernel
theorem dX3_passOneMinute_68 : decode cX3_passOneMinute 68 = .ok (.invokevirtual 218, 3) := by decide +kernel
theorem dX3_passOneMinute_71 : decode cX3_passOneMinute 71 = .ok (.aload_n 0, 1) := by decide +kernel
theorem dX3_passOneMinute_72 : decode cX3_passOneMinute 72 = .ok (.getfield 27, 3) := by decide +kernel
theorem dX3_passOneMinute_75 : decode cX3_passOneMinute 75 = .ok (.ifCond .eq 7, 3) := by decide +kernel
theorem dX3_passOneMinute_78 : decode cX3_passOneMinute 78 = .ok (.iconst 0, 1) := by decide +kernel
theorem dX3_passOneMinute_79 : decode cX3_passOneMinute 79 = .ok (.goto 7, 3) := by decide +kernel
theorem dX3_passOneMinute_82 : decode cX3_passOneMinute 82 = .ok (.aload_n 0, 1) := by decide +kernel
theorem dX3_passOneMinute_83 : decode cX3_passOneMinute 83 = .ok (.invokevirtual 221, 3) := by decide +kernel
theorem dX3_passOneMinute_86 : decode cX3_passOneMinute 86 = .ok (.istore_n 1, 1) := by decide +kernel
theorem dX3_passOneMinute_87 : decode cX3_passOneMinute 87 = .ok (.iload_n 1, 1) := by decide +kernel
theorem dX3_passOneMinute_88 : decode cX3_passOneMinute 88 = .ok (.ifCond .ne 7, 3) := by decide +kernel
theorem dX3_passOneMinute_91 : decode cX3_passOneMinute 91 = .ok (.aload_n 0, 1) := by decide +kernel
theorem dX3_passOneMinute_92 : decode cX3_passOneMinute 92 = .ok (.invokevirtual 224, 3) := by decide +kernel
theorem dX3_passOneMinute_95 : decode cX3_passOneMinute 95 = .ok (.aload_n 0, 1) := by decide +kernel
theorem dX3_passOneMinute_96 : decode cX3_passOneMinute 96 = .ok (.invokevirtual 227, 3) := by decide +kernel
theorem dX3_passOneMinute_99 : decode cX3_passOneMinute 99 = .ok (.aload_n 0, 1) := by decide +kernel
theorem dX3_passOneMinute_100 : decode cX3_passOneMinute 100 = .ok (.invokevirtual 230, 3) := by decide +kernel
theorem dX3_passOneMinute_103 : decode cX3_passOneMinute 103 = .ok (.aload_n 0, 1) := by decide +kernel
theorem dX3_passOneMinute_104 : decode cX3_passOneMinute 104 = .ok (.getfield 23, 3) := by decide +kernel
theorem dX3_passOneMinute_107 : decode cX3_passOneMinute 107 = .ok (.astore_n 2, 1) := by decide +kernel
theorem dX3_passOneMinute_108 : decode cX3_passOneMinute 108 = .ok (.aload_n 2, 1) := by decide +kernel
theorem dX3_passOneMinute_109 : decode cX3_passOneMinute 109 = .ok (.arraylength, 1) := by decide +kernel
theorem dX3_passOneMinute_110 : decode cX3_passOneMinute 110 = .ok (.istore_n 3, 1) := by decide +kernel
theorem dX3_passOneMinute_111 : decode cX3_passOneMinute 111 = .ok (.iconst 0, 1) := by decide +kernel
theorem dX3_passOneMinute_112 : decode cX3_passOneMinute 112 = .ok (.istore 4, 2) := by decide +kernel
theorem dX3_passOneMinute_114 : decode cX3_passOneMinute 114 = .ok (.iload 4, 2) := by decide +kernel
theorem dX3_passOneMinute_116 : decode cX3_passOneMinute 116 = .ok (.iload_n 3, 1) := by decide +kernel
theorem dX3_passOneMinute_117 : decode cX3_passOneMinute 117 = .ok (.if_icmp .ge 20, 3) := by decide +kernel
theorem dX3_passOneMinute_120 : decode cX3_passOneMinute 120 = .ok (.aload_n 2, 1) := by decide +kernel
theorem dX3_passOneMinute_121 : decode cX3_passOneMinute 121 = .ok (.iload 4, 2) := by decide +kernel
theorem dX3_passOneMinute_123 : decode cX3_passOneMinute 123 = .ok (.aaload, 1) := by decide +kernel
theorem dX3_passOneMinute_124 : decode cX3_passOneMinute 124 = .ok (.astore 5, 2) := by decide +kernel
theorem dX3_passOneMinute_126 : decode cX3_passOneMinute 126 = .ok (.aload 5, 2) := by decide +kernel
theorem dX3_passOneMinute_128 : decode cX3_passOneMinute 128 = .ok (.invokevirtual 233, 3) := by decide +kernel
theorem dX3_passOneMinute_131 : decode cX3_passOneMinute 131 = .ok (.iinc 4 1, 3) := by decide +kernel
theorem dX3_passOneMinute_134 : decode cX3_passOneMinute 134 = .ok (.goto (-20), 3) := by decide +kernel
theorem dX3_passOneMinute_137 : decode cX3_passOneMinute 137 = .ok (.aload_n 0, 1) := by decide +kernel
theorem dX3_passOneMinute_138 : decode cX3_passOneMinute 138 = .ok (.getfield 17, 3) := by decide +kernel
theorem dX3_passOneMinute_141 : decode cX3_passOneMinute 141 = .ok (.astore_n 2, 1) := by decide +kernel
theorem dX3_passOneMinute_142 : decode cX3_passOneMinute 142 = .ok (.aload_n 2, 1) := by decide +kernel
theorem dX3_passOneMinute_143 : decode cX3_passOneMinute 143 = .ok (.arraylength, 1) := by decide +kernel
theorem dX3_passOneMinute_144 : decode cX3_passOneMinute 144 = .ok (.istore_n 3, 1) := by decide +kernel
theorem dX3_passOneMinute_145 : decode cX3_passOneMinute 145 = .ok (.iconst 0, 1) := by decide +kernel
theorem dX3_passOneMinute_146 : decode cX3_passOneMinute 146 = .ok (.istore 4, 2) := by decide +kernel
theorem dX3_passOneMinute_148 : decode cX3_passOneMinute 148 = .ok (.iload 4, 2) := by decide +kernel
theorem dX3_passOneMinute_150 : decode cX3_passOneMinute 150 = .ok (.iload_n 3, 1) := by decide +kernel
theorem dX3_passOneMinute_151 : decode cX3_passOneMinute 151 = .ok (.if_icmp .ge 20, 3) := by decide +kernel
theorem dX3_passOneMinute_154 : decode cX3_passOneMinute 154 = .ok (.aload_n 2, 1) := by decide +kernel
theorem dX3_passOneMinute_155 : decode cX3_passOneMinute 155 = .ok (.iload 4, 2) := by decide +kernel
theorem dX3_passOneMinute_157 : decode cX3_passOneMinute 157 = .ok (.aaload, 1) := by decide +kernel
theorem dX3_passOneMinute_158 : decode cX3_passOneMinute 158 = .ok (.astore 5, 2) := by decide +kernel
theorem dX3_passOneMinute_160 : decode cX3_passOneMinute 160 = .ok (.aload 5, 2) := by decide +kernel
theorem dX3_passOneMinute_162 : decode cX3_passOneMinute 162 = .ok (.invokevirtual 236, 3) := by decide +kernel
theorem dX3_passOneMinute_165 : decode cX3_passOneMinute 165 = .ok (.iinc 4 1, 3) := by decide +kernel
theorem dX3_passOneMinute_168 : decode cX3_passOneMinute 168 = .ok (.goto (-20), 3) := by decide +kernel
theorem dX3_passOneMinute_171 : decode cX3_passOneMinute 171 = .ok (.iload_n 1, 1) := by decide +kernel
theorem dX3_passOneMinute_172 : decode cX3_passOneMinute 172 = .ok (.ireturn, 1) := by decide +kernel
set_option maxRecDepth 20000 in
theorem ggX3_moveGenerators_X3_beginStart : GoodIn wsX3_moveGenerators wsX3_beginStart := goodIn_r _ [9, 10, 4, 11, 12, 13, 14, 3, 15, 16, 17, 56, 57, 58, 59, 60, 61, 62, 63, 64, 65, 66, 67, 68, 69, 70, 40, 41, 42, 43, 44, 45, 46, 47, 48, 49, 50, 51, 52, 53, 54, 55] (by decide +kernel) (by decide +kernel)
set_option maxRecDepth 20000 in
theorem gX3_moveGenerators_X3_beginStart : GoodIn wsX3_moveGenerators (wsV RX3 242 RX3 yX3_beginStart wsX3_beginStart) := goodIn_app (goodIn_of _ (by decide +kernel)) ggX3_moveGenerators_X3_beginStart
set_option maxRecDepth 20000 in
theorem ggX3_moveGenerators_X1_goOnStarting : GoodIn wsX3_moveGenerators wsX1_goOnStarting := goodIn_r _ [22, 23, 24, 25, 26, 27, 28, 29, 30, 21, 31, 32, 33, 56, 57, 58, 59, 60, 61, 62, 63, 64, 65, 66, 67, 68, 69, 70] (by decide +kernel) (by decide +kernel)
set_option maxRecDepth 20000 in
theorem gX3_moveGenerators_X1_goOnStarting : GoodIn wsX3_moveGenerators (wsV RX3 246 RX1 yX1_goOnStarting wsX1_goOnStarting) := goodIn_app (goodIn_of _ (by decide +kernel)) ggX3_moveGenerators_X1_goOnStarting
set_option maxRecDepth 20000 in
theorem ggX3_moveGenerators_X1_goOnRunning : GoodIn wsX3_moveGenerators wsX1_goOnRunning := goodIn_r _ [37, 32, 26, 27, 38, 39, 56, 57, 58, 59, 60, 61, 62, 63, 64, 65, 66, 67, 68, 69, 70] (by decide +kernel) (by decide +kernel)
set_option maxRecDepth 20000 in
theorem gX3_moveGenerators_X1_goOnRunning : GoodIn wsX3_moveGenerators (wsV RX3 249 RX1 yX1_goOnRunning wsX1_goOnRunning) := goodIn_app (goodIn_of _ (by decide +kernel)) ggX3_moveGenerators_X1_goOnRunning
theorem dX3_moveGenerators_0 : decode cX3_moveGenerators 0 = .ok (.aload_n 0, 1) := by decide +kernel
theorem dX3_moveGenerators_1 : decode cX3_moveGenerators 1 = .ok (.getfield 23, 3) := by decide +kernel
theorem dX3_moveGenerators_4 : decode cX3_moveGenerators 4 = .ok (.astore_n 1, 1) := by decide +kernel
theorem dX3_moveGenerators_5 : decode cX3_moveGenerators 5 = .ok (.aload_n 1, 1) := by decide +kernel
theorem dX3_moveGenerators_6 : decode cX3_moveGenerators 6 = .ok (.arraylength, 1) := by decide +kernel
theorem dX3_moveGenerators_7 : decode cX3_moveGenerators 7 = .ok (.istore_n 2, 1) := by decide +kernel
theorem dX3_moveGenerators_8 : decode cX3_moveGenerators 8 = .ok (.iconst 0, 1) := by decide +kernel
theorem dX3_moveGenerators_9 : decode cX3_moveGenerators 9 = .ok (.istore_n 3, 1) := by decide +kernel
theorem dX3_moveGenerators_10 : decode cX3_moveGenerators 10 = .ok (.iload_n 3, 1) := by decide +kernel
theorem dX3_moveGenerators_11 : decode cX3_moveGenerators 11 = .ok (.iload_n 2, 1) := by decide +kernel
theorem dX3_moveGenerators_12 : decode cX3_moveGenerators 12 = .ok (.if_icmp .ge 76, 3) := by decide +kernel
theorem dX3_moveGenerators_15 : decode cX3_moveGenerators 15 = .ok (.aload_n 1, 1) := by decide +kernel
theorem dX3_moveGenerators_16 : decode cX3_moveGenerators 16 = .ok (.iload_n 3, 1) := by decide +kernel
theorem dX3_moveGenerators_17 : decode cX3_moveGenerators 17 = .ok (.aaload, 1) := by decide +kernel
theorem dX3_moveGenerators_18 : decode cX3_moveGenerators 18 = .ok (.astore 4, 2) := by decide +kernel
theorem dX3_moveGenerators_20 : decode cX3_moveGenerators 20 = .ok (.aload 4, 2) := by decide +kernel
theorem dX3_moveGenerators_22 : decode cX3_moveGenerators 22 = .ok (.iconst 0, 1) := by decide +kernel
theorem dX3_moveGenerators_23 : decode cX3_moveGenerators 23 = .ok (.putfield 239, 3) := by decide +kernel
theorem dX3_moveGenerators_26 : decode cX3_moveGenerators 26 = .ok (.aload 4, 2) := by decide +kernel
theorem dX3_moveGenerators_28 : decode cX3_moveGenerators 28 = .ok (.getfield 162, 3) := by decide +kernel
theorem dX3_moveGenerators_31 : decode cX3_moveGenerators 31 = .ok (.lookupswitch 42 #[(0, 25), (1, 34)], 25) := by decide +kernel
theorem dX3_moveGenerators_56 : decode cX3_moveGenerators 56 = .ok (.aload_n 0, 1) := by decide +kernel
theorem dX3_moveGenerators_57 : decode cX3_moveGenerators 57 = .ok (.aload 4, 2) := by decide +kernel
theorem dX3_moveGenerators_59 : decode cX3_moveGenerators 59 = .ok (.invokevirtual 242, 3) := by decide +kernel
theorem dX3_moveGenerators_62 : decode cX3_moveGenerators 62 = .ok (.goto 20, 3) := by decide +kernel
theorem dX3_moveGenerators_65 : decode cX3_moveGenerators 65 = .ok (.aload 4, 2) := by decide +kernel
theorem dX3_moveGenerators_67 : decode cX3_moveGenerators 67 = .ok (.invokevirtual 246, 3) := by decide +kernel
theorem dX3_moveGenerators_70 : decode cX3_moveGenerators 70 = .ok (.goto 12, 3) := by decide +kernel
theorem dX3_moveGenerators_73 : decode cX3_moveGenerators 73 = .ok (.aload 4, 2) := by decide +kernel
theorem dX3_moveGenerators_75 : decode cX3_moveGenerators 75 = .ok (.aload_n 0, 1) := by decide +kernel
theorem dX3_moveGenerators_76 : decode cX3_moveGenerators 76 = .ok (.getfield 27, 3) := by decide +kernel
theorem dX3_moveGenerators_79 : decode cX3_moveGenerators 79 = .ok (.invokevirtual 249, 3) := by decide +kernel
theorem dX3_moveGenerators_82 : decode cX3_moveGenerators 82 = .ok (.iinc 3 1, 3) := by decide +kernel
theorem dX3_moveGenerators_85 : decode cX3_moveGenerators 85 = .ok (.goto (-75), 3) := by decide +kernel
theorem dX3_moveGenerators_88 : decode cX3_moveGenerators 88 = .ok (.return_, 1) := by decide +kernel
theorem dX3_beginStart_0 : decode cX3_beginStart 0 = .ok (.aload_n 1, 1) := by decide +kernel
theorem dX3_beginStart_1 : decode cX3_beginStart 1 = .ok (.getfield 106, 3) := by decide +kernel
theorem dX3_beginStart_4 : decode cX3_beginStart 4 = .ok (.ifCond .ne 4, 3) := by decide +kernel
theorem dX3_beginStart_7 : decode cX3_beginStart 7 = .ok (.return_, 1) := by decide +kernel
theorem dX3_beginStart_8 : decode cX3_beginStart 8 = .ok (.aload_n 0, 1) := by decide +kernel
theorem dX3_beginStart_9 : decode cX3_beginStart 9 = .ok (.getfield 27, 3) := by decide +kernel
theorem dX3_beginStart_12 : decode cX3_beginStart 12 = .ok (.ifCond .ne 18, 3) := by decide +kernel
theorem dX3_beginStart_15 : decode cX3_beginStart 15 = .ok (.aload_n 0, 1) := by decide +kernel
theorem dX3_beginStart_16 : decode cX3_beginStart 16 = .ok (.getfield 139, 3) := by decide +kernel
theorem dX3_beginStart_19 : decode cX3_beginStart 19 = .ok (.aload_n 0, 1) := by decide +kernel
theorem dX3_beginStart_20 : decode cX3_beginStart 20 = .ok (.getfield 31, 3) := by decide +kernel
theorem dX3_beginStart_23 : decode cX3_beginStart 23 = .ok (.if_icmp .lt 7, 3) := by decide +kernel
theorem dX3_beginStart_26 : decode cX3_beginStart 26 = .ok (.iconst 1, 1) := by decide +kernel
theorem dX3_beginStart_27 : decode cX3_beginStart 27 = .ok (.goto 4, 3) := by decide +kernel
theorem dX3_beginStart_30 : decode cX3_beginStart 30 = .ok (.iconst 0, 1) := by decide +kernel
theorem dX3_beginStart_31 : decode cX3_beginStart 31 = .ok (.istore_n 2, 1) := by decide +kernel
theorem dX3_beginStart_32 : decode cX3_beginStart 32 = .ok (.aload_n 0, 1) := by decide +kernel
theorem dX3_beginStart_33 : decode cX3_beginStart 33 = .ok (.getfield 27, 3) := by decide +kernel
theorem dX3_beginStart_36 : decode cX3_beginStart 36 = .ok (.ifCond .eq 26, 3) := by decide +kernel
theorem dX3_beginStart_39 : decode cX3_beginStart 39 = .ok (.aload_n 1, 1) := by decide +kernel
theorem dX3_beginStart_40 : decode cX3_beginStart 40 = .ok (.getfield 122, 3) := by decide +kernel
theorem dX3_beginStart_43 : decode cX3_beginStart 43 = .ok (.ifCond .le 19, 3) := by decide +kernel
theorem dX3_beginStart_46 : decode cX3_beginStart 46 = .ok (.aload_n 0, 1) := by decide +kernel
theorem dX3_beginStart_47 : decode cX3_beginStart 47 = .ok (.getfield 136, 3) := by decide +kernel
theorem dX3_beginStart_50 : decode cX3_beginStart 50 = .ok (.aload_n 1, 1) := by decide +kernel
theorem dX3_beginStart_51 : decode cX3_beginStart 51 = .ok (.getfield 122, 3) := by decide +kernel
theorem dX3_beginStart_54 : decode cX3_beginStart 54 = .ok (.irem, 1) := by decide +kernel
theorem dX3_beginStart_55 : decode cX3_beginStart 55 = .ok (.ifCond .ne 7, 3) := by decide +kernel
theorem dX3_beginStart_58 : decode cX3_beginStart 58 = .ok (.iconst 1, 1) := by decide +kernel
theorem dX3_beginStart_59 : decode cX3_beginStart 59 = .ok (.goto 4, 3) := by decide +kernel
theorem dX3_beginStart_62 : decode cX3_beginStart 62 = .ok (.iconst 0, 1) := by decide +kernel
theorem dX3_beginStart_63 : decode cX3_beginStart 63 = .ok (.istore_n 3, 1) := by decide +kernel
theorem dX3_beginStart_64 : decode cX3_beginStart 64 = .ok (.iload_n 2, 1) := by decide +kernel
theorem dX3_beginStart_65 : decode cX3_beginStart 65 = .ok (.ifCond .ne 7, 3) := by decide +kernel
theorem dX3_beginStart_68 : decode cX3_beginStart 68 = .ok (.iload_n 3, 1) := by decide +kernel
theorem dX3_beginStart_69 : decode cX3_beginStart 69 = .ok (.ifCond .eq 21, 3) := by decide +kernel
theorem dX3_beginStart_72 : decode cX3_beginStart 72 = .ok (.aload_n 1, 1) := by decide +kernel
theorem dX3_beginStart_73 : decode cX3_beginStart 73 = .ok (.iconst 1, 1) := by decide +kernel
theorem dX3_beginStart_74 : decode cX3_beginStart 74 = .ok (.putfield 162, 3) := by decide +kernel
theorem dX3_beginStart_77 : decode cX3_beginStart 77 = .ok (.aload_n 1, 1) := by decide +kernel
theorem dX3_beginStart_78 : decode cX3_beginStart 78 = .ok (.iload_n 3, 1) := by decide +kernel
theorem dX3_beginStart_79 : decode cX3_beginStart 79 = .ok (.putfield 159, 3) := by decide +kernel
theorem dX3_beginStart_82 : decode cX3_beginStart 82 = .ok (.aload_n 1, 1) := by decide +kernel
theorem dX3_beginStart_83 : decode cX3_beginStart 83 = .ok (.aload_n 1, 1) := by decide +kernel
theorem dX3_beginStart_84 : decode cX3_beginStart 84 = .ok (.getfield 253, 3) := by decide +kernel
theorem dX3_beginStart_87 : decode cX3_beginStart 87 = .ok (.putfield 256, 3) := by decide +kernel
theorem dX3_beginStart_90 : decode cX3_beginStart 90 = .ok (.return_, 1) := by decide +kernel
set_option maxRecDepth 20000 in
theorem ggX3_shedLoads_X3_sumGeneratorPower : GoodIn wsX3_shedLoads wsX3_sumGeneratorPower := goodIn_r _ [7, 8, 9, 10, 11, 12, 13, 14, 15, 16, 61, 62, 63, 64, 65, 66, 67, 68, 69, 70, 71, 72, 73, 74, 75, 76, 77, 78, 79, 80, 81, 82, 83, 84, 85, 86, 87, 88, 89, 90, 91] (by decide +kernel) (by decide +kernel)
set_option maxRecDepth 20000 in
theorem gX3_shedLoads_X3_sumGeneratorPower : GoodIn wsX3_shedLoads (wsV RX3 259 RX3 yX3_sumGeneratorPower wsX3_sumGeneratorPower) := goodIn_app (goodIn_of _ (by decide +kernel)) ggX3_shedLoads_X3_sumGeneratorPower
set_option maxRecDepth 20000 in
theorem ggX3_shedLoads_X3_sumBatteryPower : GoodIn wsX3_shedLoads wsX3_sumBatteryPower := goodIn_r _ [20, 21, 22, 23, 24, 25, 26, 27, 28, 29, 30, 31, 32, 61, 62, 63, 64, 65, 66, 67, 68, 69, 70, 71, 72, 73, 74, 75, 76, 92, 93, 94, 95, 96, 97] (by decide +kernel) (by decide +kernel)
set_option maxRecDepth 20000 in
theorem gX3_shedLoads_X3_sumBatteryPower : GoodIn wsX3_shedLoads (wsV RX3 262 RX3 yX3_sumBatteryPower wsX3_sumBatteryPower) := goodIn_app (goodIn_of _ (by decide +kernel)) ggX3_shedLoads_X3_sumBatteryPower
set_option maxRecDepth 20000 in
theorem ggX3_shedLoads_X3_demand : GoodIn wsX3_shedLoads wsX3_demand := goodIn_r _ [36, 37, 1, 2, 61, 62, 63, 64, 65, 66, 67, 68, 69, 70, 71, 72, 73, 74, 75, 76, 55, 56, 57, 58, 59, 60] (by decide +kernel) (by decide +kernel)
set_option maxRecDepth 20000 in
theorem gX3_shedLoads_X3_demand : GoodIn wsX3_shedLoads (wsV RX3 163 RX3 yX3_demand wsX3_demand) := goodIn_app (goodIn_of _ (by decide +kernel)) ggX3_shedLoads_X3_demand
set_option maxRecDepth 20000 in
theorem ggX3_shedLoads_X3_firstInOrder : GoodIn wsX3_shedLoads wsX3_firstInOrder := goodIn_r _ [41, 37, 1, 42, 43, 44, 45, 46, 47, 48, 49, 50, 51, 52, 53, 54, 61, 62, 63, 64, 65, 66, 67, 68, 69, 70, 71, 72, 73, 74, 75, 76, 55, 56, 57, 58, 59, 60] (by decide +kernel) (by decide +kernel)
set_option maxRecDepth 20000 in
theorem gX3_shedLoads_X3_firstInOrder : GoodIn wsX3_shedLoads (wsV RX3 265 RX3 yX3_firstInOrder wsX3_firstInOrder) := goodIn_app (goodIn_of _ (by decide +kernel)) ggX3_shedLoads_X3_firstInOrder
theorem dX3_shedLoads_0 : decode cX3_shedLoads 0 = .ok (.aload_n 0, 1) := by decide +kernel
theorem dX3_shedLoads_1 : decode cX3_shedLoads 1 = .ok (.invokevirtual 259, 3) := by decide +kernel
theorem dX3_shedLoads_4 : decode cX3_shedLoads 4 = .ok (.aload_n 0, 1) := by decide +kernel
theorem dX3_shedLoads_5 : decode cX3_shedLoads 5 = .ok (.invokevirtual 262, 3) := by decide +kernel
theorem dX3_shedLoads_8 : decode cX3_shedLoads 8 = .ok (.iadd, 1) := by decide +kernel
theorem dX3_shedLoads_9 : decode cX3_shedLoads 9 = .ok (.istore_n 1, 1) := by decide +kernel
theorem dX3_shedLoads_10 : decode cX3_shedLoads 10 = .ok (.aload_n 0, 1) := by decide +kernel
theorem dX3_shedLoads_11 : decode cX3_shedLoads 11 = .ok (.invokevirtual 163, 3) := by decide +kernel
theorem dX3_shedLoads_14 : decode cX3_shedLoads 14 = .ok (.istore_n 2, 1) := by decide +kernel
theorem dX3_shedLoads_15 : decode cX3_shedLoads 15 = .ok (.iconst 0, 1) := by decide +kernel
theorem dX3_shedLoads_16 : decode cX3_shedLoads 16 = .ok (.istore_n 3, 1) := by decide +kernel
theorem dX3_shedLoads_17 : decode cX3_shedLoads 17 = .ok (.iload_n 2, 1) := by decide +kernel
theorem dX3_shedLoads_18 : decode cX3_shedLoads 18 = .ok (.iload_n 1, 1) := by decide +kernel
theorem dX3_shedLoads_19 : decode cX3_shedLoads 19 = .ok (.if_icmp .le 44, 3) := by decide +kernel
theorem dX3_shedLoads_22 : decode cX3_shedLoads 22 = .ok (.iload_n 3, 1) := by decide +kernel
theorem dX3_shedLoads_23 : decode cX3_shedLoads 23 = .ok (.bipush 10, 2) := by decide +kernel
theorem dX3_shedLoads_25 : decode cX3_shedLoads 25 = .ok (.if_icmp .ge 38, 3) := by decide +kernel
theorem dX3_shedLoads_28 : decode cX3_shedLoads 28 = .ok (.aload_n 0, 1) := by decide +kernel
theorem dX3_shedLoads_29 : decode cX3_shedLoads 29 = .ok (.iconst 1, 1) := by decide +kernel
theorem dX3_shedLoads_30 : decode cX3_shedLoads 30 = .ok (.invokevirtual 265, 3) := by decide +kernel
theorem dX3_shedLoads_33 : decode cX3_shedLoads 33 = .ok (.astore 4, 2) := by decide +kernel
theorem dX3_shedLoads_35 : decode cX3_shedLoads 35 = .ok (.aload 4, 2) := by decide +kernel
theorem dX3_shedLoads_37 : decode cX3_shedLoads 37 = .ok (.ifnonnull 6, 3) := by decide +kernel
theorem dX3_shedLoads_40 : decode cX3_shedLoads 40 = .ok (.goto 23, 3) := by decide +kernel
theorem dX3_shedLoads_43 : decode cX3_shedLoads 43 = .ok (.aload 4, 2) := by decide +kernel
theorem dX3_shedLoads_45 : decode cX3_shedLoads 45 = .ok (.iconst 2, 1) := by decide +kernel
theorem dX3_shedLoads_46 : decode cX3_shedLoads 46 = .ok (.putfield 89, 3) := by decide +kernel
theorem dX3_shedLoads_49 : decode cX3_shedLoads 49 = .ok (.iload_n 2, 1) := by decide +kernel
theorem dX3_shedLoads_50 : decode cX3_shedLoads 50 = .ok (.aload 4, 2) := by decide +kernel
theorem dX3_shedLoads_52 : decode cX3_shedLoads 52 = .ok (.getfield 94, 3) := by decide +kernel
theorem dX3_shedLoads_55 : decode cX3_shedLoads 55 = .ok (.isub, 1) := by decide +kernel
theorem dX3_shedLoads_56 : decode cX3_shedLoads 56 = .ok (.istore_n 2, 1) := by decide +kernel
theorem dX3_shedLoads_57 : decode cX3_shedLoads 57 = .ok (.iinc 3 1, 3) := by decide +kernel
theorem dX3_shedLoads_60 : decode cX3_shedLoads 60 = .ok (.goto (-43), 3) := by decide +kernel
theorem dX3_shedLoads_63 : decode cX3_shedLoads 63 = .ok (.iload_n 3, 1) := by decide +kernel
theorem dX3_shedLoads_64 : decode cX3_shedLoads 64 = .ok (.ireturn, 1) := by decide +kernel
set_option maxRecDepth 20000 in
theorem ggX3_returnLoad_X3_firstInOrder : GoodIn wsX3_returnLoad wsX3_firstInOrder := goodIn_r _ [11, 12, 6, 13, 14, 15, 16, 17, 18, 19, 20, 21, 22, 23, 24, 25, 43, 44, 45, 46, 47, 48, 49, 50, 51, 52, 53, 54, 55, 56, 57, 58, 59, 60, 61, 62, 63, 64] (by decide +kernel) (by decide +kernel)
set_option maxRecDepth 20000 in
theorem gX3_returnLoad_X3_firstInOrder : GoodIn wsX3_returnLoad (wsV RX3 265 RX3 yX3_firstInOrder wsX3_firstInOrder) := goodIn_app (goodIn_of _ (by decide +kernel)) ggX3_returnLoad_X3_firstInOrder
set_option maxRecDepth 20000 in
theorem ggX3_returnLoad_X3_demand : GoodIn wsX3_returnLoad wsX3_demand := goodIn_r _ [29, 12, 6, 5, 43, 44, 45, 46, 47, 48, 49, 50, 51, 52, 53, 54, 55, 56, 57, 58, 59, 60, 61, 62, 63, 64] (by decide +kernel) (by decide +kernel)
set_option maxRecDepth 20000 in
theorem gX3_returnLoad_X3_demand : GoodIn wsX3_returnLoad (wsV RX3 163 RX3 yX3_demand wsX3_demand) := goodIn_app (goodIn_of _ (by decide +kernel)) ggX3_returnLoad_X3_demand
set_option maxRecDepth 20000 in
theorem ggX3_returnLoad_X3_sumGeneratorPower : GoodIn wsX3_returnLoad wsX3_sumGeneratorPower := goodIn_r _ [33, 34, 35, 36, 37, 38, 39, 40, 41, 42, 43, 44, 45, 46, 47, 48, 49, 50, 51, 52, 53, 54, 55, 56, 57, 58, 65, 66, 67, 68, 69, 70, 71, 72, 73, 74, 75, 76, 77, 78, 79] (by decide +kernel) (by decide +kernel)
set_option maxRecDepth 20000 in
theorem gX3_returnLoad_X3_sumGeneratorPower : GoodIn wsX3_returnLoad (wsV RX3 259 RX3 yX3_sumGeneratorPower wsX3_sumGeneratorPower) := goodIn_app (goodIn_of _ (by decide +kernel)) ggX3_returnLoad_X3_sumGeneratorPower
theorem dX3_returnLoad_0 : decode cX3_returnLoad 0 = .ok (.aload_n 0, 1) := by decide +kernel
theorem dX3_returnLoad_1 : decode cX3_returnLoad 1 = .ok (.getfield 38, 3) := by decide +kernel
theorem dX3_returnLoad_4 : decode cX3_returnLoad 4 = .ok (.iconst (-1), 1) := by decide +kernel
theorem dX3_returnLoad_5 : decode cX3_returnLoad 5 = .ok (.if_icmp .eq 20, 3) := by decide +kernel
theorem dX3_returnLoad_8 : decode cX3_returnLoad 8 = .ok (.aload_n 0, 1) := by decide +kernel
theorem dX3_returnLoad_9 : decode cX3_returnLoad 9 = .ok (.getfield 136, 3) := by decide +kernel
theorem dX3_returnLoad_12 : decode cX3_returnLoad 12 = .ok (.aload_n 0, 1) := by decide +kernel
theorem dX3_returnLoad_13 : decode cX3_returnLoad 13 = .ok (.getfield 38, 3) := by decide +kernel
theorem dX3_returnLoad_16 : decode cX3_returnLoad 16 = .ok (.isub, 1) := by decide +kernel
theorem dX3_returnLoad_17 : decode cX3_returnLoad 17 = .ok (.aload_n 0, 1) := by decide +kernel
theorem dX3_returnLoad_18 : decode cX3_returnLoad 18 = .ok (.getfield 35, 3) := by decide +kernel
theorem dX3_returnLoad_21 : decode cX3_returnLoad 21 = .ok (.if_icmp .ge 4, 3) := by decide +kernel
theorem dX3_returnLoad_24 : decode cX3_returnLoad 24 = .ok (.return_, 1) := by decide +kernel
theorem dX3_returnLoad_25 : decode cX3_returnLoad 25 = .ok (.aload_n 0, 1) := by decide +kernel
theorem dX3_returnLoad_26 : decode cX3_returnLoad 26 = .ok (.iconst 2, 1) := by decide +kernel
theorem dX3_returnLoad_27 : decode cX3_returnLoad 27 = .ok (.invokevirtual 265, 3) := by decide +kernel
theorem dX3_returnLoad_30 : decode cX3_returnLoad 30 = .ok (.astore_n 1, 1) := by decide +kernel
theorem dX3_returnLoad_31 : decode cX3_returnLoad 31 = .ok (.aload_n 1, 1) := by decide +kernel
theorem dX3_returnLoad_32 : decode cX3_returnLoad 32 = .ok (.ifnonnull 4, 3) := by decide +kernel
theorem dX3_returnLoad_35 : decode cX3_returnLoad 35 = .ok (.return_, 1) := by decide +kernel
theorem dX3_returnLoad_36 : decode cX3_returnLoad 36 = .ok (.aload_n 0, 1) := by decide +kernel
theorem dX3_returnLoad_37 : decode cX3_returnLoad 37 = .ok (.getfield 27, 3) := by decide +kernel
theorem dX3_returnLoad_40 : decode cX3_returnLoad 40 = .ok (.ifCond .ne 19, 3) := by decide +kernel
theorem dX3_returnLoad_43 : decode cX3_returnLoad 43 = .ok (.aload_n 0, 1) := by decide +kernel
theorem dX3_returnLoad_44 : decode cX3_returnLoad 44 = .ok (.invokevirtual 163, 3) := by decide +kernel
theorem dX3_returnLoad_47 : decode cX3_returnLoad 47 = .ok (.aload_n 1, 1) := by decide +kernel
theorem dX3_returnLoad_48 : decode cX3_returnLoad 48 = .ok (.getfield 94, 3) := by decide +kernel
theorem dX3_returnLoad_51 : decode cX3_returnLoad 51 = .ok (.iadd, 1) := by decide +kernel
theorem dX3_returnLoad_52 : decode cX3_returnLoad 52 = .ok (.aload_n 0, 1) := by decide +kernel
theorem dX3_returnLoad_53 : decode cX3_returnLoad 53 = .ok (.invokevirtual 259, 3) := by decide +kernel
theorem dX3_returnLoad_56 : decode cX3_returnLoad 56 = .ok (.if_icmp .gt 16, 3) := by decide +kernel
theorem dX3_returnLoad_59 : decode cX3_returnLoad 59 = .ok (.aload_n 1, 1) := by decide +kernel
theorem dX3_returnLoad_60 : decode cX3_returnLoad 60 = .ok (.iconst 1, 1) := by decide +kernel
theorem dX3_returnLoad_61 : decode cX3_returnLoad 61 = .ok (.putfield 89, 3) := by decide +kernel
theorem dX3_returnLoad_64 : decode cX3_returnLoad 64 = .ok (.aload_n 0, 1) := by decide +kernel
theorem dX3_returnLoad_65 : decode cX3_returnLoad 65 = .ok (.aload_n 0, 1) := by decide +kernel
theorem dX3_returnLoad_66 : decode cX3_returnLoad 66 = .ok (.getfield 136, 3) := by decide +kernel
theorem dX3_returnLoad_69 : decode cX3_returnLoad 69 = .ok (.putfield 38, 3) := by decide +kernel
theorem dX3_returnLoad_72 : decode cX3_returnLoad 72 = .ok (.return_, 1) := by decide +kernel
set_option maxRecDepth 20000 in
theorem ggX3_serveLoads_X3_drawFromGenerators : GoodIn wsX3_serveLoads wsX3_drawFromGenerators := goodIn_r _ [14, 15, 16, 17, 18, 19, 20, 21, 22, 23, 24, 25, 26, 27, 28, 29, 30, 31, 32, 33, 48, 49, 50, 51, 52, 53, 54, 55, 56, 57, 58, 59, 60, 61, 62, 63, 70, 71, 72, 73, 74, 75, 76, 77, 78, 79, 80, 81, 82, 83, 84] (by decide +kernel) (by decide +kernel)
set_option maxRecDepth 20000 in
theorem gX3_serveLoads_X3_drawFromGenerators : GoodIn wsX3_serveLoads (wsV RX3 268 RX3 yX3_drawFromGenerators wsX3_drawFromGenerators) := goodIn_app (goodIn_of _ (by decide +kernel)) ggX3_serveLoads_X3_drawFromGenerators
set_option maxRecDepth 20000 in
theorem ggX3_serveLoads_X3_drawFromBatteries : GoodIn wsX3_serveLoads wsX3_drawFromBatteries := goodIn_r _ [37, 38, 16, 17, 18, 19, 39, 40, 41, 42, 43, 44, 45, 46, 47, 48, 49, 50, 51, 52, 53, 54, 55, 56, 57, 58, 59, 60, 61, 62, 63, 85, 86, 87, 88, 89, 90] (by decide +kernel) (by decide +kernel)
set_option maxRecDepth 20000 in
theorem gX3_serveLoads_X3_drawFromBatteries : GoodIn wsX3_serveLoads (wsV RX3 272 RX3 yX3_drawFromBatteries wsX3_drawFromBatteries) := goodIn_app (goodIn_of _ (by decide +kernel)) ggX3_serveLoads_X3_drawFromBatteries
theorem dX3_serveLoads_0 : decode cX3_serveLoads 0 = .ok (.iconst 0, 1) := by decide +kernel
theorem dX3_serveLoads_1 : decode cX3_serveLoads 1 = .ok (.istore_n 1, 1) := by decide +kernel
theorem dX3_serveLoads_2 : decode cX3_serveLoads 2 = .ok (.aload_n 0, 1) := by decide +kernel
theorem dX3_serveLoads_3 : decode cX3_serveLoads 3 = .ok (.getfield 11, 3) := by decide +kernel
theorem dX3_serveLoads_6 : decode cX3_serveLoads 6 = .ok (.astore_n 2, 1) := by decide +kernel
theorem dX3_serveLoads_7 : decode cX3_serveLoads 7 = .ok (.aload_n 2, 1) := by decide +kernel
theorem dX3_serveLoads_8 : decode cX3_serveLoads 8 = .ok (.arraylength, 1) := by decide +kernel
theorem dX3_serveLoads_9 : decode cX3_serveLoads 9 = .ok (.istore_n 3, 1) := by decide +kernel
theorem dX3_serveLoads_10 : decode cX3_serveLoads 10 = .ok (.iconst 0, 1) := by decide +kernel
theorem dX3_serveLoads_11 : decode cX3_serveLoads 11 = .ok (.istore 4, 2) := by decide +kernel
theorem dX3_serveLoads_13 : decode cX3_serveLoads 13 = .ok (.iload 4, 2) := by decide +kernel
theorem dX3_serveLoads_15 : decode cX3_serveLoads 15 = .ok (.iload_n 3, 1) := by decide +kernel
theorem dX3_serveLoads_16 : decode cX3_serveLoads 16 = .ok (.if_icmp .ge 70, 3) := by decide +kernel
theorem dX3_serveLoads_19 : decode cX3_serveLoads 19 = .ok (.aload_n 2, 1) := by decide +kernel
theorem dX3_serveLoads_20 : decode cX3_serveLoads 20 = .ok (.iload 4, 2) := by decide +kernel
theorem dX3_serveLoads_22 : decode cX3_serveLoads 22 = .ok (.aaload, 1) := by decide +kernel
theorem dX3_serveLoads_23 : decode cX3_serveLoads 23 = .ok (.astore 5, 2) := by decide +kernel
theorem dX3_serveLoads_25 : decode cX3_serveLoads 25 = .ok (.aload 5, 2) := by decide +kernel
theorem dX3_serveLoads_27 : decode cX3_serveLoads 27 = .ok (.getfield 89, 3) := by decide +kernel
theorem dX3_serveLoads_30 : decode cX3_serveLoads 30 = .ok (.iconst 1, 1) := by decide +kernel
theorem dX3_serveLoads_31 : decode cX3_serveLoads 31 = .ok (.if_icmp .ne 29, 3) := by decide +kernel
theorem dX3_serveLoads_34 : decode cX3_serveLoads 34 = .ok (.aload 5, 2) := by decide +kernel
theorem dX3_serveLoads_36 : decode cX3_serveLoads 36 = .ok (.dup, 1) := by decide +kernel
theorem dX3_serveLoads_37 : decode cX3_serveLoads 37 = .ok (.getfield 173, 3) := by decide +kernel
theorem dX3_serveLoads_40 : decode cX3_serveLoads 40 = .ok (.aload 5, 2) := by decide +kernel
theorem dX3_serveLoads_42 : decode cX3_serveLoads 42 = .ok (.getfield 94, 3) := by decide +kernel
theorem dX3_serveLoads_45 : decode cX3_serveLoads 45 = .ok (.iadd, 1) := by decide +kernel
theorem dX3_serveLoads_46 : decode cX3_serveLoads 46 = .ok (.putfield 173, 3) := by decide +kernel
theorem dX3_serveLoads_49 : decode cX3_serveLoads 49 = .ok (.iload_n 1, 1) := by decide +kernel
theorem dX3_serveLoads_50 : decode cX3_serveLoads 50 = .ok (.aload 5, 2) := by decide +kernel
theorem dX3_serveLoads_52 : decode cX3_serveLoads 52 = .ok (.getfield 94, 3) := by decide +kernel
theorem dX3_serveLoads_55 : decode cX3_serveLoads 55 = .ok (.iadd, 1) := by decide +kernel
theorem dX3_serveLoads_56 : decode cX3_serveLoads 56 = .ok (.istore_n 1, 1) := by decide +kernel
theorem dX3_serveLoads_57 : decode cX3_serveLoads 57 = .ok (.goto 23, 3) := by decide +kernel
theorem dX3_serveLoads_60 : decode cX3_serveLoads 60 = .ok (.aload 5, 2) := by decide +kernel
theorem dX3_serveLoads_62 : decode cX3_serveLoads 62 = .ok (.getfield 89, 3) := by decide +kernel
theorem dX3_serveLoads_65 : decode cX3_serveLoads 65 = .ok (.iconst 2, 1) := by decide +kernel
theorem dX3_serveLoads_66 : decode cX3_serveLoads 66 = .ok (.if_icmp .ne 14, 3) := by decide +kernel
theorem dX3_serveLoads_69 : decode cX3_serveLoads 69 = .ok (.aload 5, 2) := by decide +kernel
theorem dX3_serveLoads_71 : decode cX3_serveLoads 71 = .ok (.dup, 1) := by decide +kernel
theorem dX3_serveLoads_72 : decode cX3_serveLoads 72 = .ok (.getfield 176, 3) := by decide +kernel
theorem dX3_serveLoads_75 : decode cX3_serveLoads 75 = .ok (.iconst 1, 1) := by decide +kernel
theorem dX3_serveLoads_76 : decode cX3_serveLoads 76 = .ok (.iadd, 1) := by decide +kernel
theorem dX3_serveLoads_77 : decode cX3_serveLoads 77 = .ok (.putfield 176, 3) := by decide +kernel
theorem dX3_serveLoads_80 : decode cX3_serveLoads 80 = .ok (.iinc 4 1, 3) := by decide +kernel
theorem dX3_serveLoads_83 : decode cX3_serveLoads 83 = .ok (.goto (-70), 3) := by decide +kernel
theorem dX3_serveLoads_86 : decode cX3_serveLoads 86 = .ok (.aload_n 0, 1) := by decide +kernel
theorem dX3_serveLoads_87 : decode cX3_serveLoads 87 = .ok (.getfield 27, 3) := by decide +kernel
theorem dX3_serveLoads_90 : decode cX3_serveLoads 90 = .ok (.ifCond .eq 14, 3) := by decide +kernel
theorem dX3_serveLoads_93 : decode cX3_serveLoads 93 = .ok (.aload_n 0, 1) := by decide +kernel
theorem dX3_serveLoads_94 : decode cX3_serveLoads 94 = .ok (.dup, 1) := by decide +kernel
theorem dX3_serveLoads_95 : decode cX3_serveLoads 95 = .ok (.getfield 179, 3) := by decide +kernel
theorem dX3_serveLoads_98 : decode cX3_serveLoads 98 = .ok (.iload_n 1, 1) := by decide +kernel
theorem dX3_serveLoads_99 : decode cX3_serveLoads 99 = .ok (.iadd, 1) := by decide +kernel
theorem dX3_serveLoads_100 : decode cX3_serveLoads 100 = .ok (.putfield 179, 3) := by decide +kernel
theorem dX3_serveLoads_103 : decode cX3_serveLoads 103 = .ok (.return_, 1) := by decide +kernel
theorem dX3_serveLoads_104 : decode cX3_serveLoads 104 = .ok (.aload_n 0, 1) := by decide +kernel
theorem dX3_serveLoads_105 : decode cX3_serveLoads 105 = .ok (.iload_n 1, 1) := by decide +kernel
theorem dX3_serveLoads_106 : decode cX3_serveLoads 106 = .ok (.invokevirtual 268, 3) := by decide +kernel
theorem dX3_serveLoads_109 : decode cX3_serveLoads 109 = .ok (.istore_n 2, 1) := by decide +kernel
theorem dX3_serveLoads_110 : decode cX3_serveLoads 110 = .ok (.aload_n 0, 1) := by decide +kernel
theorem dX3_serveLoads_111 : decode cX3_serveLoads 111 = .ok (.dup, 1) := by decide +kernel
theorem dX3_serveLoads_112 : decode cX3_serveLoads 112 = .ok (.getfield 182, 3) := by decide +kernel
theorem dX3_serveLoads_115 : decode cX3_serveLoads 115 = .ok (.iload_n 2, 1) := by decide +kernel
theorem dX3_serveLoads_116 : decode cX3_serveLoads 116 = .ok (.iadd, 1) := by decide +kernel
theorem dX3_serveLoads_117 : decode cX3_serveLoads 117 = .ok (.putfield 182, 3) := by decide +kernel
theorem dX3_serveLoads_120 : decode cX3_serveLoads 120 = .ok (.aload_n 0, 1) := by decide +kernel
theorem dX3_serveLoads_121 : decode cX3_serveLoads 121 = .ok (.dup, 1) := by decide +kernel
theorem dX3_serveLoads_122 : decode cX3_serveLoads 122 = .ok (.getfield 185, 3) := by decide +kernel
theorem dX3_serveLoads_125 : decode cX3_serveLoads 125 = .ok (.aload_n 0, 1) := by decide +kernel
theorem dX3_serveLoads_126 : decode cX3_serveLoads 126 = .ok (.iload_n 1, 1) := by decide +kernel
theorem dX3_serveLoads_127 : decode cX3_serveLoads 127 = .ok (.iload_n 2, 1) := by decide +kernel
theorem dX3_serveLoads_128 : decode cX3_serveLoads 128 = .ok (.isub, 1) := by decide +kernel
theorem dX3_serveLoads_129 : decode cX3_serveLoads 129 = .ok (.invokevirtual 272, 3) := by decide +kernel
theorem dX3_serveLoads_132 : decode cX3_serveLoads 132 = .ok (.iadd, 1) := by decide +kernel
theorem dX3_serveLoads_133 : decode cX3_serveLoads 133 = .ok (.putfield 185, 3) := by decide +kernel
theorem dX3_serveLoads_136 : decode cX3_serveLoads 136 = .ok (.return_, 1) := by decide +kernel
set_option maxRecDepth 20000 in
theorem ggX3_chargeBatteries_X3_fillBatteries : GoodIn wsX3_chargeBatteries wsX3_fillBatteries := goodIn_r _ [8, 9, 10, 11, 12, 13, 14, 15, 16, 17, 18, 19, 20, 21, 22, 23, 42, 43, 44, 45, 46, 47, 48, 49, 50, 51, 52, 53, 54, 55, 56, 57, 58, 59, 60, 61, 62, 63] (by decide +kernel) (by decide +kernel)
set_option maxRecDepth 20000 in
theorem gX3_chargeBatteries_X3_fillBatteries : GoodIn wsX3_chargeBatteries (wsV RX3 275 RX3 yX3_fillBatteries wsX3_fillBatteries) := goodIn_app (goodIn_of _ (by decide +kernel)) ggX3_chargeBatteries_X3_fillBatteries
set_option maxRecDepth 20000 in
theorem ggX3_chargeBatteries_X1_powerLeft : GoodIn wsX3_chargeBatteries wsX1_powerLeft := goodIn_r _ [28, 29, 30, 31, 32, 33, 27, 34, 35, 36, 64, 65, 66, 67, 68, 69, 70, 71, 72, 73, 74, 75, 76, 77, 78] (by decide +kernel) (by decide +kernel)
set_option maxRecDepth 20000 in
theorem gX3_chargeBatteries_X1_powerLeft : GoodIn wsX3_chargeBatteries (wsV RX3 278 RX1 yX1_powerLeft wsX1_powerLeft) := goodIn_app (goodIn_of _ (by decide +kernel)) ggX3_chargeBatteries_X1_powerLeft
set_option maxRecDepth 20000 in
theorem ggX3_chargeBatteries_X3_drawFromGenerators : GoodIn wsX3_chargeBatteries wsX3_drawFromGenerators := goodIn_r _ [40, 3, 10, 11, 12, 13, 41, 24, 25, 26, 27, 28, 29, 30, 31, 32, 33, 34, 35, 36, 42, 43, 44, 45, 46, 47, 48, 49, 50, 51, 52, 53, 54, 55, 56, 57, 64, 65, 66, 67, 68, 69, 70, 71, 72, 73, 74, 75, 76, 77, 78] (by decide +kernel) (by decide +kernel)
set_option maxRecDepth 20000 in
theorem gX3_chargeBatteries_X3_drawFromGenerators : GoodIn wsX3_chargeBatteries (wsV RX3 268 RX3 yX3_drawFromGenerators wsX3_drawFromGenerators) := goodIn_app (goodIn_of _ (by decide +kernel)) ggX3_chargeBatteries_X3_drawFromGenerators
theorem dX3_chargeBatteries_0 : decode cX3_chargeBatteries 0 = .ok (.aload_n 0, 1) := by decide +kernel
theorem dX3_chargeBatteries_1 : decode cX3_chargeBatteries 1 = .ok (.getfield 27, 3) := by decide +kernel
theorem dX3_chargeBatteries_4 : decode cX3_chargeBatteries 4 = .ok (.ifCond .eq 20, 3) := by decide +kernel
theorem dX3_chargeBatteries_7 : decode cX3_chargeBatteries 7 = .ok (.aload_n 0, 1) := by decide +kernel
theorem dX3_chargeBatteries_8 : decode cX3_chargeBatteries 8 = .ok (.dup, 1) := by decide +kernel
theorem dX3_chargeBatteries_9 : decode cX3_chargeBatteries 9 = .ok (.getfield 188, 3) := by decide +kernel
theorem dX3_chargeBatteries_12 : decode cX3_chargeBatteries 12 = .ok (.aload_n 0, 1) := by decide +kernel
theorem dX3_chargeBatteries_13 : decode cX3_chargeBatteries 13 = .ok (.sipush 1500, 3) := by decide +kernel
theorem dX3_chargeBatteries_16 : decode cX3_chargeBatteries 16 = .ok (.invokevirtual 275, 3) := by decide +kernel
theorem dX3_chargeBatteries_19 : decode cX3_chargeBatteries 19 = .ok (.iadd, 1) := by decide +kernel
theorem dX3_chargeBatteries_20 : decode cX3_chargeBatteries 20 = .ok (.putfield 188, 3) := by decide +kernel
theorem dX3_chargeBatteries_23 : decode cX3_chargeBatteries 23 = .ok (.return_, 1) := by decide +kernel
theorem dX3_chargeBatteries_24 : decode cX3_chargeBatteries 24 = .ok (.iconst 0, 1) := by decide +kernel
theorem dX3_chargeBatteries_25 : decode cX3_chargeBatteries 25 = .ok (.istore_n 1, 1) := by decide +kernel
theorem dX3_chargeBatteries_26 : decode cX3_chargeBatteries 26 = .ok (.aload_n 0, 1) := by decide +kernel
theorem dX3_chargeBatteries_27 : decode cX3_chargeBatteries 27 = .ok (.getfield 23, 3) := by decide +kernel
theorem dX3_chargeBatteries_30 : decode cX3_chargeBatteries 30 = .ok (.astore_n 2, 1) := by decide +kernel
theorem dX3_chargeBatteries_31 : decode cX3_chargeBatteries 31 = .ok (.aload_n 2, 1) := by decide +kernel
theorem dX3_chargeBatteries_32 : decode cX3_chargeBatteries 32 = .ok (.arraylength, 1) := by decide +kernel
theorem dX3_chargeBatteries_33 : decode cX3_chargeBatteries 33 = .ok (.istore_n 3, 1) := by decide +kernel
theorem dX3_chargeBatteries_34 : decode cX3_chargeBatteries 34 = .ok (.iconst 0, 1) := by decide +kernel
theorem dX3_chargeBatteries_35 : decode cX3_chargeBatteries 35 = .ok (.istore 4, 2) := by decide +kernel
theorem dX3_chargeBatteries_37 : decode cX3_chargeBatteries 37 = .ok (.iload 4, 2) := by decide +kernel
theorem dX3_chargeBatteries_39 : decode cX3_chargeBatteries 39 = .ok (.iload_n 3, 1) := by decide +kernel
theorem dX3_chargeBatteries_40 : decode cX3_chargeBatteries 40 = .ok (.if_icmp .ge 23, 3) := by decide +kernel
theorem dX3_chargeBatteries_43 : decode cX3_chargeBatteries 43 = .ok (.aload_n 2, 1) := by decide +kernel
theorem dX3_chargeBatteries_44 : decode cX3_chargeBatteries 44 = .ok (.iload 4, 2) := by decide +kernel
theorem dX3_chargeBatteries_46 : decode cX3_chargeBatteries 46 = .ok (.aaload, 1) := by decide +kernel
theorem dX3_chargeBatteries_47 : decode cX3_chargeBatteries 47 = .ok (.astore 5, 2) := by decide +kernel
theorem dX3_chargeBatteries_49 : decode cX3_chargeBatteries 49 = .ok (.iload_n 1, 1) := by decide +kernel
theorem dX3_chargeBatteries_50 : decode cX3_chargeBatteries 50 = .ok (.aload 5, 2) := by decide +kernel
theorem dX3_chargeBatteries_52 : decode cX3_chargeBatteries 52 = .ok (.invokevirtual 278, 3) := by decide +kernel
theorem dX3_chargeBatteries_55 : decode cX3_chargeBatteries 55 = .ok (.iadd, 1) := by decide +kernel
theorem dX3_chargeBatteries_56 : decode cX3_chargeBatteries 56 = .ok (.istore_n 1, 1) := by decide +kernel
theorem dX3_chargeBatteries_57 : decode cX3_chargeBatteries 57 = .ok (.iinc 4 1, 3) := by decide +kernel
theorem dX3_chargeBatteries_60 : decode cX3_chargeBatteries 60 = .ok (.goto (-23), 3) := by decide +kernel
theorem dX3_chargeBatteries_63 : decode cX3_chargeBatteries 63 = .ok (.aload_n 0, 1) := by decide +kernel
theorem dX3_chargeBatteries_64 : decode cX3_chargeBatteries 64 = .ok (.iload_n 1, 1) := by decide +kernel
theorem dX3_chargeBatteries_65 : decode cX3_chargeBatteries 65 = .ok (.invokevirtual 275, 3) := by decide +kernel
theorem dX3_chargeBatteries_68 : decode cX3_chargeBatteries 68 = .ok (.istore_n 2, 1) := by decide +kernel
theorem dX3_chargeBatteries_69 : decode cX3_chargeBatteries 69 = .ok (.aload_n 0, 1) := by decide +kernel
theorem dX3_chargeBatteries_70 : decode cX3_chargeBatteries 70 = .ok (.iload_n 2, 1) := by decide +kernel
theorem dX3_chargeBatteries_71 : decode cX3_chargeBatteries 71 = .ok (.invokevirtual 268, 3) := by decide +kernel
theorem dX3_chargeBatteries_74 : decode cX3_chargeBatteries 74 = .ok (.pop, 1) := by decide +kernel
theorem dX3_chargeBatteries_75 : decode cX3_chargeBatteries 75 = .ok (.aload_n 0, 1) := by decide +kernel
theorem dX3_chargeBatteries_76 : decode cX3_chargeBatteries 76 = .ok (.dup, 1) := by decide +kernel
theorem dX3_chargeBatteries_77 : decode cX3_chargeBatteries 77 = .ok (.getfield 188, 3) := by decide +kernel
theorem dX3_chargeBatteries_80 : decode cX3_chargeBatteries 80 = .ok (.iload_n 2, 1) := by decide +kernel
theorem dX3_chargeBatteries_81 : decode cX3_chargeBatteries 81 = .ok (.iadd, 1) := by decide +kernel
theorem dX3_chargeBatteries_82 : decode cX3_chargeBatteries 82 = .ok (.putfield 188, 3) := by decide +kernel
theorem dX3_chargeBatteries_85 : decode cX3_chargeBatteries 85 = .ok (.return_, 1) := by decide +kernel
set_option maxRecDepth 20000 in
theorem ggX3_drawFromGenerators_X1_powerLeft : GoodIn wsX3_drawFromGenerators wsX1_powerLeft := goodIn_r _ [11, 12, 13, 14, 15, 16, 10, 17, 18, 19, 36, 37, 38, 39, 40, 41, 42, 43, 44, 45, 46, 47, 48, 49, 50] (by decide +kernel) (by decide +kernel)
set_option maxRecDepth 20000 in
theorem gX3_drawFromGenerators_X1_powerLeft : GoodIn wsX3_drawFromGenerators (wsV RX3 278 RX1 yX1_powerLeft wsX1_powerLeft) := goodIn_app (goodIn_of _ (by decide +kernel)) ggX3_drawFromGenerators_X1_powerLeft
theorem dX3_drawFromGenerators_0 : decode cX3_drawFromGenerators 0 = .ok (.iconst 0, 1) := by decide +kernel
theorem dX3_drawFromGenerators_1 : decode cX3_drawFromGenerators 1 = .ok (.istore_n 2, 1) := by decide +kernel
theorem dX3_drawFromGenerators_2 : decode cX3_drawFromGenerators 2 = .ok (.aload_n 0, 1) := by decide +kernel
theorem dX3_drawFromGenerators_3 : decode cX3_drawFromGenerators 3 = .ok (.getfield 23, 3) := by decide +kernel
theorem dX3_drawFromGenerators_6 : decode cX3_drawFromGenerators 6 = .ok (.astore_n 3, 1) := by decide +kernel
theorem dX3_drawFromGenerators_7 : decode cX3_drawFromGenerators 7 = .ok (.aload_n 3, 1) := by decide +kernel
theorem dX3_drawFromGenerators_8 : decode cX3_drawFromGenerators 8 = .ok (.arraylength, 1) := by decide +kernel
theorem dX3_drawFromGenerators_9 : decode cX3_drawFromGenerators 9 = .ok (.istore 4, 2) := by decide +kernel
theorem dX3_drawFromGenerators_11 : decode cX3_drawFromGenerators 11 = .ok (.iconst 0, 1) := by decide +kernel
theorem dX3_drawFromGenerators_12 : decode cX3_drawFromGenerators 12 = .ok (.istore 5, 2) := by decide +kernel
theorem dX3_drawFromGenerators_14 : decode cX3_drawFromGenerators 14 = .ok (.iload 5, 2) := by decide +kernel
theorem dX3_drawFromGenerators_16 : decode cX3_drawFromGenerators 16 = .ok (.iload 4, 2) := by decide +kernel
theorem dX3_drawFromGenerators_18 : decode cX3_drawFromGenerators 18 = .ok (.if_icmp .ge 45, 3) := by decide +kernel
theorem dX3_drawFromGenerators_21 : decode cX3_drawFromGenerators 21 = .ok (.aload_n 3, 1) := by decide +kernel
theorem dX3_drawFromGenerators_22 : decode cX3_drawFromGenerators 22 = .ok (.iload 5, 2) := by decide +kernel
theorem dX3_drawFromGenerators_24 : decode cX3_drawFromGenerators 24 = .ok (.aaload, 1) := by decide +kernel
theorem dX3_drawFromGenerators_25 : decode cX3_drawFromGenerators 25 = .ok (.astore 6, 2) := by decide +kernel
theorem dX3_drawFromGenerators_27 : decode cX3_drawFromGenerators 27 = .ok (.aload 6, 2) := by decide +kernel
theorem dX3_drawFromGenerators_29 : decode cX3_drawFromGenerators 29 = .ok (.invokevirtual 278, 3) := by decide +kernel
theorem dX3_drawFromGenerators_32 : decode cX3_drawFromGenerators 32 = .ok (.iload_n 1, 1) := by decide +kernel
theorem dX3_drawFromGenerators_33 : decode cX3_drawFromGenerators 33 = .ok (.iload_n 2, 1) := by decide +kernel
theorem dX3_drawFromGenerators_34 : decode cX3_drawFromGenerators 34 = .ok (.isub, 1) := by decide +kernel
theorem dX3_drawFromGenerators_35 : decode cX3_drawFromGenerators 35 = .ok (.invokestatic 109, 3) := by decide +kernel
theorem dX3_drawFromGenerators_38 : decode cX3_drawFromGenerators 38 = .ok (.istore 7, 2) := by decide +kernel
theorem dX3_drawFromGenerators_40 : decode cX3_drawFromGenerators 40 = .ok (.aload 6, 2) := by decide +kernel
theorem dX3_drawFromGenerators_42 : decode cX3_drawFromGenerators 42 = .ok (.dup, 1) := by decide +kernel
theorem dX3_drawFromGenerators_43 : decode cX3_drawFromGenerators 43 = .ok (.getfield 239, 3) := by decide +kernel
theorem dX3_drawFromGenerators_46 : decode cX3_drawFromGenerators 46 = .ok (.iload 7, 2) := by decide +kernel
theorem dX3_drawFromGenerators_48 : decode cX3_drawFromGenerators 48 = .ok (.iadd, 1) := by decide +kernel
theorem dX3_drawFromGenerators_49 : decode cX3_drawFromGenerators 49 = .ok (.putfield 239, 3) := by decide +kernel
theorem dX3_drawFromGenerators_52 : decode cX3_drawFromGenerators 52 = .ok (.iload_n 2, 1) := by decide +kernel
theorem dX3_drawFromGenerators_53 : decode cX3_drawFromGenerators 53 = .ok (.iload 7, 2) := by decide +kernel
theorem dX3_drawFromGenerators_55 : decode cX3_drawFromGenerators 55 = .ok (.iadd, 1) := by decide +kernel
theorem dX3_drawFromGenerators_56 : decode cX3_drawFromGenerators 56 = .ok (.istore_n 2, 1) := by decide +kernel
theorem dX3_drawFromGenerators_57 : decode cX3_drawFromGenerators 57 = .ok (.iinc 5 1, 3) := by decide +kernel
theorem dX3_drawFromGenerators_60 : decode cX3_drawFromGenerators 60 = .ok (.goto (-46), 3) := by decide +kernel
theorem dX3_drawFromGenerators_63 : decode cX3_drawFromGenerators 63 = .ok (.iload_n 2, 1) := by decide +kernel
theorem dX3_drawFromGenerators_64 : decode cX3_drawFromGenerators 64 = .ok (.ireturn, 1) := by decide +kernel
set_option maxRecDepth 20000 in
theorem ggX3_drawFromBatteries_X0_canGive : GoodIn wsX3_drawFromBatteries wsX0_canGive := goodIn_r _ [11, 12, 13, 14, 3, 4, 5, 31, 32, 33, 34, 35, 36] (by decide +kernel) (by decide +kernel)
set_option maxRecDepth 20000 in
theorem gX3_drawFromBatteries_X0_canGive : GoodIn wsX3_drawFromBatteries (wsV RX3 281 RX0 yX0_canGive wsX0_canGive) := goodIn_app (goodIn_of _ (by decide +kernel)) ggX3_drawFromBatteries_X0_canGive
theorem dX3_drawFromBatteries_0 : decode cX3_drawFromBatteries 0 = .ok (.iconst 0, 1) := by decide +kernel
theorem dX3_drawFromBatteries_1 : decode cX3_drawFromBatteries 1 = .ok (.istore_n 2, 1) := by decide +kernel
theorem dX3_drawFromBatteries_2 : decode cX3_drawFromBatteries 2 = .ok (.aload_n 0, 1) := by decide +kernel
theorem dX3_drawFromBatteries_3 : decode cX3_drawFromBatteries 3 = .ok (.getfield 17, 3) := by decide +kernel
theorem dX3_drawFromBatteries_6 : decode cX3_drawFromBatteries 6 = .ok (.astore_n 3, 1) := by decide +kernel
theorem dX3_drawFromBatteries_7 : decode cX3_drawFromBatteries 7 = .ok (.aload_n 3, 1) := by decide +kernel
theorem dX3_drawFromBatteries_8 : decode cX3_drawFromBatteries 8 = .ok (.arraylength, 1) := by decide +kernel
theorem dX3_drawFromBatteries_9 : decode cX3_drawFromBatteries 9 = .ok (.istore 4, 2) := by decide +kernel
theorem dX3_drawFromBatteries_11 : decode cX3_drawFromBatteries 11 = .ok (.iconst 0, 1) := by decide +kernel
theorem dX3_drawFromBatteries_12 : decode cX3_drawFromBatteries 12 = .ok (.istore 5, 2) := by decide +kernel
theorem dX3_drawFromBatteries_14 : decode cX3_drawFromBatteries 14 = .ok (.iload 5, 2) := by decide +kernel
theorem dX3_drawFromBatteries_16 : decode cX3_drawFromBatteries 16 = .ok (.iload 4, 2) := by decide +kernel
theorem dX3_drawFromBatteries_18 : decode cX3_drawFromBatteries 18 = .ok (.if_icmp .ge 45, 3) := by decide +kernel
theorem dX3_drawFromBatteries_21 : decode cX3_drawFromBatteries 21 = .ok (.aload_n 3, 1) := by decide +kernel
theorem dX3_drawFromBatteries_22 : decode cX3_drawFromBatteries 22 = .ok (.iload 5, 2) := by decide +kernel
theorem dX3_drawFromBatteries_24 : decode cX3_drawFromBatteries 24 = .ok (.aaload, 1) := by decide +kernel
theorem dX3_drawFromBatteries_25 : decode cX3_drawFromBatteries 25 = .ok (.astore 6, 2) := by decide +kernel
theorem dX3_drawFromBatteries_27 : decode cX3_drawFromBatteries 27 = .ok (.aload 6, 2) := by decide +kernel
theorem dX3_drawFromBatteries_29 : decode cX3_drawFromBatteries 29 = .ok (.invokevirtual 281, 3) := by decide +kernel
theorem dX3_drawFromBatteries_32 : decode cX3_drawFromBatteries 32 = .ok (.iload_n 1, 1) := by decide +kernel
theorem dX3_drawFromBatteries_33 : decode cX3_drawFromBatteries 33 = .ok (.iload_n 2, 1) := by decide +kernel
theorem dX3_drawFromBatteries_34 : decode cX3_drawFromBatteries 34 = .ok (.isub, 1) := by decide +kernel
theorem dX3_drawFromBatteries_35 : decode cX3_drawFromBatteries 35 = .ok (.invokestatic 109, 3) := by decide +kernel
theorem dX3_drawFromBatteries_38 : decode cX3_drawFromBatteries 38 = .ok (.istore 7, 2) := by decide +kernel
theorem dX3_drawFromBatteries_40 : decode cX3_drawFromBatteries 40 = .ok (.aload 6, 2) := by decide +kernel
theorem dX3_drawFromBatteries_42 : decode cX3_drawFromBatteries 42 = .ok (.dup, 1) := by decide +kernel
theorem dX3_drawFromBatteries_43 : decode cX3_drawFromBatteries 43 = .ok (.getfield 153, 3) := by decide +kernel
theorem dX3_drawFromBatteries_46 : decode cX3_drawFromBatteries 46 = .ok (.iload 7, 2) := by decide +kernel
theorem dX3_drawFromBatteries_48 : decode cX3_drawFromBatteries 48 = .ok (.isub, 1) := by decide +kernel
theorem dX3_drawFromBatteries_49 : decode cX3_drawFromBatteries 49 = .ok (.putfield 153, 3) := by decide +kernel
theorem dX3_drawFromBatteries_52 : decode cX3_drawFromBatteries 52 = .ok (.iload_n 2, 1) := by decide +kernel
theorem dX3_drawFromBatteries_53 : decode cX3_drawFromBatteries 53 = .ok (.iload 7, 2) := by decide +kernel
theorem dX3_drawFromBatteries_55 : decode cX3_drawFromBatteries 55 = .ok (.iadd, 1) := by decide +kernel
theorem dX3_drawFromBatteries_56 : decode cX3_drawFromBatteries 56 = .ok (.istore_n 2, 1) := by decide +kernel
theorem dX3_drawFromBatteries_57 : decode cX3_drawFromBatteries 57 = .ok (.iinc 5 1, 3) := by decide +kernel
theorem dX3_drawFromBatteries_60 : decode cX3_drawFromBatteries 60 = .ok (.goto (-46), 3) := by decide +kernel
theorem dX3_drawFromBatteries_63 : decode cX3_drawFromBatteries 63 = .ok (.iload_n 2, 1) := by decide +kernel
theorem dX3_drawFromBatteries_64 : decode cX3_drawFromBatteries 64 = .ok (.ireturn, 1) := by decide +kernel
set_option maxRecDepth 20000 in
theorem ggX3_fillBatteries_X0_canTake : GoodIn wsX3_fillBatteries wsX0_canTake := goodIn_r _ [11, 12, 13, 14, 15, 3, 4, 5, 32, 33, 34, 35, 36, 37] (by decide +kernel) (by decide +kernel)
set_option maxRecDepth 20000 in
theorem gX3_fillBatteries_X0_canTake : GoodIn wsX3_fillBatteries (wsV RX3 284 RX0 yX0_canTake wsX0_canTake) := goodIn_app (goodIn_of _ (by decide +kernel)) ggX3_fillBatteries_X0_canTake
theorem dX3_fillBatteries_0 : decode cX3_fillBatteries 0 = .ok (.iconst 0, 1) := by decide +kernel
theorem dX3_fillBatteries_1 : decode cX3_fillBatteries 1 = .ok (.istore_n 2, 1) := by decide +kernel
theorem dX3_fillBatteries_2 : decode cX3_fillBatteries 2 = .ok (.aload_n 0, 1) := by decide +kernel
theorem dX3_fillBatteries_3 : decode cX3_fillBatteries 3 = .ok (.getfield 17, 3) := by decide +kernel
theorem dX3_fillBatteries_6 : decode cX3_fillBatteries 6 = .ok (.astore_n 3, 1) := by decide +kernel
theorem dX3_fillBatteries_7 : decode cX3_fillBatteries 7 = .ok (.aload_n 3, 1) := by decide +kernel
theorem dX3_fillBatteries_8 : decode cX3_fillBatteries 8 = .ok (.arraylength, 1) := by decide +kernel
theorem dX3_fillBatteries_9 : decode cX3_fillBatteries 9 = .ok (.istore 4, 2) := by decide +kernel
theorem dX3_fillBatteries_11 : decode cX3_fillBatteries 11 = .ok (.iconst 0, 1) := by decide +kernel
theorem dX3_fillBatteries_12 : decode cX3_fillBatteries 12 = .ok (.istore 5, 2) := by decide +kernel
theorem dX3_fillBatteries_14 : decode cX3_fillBatteries 14 = .ok (.iload 5, 2) := by decide +kernel
theorem dX3_fillBatteries_16 : decode cX3_fillBatteries 16 = .ok (.iload 4, 2) := by decide +kernel
theorem dX3_fillBatteries_18 : decode cX3_fillBatteries 18 = .ok (.if_icmp .ge 45, 3) := by decide +kernel
theorem dX3_fillBatteries_21 : decode cX3_fillBatteries 21 = .ok (.aload_n 3, 1) := by decide +kernel
theorem dX3_fillBatteries_22 : decode cX3_fillBatteries 22 = .ok (.iload 5, 2) := by decide +kernel
theorem dX3_fillBatteries_24 : decode cX3_fillBatteries 24 = .ok (.aaload, 1) := by decide +kernel
theorem dX3_fillBatteries_25 : decode cX3_fillBatteries 25 = .ok (.astore 6, 2) := by decide +kernel
theorem dX3_fillBatteries_27 : decode cX3_fillBatteries 27 = .ok (.aload 6, 2) := by decide +kernel
theorem dX3_fillBatteries_29 : decode cX3_fillBatteries 29 = .ok (.invokevirtual 284, 3) := by decide +kernel
theorem dX3_fillBatteries_32 : decode cX3_fillBatteries 32 = .ok (.iload_n 1, 1) := by decide +kernel
theorem dX3_fillBatteries_33 : decode cX3_fillBatteries 33 = .ok (.iload_n 2, 1) := by decide +kernel
theorem dX3_fillBatteries_34 : decode cX3_fillBatteries 34 = .ok (.isub, 1) := by decide +kernel
theorem dX3_fillBatteries_35 : decode cX3_fillBatteries 35 = .ok (.invokestatic 109, 3) := by decide +kernel
theorem dX3_fillBatteries_38 : decode cX3_fillBatteries 38 = .ok (.istore 7, 2) := by decide +kernel
theorem dX3_fillBatteries_40 : decode cX3_fillBatteries 40 = .ok (.aload 6, 2) := by decide +kernel
theorem dX3_fillBatteries_42 : decode cX3_fillBatteries 42 = .ok (.dup, 1) := by decide +kernel
theorem dX3_fillBatteries_43 : decode cX3_fillBatteries 43 = .ok (.getfield 153, 3) := by decide +kernel
theorem dX3_fillBatteries_46 : decode cX3_fillBatteries 46 = .ok (.iload 7, 2) := by decide +kernel
theorem dX3_fillBatteries_48 : decode cX3_fillBatteries 48 = .ok (.iadd, 1) := by decide +kernel
theorem dX3_fillBatteries_49 : decode cX3_fillBatteries 49 = .ok (.putfield 153, 3) := by decide +kernel
theorem dX3_fillBatteries_52 : decode cX3_fillBatteries 52 = .ok (.iload_n 2, 1) := by decide +kernel
theorem dX3_fillBatteries_53 : decode cX3_fillBatteries 53 = .ok (.iload 7, 2) := by decide +kernel
theorem dX3_fillBatteries_55 : decode cX3_fillBatteries 55 = .ok (.iadd, 1) := by decide +kernel
theorem dX3_fillBatteries_56 : decode cX3_fillBatteries 56 = .ok (.istore_n 2, 1) := by decide +kernel
theorem dX3_fillBatteries_57 : decode cX3_fillBatteries 57 = .ok (.iinc 5 1, 3) := by decide +kernel
theorem dX3_fillBatteries_60 : decode cX3_fillBatteries 60 = .ok (.goto (-46), 3) := by decide +kernel
theorem dX3_fillBatteries_63 : decode cX3_fillBatteries 63 = .ok (.iload_n 2, 1) := by decide +kernel
theorem dX3_fillBatteries_64 : decode cX3_fillBatteries 64 = .ok (.ireturn, 1) := by decide +kernel
set_option maxRecDepth 20000 in
theorem ggX3_sumGeneratorPower_X1_isSupplying : GoodIn wsX3_sumGeneratorPower wsX1_isSupplying := goodIn_r _ [7, 8, 9, 26, 27, 28, 29, 30, 31, 32, 33, 34, 35, 36, 37, 38, 39, 40] (by decide +kernel) (by decide +kernel)
set_option maxRecDepth 20000 in
theorem gX3_sumGeneratorPower_X1_isSupplying : GoodIn wsX3_sumGeneratorPower (wsV RX3 290 RX1 yX1_isSupplying wsX1_isSupplying) := goodIn_app (goodIn_of _ (by decide +kernel)) ggX3_sumGeneratorPower_X1_isSupplying
theorem dX3_sumGeneratorPower_0 : decode cX3_sumGeneratorPower 0 = .ok (.iconst 0, 1) := by decide +kernel
theorem dX3_sumGeneratorPower_1 : decode cX3_sumGeneratorPower 1 = .ok (.istore_n 1, 1) := by decide +kernel
theorem dX3_sumGeneratorPower_2 : decode cX3_sumGeneratorPower 2 = .ok (.aload_n 0, 1) := by decide +kernel
theorem dX3_sumGeneratorPower_3 : decode cX3_sumGeneratorPower 3 = .ok (.getfield 23, 3) := by decide +kernel
theorem dX3_sumGeneratorPower_6 : decode cX3_sumGeneratorPower 6 = .ok (.astore_n 2, 1) := by decide +kernel
theorem dX3_sumGeneratorPower_7 : decode cX3_sumGeneratorPower 7 = .ok (.aload_n 2, 1) := by decide +kernel
theorem dX3_sumGeneratorPower_8 : decode cX3_sumGeneratorPower 8 = .ok (.arraylength, 1) := by decide +kernel
theorem dX3_sumGeneratorPower_9 : decode cX3_sumGeneratorPower 9 = .ok (.istore_n 3, 1) := by decide +kernel
theorem dX3_sumGeneratorPower_10 : decode cX3_sumGeneratorPower 10 = .ok (.iconst 0, 1) := by decide +kernel
theorem dX3_sumGeneratorPower_11 : decode cX3_sumGeneratorPower 11 = .ok (.istore 4, 2) := by decide +kernel
theorem dX3_sumGeneratorPower_13 : decode cX3_sumGeneratorPower 13 = .ok (.iload 4, 2) := by decide +kernel
theorem dX3_sumGeneratorPower_15 : decode cX3_sumGeneratorPower 15 = .ok (.iload_n 3, 1) := by decide +kernel
theorem dX3_sumGeneratorPower_16 : decode cX3_sumGeneratorPower 16 = .ok (.if_icmp .ge 31, 3) := by decide +kernel
theorem dX3_sumGeneratorPower_19 : decode cX3_sumGeneratorPower 19 = .ok (.aload_n 2, 1) := by decide +kernel
theorem dX3_sumGeneratorPower_20 : decode cX3_sumGeneratorPower 20 = .ok (.iload 4, 2) := by decide +kernel
theorem dX3_sumGeneratorPower_22 : decode cX3_sumGeneratorPower 22 = .ok (.aaload, 1) := by decide +kernel
theorem dX3_sumGeneratorPower_23 : decode cX3_sumGeneratorPower 23 = .ok (.astore 5, 2) := by decide +kernel
theorem dX3_sumGeneratorPower_25 : decode cX3_sumGeneratorPower 25 = .ok (.aload 5, 2) := by decide +kernel
theorem dX3_sumGeneratorPower_27 : decode cX3_sumGeneratorPower 27 = .ok (.invokevirtual 290, 3) := by decide +kernel
theorem dX3_sumGeneratorPower_30 : decode cX3_sumGeneratorPower 30 = .ok (.ifCond .eq 11, 3) := by decide +kernel
theorem dX3_sumGeneratorPower_33 : decode cX3_sumGeneratorPower 33 = .ok (.iload_n 1, 1) := by decide +kernel
theorem dX3_sumGeneratorPower_34 : decode cX3_sumGeneratorPower 34 = .ok (.aload 5, 2) := by decide +kernel
theorem dX3_sumGeneratorPower_36 : decode cX3_sumGeneratorPower 36 = .ok (.getfield 294, 3) := by decide +kernel
theorem dX3_sumGeneratorPower_39 : decode cX3_sumGeneratorPower 39 = .ok (.iadd, 1) := by decide +kernel
theorem dX3_sumGeneratorPower_40 : decode cX3_sumGeneratorPower 40 = .ok (.istore_n 1, 1) := by decide +kernel
theorem dX3_sumGeneratorPower_41 : decode cX3_sumGeneratorPower 41 = .ok (.iinc 4 1, 3) := by decide +kernel
theorem dX3_sumGeneratorPower_44 : decode cX3_sumGeneratorPower 44 = .ok (.goto (-31), 3) := by decide +kernel
theorem dX3_sumGeneratorPower_47 : decode cX3_sumGeneratorPower 47 = .ok (.iload_n 1, 1) := by decide +kernel
theorem dX3_sumGeneratorPower_48 : decode cX3_sumGeneratorPower 48 = .ok (.ireturn, 1) := by decide +kernel
set_option maxRecDepth 20000 in
theorem ggX3_sumBatteryPower_X0_canGive : GoodIn wsX3_sumBatteryPower wsX0_canGive := goodIn_r _ [6, 7, 8, 9, 10, 11, 12, 29, 30, 31, 32, 33, 34] (by decide +kernel) (by decide +kernel)
set_option maxRecDepth 20000 in
theorem gX3_sumBatteryPower_X0_canGive : GoodIn wsX3_sumBatteryPower (wsV RX3 281 RX0 yX0_canGive wsX0_canGive) := goodIn_app (goodIn_of _ (by decide +kernel)) ggX3_sumBatteryPower_X0_canGive
theorem dX3_sumBatteryPower_0 : decode cX3_sumBatteryPower 0 = .ok (.iconst 0, 1) := by decide +kernel
theorem dX3_sumBatteryPower_1 : decode cX3_sumBatteryPower 1 = .ok (.istore_n 1, 1) := by decide +kernel
theorem dX3_sumBatteryPower_2 : decode cX3_sumBatteryPower 2 = .ok (.aload_n 0, 1) := by decide +kernel
theorem dX3_sumBatteryPower_3 : decode cX3_sumBatteryPower 3 = .ok (.getfield 17, 3) := by decide +kernel
theorem dX3_sumBatteryPower_6 : decode cX3_sumBatteryPower 6 = .ok (.astore_n 2, 1) := by decide +kernel
theorem dX3_sumBatteryPower_7 : decode cX3_sumBatteryPower 7 = .ok (.aload_n 2, 1) := by decide +kernel
theorem dX3_sumBatteryPower_8 : decode cX3_sumBatteryPower 8 = .ok (.arraylength, 1) := by decide +kernel
theorem dX3_sumBatteryPower_9 : decode cX3_sumBatteryPower 9 = .ok (.istore_n 3, 1) := by decide +kernel
theorem dX3_sumBatteryPower_10 : decode cX3_sumBatteryPower 10 = .ok (.iconst 0, 1) := by decide +kernel
theorem dX3_sumBatteryPower_11 : decode cX3_sumBatteryPower 11 = .ok (.istore 4, 2) := by decide +kernel
theorem dX3_sumBatteryPower_13 : decode cX3_sumBatteryPower 13 = .ok (.iload 4, 2) := by decide +kernel
theorem dX3_sumBatteryPower_15 : decode cX3_sumBatteryPower 15 = .ok (.iload_n 3, 1) := by decide +kernel
theorem dX3_sumBatteryPower_16 : decode cX3_sumBatteryPower 16 = .ok (.if_icmp .ge 23, 3) := by decide +kernel
theorem dX3_sumBatteryPower_19 : decode cX3_sumBatteryPower 19 = .ok (.aload_n 2, 1) := by decide +kernel
theorem dX3_sumBatteryPower_20 : decode cX3_sumBatteryPower 20 = .ok (.iload 4, 2) := by decide +kernel
theorem dX3_sumBatteryPower_22 : decode cX3_sumBatteryPower 22 = .ok (.aaload, 1) := by decide +kernel
theorem dX3_sumBatteryPower_23 : decode cX3_sumBatteryPower 23 = .ok (.astore 5, 2) := by decide +kernel
theorem dX3_sumBatteryPower_25 : decode cX3_sumBatteryPower 25 = .ok (.iload_n 1, 1) := by decide +kernel
theorem dX3_sumBatteryPower_26 : decode cX3_sumBatteryPower 26 = .ok (.aload 5, 2) := by decide +kernel
theorem dX3_sumBatteryPower_28 : decode cX3_sumBatteryPower 28 = .ok (.invokevirtual 281, 3) := by decide +kernel
theorem dX3_sumBatteryPower_31 : decode cX3_sumBatteryPower 31 = .ok (.iadd, 1) := by decide +kernel
theorem dX3_sumBatteryPower_32 : decode cX3_sumBatteryPower 32 = .ok (.istore_n 1, 1) := by decide +kernel
theorem dX3_sumBatteryPower_33 : decode cX3_sumBatteryPower 33 = .ok (.iinc 4 1, 3) := by decide +kernel
theorem dX3_sumBatteryPower_36 : decode cX3_sumBatteryPower 36 = .ok (.goto (-23), 3) := by decide +kernel
theorem dX3_sumBatteryPower_39 : decode cX3_sumBatteryPower 39 = .ok (.iload_n 1, 1) := by decide +kernel
theorem dX3_sumBatteryPower_40 : decode cX3_sumBatteryPower 40 = .ok (.ireturn, 1) := by decide +kernel
set_option maxRecDepth 20000 in
theorem ggX3_firstInOrder_X2_goesAheadOf : GoodIn wsX3_firstInOrder wsX2_goesAheadOf := goodIn_r _ [7, 8, 9, 10, 11, 6, 12, 13, 14, 15, 32, 33, 34, 35, 36, 37] (by decide +kernel) (by decide +kernel)
set_option maxRecDepth 20000 in
theorem gX3_firstInOrder_X2_goesAheadOf : GoodIn wsX3_firstInOrder (wsV RX3 295 RX2 yX2_goesAheadOf wsX2_goesAheadOf) := goodIn_app (goodIn_of _ (by decide +kernel)) ggX3_firstInOrder_X2_goesAheadOf
theorem dX3_firstInOrder_0 : decode cX3_firstInOrder 0 = .ok (.aconst_null, 1) := by decide +kernel
theorem dX3_firstInOrder_1 : decode cX3_firstInOrder 1 = .ok (.astore_n 2, 1) := by decide +kernel
theorem dX3_firstInOrder_2 : decode cX3_firstInOrder 2 = .ok (.aload_n 0, 1) := by decide +kernel
theorem dX3_firstInOrder_3 : decode cX3_firstInOrder 3 = .ok (.getfield 11, 3) := by decide +kernel
theorem dX3_firstInOrder_6 : decode cX3_firstInOrder 6 = .ok (.astore_n 3, 1) := by decide +kernel
theorem dX3_firstInOrder_7 : decode cX3_firstInOrder 7 = .ok (.aload_n 3, 1) := by decide +kernel
theorem dX3_firstInOrder_8 : decode cX3_firstInOrder 8 = .ok (.arraylength, 1) := by decide +kernel
theorem dX3_firstInOrder_9 : decode cX3_firstInOrder 9 = .ok (.istore 4, 2) := by decide +kernel
theorem dX3_firstInOrder_11 : decode cX3_firstInOrder 11 = .ok (.iconst 0, 1) := by decide +kernel
theorem dX3_firstInOrder_12 : decode cX3_firstInOrder 12 = .ok (.istore 5, 2) := by decide +kernel
theorem dX3_firstInOrder_14 : decode cX3_firstInOrder 14 = .ok (.iload 5, 2) := by decide +kernel
theorem dX3_firstInOrder_16 : decode cX3_firstInOrder 16 = .ok (.iload 4, 2) := by decide +kernel
theorem dX3_firstInOrder_18 : decode cX3_firstInOrder 18 = .ok (.if_icmp .ge 40, 3) := by decide +kernel
theorem dX3_firstInOrder_21 : decode cX3_firstInOrder 21 = .ok (.aload_n 3, 1) := by decide +kernel
theorem dX3_firstInOrder_22 : decode cX3_firstInOrder 22 = .ok (.iload 5, 2) := by decide +kernel
theorem dX3_firstInOrder_24 : decode cX3_firstInOrder 24 = .ok (.aaload, 1) := by decide +kernel
theorem dX3_firstInOrder_25 : decode cX3_firstInOrder 25 = .ok (.astore 6, 2) := by decide +kernel
theorem dX3_firstInOrder_27 : decode cX3_firstInOrder 27 = .ok (.aload 6, 2) := by decide +kernel
theorem dX3_firstInOrder_29 : decode cX3_firstInOrder 29 = .ok (.getfield 89, 3) := by decide +kernel
theorem dX3_firstInOrder_32 : decode cX3_firstInOrder 32 = .ok (.iload_n 1, 1) := by decide +kernel
theorem dX3_firstInOrder_33 : decode cX3_firstInOrder 33 = .ok (.if_icmp .ne 19, 3) := by decide +kernel
theorem dX3_firstInOrder_36 : decode cX3_firstInOrder 36 = .ok (.aload_n 2, 1) := by decide +kernel
theorem dX3_firstInOrder_37 : decode cX3_firstInOrder 37 = .ok (.ifnull 12, 3) := by decide +kernel
theorem dX3_firstInOrder_40 : decode cX3_firstInOrder 40 = .ok (.aload 6, 2) := by decide +kernel
theorem dX3_firstInOrder_42 : decode cX3_firstInOrder 42 = .ok (.aload_n 2, 1) := by decide +kernel
theorem dX3_firstInOrder_43 : decode cX3_firstInOrder 43 = .ok (.invokevirtual 295, 3) := by decide +kernel
theorem dX3_firstInOrder_46 : decode cX3_firstInOrder 46 = .ok (.ifCond .eq 6, 3) := by decide +kernel
theorem dX3_firstInOrder_49 : decode cX3_firstInOrder 49 = .ok (.aload 6, 2) := by decide +kernel
theorem dX3_firstInOrder_51 : decode cX3_firstInOrder 51 = .ok (.astore_n 2, 1) := by decide +kernel
theorem dX3_firstInOrder_52 : decode cX3_firstInOrder 52 = .ok (.iinc 5 1, 3) := by decide +kernel
theorem dX3_firstInOrder_55 : decode cX3_firstInOrder 55 = .ok (.goto (-41), 3) := by decide +kernel
theorem dX3_firstInOrder_58 : decode cX3_firstInOrder 58 = .ok (.aload_n 2, 1) := by decide +kernel
theorem dX3_firstInOrder_59 : decode cX3_firstInOrder 59 = .ok (.areturn, 1) := by decide +kernel
theorem dJ9_max_7cf53_0 : decode cJ9_max_7cf53 0 = .ok (.iload_n 0, 1) := by decide +kernel
theorem dJ9_max_7cf53_1 : decode cJ9_max_7cf53 1 = .ok (.iload_n 1, 1) := by decide +kernel
theorem dJ9_max_7cf53_2 : decode cJ9_max_7cf53 2 = .ok (.if_icmp .lt 7, 3) := by decide +kernel
theorem dJ9_max_7cf53_5 : decode cJ9_max_7cf53 5 = .ok (.iload_n 0, 1) := by decide +kernel
theorem dJ9_max_7cf53_6 : decode cJ9_max_7cf53 6 = .ok (.goto 4, 3) := by decide +kernel
theorem dJ9_max_7cf53_9 : decode cJ9_max_7cf53 9 = .ok (.iload_n 1, 1) := by decide +kernel
theorem dJ9_max_7cf53_10 : decode cJ9_max_7cf53 10 = .ok (.ireturn, 1) := by decide +kernel
theorem dJ9_min_7cf53_0 : decode cJ9_min_7cf53 0 = .ok (.iload_n 0, 1) := by decide +kernel
theorem dJ9_min_7cf53_1 : decode cJ9_min_7cf53 1 = .ok (.iload_n 1, 1) := by decide +kernel
theorem dJ9_min_7cf53_2 : decode cJ9_min_7cf53 2 = .ok (.if_icmp .gt 7, 3) := by decide +kernel
theorem dJ9_min_7cf53_5 : decode cJ9_min_7cf53 5 = .ok (.iload_n 0, 1) := by decide +kernel
theorem dJ9_min_7cf53_6 : decode cJ9_min_7cf53 6 = .ok (.goto 4, 3) := by decide +kernel
theorem dJ9_min_7cf53_9 : decode cJ9_min_7cf53 9 = .ok (.iload_n 1, 1) := by decide +kernel
theorem dJ9_min_7cf53_10 : decode cJ9_min_7cf53 10 = .ok (.ireturn, 1) := by decide +kernel
