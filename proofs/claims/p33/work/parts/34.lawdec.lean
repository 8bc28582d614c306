theorem dL_cell_0 : decode cL_cell 0 = .ok (.iload_n 1, 1) := by decide +kernel
theorem dL_cell_1 : decode cL_cell 1 = .ok (.aload_n 0, 1) := by decide +kernel
theorem dL_cell_2 : decode cL_cell 2 = .ok (.arraylength, 1) := by decide +kernel
theorem dL_cell_3 : decode cL_cell 3 = .ok (.if_icmp .ge 9, 3) := by decide +kernel
theorem dL_cell_6 : decode cL_cell 6 = .ok (.aload_n 0, 1) := by decide +kernel
theorem dL_cell_7 : decode cL_cell 7 = .ok (.iload_n 1, 1) := by decide +kernel
theorem dL_cell_8 : decode cL_cell 8 = .ok (.iaload, 1) := by decide +kernel
theorem dL_cell_9 : decode cL_cell 9 = .ok (.goto 15, 3) := by decide +kernel
theorem dL_cell_12 : decode cL_cell 12 = .ok (.sipush 7919, 3) := by decide +kernel
theorem dL_cell_15 : decode cL_cell 15 = .ok (.iload_n 1, 1) := by decide +kernel
theorem dL_cell_16 : decode cL_cell 16 = .ok (.iconst 3, 1) := by decide +kernel
theorem dL_cell_17 : decode cL_cell 17 = .ok (.iadd, 1) := by decide +kernel
theorem dL_cell_18 : decode cL_cell 18 = .ok (.imul, 1) := by decide +kernel
theorem dL_cell_19 : decode cL_cell 19 = .ok (.iload_n 1, 1) := by decide +kernel
theorem dL_cell_20 : decode cL_cell 20 = .ok (.bipush 11, 2) := by decide +kernel
theorem dL_cell_22 : decode cL_cell 22 = .ok (.iadd, 1) := by decide +kernel
theorem dL_cell_23 : decode cL_cell 23 = .ok (.imul, 1) := by decide +kernel
theorem dL_cell_24 : decode cL_cell 24 = .ok (.ireturn, 1) := by decide +kernel
theorem dL_low_0 : decode cL_low 0 = .ok (.iload_n 0, 1) := by decide +kernel
theorem dL_low_1 : decode cL_low 1 = .ok (.ldc 7, 2) := by decide +kernel
theorem dL_low_3 : decode cL_low 3 = .ok (.iand, 1) := by decide +kernel
theorem dL_low_4 : decode cL_low 4 = .ok (.iload_n 1, 1) := by decide +kernel
theorem dL_low_5 : decode cL_low 5 = .ok (.irem, 1) := by decide +kernel
theorem dL_low_6 : decode cL_low 6 = .ok (.ireturn, 1) := by decide +kernel
set_option maxRecDepth 20000 in
theorem ggL_charges_X3_chargeOf : GoodIn wsL_charges wsX3_chargeOf := goodIn_ca (goodIn_r _ [5, 6, 7, 8, 9, 4, 10, 11, 12, 13, 14, 15, 16, 17, 18, 19, 20, 21, 22, 23, 24, 25, 26, 27, 28, 29, 30, 31, 32, 33, 34, 35, 36] (by decide +kernel) (by decide +kernel)) (goodIn_sub (fun _ h => List.mem_cons_of_mem _ (List.mem_append_right _ h)) (by decide +kernel))
set_option maxRecDepth 20000 in
theorem gL_charges_X3_chargeOf : GoodIn wsL_charges (wsV RL 8 RX3 yX3_chargeOf wsX3_chargeOf) := goodIn_app (goodIn_of _ (by decide +kernel)) ggL_charges_X3_chargeOf
theorem dL_charges_0 : decode cL_charges 0 = .ok (.iconst 0, 1) := by decide +kernel
theorem dL_charges_1 : decode cL_charges 1 = .ok (.istore_n 2, 1) := by decide +kernel
theorem dL_charges_2 : decode cL_charges 2 = .ok (.iconst 0, 1) := by decide +kernel
theorem dL_charges_3 : decode cL_charges 3 = .ok (.istore_n 3, 1) := by decide +kernel
theorem dL_charges_4 : decode cL_charges 4 = .ok (.iload_n 3, 1) := by decide +kernel
theorem dL_charges_5 : decode cL_charges 5 = .ok (.iload_n 1, 1) := by decide +kernel
theorem dL_charges_6 : decode cL_charges 6 = .ok (.if_icmp .ge 17, 3) := by decide +kernel
theorem dL_charges_9 : decode cL_charges 9 = .ok (.iload_n 2, 1) := by decide +kernel
theorem dL_charges_10 : decode cL_charges 10 = .ok (.aload_n 0, 1) := by decide +kernel
theorem dL_charges_11 : decode cL_charges 11 = .ok (.iload_n 3, 1) := by decide +kernel
theorem dL_charges_12 : decode cL_charges 12 = .ok (.invokevirtual 8, 3) := by decide +kernel
theorem dL_charges_15 : decode cL_charges 15 = .ok (.iadd, 1) := by decide +kernel
theorem dL_charges_16 : decode cL_charges 16 = .ok (.istore_n 2, 1) := by decide +kernel
theorem dL_charges_17 : decode cL_charges 17 = .ok (.iinc 3 1, 3) := by decide +kernel
theorem dL_charges_20 : decode cL_charges 20 = .ok (.goto (-16), 3) := by decide +kernel
theorem dL_charges_23 : decode cL_charges 23 = .ok (.iload_n 2, 1) := by decide +kernel
theorem dL_charges_24 : decode cL_charges 24 = .ok (.ireturn, 1) := by decide +kernel
set_option maxRecDepth 20000 in
theorem ggL_areSums_X3_energyOf : GoodIn wsL_areSums wsX3_energyOf := goodIn_ca (goodIn_r _ [5, 6, 7, 8, 9, 4, 10, 11, 12, 13, 14, 65, 66, 67, 68, 69, 70, 71, 72, 73, 74, 75, 76, 77, 78, 79, 80, 81, 82, 83, 84, 85, 86] (by decide +kernel) (by decide +kernel)) (goodIn_sub (fun _ h => List.mem_cons_of_mem _ (List.mem_append_right _ h)) (by decide +kernel))
set_option maxRecDepth 20000 in
theorem gL_areSums_X3_energyOf : GoodIn wsL_areSums (wsV RL 14 RX3 yX3_energyOf wsX3_energyOf) := goodIn_app (goodIn_of _ (by decide +kernel)) ggL_areSums_X3_energyOf
set_option maxRecDepth 20000 in
theorem ggL_areSums_X3_darkMinutes : GoodIn wsL_areSums wsX3_darkMinutes := goodIn_ca (goodIn_r _ [18, 19, 7, 8, 9, 4, 10, 11, 12, 13, 14, 65, 66, 67, 68, 69, 70, 71, 72, 73, 74, 75, 76, 77, 78, 79, 80, 81, 82, 83, 84, 85, 86] (by decide +kernel) (by decide +kernel)) (goodIn_sub (fun _ h => List.mem_cons_of_mem _ (List.mem_append_right _ h)) (by decide +kernel))
set_option maxRecDepth 20000 in
theorem gL_areSums_X3_darkMinutes : GoodIn wsL_areSums (wsV RL 17 RX3 yX3_darkMinutes wsX3_darkMinutes) := goodIn_app (goodIn_of _ (by decide +kernel)) ggL_areSums_X3_darkMinutes
set_option maxRecDepth 20000 in
theorem ggL_areSums_X3_time : GoodIn wsL_areSums wsX3_time := goodIn_r _ [23, 24, 71, 72, 73, 74, 75, 76, 77, 78, 79, 80, 81, 82, 83, 84, 85, 86] (by decide +kernel) (by decide +kernel)
set_option maxRecDepth 20000 in
theorem gL_areSums_X3_time : GoodIn wsL_areSums (wsV RL 20 RX3 yX3_time wsX3_time) := goodIn_app (goodIn_of _ (by decide +kernel)) ggL_areSums_X3_time
set_option maxRecDepth 20000 in
theorem ggL_areSums_X3_chargeOf : GoodIn wsL_areSums wsX3_chargeOf := goodIn_ca (goodIn_r _ [28, 29, 30, 31, 32, 4, 33, 11, 12, 34, 35, 87, 88, 89, 90, 91, 92, 71, 72, 73, 74, 75, 76, 77, 78, 79, 80, 81, 82, 83, 84, 85, 86] (by decide +kernel) (by decide +kernel)) (goodIn_sub (fun _ h => List.mem_cons_of_mem _ (List.mem_append_right _ h)) (by decide +kernel))
set_option maxRecDepth 20000 in
theorem gL_areSums_X3_chargeOf : GoodIn wsL_areSums (wsV RL 8 RX3 yX3_chargeOf wsX3_chargeOf) := goodIn_app (goodIn_of _ (by decide +kernel)) ggL_areSums_X3_chargeOf
set_option maxRecDepth 20000 in
theorem ggL_areSums_X3_capacityOf : GoodIn wsL_areSums wsX3_capacityOf := goodIn_ca (goodIn_r _ [39, 40, 30, 31, 32, 4, 33, 11, 12, 34, 35, 87, 88, 89, 90, 91, 92, 71, 72, 73, 74, 75, 76, 77, 78, 79, 80, 81, 82, 83, 84, 85, 86] (by decide +kernel) (by decide +kernel)) (goodIn_sub (fun _ h => List.mem_cons_of_mem _ (List.mem_append_right _ h)) (by decide +kernel))
set_option maxRecDepth 20000 in
theorem gL_areSums_X3_capacityOf : GoodIn wsL_areSums (wsV RL 24 RX3 yX3_capacityOf wsX3_capacityOf) := goodIn_app (goodIn_of _ (by decide +kernel)) ggL_areSums_X3_capacityOf
set_option maxRecDepth 20000 in
theorem ggL_areSums_X3_fromMains : GoodIn wsL_areSums wsX3_fromMains := goodIn_r _ [44, 45, 71, 72, 73, 74, 75, 76, 77, 78, 79, 80, 81, 82, 83, 84, 85, 86] (by decide +kernel) (by decide +kernel)
set_option maxRecDepth 20000 in
theorem gL_areSums_X3_fromMains : GoodIn wsL_areSums (wsV RL 27 RX3 yX3_fromMains wsX3_fromMains) := goodIn_app (goodIn_of _ (by decide +kernel)) ggL_areSums_X3_fromMains
set_option maxRecDepth 20000 in
theorem ggL_areSums_X3_fromGenerators : GoodIn wsL_areSums wsX3_fromGenerators := goodIn_r _ [49, 50, 71, 72, 73, 74, 75, 76, 77, 78, 79, 80, 81, 82, 83, 84, 85, 86] (by decide +kernel) (by decide +kernel)
set_option maxRecDepth 20000 in
theorem gL_areSums_X3_fromGenerators : GoodIn wsL_areSums (wsV RL 30 RX3 yX3_fromGenerators wsX3_fromGenerators) := goodIn_app (goodIn_of _ (by decide +kernel)) ggL_areSums_X3_fromGenerators
set_option maxRecDepth 20000 in
theorem ggL_areSums_X3_fromBatteries : GoodIn wsL_areSums wsX3_fromBatteries := goodIn_r _ [54, 55, 71, 72, 73, 74, 75, 76, 77, 78, 79, 80, 81, 82, 83, 84, 85, 86] (by decide +kernel) (by decide +kernel)
set_option maxRecDepth 20000 in
theorem gL_areSums_X3_fromBatteries : GoodIn wsL_areSums (wsV RL 33 RX3 yX3_fromBatteries wsX3_fromBatteries) := goodIn_app (goodIn_of _ (by decide +kernel)) ggL_areSums_X3_fromBatteries
set_option maxRecDepth 20000 in
theorem ggL_areSums_L_charges : GoodIn wsL_areSums wsL_charges := goodIn_ca (goodIn_r _ [59, 25, 26, 27, 4, 28, 29, 30, 31, 32, 33, 11, 12, 34, 35, 87, 88, 89, 90, 91, 92, 71, 72, 73, 74, 75, 76, 77, 78, 79, 80, 81, 82, 83, 84, 85, 86] (by decide +kernel) (by decide +kernel)) (goodIn_sub (fun _ h => List.mem_cons_of_mem _ (List.mem_append_right _ h)) (by decide +kernel))
set_option maxRecDepth 20000 in
theorem gL_areSums_L_charges : GoodIn wsL_areSums (va_wsS RL 36 yL_charges wsL_charges) := goodIn_app (goodIn_of _ (by decide +kernel)) ggL_areSums_L_charges
set_option maxRecDepth 20000 in
theorem ggL_areSums_X3_intoBatteries : GoodIn wsL_areSums wsX3_intoBatteries := goodIn_r _ [63, 64, 71, 72, 73, 74, 75, 76, 77, 78, 79, 80, 81, 82, 83, 84, 85, 86] (by decide +kernel) (by decide +kernel)
set_option maxRecDepth 20000 in
theorem gL_areSums_X3_intoBatteries : GoodIn wsL_areSums (wsV RL 42 RX3 yX3_intoBatteries wsX3_intoBatteries) := goodIn_app (goodIn_of _ (by decide +kernel)) ggL_areSums_X3_intoBatteries
theorem dL_areSums_0 : decode cL_areSums 0 = .ok (.iconst 0, 1) := by decide +kernel
theorem dL_areSums_1 : decode cL_areSums 1 = .ok (.istore 4, 2) := by decide +kernel
theorem dL_areSums_3 : decode cL_areSums 3 = .ok (.iconst 1, 1) := by decide +kernel
theorem dL_areSums_4 : decode cL_areSums 4 = .ok (.istore 5, 2) := by decide +kernel
theorem dL_areSums_6 : decode cL_areSums 6 = .ok (.iconst 0, 1) := by decide +kernel
theorem dL_areSums_7 : decode cL_areSums 7 = .ok (.istore 6, 2) := by decide +kernel
theorem dL_areSums_9 : decode cL_areSums 9 = .ok (.iload 6, 2) := by decide +kernel
theorem dL_areSums_11 : decode cL_areSums 11 = .ok (.iload_n 1, 1) := by decide +kernel
theorem dL_areSums_12 : decode cL_areSums 12 = .ok (.if_icmp .ge 63, 3) := by decide +kernel
theorem dL_areSums_15 : decode cL_areSums 15 = .ok (.iload 4, 2) := by decide +kernel
theorem dL_areSums_17 : decode cL_areSums 17 = .ok (.aload_n 0, 1) := by decide +kernel
theorem dL_areSums_18 : decode cL_areSums 18 = .ok (.iload 6, 2) := by decide +kernel
theorem dL_areSums_20 : decode cL_areSums 20 = .ok (.invokevirtual 14, 3) := by decide +kernel
theorem dL_areSums_23 : decode cL_areSums 23 = .ok (.iadd, 1) := by decide +kernel
theorem dL_areSums_24 : decode cL_areSums 24 = .ok (.istore 4, 2) := by decide +kernel
theorem dL_areSums_26 : decode cL_areSums 26 = .ok (.iload 5, 2) := by decide +kernel
theorem dL_areSums_28 : decode cL_areSums 28 = .ok (.ifCond .eq 38, 3) := by decide +kernel
theorem dL_areSums_31 : decode cL_areSums 31 = .ok (.aload_n 0, 1) := by decide +kernel
theorem dL_areSums_32 : decode cL_areSums 32 = .ok (.iload 6, 2) := by decide +kernel
theorem dL_areSums_34 : decode cL_areSums 34 = .ok (.invokevirtual 14, 3) := by decide +kernel
theorem dL_areSums_37 : decode cL_areSums 37 = .ok (.ifCond .lt 29, 3) := by decide +kernel
theorem dL_areSums_40 : decode cL_areSums 40 = .ok (.aload_n 0, 1) := by decide +kernel
theorem dL_areSums_41 : decode cL_areSums 41 = .ok (.iload 6, 2) := by decide +kernel
theorem dL_areSums_43 : decode cL_areSums 43 = .ok (.invokevirtual 17, 3) := by decide +kernel
theorem dL_areSums_46 : decode cL_areSums 46 = .ok (.ifCond .lt 20, 3) := by decide +kernel
theorem dL_areSums_49 : decode cL_areSums 49 = .ok (.aload_n 0, 1) := by decide +kernel
theorem dL_areSums_50 : decode cL_areSums 50 = .ok (.iload 6, 2) := by decide +kernel
theorem dL_areSums_52 : decode cL_areSums 52 = .ok (.invokevirtual 17, 3) := by decide +kernel
theorem dL_areSums_55 : decode cL_areSums 55 = .ok (.aload_n 0, 1) := by decide +kernel
theorem dL_areSums_56 : decode cL_areSums 56 = .ok (.invokevirtual 20, 3) := by decide +kernel
theorem dL_areSums_59 : decode cL_areSums 59 = .ok (.if_icmp .gt 7, 3) := by decide +kernel
theorem dL_areSums_62 : decode cL_areSums 62 = .ok (.iconst 1, 1) := by decide +kernel
theorem dL_areSums_63 : decode cL_areSums 63 = .ok (.goto 4, 3) := by decide +kernel
theorem dL_areSums_66 : decode cL_areSums 66 = .ok (.iconst 0, 1) := by decide +kernel
theorem dL_areSums_67 : decode cL_areSums 67 = .ok (.istore 5, 2) := by decide +kernel
theorem dL_areSums_69 : decode cL_areSums 69 = .ok (.iinc 6 1, 3) := by decide +kernel
theorem dL_areSums_72 : decode cL_areSums 72 = .ok (.goto (-63), 3) := by decide +kernel
theorem dL_areSums_75 : decode cL_areSums 75 = .ok (.iconst 0, 1) := by decide +kernel
theorem dL_areSums_76 : decode cL_areSums 76 = .ok (.istore 6, 2) := by decide +kernel
theorem dL_areSums_78 : decode cL_areSums 78 = .ok (.iload 6, 2) := by decide +kernel
theorem dL_areSums_80 : decode cL_areSums 80 = .ok (.iload_n 2, 1) := by decide +kernel
theorem dL_areSums_81 : decode cL_areSums 81 = .ok (.if_icmp .ge 55, 3) := by decide +kernel
theorem dL_areSums_84 : decode cL_areSums 84 = .ok (.iload 5, 2) := by decide +kernel
theorem dL_areSums_86 : decode cL_areSums 86 = .ok (.ifCond .eq 41, 3) := by decide +kernel
theorem dL_areSums_89 : decode cL_areSums 89 = .ok (.aload_n 0, 1) := by decide +kernel
theorem dL_areSums_90 : decode cL_areSums 90 = .ok (.iload 6, 2) := by decide +kernel
theorem dL_areSums_92 : decode cL_areSums 92 = .ok (.invokevirtual 8, 3) := by decide +kernel
theorem dL_areSums_95 : decode cL_areSums 95 = .ok (.ifCond .lt 32, 3) := by decide +kernel
theorem dL_areSums_98 : decode cL_areSums 98 = .ok (.aload_n 0, 1) := by decide +kernel
theorem dL_areSums_99 : decode cL_areSums 99 = .ok (.iload 6, 2) := by decide +kernel
theorem dL_areSums_101 : decode cL_areSums 101 = .ok (.invokevirtual 8, 3) := by decide +kernel
theorem dL_areSums_104 : decode cL_areSums 104 = .ok (.aload_n 0, 1) := by decide +kernel
theorem dL_areSums_105 : decode cL_areSums 105 = .ok (.iload 6, 2) := by decide +kernel
theorem dL_areSums_107 : decode cL_areSums 107 = .ok (.invokevirtual 24, 3) := by decide +kernel
theorem dL_areSums_110 : decode cL_areSums 110 = .ok (.if_icmp .gt 17, 3) := by decide +kernel
theorem dL_areSums_113 : decode cL_areSums 113 = .ok (.aload_n 0, 1) := by decide +kernel
theorem dL_areSums_114 : decode cL_areSums 114 = .ok (.iload 6, 2) := by decide +kernel
theorem dL_areSums_116 : decode cL_areSums 116 = .ok (.invokevirtual 24, 3) := by decide +kernel
theorem dL_areSums_119 : decode cL_areSums 119 = .ok (.iconst 1, 1) := by decide +kernel
theorem dL_areSums_120 : decode cL_areSums 120 = .ok (.if_icmp .lt 7, 3) := by decide +kernel
theorem dL_areSums_123 : decode cL_areSums 123 = .ok (.iconst 1, 1) := by decide +kernel
theorem dL_areSums_124 : decode cL_areSums 124 = .ok (.goto 4, 3) := by decide +kernel
theorem dL_areSums_127 : decode cL_areSums 127 = .ok (.iconst 0, 1) := by decide +kernel
theorem dL_areSums_128 : decode cL_areSums 128 = .ok (.istore 5, 2) := by decide +kernel
theorem dL_areSums_130 : decode cL_areSums 130 = .ok (.iinc 6 1, 3) := by decide +kernel
theorem dL_areSums_133 : decode cL_areSums 133 = .ok (.goto (-55), 3) := by decide +kernel
theorem dL_areSums_136 : decode cL_areSums 136 = .ok (.iload 5, 2) := by decide +kernel
theorem dL_areSums_138 : decode cL_areSums 138 = .ok (.ifCond .eq 45, 3) := by decide +kernel
theorem dL_areSums_141 : decode cL_areSums 141 = .ok (.iload 4, 2) := by decide +kernel
theorem dL_areSums_143 : decode cL_areSums 143 = .ok (.aload_n 0, 1) := by decide +kernel
theorem dL_areSums_144 : decode cL_areSums 144 = .ok (.invokevirtual 27, 3) := by decide +kernel
theorem dL_areSums_147 : decode cL_areSums 147 = .ok (.aload_n 0, 1) := by decide +kernel
theorem dL_areSums_148 : decode cL_areSums 148 = .ok (.invokevirtual 30, 3) := by decide +kernel
theorem dL_areSums_151 : decode cL_areSums 151 = .ok (.iadd, 1) := by decide +kernel
theorem dL_areSums_152 : decode cL_areSums 152 = .ok (.aload_n 0, 1) := by decide +kernel
theorem dL_areSums_153 : decode cL_areSums 153 = .ok (.invokevirtual 33, 3) := by decide +kernel
theorem dL_areSums_156 : decode cL_areSums 156 = .ok (.iadd, 1) := by decide +kernel
theorem dL_areSums_157 : decode cL_areSums 157 = .ok (.if_icmp .ne 26, 3) := by decide +kernel
theorem dL_areSums_160 : decode cL_areSums 160 = .ok (.aload_n 0, 1) := by decide +kernel
theorem dL_areSums_161 : decode cL_areSums 161 = .ok (.iload_n 2, 1) := by decide +kernel
theorem dL_areSums_162 : decode cL_areSums 162 = .ok (.invokestatic 36, 3) := by decide +kernel
theorem dL_areSums_165 : decode cL_areSums 165 = .ok (.iload_n 3, 1) := by decide +kernel
theorem dL_areSums_166 : decode cL_areSums 166 = .ok (.aload_n 0, 1) := by decide +kernel
theorem dL_areSums_167 : decode cL_areSums 167 = .ok (.invokevirtual 42, 3) := by decide +kernel
theorem dL_areSums_170 : decode cL_areSums 170 = .ok (.iadd, 1) := by decide +kernel
theorem dL_areSums_171 : decode cL_areSums 171 = .ok (.aload_n 0, 1) := by decide +kernel
theorem dL_areSums_172 : decode cL_areSums 172 = .ok (.invokevirtual 33, 3) := by decide +kernel
theorem dL_areSums_175 : decode cL_areSums 175 = .ok (.isub, 1) := by decide +kernel
theorem dL_areSums_176 : decode cL_areSums 176 = .ok (.if_icmp .ne 7, 3) := by decide +kernel
theorem dL_areSums_179 : decode cL_areSums 179 = .ok (.iconst 1, 1) := by decide +kernel
theorem dL_areSums_180 : decode cL_areSums 180 = .ok (.goto 4, 3) := by decide +kernel
theorem dL_areSums_183 : decode cL_areSums 183 = .ok (.iconst 0, 1) := by decide +kernel
theorem dL_areSums_184 : decode cL_areSums 184 = .ok (.ireturn, 1) := by decide +kernel
set_option maxRecDepth 20000 in
theorem ggL_isMinute_X3_stateOf : GoodIn wsL_isMinute wsX3_stateOf := goodIn_ca (goodIn_r _ [5, 6, 7, 8, 9, 4, 10, 11, 12, 13, 14, 199, 200, 201, 202, 203, 204, 205, 206, 207, 208, 209, 210, 211, 212, 213, 214, 215, 216, 217, 218, 219, 220] (by decide +kernel) (by decide +kernel)) (goodIn_sub (fun _ h => List.mem_cons_of_mem _ (List.mem_append_left _ (List.mem_append_right _ h))) (by decide +kernel))
set_option maxRecDepth 20000 in
theorem gL_isMinute_X3_stateOf : GoodIn wsL_isMinute (wsV RL 45 RX3 yX3_stateOf wsX3_stateOf) := goodIn_app (goodIn_of _ (by decide +kernel)) ggL_isMinute_X3_stateOf
set_option maxRecDepth 20000 in
theorem ggL_isMinute_X3_fromMains : GoodIn wsL_isMinute wsX3_fromMains := goodIn_r _ [18, 19, 205, 206, 207, 208, 209, 210, 211, 212, 213, 214, 215, 216, 217, 218, 219, 220] (by decide +kernel) (by decide +kernel)
set_option maxRecDepth 20000 in
theorem gL_isMinute_X3_fromMains : GoodIn wsL_isMinute (wsV RL 27 RX3 yX3_fromMains wsX3_fromMains) := goodIn_app (goodIn_of _ (by decide +kernel)) ggL_isMinute_X3_fromMains
set_option maxRecDepth 20000 in
theorem ggL_isMinute_X3_fromGenerators : GoodIn wsL_isMinute wsX3_fromGenerators := goodIn_r _ [23, 24, 205, 206, 207, 208, 209, 210, 211, 212, 213, 214, 215, 216, 217, 218, 219, 220] (by decide +kernel) (by decide +kernel)
set_option maxRecDepth 20000 in
theorem gL_isMinute_X3_fromGenerators : GoodIn wsL_isMinute (wsV RL 30 RX3 yX3_fromGenerators wsX3_fromGenerators) := goodIn_app (goodIn_of _ (by decide +kernel)) ggL_isMinute_X3_fromGenerators
set_option maxRecDepth 20000 in
theorem ggL_isMinute_X3_fromBatteries : GoodIn wsL_isMinute wsX3_fromBatteries := goodIn_r _ [28, 29, 205, 206, 207, 208, 209, 210, 211, 212, 213, 214, 215, 216, 217, 218, 219, 220] (by decide +kernel) (by decide +kernel)
set_option maxRecDepth 20000 in
theorem gL_isMinute_X3_fromBatteries : GoodIn wsL_isMinute (wsV RL 33 RX3 yX3_fromBatteries wsX3_fromBatteries) := goodIn_app (goodIn_of _ (by decide +kernel)) ggL_isMinute_X3_fromBatteries
set_option maxRecDepth 20000 in
theorem ggL_isMinute_X3_outage : GoodIn wsL_isMinute wsX3_outage := goodIn_r _ [33, 34, 205, 206, 207, 208, 209, 210, 211, 212, 213, 214, 215, 216, 217, 218, 219, 220] (by decide +kernel) (by decide +kernel)
set_option maxRecDepth 20000 in
theorem gL_isMinute_X3_outage : GoodIn wsL_isMinute (wsV RL 48 RX3 yX3_outage wsX3_outage) := goodIn_app (goodIn_of _ (by decide +kernel)) ggL_isMinute_X3_outage
set_option maxRecDepth 20000 in
theorem ggL_isMinute_X3_pass : GoodIn wsL_isMinute wsX3_pass := goodIn_ca (goodIn_r _ [38, 39, 40, 41, 42, 4, 43, 44, 45, 46, 47, 48, 49, 50, 51, 52, 34, 53, 54, 55, 56, 57, 58, 59, 60, 61, 62, 63, 64, 65, 66, 67, 68, 69, 70, 71, 72, 73, 74, 75, 76, 77, 78, 79, 80, 81, 82, 83, 84, 85, 86, 87, 88, 89, 90, 91, 92, 93, 94, 95, 6, 96, 97, 98, 99, 100, 101, 102, 103, 104, 105, 106, 107, 108, 109, 110, 111, 112, 113, 114, 115, 116, 117, 118, 119, 120, 121, 122, 123, 124, 14, 125, 126, 127, 128, 129, 130, 131, 132, 133, 134, 135, 136, 137, 138, 139, 140, 141, 142, 143, 144, 145, 146, 147, 148, 149, 150, 151, 152, 153, 19, 24, 29, 154, 155, 156, 157, 158, 159, 160, 161, 162, 163, 164, 165, 166, 167, 168, 169, 170, 171, 172, 173, 174, 175, 176, 177, 178, 179, 180, 181, 182, 183, 184, 185, 186, 187, 188, 189, 190, 191, 192, 193, 194, 195, 196, 197, 205, 206, 207, 208, 209, 210, 211, 212, 213, 214, 215, 216, 217, 218, 219, 220, 221, 222, 223, 224, 225, 226, 227, 228, 229, 230, 231, 232, 233, 234, 235, 236, 237, 238, 239, 240, 241, 199, 200, 201, 202, 203, 204] (by decide +kernel) (by decide +kernel)) (goodIn_sub (fun _ h => List.mem_cons_of_mem _ (List.mem_append_right _ h)) (by decide +kernel))
set_option maxRecDepth 20000 in
theorem gL_isMinute_X3_pass : GoodIn wsL_isMinute (wsV RL 51 RX3 yX3_pass wsX3_pass) := goodIn_app (goodIn_of _ (by decide +kernel)) ggL_isMinute_X3_pass
set_option maxRecDepth 20000 in
theorem ggL_isMinute_X3_demand : GoodIn wsL_isMinute wsX3_demand := goodIn_r _ [124, 14, 6, 96, 205, 206, 207, 208, 209, 210, 211, 212, 213, 214, 215, 216, 217, 218, 219, 220, 199, 200, 201, 202, 203, 204] (by decide +kernel) (by decide +kernel)
set_option maxRecDepth 20000 in
theorem gL_isMinute_X3_demand : GoodIn wsL_isMinute (wsV RL 54 RX3 yX3_demand wsX3_demand) := goodIn_app (goodIn_of _ (by decide +kernel)) ggL_isMinute_X3_demand
theorem dL_isMinute_0 : decode cL_isMinute 0 = .ok (.iconst 0, 1) := by decide +kernel
theorem dL_isMinute_1 : decode cL_isMinute 1 = .ok (.istore 6, 2) := by decide +kernel
theorem dL_isMinute_3 : decode cL_isMinute 3 = .ok (.iconst 0, 1) := by decide +kernel
theorem dL_isMinute_4 : decode cL_isMinute 4 = .ok (.istore 7, 2) := by decide +kernel
theorem dL_isMinute_6 : decode cL_isMinute 6 = .ok (.iload 7, 2) := by decide +kernel
theorem dL_isMinute_8 : decode cL_isMinute 8 = .ok (.iload_n 2, 1) := by decide +kernel
theorem dL_isMinute_9 : decode cL_isMinute 9 = .ok (.if_icmp .ge 19, 3) := by decide +kernel
theorem dL_isMinute_12 : decode cL_isMinute 12 = .ok (.aload_n 1, 1) := by decide +kernel
theorem dL_isMinute_13 : decode cL_isMinute 13 = .ok (.iload 7, 2) := by decide +kernel
theorem dL_isMinute_15 : decode cL_isMinute 15 = .ok (.aload_n 0, 1) := by decide +kernel
theorem dL_isMinute_16 : decode cL_isMinute 16 = .ok (.iload 7, 2) := by decide +kernel
theorem dL_isMinute_18 : decode cL_isMinute 18 = .ok (.invokevirtual 45, 3) := by decide +kernel
theorem dL_isMinute_21 : decode cL_isMinute 21 = .ok (.iastore, 1) := by decide +kernel
theorem dL_isMinute_22 : decode cL_isMinute 22 = .ok (.iinc 7 1, 3) := by decide +kernel
theorem dL_isMinute_25 : decode cL_isMinute 25 = .ok (.goto (-19), 3) := by decide +kernel
theorem dL_isMinute_28 : decode cL_isMinute 28 = .ok (.aload_n 0, 1) := by decide +kernel
theorem dL_isMinute_29 : decode cL_isMinute 29 = .ok (.invokevirtual 27, 3) := by decide +kernel
theorem dL_isMinute_32 : decode cL_isMinute 32 = .ok (.istore 7, 2) := by decide +kernel
theorem dL_isMinute_34 : decode cL_isMinute 34 = .ok (.aload_n 0, 1) := by decide +kernel
theorem dL_isMinute_35 : decode cL_isMinute 35 = .ok (.invokevirtual 30, 3) := by decide +kernel
theorem dL_isMinute_38 : decode cL_isMinute 38 = .ok (.aload_n 0, 1) := by decide +kernel
theorem dL_isMinute_39 : decode cL_isMinute 39 = .ok (.invokevirtual 33, 3) := by decide +kernel
theorem dL_isMinute_42 : decode cL_isMinute 42 = .ok (.iadd, 1) := by decide +kernel
theorem dL_isMinute_43 : decode cL_isMinute 43 = .ok (.istore 8, 2) := by decide +kernel
theorem dL_isMinute_45 : decode cL_isMinute 45 = .ok (.aload_n 0, 1) := by decide +kernel
theorem dL_isMinute_46 : decode cL_isMinute 46 = .ok (.invokevirtual 48, 3) := by decide +kernel
theorem dL_isMinute_49 : decode cL_isMinute 49 = .ok (.istore 9, 2) := by decide +kernel
theorem dL_isMinute_51 : decode cL_isMinute 51 = .ok (.aload_n 0, 1) := by decide +kernel
theorem dL_isMinute_52 : decode cL_isMinute 52 = .ok (.iconst 1, 1) := by decide +kernel
theorem dL_isMinute_53 : decode cL_isMinute 53 = .ok (.invokevirtual 51, 3) := by decide +kernel
theorem dL_isMinute_56 : decode cL_isMinute 56 = .ok (.istore 10, 2) := by decide +kernel
theorem dL_isMinute_58 : decode cL_isMinute 58 = .ok (.iconst 0, 1) := by decide +kernel
theorem dL_isMinute_59 : decode cL_isMinute 59 = .ok (.istore 11, 2) := by decide +kernel
theorem dL_isMinute_61 : decode cL_isMinute 61 = .ok (.iconst 0, 1) := by decide +kernel
theorem dL_isMinute_62 : decode cL_isMinute 62 = .ok (.istore 12, 2) := by decide +kernel
theorem dL_isMinute_64 : decode cL_isMinute 64 = .ok (.aload_n 0, 1) := by decide +kernel
theorem dL_isMinute_65 : decode cL_isMinute 65 = .ok (.invokevirtual 48, 3) := by decide +kernel
theorem dL_isMinute_68 : decode cL_isMinute 68 = .ok (.iload 5, 2) := by decide +kernel
theorem dL_isMinute_70 : decode cL_isMinute 70 = .ok (.ifCond .eq 7, 3) := by decide +kernel
theorem dL_isMinute_73 : decode cL_isMinute 73 = .ok (.iconst 0, 1) := by decide +kernel
theorem dL_isMinute_74 : decode cL_isMinute 74 = .ok (.goto 7, 3) := by decide +kernel
theorem dL_isMinute_77 : decode cL_isMinute 77 = .ok (.iload 9, 2) := by decide +kernel
theorem dL_isMinute_79 : decode cL_isMinute 79 = .ok (.iconst 1, 1) := by decide +kernel
theorem dL_isMinute_80 : decode cL_isMinute 80 = .ok (.iadd, 1) := by decide +kernel
theorem dL_isMinute_81 : decode cL_isMinute 81 = .ok (.if_icmp .ne 7, 3) := by decide +kernel
theorem dL_isMinute_84 : decode cL_isMinute 84 = .ok (.iconst 1, 1) := by decide +kernel
theorem dL_isMinute_85 : decode cL_isMinute 85 = .ok (.goto 4, 3) := by decide +kernel
theorem dL_isMinute_88 : decode cL_isMinute 88 = .ok (.iconst 0, 1) := by decide +kernel
theorem dL_isMinute_89 : decode cL_isMinute 89 = .ok (.istore 13, 2) := by decide +kernel
theorem dL_isMinute_91 : decode cL_isMinute 91 = .ok (.iconst 0, 1) := by decide +kernel
theorem dL_isMinute_92 : decode cL_isMinute 92 = .ok (.istore 14, 2) := by decide +kernel
theorem dL_isMinute_94 : decode cL_isMinute 94 = .ok (.iload 14, 2) := by decide +kernel
theorem dL_isMinute_96 : decode cL_isMinute 96 = .ok (.iload_n 2, 1) := by decide +kernel
theorem dL_isMinute_97 : decode cL_isMinute 97 = .ok (.if_icmp .ge 102, 3) := by decide +kernel
theorem dL_isMinute_100 : decode cL_isMinute 100 = .ok (.aload_n 0, 1) := by decide +kernel
theorem dL_isMinute_101 : decode cL_isMinute 101 = .ok (.iload 14, 2) := by decide +kernel
theorem dL_isMinute_103 : decode cL_isMinute 103 = .ok (.invokevirtual 45, 3) := by decide +kernel
theorem dL_isMinute_106 : decode cL_isMinute 106 = .ok (.istore 15, 2) := by decide +kernel
theorem dL_isMinute_108 : decode cL_isMinute 108 = .ok (.iload 11, 2) := by decide +kernel
theorem dL_isMinute_110 : decode cL_isMinute 110 = .ok (.aload_n 1, 1) := by decide +kernel
theorem dL_isMinute_111 : decode cL_isMinute 111 = .ok (.iload 14, 2) := by decide +kernel
theorem dL_isMinute_113 : decode cL_isMinute 113 = .ok (.iaload, 1) := by decide +kernel
theorem dL_isMinute_114 : decode cL_isMinute 114 = .ok (.iconst 2, 1) := by decide +kernel
theorem dL_isMinute_115 : decode cL_isMinute 115 = .ok (.if_icmp .ne 13, 3) := by decide +kernel
theorem dL_isMinute_118 : decode cL_isMinute 118 = .ok (.iload 15, 2) := by decide +kernel
theorem dL_isMinute_120 : decode cL_isMinute 120 = .ok (.iconst 1, 1) := by decide +kernel
theorem dL_isMinute_121 : decode cL_isMinute 121 = .ok (.if_icmp .ne 7, 3) := by decide +kernel
theorem dL_isMinute_124 : decode cL_isMinute 124 = .ok (.iconst 1, 1) := by decide +kernel
theorem dL_isMinute_125 : decode cL_isMinute 125 = .ok (.goto 4, 3) := by decide +kernel
theorem dL_isMinute_128 : decode cL_isMinute 128 = .ok (.iconst 0, 1) := by decide +kernel
theorem dL_isMinute_129 : decode cL_isMinute 129 = .ok (.iadd, 1) := by decide +kernel
theorem dL_isMinute_130 : decode cL_isMinute 130 = .ok (.istore 11, 2) := by decide +kernel
theorem dL_isMinute_132 : decode cL_isMinute 132 = .ok (.iload 12, 2) := by decide +kernel
theorem dL_isMinute_134 : decode cL_isMinute 134 = .ok (.aload_n 1, 1) := by decide +kernel
theorem dL_isMinute_135 : decode cL_isMinute 135 = .ok (.iload 14, 2) := by decide +kernel
theorem dL_isMinute_137 : decode cL_isMinute 137 = .ok (.iaload, 1) := by decide +kernel
theorem dL_isMinute_138 : decode cL_isMinute 138 = .ok (.iconst 1, 1) := by decide +kernel
theorem dL_isMinute_139 : decode cL_isMinute 139 = .ok (.if_icmp .ne 13, 3) := by decide +kernel
theorem dL_isMinute_142 : decode cL_isMinute 142 = .ok (.iload 15, 2) := by decide +kernel
theorem dL_isMinute_144 : decode cL_isMinute 144 = .ok (.iconst 2, 1) := by decide +kernel
theorem dL_isMinute_145 : decode cL_isMinute 145 = .ok (.if_icmp .ne 7, 3) := by decide +kernel
theorem dL_isMinute_148 : decode cL_isMinute 148 = .ok (.iconst 1, 1) := by decide +kernel
theorem dL_isMinute_149 : decode cL_isMinute 149 = .ok (.goto 4, 3) := by decide +kernel
theorem dL_isMinute_152 : decode cL_isMinute 152 = .ok (.iconst 0, 1) := by decide +kernel
theorem dL_isMinute_153 : decode cL_isMinute 153 = .ok (.iadd, 1) := by decide +kernel
theorem dL_isMinute_154 : decode cL_isMinute 154 = .ok (.istore 12, 2) := by decide +kernel
theorem dL_isMinute_156 : decode cL_isMinute 156 = .ok (.iload 13, 2) := by decide +kernel
theorem dL_isMinute_158 : decode cL_isMinute 158 = .ok (.ifCond .eq 32, 3) := by decide +kernel
theorem dL_isMinute_161 : decode cL_isMinute 161 = .ok (.aload_n 1, 1) := by decide +kernel
theorem dL_isMinute_162 : decode cL_isMinute 162 = .ok (.iload 14, 2) := by decide +kernel
theorem dL_isMinute_164 : decode cL_isMinute 164 = .ok (.iaload, 1) := by decide +kernel
theorem dL_isMinute_165 : decode cL_isMinute 165 = .ok (.ifCond .ne 7, 3) := by decide +kernel
theorem dL_isMinute_168 : decode cL_isMinute 168 = .ok (.iconst 1, 1) := by decide +kernel
theorem dL_isMinute_169 : decode cL_isMinute 169 = .ok (.goto 4, 3) := by decide +kernel
theorem dL_isMinute_172 : decode cL_isMinute 172 = .ok (.iconst 0, 1) := by decide +kernel
theorem dL_isMinute_173 : decode cL_isMinute 173 = .ok (.iload 15, 2) := by decide +kernel
theorem dL_isMinute_175 : decode cL_isMinute 175 = .ok (.ifCond .ne 7, 3) := by decide +kernel
theorem dL_isMinute_178 : decode cL_isMinute 178 = .ok (.iconst 1, 1) := by decide +kernel
theorem dL_isMinute_179 : decode cL_isMinute 179 = .ok (.goto 4, 3) := by decide +kernel
theorem dL_isMinute_182 : decode cL_isMinute 182 = .ok (.iconst 0, 1) := by decide +kernel
theorem dL_isMinute_183 : decode cL_isMinute 183 = .ok (.if_icmp .ne 7, 3) := by decide +kernel
theorem dL_isMinute_186 : decode cL_isMinute 186 = .ok (.iconst 1, 1) := by decide +kernel
theorem dL_isMinute_187 : decode cL_isMinute 187 = .ok (.goto 4, 3) := by decide +kernel
theorem dL_isMinute_190 : decode cL_isMinute 190 = .ok (.iconst 0, 1) := by decide +kernel
theorem dL_isMinute_191 : decode cL_isMinute 191 = .ok (.istore 13, 2) := by decide +kernel
theorem dL_isMinute_193 : decode cL_isMinute 193 = .ok (.iinc 14 1, 3) := by decide +kernel
theorem dL_isMinute_196 : decode cL_isMinute 196 = .ok (.goto (-102), 3) := by decide +kernel
theorem dL_isMinute_199 : decode cL_isMinute 199 = .ok (.aload_n 0, 1) := by decide +kernel
theorem dL_isMinute_200 : decode cL_isMinute 200 = .ok (.invokevirtual 54, 3) := by decide +kernel
theorem dL_isMinute_203 : decode cL_isMinute 203 = .ok (.istore 6, 2) := by decide +kernel
theorem dL_isMinute_205 : decode cL_isMinute 205 = .ok (.iload 13, 2) := by decide +kernel
theorem dL_isMinute_207 : decode cL_isMinute 207 = .ok (.ifCond .eq 40, 3) := by decide +kernel
theorem dL_isMinute_210 : decode cL_isMinute 210 = .ok (.iload 12, 2) := by decide +kernel
theorem dL_isMinute_212 : decode cL_isMinute 212 = .ok (.iload 10, 2) := by decide +kernel
theorem dL_isMinute_214 : decode cL_isMinute 214 = .ok (.if_icmp .ne 33, 3) := by decide +kernel
theorem dL_isMinute_217 : decode cL_isMinute 217 = .ok (.iload 11, 2) := by decide +kernel
theorem dL_isMinute_219 : decode cL_isMinute 219 = .ok (.iconst 1, 1) := by decide +kernel
theorem dL_isMinute_220 : decode cL_isMinute 220 = .ok (.if_icmp .gt 27, 3) := by decide +kernel
theorem dL_isMinute_223 : decode cL_isMinute 223 = .ok (.iload 11, 2) := by decide +kernel
theorem dL_isMinute_225 : decode cL_isMinute 225 = .ok (.ifCond .eq 8, 3) := by decide +kernel
theorem dL_isMinute_228 : decode cL_isMinute 228 = .ok (.iload 10, 2) := by decide +kernel
theorem dL_isMinute_230 : decode cL_isMinute 230 = .ok (.ifCond .ne 17, 3) := by decide +kernel
theorem dL_isMinute_233 : decode cL_isMinute 233 = .ok (.iload 5, 2) := by decide +kernel
theorem dL_isMinute_235 : decode cL_isMinute 235 = .ok (.ifCond .eq 8, 3) := by decide +kernel
theorem dL_isMinute_238 : decode cL_isMinute 238 = .ok (.iload 10, 2) := by decide +kernel
theorem dL_isMinute_240 : decode cL_isMinute 240 = .ok (.ifCond .ne 7, 3) := by decide +kernel
theorem dL_isMinute_243 : decode cL_isMinute 243 = .ok (.iconst 1, 1) := by decide +kernel
theorem dL_isMinute_244 : decode cL_isMinute 244 = .ok (.goto 4, 3) := by decide +kernel
theorem dL_isMinute_247 : decode cL_isMinute 247 = .ok (.iconst 0, 1) := by decide +kernel
theorem dL_isMinute_248 : decode cL_isMinute 248 = .ok (.istore 13, 2) := by decide +kernel
theorem dL_isMinute_250 : decode cL_isMinute 250 = .ok (.iload 13, 2) := by decide +kernel
theorem dL_isMinute_252 : decode cL_isMinute 252 = .ok (.ifCond .eq 68, 3) := by decide +kernel
theorem dL_isMinute_255 : decode cL_isMinute 255 = .ok (.iload 5, 2) := by decide +kernel
theorem dL_isMinute_257 : decode cL_isMinute 257 = .ok (.ifCond .eq 18, 3) := by decide +kernel
theorem dL_isMinute_260 : decode cL_isMinute 260 = .ok (.aload_n 0, 1) := by decide +kernel
theorem dL_isMinute_261 : decode cL_isMinute 261 = .ok (.invokevirtual 27, 3) := by decide +kernel
theorem dL_isMinute_264 : decode cL_isMinute 264 = .ok (.iload 7, 2) := by decide +kernel
theorem dL_isMinute_266 : decode cL_isMinute 266 = .ok (.iload 6, 2) := by decide +kernel
theorem dL_isMinute_268 : decode cL_isMinute 268 = .ok (.iadd, 1) := by decide +kernel
theorem dL_isMinute_269 : decode cL_isMinute 269 = .ok (.if_icmp .ne 51, 3) := by decide +kernel
theorem dL_isMinute_272 : decode cL_isMinute 272 = .ok (.goto 29, 3) := by decide +kernel
theorem dL_isMinute_275 : decode cL_isMinute 275 = .ok (.aload_n 0, 1) := by decide +kernel
theorem dL_isMinute_276 : decode cL_isMinute 276 = .ok (.invokevirtual 30, 3) := by decide +kernel
theorem dL_isMinute_279 : decode cL_isMinute 279 = .ok (.aload_n 0, 1) := by decide +kernel
theorem dL_isMinute_280 : decode cL_isMinute 280 = .ok (.invokevirtual 33, 3) := by decide +kernel
theorem dL_isMinute_283 : decode cL_isMinute 283 = .ok (.iadd, 1) := by decide +kernel
theorem dL_isMinute_284 : decode cL_isMinute 284 = .ok (.iload 8, 2) := by decide +kernel
theorem dL_isMinute_286 : decode cL_isMinute 286 = .ok (.iload 6, 2) := by decide +kernel
theorem dL_isMinute_288 : decode cL_isMinute 288 = .ok (.iadd, 1) := by decide +kernel
theorem dL_isMinute_289 : decode cL_isMinute 289 = .ok (.if_icmp .ne 31, 3) := by decide +kernel
theorem dL_isMinute_292 : decode cL_isMinute 292 = .ok (.aload_n 0, 1) := by decide +kernel
theorem dL_isMinute_293 : decode cL_isMinute 293 = .ok (.invokevirtual 27, 3) := by decide +kernel
theorem dL_isMinute_296 : decode cL_isMinute 296 = .ok (.iload 7, 2) := by decide +kernel
theorem dL_isMinute_298 : decode cL_isMinute 298 = .ok (.if_icmp .ne 22, 3) := by decide +kernel
theorem dL_isMinute_301 : decode cL_isMinute 301 = .ok (.iload 4, 2) := by decide +kernel
theorem dL_isMinute_303 : decode cL_isMinute 303 = .ok (.ifCond .gt 13, 3) := by decide +kernel
theorem dL_isMinute_306 : decode cL_isMinute 306 = .ok (.iload 5, 2) := by decide +kernel
theorem dL_isMinute_308 : decode cL_isMinute 308 = .ok (.ifCond .ne 8, 3) := by decide +kernel
theorem dL_isMinute_311 : decode cL_isMinute 311 = .ok (.iload 11, 2) := by decide +kernel
theorem dL_isMinute_313 : decode cL_isMinute 313 = .ok (.ifCond .ne 7, 3) := by decide +kernel
theorem dL_isMinute_316 : decode cL_isMinute 316 = .ok (.iconst 1, 1) := by decide +kernel
theorem dL_isMinute_317 : decode cL_isMinute 317 = .ok (.goto 4, 3) := by decide +kernel
theorem dL_isMinute_320 : decode cL_isMinute 320 = .ok (.iconst 0, 1) := by decide +kernel
theorem dL_isMinute_321 : decode cL_isMinute 321 = .ok (.ireturn, 1) := by decide +kernel
set_option maxRecDepth 20000 in
theorem ggL_law_X3_init : GoodIn wsL_law wsX3_init := goodIn_r _ [6, 7, 8, 9, 10, 11, 12, 13, 14, 15, 16, 17, 18, 19, 20, 21, 22, 23, 24, 25, 26, 27, 28, 29, 30, 31, 32, 33, 34, 35, 36, 37, 38, 334, 335, 336, 337, 338, 339, 340, 341, 342, 343, 344, 345, 346, 347, 348, 349, 350, 351, 352, 353, 354, 355, 356, 357, 358, 359, 360, 361, 362, 363, 364, 365, 366, 367, 368, 369, 370, 371, 372, 373, 374, 375, 376] (by decide +kernel) (by decide +kernel)
set_option maxRecDepth 20000 in
theorem gL_law_X3_init : GoodIn wsL_law (wsX3_init) := ggL_law_X3_init
set_option maxRecDepth 20000 in
theorem ggL_law_L_cell : GoodIn wsL_law wsL_cell := goodIn_r _ [42] (by decide +kernel) (by decide +kernel)
set_option maxRecDepth 20000 in
theorem gL_law_L_cell : GoodIn wsL_law (va_wsS RL 58 yL_cell wsL_cell) := goodIn_app (goodIn_of _ (by decide +kernel)) ggL_law_L_cell
set_option maxRecDepth 20000 in
theorem ggL_law_L_low : GoodIn wsL_law wsL_low := goodIn_r _ [45, 46] (by decide +kernel) (by decide +kernel)
set_option maxRecDepth 20000 in
theorem gL_law_L_low : GoodIn wsL_law (va_wsS RL 62 yL_low wsL_low) := goodIn_app (goodIn_of _ (by decide +kernel)) ggL_law_L_low
set_option maxRecDepth 20000 in
theorem ggL_law_X3_addLoad : GoodIn wsL_law wsX3_addLoad := goodIn_ca (goodIn_ca (goodIn_r _ [50, 51, 52, 53, 54, 55, 11, 16, 56, 57, 2, 58, 59, 60, 61, 21, 62, 63, 64, 30, 334, 335, 336, 337, 338, 339, 340, 341, 342, 343, 344, 345, 346, 347, 348, 349, 350, 351, 352, 353, 354, 355] (by decide +kernel) (by decide +kernel)) (goodIn_sub (fun _ h => List.mem_append_left _ (List.mem_append_left _ (List.mem_append_right _ h))) (by decide +kernel))) (goodIn_sub (fun _ h => List.mem_append_left _ (List.mem_append_right _ h)) (by decide +kernel))
set_option maxRecDepth 20000 in
theorem gL_law_X3_addLoad : GoodIn wsL_law (wsV RL 66 RX3 yX3_addLoad wsX3_addLoad) := goodIn_app (goodIn_of _ (by decide +kernel)) ggL_law_X3_addLoad
set_option maxRecDepth 20000 in
theorem ggL_law_X3_addBattery : GoodIn wsL_law wsX3_addBattery := goodIn_ca (goodIn_ca (goodIn_r _ [68, 51, 52, 53, 54, 69, 13, 56, 57, 2, 58, 70, 71, 72, 23, 73, 74, 75, 76, 77, 334, 335, 336, 337, 338, 339, 340, 341, 342, 343, 344, 345, 346, 347, 348, 349, 356, 357, 358, 359, 360, 361] (by decide +kernel) (by decide +kernel)) (goodIn_sub (fun _ h => List.mem_append_left _ (List.mem_append_left _ (List.mem_append_right _ h))) (by decide +kernel))) (goodIn_sub (fun _ h => List.mem_append_left _ (List.mem_append_right _ h)) (by decide +kernel))
set_option maxRecDepth 20000 in
theorem gL_law_X3_addBattery : GoodIn wsL_law (wsV RL 69 RX3 yX3_addBattery wsX3_addBattery) := goodIn_app (goodIn_of _ (by decide +kernel)) ggL_law_X3_addBattery
set_option maxRecDepth 20000 in
theorem ggL_law_X3_addGenerator : GoodIn wsL_law wsX3_addGenerator := goodIn_ca (goodIn_ca (goodIn_r _ [81, 51, 52, 53, 54, 82, 15, 56, 57, 2, 58, 83, 84, 85, 25, 86, 87, 88, 89, 90, 334, 335, 336, 337, 338, 339, 340, 341, 342, 343, 344, 345, 346, 347, 348, 349, 362, 363, 364, 365, 366, 367, 368, 369, 370, 371, 372, 373, 374, 375, 376] (by decide +kernel) (by decide +kernel)) (goodIn_sub (fun _ h => List.mem_append_left _ (List.mem_append_left _ (List.mem_append_right _ h))) (by decide +kernel))) (goodIn_sub (fun _ h => List.mem_append_left _ (List.mem_append_right _ h)) (by decide +kernel))
set_option maxRecDepth 20000 in
theorem gL_law_X3_addGenerator : GoodIn wsL_law (wsV RL 73 RX3 yX3_addGenerator wsX3_addGenerator) := goodIn_app (goodIn_of _ (by decide +kernel)) ggL_law_X3_addGenerator
set_option maxRecDepth 20000 in
theorem ggL_law_X3_setMains : GoodIn wsL_law wsX3_setMains := goodIn_r _ [94, 16, 334, 335, 336, 337, 338, 339, 340, 341, 342, 343, 344, 345, 346, 347, 348, 349] (by decide +kernel) (by decide +kernel)
set_option maxRecDepth 20000 in
theorem gL_law_X3_setMains : GoodIn wsL_law (wsV RL 76 RX3 yX3_setMains wsX3_setMains) := goodIn_app (goodIn_of _ (by decide +kernel)) ggL_law_X3_setMains
set_option maxRecDepth 20000 in
theorem ggL_law_X3_stateOf : GoodIn wsL_law wsX3_stateOf := goodIn_ca (goodIn_r _ [98, 99, 100, 101, 102, 2, 103, 104, 105, 55, 11, 350, 351, 352, 353, 354, 355, 334, 335, 336, 337, 338, 339, 340, 341, 342, 343, 344, 345, 346, 347, 348, 349] (by decide +kernel) (by decide +kernel)) (goodIn_sub (fun _ h => List.mem_append_right _ h) (by decide +kernel))
set_option maxRecDepth 20000 in
theorem gL_law_X3_stateOf : GoodIn wsL_law (wsV RL 45 RX3 yX3_stateOf wsX3_stateOf) := goodIn_app (goodIn_of _ (by decide +kernel)) ggL_law_X3_stateOf
set_option maxRecDepth 20000 in
theorem ggL_law_X3_switchLoad : GoodIn wsL_law wsX3_switchLoad := goodIn_ca (goodIn_r _ [109, 99, 100, 101, 102, 2, 103, 104, 105, 55, 11, 350, 351, 352, 353, 354, 355, 334, 335, 336, 337, 338, 339, 340, 341, 342, 343, 344, 345, 346, 347, 348, 349] (by decide +kernel) (by decide +kernel)) (goodIn_sub (fun _ h => List.mem_append_right _ h) (by decide +kernel))
set_option maxRecDepth 20000 in
theorem gL_law_X3_switchLoad : GoodIn wsL_law (wsV RL 80 RX3 yX3_switchLoad wsX3_switchLoad) := goodIn_app (goodIn_of _ (by decide +kernel)) ggL_law_X3_switchLoad
set_option maxRecDepth 20000 in
theorem ggL_law_X3_setPower : GoodIn wsL_law wsX3_setPower := goodIn_ca (goodIn_ca (goodIn_r _ [113, 51, 52, 114, 100, 101, 102, 2, 103, 104, 105, 55, 11, 56, 57, 58, 350, 351, 352, 353, 354, 355, 334, 335, 336, 337, 338, 339, 340, 341, 342, 343, 344, 345, 346, 347, 348, 349] (by decide +kernel) (by decide +kernel)) (goodIn_sub (fun _ h => List.mem_append_left _ (List.mem_append_left _ (List.mem_append_right _ h))) (by decide +kernel))) (goodIn_sub (fun _ h => List.mem_append_right _ h) (by decide +kernel))
set_option maxRecDepth 20000 in
theorem gL_law_X3_setPower : GoodIn wsL_law (wsV RL 84 RX3 yX3_setPower wsX3_setPower) := goodIn_app (goodIn_of _ (by decide +kernel)) ggL_law_X3_setPower
set_option maxRecDepth 20000 in
theorem ggL_law_X3_refuel : GoodIn wsL_law wsX3_refuel := goodIn_ca (goodIn_ca (goodIn_r _ [118, 51, 52, 119, 120, 121, 122, 123, 124, 125, 126, 127, 2, 128, 104, 105, 82, 15, 56, 57, 58, 362, 363, 364, 365, 366, 367, 368, 369, 370, 371, 372, 373, 374, 375, 376, 334, 335, 336, 337, 338, 339, 340, 341, 342, 343, 344, 345, 346, 347, 348, 349] (by decide +kernel) (by decide +kernel)) (goodIn_sub (fun _ h => List.mem_append_left _ (List.mem_append_left _ (List.mem_append_right _ h))) (by decide +kernel))) (goodIn_sub (fun _ h => List.mem_append_right _ h) (by decide +kernel))
set_option maxRecDepth 20000 in
theorem gL_law_X3_refuel : GoodIn wsL_law (wsV RL 87 RX3 yX3_refuel wsX3_refuel) := goodIn_app (goodIn_of _ (by decide +kernel)) ggL_law_X3_refuel
set_option maxRecDepth 20000 in
theorem ggL_law_X3_setFailures : GoodIn wsL_law wsX3_setFailures := goodIn_ca (goodIn_ca (goodIn_r _ [132, 51, 52, 133, 125, 126, 127, 2, 128, 104, 105, 82, 15, 56, 57, 58, 362, 363, 364, 365, 366, 367, 368, 369, 370, 371, 372, 373, 374, 375, 376, 334, 335, 336, 337, 338, 339, 340, 341, 342, 343, 344, 345, 346, 347, 348, 349] (by decide +kernel) (by decide +kernel)) (goodIn_sub (fun _ h => List.mem_append_left _ (List.mem_append_left _ (List.mem_append_right _ h))) (by decide +kernel))) (goodIn_sub (fun _ h => List.mem_append_right _ h) (by decide +kernel))
set_option maxRecDepth 20000 in
theorem gL_law_X3_setFailures : GoodIn wsL_law (wsV RL 90 RX3 yX3_setFailures wsX3_setFailures) := goodIn_app (goodIn_of _ (by decide +kernel)) ggL_law_X3_setFailures
set_option maxRecDepth 20000 in
theorem ggL_law_X3_setTests : GoodIn wsL_law wsX3_setTests := goodIn_ca (goodIn_ca (goodIn_r _ [137, 51, 52, 138, 139, 125, 126, 127, 2, 128, 104, 105, 82, 15, 56, 57, 58, 362, 363, 364, 365, 366, 367, 368, 369, 370, 371, 372, 373, 374, 375, 376, 334, 335, 336, 337, 338, 339, 340, 341, 342, 343, 344, 345, 346, 347, 348, 349] (by decide +kernel) (by decide +kernel)) (goodIn_sub (fun _ h => List.mem_append_left _ (List.mem_append_left _ (List.mem_append_right _ h))) (by decide +kernel))) (goodIn_sub (fun _ h => List.mem_append_right _ h) (by decide +kernel))
set_option maxRecDepth 20000 in
theorem gL_law_X3_setTests : GoodIn wsL_law (wsV RL 93 RX3 yX3_setTests wsX3_setTests) := goodIn_app (goodIn_of _ (by decide +kernel)) ggL_law_X3_setTests
set_option maxRecDepth 20000 in
theorem ggL_law_X3_setTimes : GoodIn wsL_law wsX3_setTimes := goodIn_ca (goodIn_r _ [143, 51, 52, 17, 18, 56, 57, 2, 58, 334, 335, 336, 337, 338, 339, 340, 341, 342, 343, 344, 345, 346, 347, 348, 349] (by decide +kernel) (by decide +kernel)) (goodIn_sub (fun _ h => List.mem_append_left _ (List.mem_append_left _ (List.mem_append_right _ h))) (by decide +kernel))
set_option maxRecDepth 20000 in
theorem gL_law_X3_setTimes : GoodIn wsL_law (wsV RL 96 RX3 yX3_setTimes wsX3_setTimes) := goodIn_app (goodIn_of _ (by decide +kernel)) ggL_law_X3_setTimes
set_option maxRecDepth 20000 in
theorem ggL_law_X3_pass : GoodIn wsL_law wsX3_pass := goodIn_ca (goodIn_r _ [147, 51, 52, 56, 57, 2, 58, 148, 149, 150, 151, 13, 152, 153, 154, 16, 155, 15, 156, 157, 158, 159, 160, 161, 162, 163, 164, 165, 120, 17, 138, 166, 167, 168, 169, 170, 171, 25, 172, 173, 174, 175, 38, 176, 177, 178, 179, 180, 181, 182, 183, 184, 185, 186, 187, 188, 189, 190, 191, 192, 99, 114, 193, 194, 195, 196, 197, 198, 199, 200, 201, 202, 203, 204, 205, 206, 207, 208, 23, 209, 76, 75, 210, 122, 123, 124, 211, 212, 213, 214, 11, 215, 216, 217, 218, 219, 220, 221, 21, 222, 30, 223, 224, 225, 226, 63, 64, 31, 227, 228, 229, 230, 19, 18, 231, 232, 233, 234, 235, 236, 237, 238, 239, 240, 241, 242, 243, 121, 244, 245, 246, 247, 87, 248, 249, 250, 251, 252, 253, 254, 255, 256, 257, 258, 259, 260, 261, 262, 263, 264, 265, 266, 77, 74, 267, 268, 269, 270, 271, 272, 273, 90, 274, 275, 276, 277, 278, 334, 335, 336, 337, 338, 339, 340, 341, 342, 343, 344, 345, 346, 347, 348, 349, 356, 357, 358, 359, 360, 361, 362, 363, 364, 365, 366, 367, 368, 369, 370, 371, 372, 373, 374, 375, 376, 350, 351, 352, 353, 354, 355] (by decide +kernel) (by decide +kernel)) (goodIn_sub (fun _ h => List.mem_append_left _ (List.mem_append_left _ (List.mem_append_right _ h))) (by decide +kernel))
set_option maxRecDepth 20000 in
theorem gL_law_X3_pass : GoodIn wsL_law (wsV RL 51 RX3 yX3_pass wsX3_pass) := goodIn_app (goodIn_of _ (by decide +kernel)) ggL_law_X3_pass
set_option maxRecDepth 20000 in
theorem ggL_law_L_isMinute : GoodIn wsL_law wsL_isMinute := goodIn_ca (goodIn_ca (goodIn_r _ [281, 95, 96, 97, 2, 98, 99, 100, 101, 102, 103, 104, 105, 55, 11, 282, 283, 284, 285, 237, 286, 287, 288, 289, 238, 290, 291, 292, 293, 239, 294, 295, 296, 297, 155, 144, 145, 146, 147, 51, 52, 56, 57, 58, 148, 149, 150, 151, 13, 152, 153, 154, 16, 15, 156, 157, 158, 159, 160, 161, 162, 163, 164, 165, 120, 17, 138, 166, 167, 168, 169, 170, 171, 25, 172, 173, 174, 175, 38, 176, 177, 178, 179, 180, 181, 182, 183, 184, 185, 186, 187, 188, 189, 190, 191, 192, 114, 193, 194, 195, 196, 197, 198, 199, 200, 201, 202, 203, 204, 205, 206, 207, 208, 23, 209, 76, 75, 210, 122, 123, 124, 211, 212, 213, 214, 215, 216, 217, 218, 219, 220, 221, 21, 222, 30, 223, 224, 225, 226, 63, 64, 31, 227, 228, 229, 230, 19, 18, 231, 232, 233, 234, 235, 236, 240, 241, 242, 243, 121, 244, 245, 246, 247, 87, 248, 249, 250, 251, 252, 253, 254, 255, 256, 257, 258, 259, 260, 261, 262, 263, 264, 265, 266, 77, 74, 267, 268, 269, 270, 271, 272, 273, 90, 274, 275, 276, 277, 278, 298, 350, 351, 352, 353, 354, 355, 334, 335, 336, 337, 338, 339, 340, 341, 342, 343, 344, 345, 346, 347, 348, 349, 356, 357, 358, 359, 360, 361, 362, 363, 364, 365, 366, 367, 368, 369, 370, 371, 372, 373, 374, 375, 376] (by decide +kernel) (by decide +kernel)) (goodIn_sub (fun _ h => List.mem_append_right _ h) (by decide +kernel))) (goodIn_sub (fun _ h => List.mem_append_left _ (List.mem_append_left _ (List.mem_append_right _ h))) (by decide +kernel))
set_option maxRecDepth 20000 in
theorem gL_law_L_isMinute : GoodIn wsL_law (va_wsS RL 99 yL_isMinute wsL_isMinute) := goodIn_app (goodIn_of _ (by decide +kernel)) ggL_law_L_isMinute
set_option maxRecDepth 20000 in
theorem ggL_law_L_areSums : GoodIn wsL_law wsL_areSums := goodIn_ca (goodIn_r _ [301, 302, 303, 304, 2, 305, 235, 100, 101, 102, 103, 104, 105, 55, 11, 306, 307, 308, 309, 236, 310, 311, 312, 313, 154, 314, 315, 316, 317, 152, 318, 319, 320, 321, 69, 13, 322, 323, 324, 325, 326, 282, 283, 284, 285, 237, 286, 287, 288, 289, 238, 290, 291, 292, 293, 239, 327, 328, 41, 329, 330, 331, 332, 333, 258, 350, 351, 352, 353, 354, 355, 334, 335, 336, 337, 338, 339, 340, 341, 342, 343, 344, 345, 346, 347, 348, 349, 356, 357, 358, 359, 360, 361] (by decide +kernel) (by decide +kernel)) (goodIn_sub (fun _ h => List.mem_append_right _ h) (by decide +kernel))
set_option maxRecDepth 20000 in
theorem gL_law_L_areSums : GoodIn wsL_law (va_wsS RL 103 yL_areSums wsL_areSums) := goodIn_app (goodIn_of _ (by decide +kernel)) ggL_law_L_areSums
theorem dL_law_0 : decode cL_law 0 = .ok (.new 9, 3) := by decide +kernel
theorem dL_law_3 : decode cL_law 3 = .ok (.dup, 1) := by decide +kernel
theorem dL_law_4 : decode cL_law 4 = .ok (.invokespecial 57, 3) := by decide +kernel
theorem dL_law_7 : decode cL_law 7 = .ok (.astore_n 1, 1) := by decide +kernel
theorem dL_law_8 : decode cL_law 8 = .ok (.bipush 10, 2) := by decide +kernel
theorem dL_law_10 : decode cL_law 10 = .ok (.newarray .int, 2) := by decide +kernel
theorem dL_law_12 : decode cL_law 12 = .ok (.astore_n 2, 1) := by decide +kernel
theorem dL_law_13 : decode cL_law 13 = .ok (.iconst 0, 1) := by decide +kernel
theorem dL_law_14 : decode cL_law 14 = .ok (.istore_n 3, 1) := by decide +kernel
theorem dL_law_15 : decode cL_law 15 = .ok (.iconst 0, 1) := by decide +kernel
theorem dL_law_16 : decode cL_law 16 = .ok (.istore 4, 2) := by decide +kernel
theorem dL_law_18 : decode cL_law 18 = .ok (.iconst 0, 1) := by decide +kernel
theorem dL_law_19 : decode cL_law 19 = .ok (.istore 5, 2) := by decide +kernel
theorem dL_law_21 : decode cL_law 21 = .ok (.iconst 0, 1) := by decide +kernel
theorem dL_law_22 : decode cL_law 22 = .ok (.istore 6, 2) := by decide +kernel
theorem dL_law_24 : decode cL_law 24 = .ok (.iconst 1, 1) := by decide +kernel
theorem dL_law_25 : decode cL_law 25 = .ok (.istore 7, 2) := by decide +kernel
theorem dL_law_27 : decode cL_law 27 = .ok (.iconst 0, 1) := by decide +kernel
theorem dL_law_28 : decode cL_law 28 = .ok (.istore 8, 2) := by decide +kernel
theorem dL_law_30 : decode cL_law 30 = .ok (.iload 8, 2) := by decide +kernel
theorem dL_law_32 : decode cL_law 32 = .ok (.bipush 90, 2) := by decide +kernel
theorem dL_law_34 : decode cL_law 34 = .ok (.if_icmp .ge 549, 3) := by decide +kernel
theorem dL_law_37 : decode cL_law 37 = .ok (.aload_n 0, 1) := by decide +kernel
theorem dL_law_38 : decode cL_law 38 = .ok (.iconst 2, 1) := by decide +kernel
theorem dL_law_39 : decode cL_law 39 = .ok (.iload 8, 2) := by decide +kernel
theorem dL_law_41 : decode cL_law 41 = .ok (.imul, 1) := by decide +kernel
theorem dL_law_42 : decode cL_law 42 = .ok (.invokestatic 58, 3) := by decide +kernel
theorem dL_law_45 : decode cL_law 45 = .ok (.istore 9, 2) := by decide +kernel
theorem dL_law_47 : decode cL_law 47 = .ok (.aload_n 0, 1) := by decide +kernel
theorem dL_law_48 : decode cL_law 48 = .ok (.iconst 2, 1) := by decide +kernel
theorem dL_law_49 : decode cL_law 49 = .ok (.iload 8, 2) := by decide +kernel
theorem dL_law_51 : decode cL_law 51 = .ok (.imul, 1) := by decide +kernel
theorem dL_law_52 : decode cL_law 52 = .ok (.iconst 1, 1) := by decide +kernel
theorem dL_law_53 : decode cL_law 53 = .ok (.iadd, 1) := by decide +kernel
theorem dL_law_54 : decode cL_law 54 = .ok (.invokestatic 58, 3) := by decide +kernel
theorem dL_law_57 : decode cL_law 57 = .ok (.istore 10, 2) := by decide +kernel
theorem dL_law_59 : decode cL_law 59 = .ok (.iload 9, 2) := by decide +kernel
theorem dL_law_61 : decode cL_law 61 = .ok (.bipush 14, 2) := by decide +kernel
theorem dL_law_63 : decode cL_law 63 = .ok (.invokestatic 62, 3) := by decide +kernel
theorem dL_law_66 : decode cL_law 66 = .ok (.istore 11, 2) := by decide +kernel
theorem dL_law_68 : decode cL_law 68 = .ok (.iload_n 3, 1) := by decide +kernel
theorem dL_law_69 : decode cL_law 69 = .ok (.iconst 2, 1) := by decide +kernel
theorem dL_law_70 : decode cL_law 70 = .ok (.if_icmp .lt 14, 3) := by decide +kernel
theorem dL_law_73 : decode cL_law 73 = .ok (.iload 11, 2) := by decide +kernel
theorem dL_law_75 : decode cL_law 75 = .ok (.ifCond .ne 39, 3) := by decide +kernel
theorem dL_law_78 : decode cL_law 78 = .ok (.iload_n 3, 1) := by decide +kernel
theorem dL_law_79 : decode cL_law 79 = .ok (.bipush 10, 2) := by decide +kernel
theorem dL_law_81 : decode cL_law 81 = .ok (.if_icmp .ge 33, 3) := by decide +kernel
theorem dL_law_84 : decode cL_law 84 = .ok (.aload_n 1, 1) := by decide +kernel
theorem dL_law_85 : decode cL_law 85 = .ok (.iconst 1, 1) := by decide +kernel
theorem dL_law_86 : decode cL_law 86 = .ok (.iload 10, 2) := by decide +kernel
theorem dL_law_88 : decode cL_law 88 = .ok (.iconst 5, 1) := by decide +kernel
theorem dL_law_89 : decode cL_law 89 = .ok (.invokestatic 62, 3) := by decide +kernel
theorem dL_law_92 : decode cL_law 92 = .ok (.iadd, 1) := by decide +kernel
theorem dL_law_93 : decode cL_law 93 = .ok (.iconst 1, 1) := by decide +kernel
theorem dL_law_94 : decode cL_law 94 = .ok (.iload 10, 2) := by decide +kernel
theorem dL_law_96 : decode cL_law 96 = .ok (.iconst 3, 1) := by decide +kernel
theorem dL_law_97 : decode cL_law 97 = .ok (.ishr, 1) := by decide +kernel
theorem dL_law_98 : decode cL_law 98 = .ok (.bipush 120, 2) := by decide +kernel
theorem dL_law_100 : decode cL_law 100 = .ok (.invokestatic 62, 3) := by decide +kernel
theorem dL_law_103 : decode cL_law 103 = .ok (.iadd, 1) := by decide +kernel
theorem dL_law_104 : decode cL_law 104 = .ok (.invokevirtual 66, 3) := by decide +kernel
theorem dL_law_107 : decode cL_law 107 = .ok (.pop, 1) := by decide +kernel
theorem dL_law_108 : decode cL_law 108 = .ok (.iinc 3 1, 3) := by decide +kernel
theorem dL_law_111 : decode cL_law 111 = .ok (.goto 452, 3) := by decide +kernel
theorem dL_law_114 : decode cL_law 114 = .ok (.iload 11, 2) := by decide +kernel
theorem dL_law_116 : decode cL_law 116 = .ok (.iconst 1, 1) := by decide +kernel
theorem dL_law_117 : decode cL_law 117 = .ok (.if_icmp .ne 82, 3) := by decide +kernel
theorem dL_law_120 : decode cL_law 120 = .ok (.iload 4, 2) := by decide +kernel
theorem dL_law_122 : decode cL_law 122 = .ok (.iconst 3, 1) := by decide +kernel
theorem dL_law_123 : decode cL_law 123 = .ok (.if_icmp .ge 76, 3) := by decide +kernel
theorem dL_law_126 : decode cL_law 126 = .ok (.iconst 1, 1) := by decide +kernel
theorem dL_law_127 : decode cL_law 127 = .ok (.iload 10, 2) := by decide +kernel
theorem dL_law_129 : decode cL_law 129 = .ok (.iload 9, 2) := by decide +kernel
theorem dL_law_131 : decode cL_law 131 = .ok (.iconst 4, 1) := by decide +kernel
theorem dL_law_132 : decode cL_law 132 = .ok (.ishr, 1) := by decide +kernel
theorem dL_law_133 : decode cL_law 133 = .ok (.iconst 2, 1) := by decide +kernel
theorem dL_law_134 : decode cL_law 134 = .ok (.invokestatic 62, 3) := by decide +kernel
theorem dL_law_137 : decode cL_law 137 = .ok (.ifCond .ne 8, 3) := by decide +kernel
theorem dL_law_140 : decode cL_law 140 = .ok (.bipush 60, 2) := by decide +kernel
theorem dL_law_142 : decode cL_law 142 = .ok (.goto 6, 3) := by decide +kernel
theorem dL_law_145 : decode cL_law 145 = .ok (.sipush 2000, 3) := by decide +kernel
theorem dL_law_148 : decode cL_law 148 = .ok (.invokestatic 62, 3) := by decide +kernel
theorem dL_law_151 : decode cL_law 151 = .ok (.iadd, 1) := by decide +kernel
theorem dL_law_152 : decode cL_law 152 = .ok (.istore 12, 2) := by decide +kernel
theorem dL_law_154 : decode cL_law 154 = .ok (.aload_n 1, 1) := by decide +kernel
theorem dL_law_155 : decode cL_law 155 = .ok (.iload 12, 2) := by decide +kernel
theorem dL_law_157 : decode cL_law 157 = .ok (.iconst 1, 1) := by decide +kernel
theorem dL_law_158 : decode cL_law 158 = .ok (.iload 10, 2) := by decide +kernel
theorem dL_law_160 : decode cL_law 160 = .ok (.bipush 11, 2) := by decide +kernel
theorem dL_law_162 : decode cL_law 162 = .ok (.ishr, 1) := by decide +kernel
theorem dL_law_163 : decode cL_law 163 = .ok (.sipush 300, 3) := by decide +kernel
theorem dL_law_166 : decode cL_law 166 = .ok (.invokestatic 62, 3) := by decide +kernel
theorem dL_law_169 : decode cL_law 169 = .ok (.iadd, 1) := by decide +kernel
theorem dL_law_170 : decode cL_law 170 = .ok (.iconst 1, 1) := by decide +kernel
theorem dL_law_171 : decode cL_law 171 = .ok (.iload 10, 2) := by decide +kernel
theorem dL_law_173 : decode cL_law 173 = .ok (.bipush 20, 2) := by decide +kernel
theorem dL_law_175 : decode cL_law 175 = .ok (.ishr, 1) := by decide +kernel
theorem dL_law_176 : decode cL_law 176 = .ok (.bipush 100, 2) := by decide +kernel
theorem dL_law_178 : decode cL_law 178 = .ok (.invokestatic 62, 3) := by decide +kernel
theorem dL_law_181 : decode cL_law 181 = .ok (.iadd, 1) := by decide +kernel
theorem dL_law_182 : decode cL_law 182 = .ok (.invokevirtual 69, 3) := by decide +kernel
theorem dL_law_185 : decode cL_law 185 = .ok (.pop, 1) := by decide +kernel
theorem dL_law_186 : decode cL_law 186 = .ok (.iload 6, 2) := by decide +kernel
theorem dL_law_188 : decode cL_law 188 = .ok (.iload 12, 2) := by decide +kernel
theorem dL_law_190 : decode cL_law 190 = .ok (.iadd, 1) := by decide +kernel
theorem dL_law_191 : decode cL_law 191 = .ok (.istore 6, 2) := by decide +kernel
theorem dL_law_193 : decode cL_law 193 = .ok (.iinc 4 1, 3) := by decide +kernel
theorem dL_law_196 : decode cL_law 196 = .ok (.goto 367, 3) := by decide +kernel
theorem dL_law_199 : decode cL_law 199 = .ok (.iload 11, 2) := by decide +kernel
theorem dL_law_201 : decode cL_law 201 = .ok (.iconst 2, 1) := by decide +kernel
theorem dL_law_202 : decode cL_law 202 = .ok (.if_icmp .ne 53, 3) := by decide +kernel
theorem dL_law_205 : decode cL_law 205 = .ok (.iload 5, 2) := by decide +kernel
theorem dL_law_207 : decode cL_law 207 = .ok (.iconst 3, 1) := by decide +kernel
theorem dL_law_208 : decode cL_law 208 = .ok (.if_icmp .ge 47, 3) := by decide +kernel
theorem dL_law_211 : decode cL_law 211 = .ok (.aload_n 1, 1) := by decide +kernel
theorem dL_law_212 : decode cL_law 212 = .ok (.iconst 1, 1) := by decide +kernel
theorem dL_law_213 : decode cL_law 213 = .ok (.iload 10, 2) := by decide +kernel
theorem dL_law_215 : decode cL_law 215 = .ok (.sipush 400, 3) := by decide +kernel
theorem dL_law_218 : decode cL_law 218 = .ok (.invokestatic 62, 3) := by decide +kernel
theorem dL_law_221 : decode cL_law 221 = .ok (.iadd, 1) := by decide +kernel
theorem dL_law_222 : decode cL_law 222 = .ok (.iconst 1, 1) := by decide +kernel
theorem dL_law_223 : decode cL_law 223 = .ok (.iload 10, 2) := by decide +kernel
theorem dL_law_225 : decode cL_law 225 = .ok (.bipush 9, 2) := by decide +kernel
theorem dL_law_227 : decode cL_law 227 = .ok (.ishr, 1) := by decide +kernel
theorem dL_law_228 : decode cL_law 228 = .ok (.iconst 4, 1) := by decide +kernel
theorem dL_law_229 : decode cL_law 229 = .ok (.invokestatic 62, 3) := by decide +kernel
theorem dL_law_232 : decode cL_law 232 = .ok (.iadd, 1) := by decide +kernel
theorem dL_law_233 : decode cL_law 233 = .ok (.iconst 1, 1) := by decide +kernel
theorem dL_law_234 : decode cL_law 234 = .ok (.iload 10, 2) := by decide +kernel
theorem dL_law_236 : decode cL_law 236 = .ok (.bipush 12, 2) := by decide +kernel
theorem dL_law_238 : decode cL_law 238 = .ok (.ishr, 1) := by decide +kernel
theorem dL_law_239 : decode cL_law 239 = .ok (.bipush 60, 2) := by decide +kernel
theorem dL_law_241 : decode cL_law 241 = .ok (.invokestatic 62, 3) := by decide +kernel
theorem dL_law_244 : decode cL_law 244 = .ok (.iadd, 1) := by decide +kernel
theorem dL_law_245 : decode cL_law 245 = .ok (.invokevirtual 73, 3) := by decide +kernel
theorem dL_law_248 : decode cL_law 248 = .ok (.pop, 1) := by decide +kernel
theorem dL_law_249 : decode cL_law 249 = .ok (.iinc 5 1, 3) := by decide +kernel
theorem dL_law_252 : decode cL_law 252 = .ok (.goto 311, 3) := by decide +kernel
theorem dL_law_255 : decode cL_law 255 = .ok (.iload 11, 2) := by decide +kernel
theorem dL_law_257 : decode cL_law 257 = .ok (.iconst 3, 1) := by decide +kernel
theorem dL_law_258 : decode cL_law 258 = .ok (.if_icmp .ne 39, 3) := by decide +kernel
theorem dL_law_261 : decode cL_law 261 = .ok (.aload_n 1, 1) := by decide +kernel
theorem dL_law_262 : decode cL_law 262 = .ok (.iload 7, 2) := by decide +kernel
theorem dL_law_264 : decode cL_law 264 = .ok (.ifCond .ne 7, 3) := by decide +kernel
theorem dL_law_267 : decode cL_law 267 = .ok (.iconst 1, 1) := by decide +kernel
theorem dL_law_268 : decode cL_law 268 = .ok (.goto 4, 3) := by decide +kernel
theorem dL_law_271 : decode cL_law 271 = .ok (.iconst 0, 1) := by decide +kernel
theorem dL_law_272 : decode cL_law 272 = .ok (.invokevirtual 76, 3) := by decide +kernel
theorem dL_law_275 : decode cL_law 275 = .ok (.iload 7, 2) := by decide +kernel
theorem dL_law_277 : decode cL_law 277 = .ok (.if_icmp .eq 5, 3) := by decide +kernel
theorem dL_law_280 : decode cL_law 280 = .ok (.iconst 0, 1) := by decide +kernel
theorem dL_law_281 : decode cL_law 281 = .ok (.ireturn, 1) := by decide +kernel
theorem dL_law_282 : decode cL_law 282 = .ok (.iload 7, 2) := by decide +kernel
theorem dL_law_284 : decode cL_law 284 = .ok (.ifCond .ne 7, 3) := by decide +kernel
theorem dL_law_287 : decode cL_law 287 = .ok (.iconst 1, 1) := by decide +kernel
theorem dL_law_288 : decode cL_law 288 = .ok (.goto 4, 3) := by decide +kernel
theorem dL_law_291 : decode cL_law 291 = .ok (.iconst 0, 1) := by decide +kernel
theorem dL_law_292 : decode cL_law 292 = .ok (.istore 7, 2) := by decide +kernel
theorem dL_law_294 : decode cL_law 294 = .ok (.goto 269, 3) := by decide +kernel
theorem dL_law_297 : decode cL_law 297 = .ok (.iload 11, 2) := by decide +kernel
theorem dL_law_299 : decode cL_law 299 = .ok (.iconst 4, 1) := by decide +kernel
theorem dL_law_300 : decode cL_law 300 = .ok (.if_icmp .ne 73, 3) := by decide +kernel
theorem dL_law_303 : decode cL_law 303 = .ok (.iload 10, 2) := by decide +kernel
theorem dL_law_305 : decode cL_law 305 = .ok (.iload_n 3, 1) := by decide +kernel
theorem dL_law_306 : decode cL_law 306 = .ok (.invokestatic 62, 3) := by decide +kernel
theorem dL_law_309 : decode cL_law 309 = .ok (.istore 12, 2) := by decide +kernel
theorem dL_law_311 : decode cL_law 311 = .ok (.iload 10, 2) := by decide +kernel
theorem dL_law_313 : decode cL_law 313 = .ok (.iconst 4, 1) := by decide +kernel
theorem dL_law_314 : decode cL_law 314 = .ok (.ishr, 1) := by decide +kernel
theorem dL_law_315 : decode cL_law 315 = .ok (.iconst 3, 1) := by decide +kernel
theorem dL_law_316 : decode cL_law 316 = .ok (.invokestatic 62, 3) := by decide +kernel
theorem dL_law_319 : decode cL_law 319 = .ok (.ifCond .le 7, 3) := by decide +kernel
theorem dL_law_322 : decode cL_law 322 = .ok (.iconst 1, 1) := by decide +kernel
theorem dL_law_323 : decode cL_law 323 = .ok (.goto 4, 3) := by decide +kernel
theorem dL_law_326 : decode cL_law 326 = .ok (.iconst 0, 1) := by decide +kernel
theorem dL_law_327 : decode cL_law 327 = .ok (.istore 13, 2) := by decide +kernel
theorem dL_law_329 : decode cL_law 329 = .ok (.aload_n 1, 1) := by decide +kernel
theorem dL_law_330 : decode cL_law 330 = .ok (.iload 12, 2) := by decide +kernel
theorem dL_law_332 : decode cL_law 332 = .ok (.invokevirtual 45, 3) := by decide +kernel
theorem dL_law_335 : decode cL_law 335 = .ok (.istore 14, 2) := by decide +kernel
theorem dL_law_337 : decode cL_law 337 = .ok (.aload_n 1, 1) := by decide +kernel
theorem dL_law_338 : decode cL_law 338 = .ok (.iload 12, 2) := by decide +kernel
theorem dL_law_340 : decode cL_law 340 = .ok (.iload 13, 2) := by decide +kernel
theorem dL_law_342 : decode cL_law 342 = .ok (.invokevirtual 80, 3) := by decide +kernel
theorem dL_law_345 : decode cL_law 345 = .ok (.iload 13, 2) := by decide +kernel
theorem dL_law_347 : decode cL_law 347 = .ok (.ifCond .ne 7, 3) := by decide +kernel
theorem dL_law_350 : decode cL_law 350 = .ok (.iconst 0, 1) := by decide +kernel
theorem dL_law_351 : decode cL_law 351 = .ok (.goto 14, 3) := by decide +kernel
theorem dL_law_354 : decode cL_law 354 = .ok (.iload 14, 2) := by decide +kernel
theorem dL_law_356 : decode cL_law 356 = .ok (.ifCond .ne 7, 3) := by decide +kernel
theorem dL_law_359 : decode cL_law 359 = .ok (.iconst 2, 1) := by decide +kernel
theorem dL_law_360 : decode cL_law 360 = .ok (.goto 5, 3) := by decide +kernel
theorem dL_law_363 : decode cL_law 363 = .ok (.iload 14, 2) := by decide +kernel
theorem dL_law_365 : decode cL_law 365 = .ok (.if_icmp .eq 5, 3) := by decide +kernel
theorem dL_law_368 : decode cL_law 368 = .ok (.iconst 0, 1) := by decide +kernel
theorem dL_law_369 : decode cL_law 369 = .ok (.ireturn, 1) := by decide +kernel
theorem dL_law_370 : decode cL_law 370 = .ok (.goto 193, 3) := by decide +kernel
theorem dL_law_373 : decode cL_law 373 = .ok (.iload 11, 2) := by decide +kernel
theorem dL_law_375 : decode cL_law 375 = .ok (.iconst 5, 1) := by decide +kernel
theorem dL_law_376 : decode cL_law 376 = .ok (.if_icmp .ne 29, 3) := by decide +kernel
theorem dL_law_379 : decode cL_law 379 = .ok (.aload_n 1, 1) := by decide +kernel
theorem dL_law_380 : decode cL_law 380 = .ok (.iload 10, 2) := by decide +kernel
theorem dL_law_382 : decode cL_law 382 = .ok (.iload_n 3, 1) := by decide +kernel
theorem dL_law_383 : decode cL_law 383 = .ok (.invokestatic 62, 3) := by decide +kernel
theorem dL_law_386 : decode cL_law 386 = .ok (.iconst 1, 1) := by decide +kernel
theorem dL_law_387 : decode cL_law 387 = .ok (.iload 10, 2) := by decide +kernel
theorem dL_law_389 : decode cL_law 389 = .ok (.iconst 4, 1) := by decide +kernel
theorem dL_law_390 : decode cL_law 390 = .ok (.ishr, 1) := by decide +kernel
theorem dL_law_391 : decode cL_law 391 = .ok (.sipush 150, 3) := by decide +kernel
theorem dL_law_394 : decode cL_law 394 = .ok (.invokestatic 62, 3) := by decide +kernel
theorem dL_law_397 : decode cL_law 397 = .ok (.iadd, 1) := by decide +kernel
theorem dL_law_398 : decode cL_law 398 = .ok (.invokevirtual 84, 3) := by decide +kernel
theorem dL_law_401 : decode cL_law 401 = .ok (.pop, 1) := by decide +kernel
theorem dL_law_402 : decode cL_law 402 = .ok (.goto 161, 3) := by decide +kernel
theorem dL_law_405 : decode cL_law 405 = .ok (.iload 11, 2) := by decide +kernel
theorem dL_law_407 : decode cL_law 407 = .ok (.bipush 6, 2) := by decide +kernel
theorem dL_law_409 : decode cL_law 409 = .ok (.if_icmp .ne 82, 3) := by decide +kernel
theorem dL_law_412 : decode cL_law 412 = .ok (.iload 5, 2) := by decide +kernel
theorem dL_law_414 : decode cL_law 414 = .ok (.ifCond .le 77, 3) := by decide +kernel
theorem dL_law_417 : decode cL_law 417 = .ok (.iload 10, 2) := by decide +kernel
theorem dL_law_419 : decode cL_law 419 = .ok (.iload 5, 2) := by decide +kernel
theorem dL_law_421 : decode cL_law 421 = .ok (.invokestatic 62, 3) := by decide +kernel
theorem dL_law_424 : decode cL_law 424 = .ok (.istore 12, 2) := by decide +kernel
theorem dL_law_426 : decode cL_law 426 = .ok (.aload_n 1, 1) := by decide +kernel
theorem dL_law_427 : decode cL_law 427 = .ok (.iload 12, 2) := by decide +kernel
theorem dL_law_429 : decode cL_law 429 = .ok (.iconst 1, 1) := by decide +kernel
theorem dL_law_430 : decode cL_law 430 = .ok (.iload 10, 2) := by decide +kernel
theorem dL_law_432 : decode cL_law 432 = .ok (.iconst 3, 1) := by decide +kernel
theorem dL_law_433 : decode cL_law 433 = .ok (.ishr, 1) := by decide +kernel
theorem dL_law_434 : decode cL_law 434 = .ok (.bipush 50, 2) := by decide +kernel
theorem dL_law_436 : decode cL_law 436 = .ok (.invokestatic 62, 3) := by decide +kernel
theorem dL_law_439 : decode cL_law 439 = .ok (.iadd, 1) := by decide +kernel
theorem dL_law_440 : decode cL_law 440 = .ok (.invokevirtual 87, 3) := by decide +kernel
theorem dL_law_443 : decode cL_law 443 = .ok (.pop, 1) := by decide +kernel
theorem dL_law_444 : decode cL_law 444 = .ok (.aload_n 1, 1) := by decide +kernel
theorem dL_law_445 : decode cL_law 445 = .ok (.iload 12, 2) := by decide +kernel
theorem dL_law_447 : decode cL_law 447 = .ok (.iload 10, 2) := by decide +kernel
theorem dL_law_449 : decode cL_law 449 = .ok (.bipush 9, 2) := by decide +kernel
theorem dL_law_451 : decode cL_law 451 = .ok (.ishr, 1) := by decide +kernel
theorem dL_law_452 : decode cL_law 452 = .ok (.iconst 2, 1) := by decide +kernel
theorem dL_law_453 : decode cL_law 453 = .ok (.invokestatic 62, 3) := by decide +kernel
theorem dL_law_456 : decode cL_law 456 = .ok (.invokevirtual 90, 3) := by decide +kernel
theorem dL_law_459 : decode cL_law 459 = .ok (.pop, 1) := by decide +kernel
theorem dL_law_460 : decode cL_law 460 = .ok (.aload_n 1, 1) := by decide +kernel
theorem dL_law_461 : decode cL_law 461 = .ok (.iload 12, 2) := by decide +kernel
theorem dL_law_463 : decode cL_law 463 = .ok (.iload 10, 2) := by decide +kernel
theorem dL_law_465 : decode cL_law 465 = .ok (.bipush 10, 2) := by decide +kernel
theorem dL_law_467 : decode cL_law 467 = .ok (.ishr, 1) := by decide +kernel
theorem dL_law_468 : decode cL_law 468 = .ok (.bipush 20, 2) := by decide +kernel
theorem dL_law_470 : decode cL_law 470 = .ok (.invokestatic 62, 3) := by decide +kernel
theorem dL_law_473 : decode cL_law 473 = .ok (.iconst 1, 1) := by decide +kernel
theorem dL_law_474 : decode cL_law 474 = .ok (.iload 10, 2) := by decide +kernel
theorem dL_law_476 : decode cL_law 476 = .ok (.bipush 15, 2) := by decide +kernel
theorem dL_law_478 : decode cL_law 478 = .ok (.ishr, 1) := by decide +kernel
theorem dL_law_479 : decode cL_law 479 = .ok (.iconst 4, 1) := by decide +kernel
theorem dL_law_480 : decode cL_law 480 = .ok (.invokestatic 62, 3) := by decide +kernel
theorem dL_law_483 : decode cL_law 483 = .ok (.iadd, 1) := by decide +kernel
theorem dL_law_484 : decode cL_law 484 = .ok (.invokevirtual 93, 3) := by decide +kernel
theorem dL_law_487 : decode cL_law 487 = .ok (.pop, 1) := by decide +kernel
theorem dL_law_488 : decode cL_law 488 = .ok (.goto 75, 3) := by decide +kernel
theorem dL_law_491 : decode cL_law 491 = .ok (.iload 11, 2) := by decide +kernel
theorem dL_law_493 : decode cL_law 493 = .ok (.bipush 7, 2) := by decide +kernel
theorem dL_law_495 : decode cL_law 495 = .ok (.if_icmp .ne 27, 3) := by decide +kernel
theorem dL_law_498 : decode cL_law 498 = .ok (.aload_n 1, 1) := by decide +kernel
theorem dL_law_499 : decode cL_law 499 = .ok (.iload 10, 2) := by decide +kernel
theorem dL_law_501 : decode cL_law 501 = .ok (.iconst 4, 1) := by decide +kernel
theorem dL_law_502 : decode cL_law 502 = .ok (.invokestatic 62, 3) := by decide +kernel
theorem dL_law_505 : decode cL_law 505 = .ok (.iconst 1, 1) := by decide +kernel
theorem dL_law_506 : decode cL_law 506 = .ok (.iload 10, 2) := by decide +kernel
theorem dL_law_508 : decode cL_law 508 = .ok (.iconst 3, 1) := by decide +kernel
theorem dL_law_509 : decode cL_law 509 = .ok (.ishr, 1) := by decide +kernel
theorem dL_law_510 : decode cL_law 510 = .ok (.iconst 4, 1) := by decide +kernel
theorem dL_law_511 : decode cL_law 511 = .ok (.invokestatic 62, 3) := by decide +kernel
theorem dL_law_514 : decode cL_law 514 = .ok (.iadd, 1) := by decide +kernel
theorem dL_law_515 : decode cL_law 515 = .ok (.invokevirtual 96, 3) := by decide +kernel
theorem dL_law_518 : decode cL_law 518 = .ok (.pop, 1) := by decide +kernel
theorem dL_law_519 : decode cL_law 519 = .ok (.goto 44, 3) := by decide +kernel
theorem dL_law_522 : decode cL_law 522 = .ok (.iload 11, 2) := by decide +kernel
theorem dL_law_524 : decode cL_law 524 = .ok (.bipush 8, 2) := by decide +kernel
theorem dL_law_526 : decode cL_law 526 = .ok (.if_icmp .ne 20, 3) := by decide +kernel
theorem dL_law_529 : decode cL_law 529 = .ok (.aload_n 1, 1) := by decide +kernel
theorem dL_law_530 : decode cL_law 530 = .ok (.iconst 1, 1) := by decide +kernel
theorem dL_law_531 : decode cL_law 531 = .ok (.iload 10, 2) := by decide +kernel
theorem dL_law_533 : decode cL_law 533 = .ok (.bipush 12, 2) := by decide +kernel
theorem dL_law_535 : decode cL_law 535 = .ok (.invokestatic 62, 3) := by decide +kernel
theorem dL_law_538 : decode cL_law 538 = .ok (.iadd, 1) := by decide +kernel
theorem dL_law_539 : decode cL_law 539 = .ok (.invokevirtual 51, 3) := by decide +kernel
theorem dL_law_542 : decode cL_law 542 = .ok (.pop, 1) := by decide +kernel
theorem dL_law_543 : decode cL_law 543 = .ok (.goto 20, 3) := by decide +kernel
theorem dL_law_546 : decode cL_law 546 = .ok (.aload_n 1, 1) := by decide +kernel
theorem dL_law_547 : decode cL_law 547 = .ok (.aload_n 2, 1) := by decide +kernel
theorem dL_law_548 : decode cL_law 548 = .ok (.iload_n 3, 1) := by decide +kernel
theorem dL_law_549 : decode cL_law 549 = .ok (.iload 4, 2) := by decide +kernel
theorem dL_law_551 : decode cL_law 551 = .ok (.iload 5, 2) := by decide +kernel
theorem dL_law_553 : decode cL_law 553 = .ok (.iload 7, 2) := by decide +kernel
theorem dL_law_555 : decode cL_law 555 = .ok (.invokestatic 99, 3) := by decide +kernel
theorem dL_law_558 : decode cL_law 558 = .ok (.ifCond .ne 5, 3) := by decide +kernel
theorem dL_law_561 : decode cL_law 561 = .ok (.iconst 0, 1) := by decide +kernel
theorem dL_law_562 : decode cL_law 562 = .ok (.ireturn, 1) := by decide +kernel
theorem dL_law_563 : decode cL_law 563 = .ok (.aload_n 1, 1) := by decide +kernel
theorem dL_law_564 : decode cL_law 564 = .ok (.iload_n 3, 1) := by decide +kernel
theorem dL_law_565 : decode cL_law 565 = .ok (.iload 4, 2) := by decide +kernel
theorem dL_law_567 : decode cL_law 567 = .ok (.iload 6, 2) := by decide +kernel
theorem dL_law_569 : decode cL_law 569 = .ok (.invokestatic 103, 3) := by decide +kernel
theorem dL_law_572 : decode cL_law 572 = .ok (.ifCond .ne 5, 3) := by decide +kernel
theorem dL_law_575 : decode cL_law 575 = .ok (.iconst 0, 1) := by decide +kernel
theorem dL_law_576 : decode cL_law 576 = .ok (.ireturn, 1) := by decide +kernel
theorem dL_law_577 : decode cL_law 577 = .ok (.iinc 8 1, 3) := by decide +kernel
theorem dL_law_580 : decode cL_law 580 = .ok (.goto (-550), 3) := by decide +kernel
theorem dL_law_583 : decode cL_law 583 = .ok (.iconst 1, 1) := by decide +kernel
theorem dL_law_584 : decode cL_law 584 = .ok (.ireturn, 1) := by decide +kernel

