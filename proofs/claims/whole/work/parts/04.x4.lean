theorem dX4_init_0 : decode cX4_init 0 = .ok (.aload_n 0, 1) := by decide +kernel
theorem dX4_init_1 : decode cX4_init 1 = .ok (.invokespecial 1, 3) := by decide +kernel
theorem dX4_init_4 : decode cX4_init 4 = .ok (.aload_n 0, 1) := by decide +kernel
theorem dX4_init_5 : decode cX4_init 5 = .ok (.iconst 1, 1) := by decide +kernel
theorem dX4_init_6 : decode cX4_init 6 = .ok (.putfield 7, 3) := by decide +kernel
theorem dX4_init_9 : decode cX4_init 9 = .ok (.aload_n 0, 1) := by decide +kernel
theorem dX4_init_10 : decode cX4_init 10 = .ok (.iconst 2, 1) := by decide +kernel
theorem dX4_init_11 : decode cX4_init 11 = .ok (.putfield 13, 3) := by decide +kernel
theorem dX4_init_14 : decode cX4_init 14 = .ok (.aload_n 0, 1) := by decide +kernel
theorem dX4_init_15 : decode cX4_init 15 = .ok (.iconst 1, 1) := by decide +kernel
theorem dX4_init_16 : decode cX4_init 16 = .ok (.putfield 17, 3) := by decide +kernel
theorem dX4_init_19 : decode cX4_init 19 = .ok (.aload_n 0, 1) := by decide +kernel
theorem dX4_init_20 : decode cX4_init 20 = .ok (.iconst (-1), 1) := by decide +kernel
theorem dX4_init_21 : decode cX4_init 21 = .ok (.putfield 20, 3) := by decide +kernel
theorem dX4_init_24 : decode cX4_init 24 = .ok (.aload_n 0, 1) := by decide +kernel
theorem dX4_init_25 : decode cX4_init 25 = .ok (.bipush 10, 2) := by decide +kernel
theorem dX4_init_27 : decode cX4_init 27 = .ok (.newarray .int, 2) := by decide +kernel
theorem dX4_init_29 : decode cX4_init 29 = .ok (.putfield 23, 3) := by decide +kernel
theorem dX4_init_32 : decode cX4_init 32 = .ok (.aload_n 0, 1) := by decide +kernel
theorem dX4_init_33 : decode cX4_init 33 = .ok (.bipush 10, 2) := by decide +kernel
theorem dX4_init_35 : decode cX4_init 35 = .ok (.newarray .int, 2) := by decide +kernel
theorem dX4_init_37 : decode cX4_init 37 = .ok (.putfield 27, 3) := by decide +kernel
theorem dX4_init_40 : decode cX4_init 40 = .ok (.aload_n 0, 1) := by decide +kernel
theorem dX4_init_41 : decode cX4_init 41 = .ok (.bipush 10, 2) := by decide +kernel
theorem dX4_init_43 : decode cX4_init 43 = .ok (.newarray .int, 2) := by decide +kernel
theorem dX4_init_45 : decode cX4_init 45 = .ok (.putfield 30, 3) := by decide +kernel
theorem dX4_init_48 : decode cX4_init 48 = .ok (.aload_n 0, 1) := by decide +kernel
theorem dX4_init_49 : decode cX4_init 49 = .ok (.bipush 10, 2) := by decide +kernel
theorem dX4_init_51 : decode cX4_init 51 = .ok (.newarray .int, 2) := by decide +kernel
theorem dX4_init_53 : decode cX4_init 53 = .ok (.putfield 33, 3) := by decide +kernel
theorem dX4_init_56 : decode cX4_init 56 = .ok (.aload_n 0, 1) := by decide +kernel
theorem dX4_init_57 : decode cX4_init 57 = .ok (.bipush 10, 2) := by decide +kernel
theorem dX4_init_59 : decode cX4_init 59 = .ok (.newarray .int, 2) := by decide +kernel
theorem dX4_init_61 : decode cX4_init 61 = .ok (.putfield 36, 3) := by decide +kernel
theorem dX4_init_64 : decode cX4_init 64 = .ok (.aload_n 0, 1) := by decide +kernel
theorem dX4_init_65 : decode cX4_init 65 = .ok (.iconst 3, 1) := by decide +kernel
theorem dX4_init_66 : decode cX4_init 66 = .ok (.newarray .int, 2) := by decide +kernel
theorem dX4_init_68 : decode cX4_init 68 = .ok (.putfield 39, 3) := by decide +kernel
theorem dX4_init_71 : decode cX4_init 71 = .ok (.aload_n 0, 1) := by decide +kernel
theorem dX4_init_72 : decode cX4_init 72 = .ok (.iconst 3, 1) := by decide +kernel
theorem dX4_init_73 : decode cX4_init 73 = .ok (.newarray .int, 2) := by decide +kernel
theorem dX4_init_75 : decode cX4_init 75 = .ok (.putfield 42, 3) := by decide +kernel
theorem dX4_init_78 : decode cX4_init 78 = .ok (.aload_n 0, 1) := by decide +kernel
theorem dX4_init_79 : decode cX4_init 79 = .ok (.iconst 3, 1) := by decide +kernel
theorem dX4_init_80 : decode cX4_init 80 = .ok (.newarray .int, 2) := by decide +kernel
theorem dX4_init_82 : decode cX4_init 82 = .ok (.putfield 45, 3) := by decide +kernel
theorem dX4_init_85 : decode cX4_init 85 = .ok (.aload_n 0, 1) := by decide +kernel
theorem dX4_init_86 : decode cX4_init 86 = .ok (.iconst 3, 1) := by decide +kernel
theorem dX4_init_87 : decode cX4_init 87 = .ok (.newarray .int, 2) := by decide +kernel
theorem dX4_init_89 : decode cX4_init 89 = .ok (.putfield 48, 3) := by decide +kernel
theorem dX4_init_92 : decode cX4_init 92 = .ok (.aload_n 0, 1) := by decide +kernel
theorem dX4_init_93 : decode cX4_init 93 = .ok (.iconst 3, 1) := by decide +kernel
theorem dX4_init_94 : decode cX4_init 94 = .ok (.newarray .int, 2) := by decide +kernel
theorem dX4_init_96 : decode cX4_init 96 = .ok (.putfield 51, 3) := by decide +kernel
theorem dX4_init_99 : decode cX4_init 99 = .ok (.aload_n 0, 1) := by decide +kernel
theorem dX4_init_100 : decode cX4_init 100 = .ok (.iconst 3, 1) := by decide +kernel
theorem dX4_init_101 : decode cX4_init 101 = .ok (.newarray .int, 2) := by decide +kernel
theorem dX4_init_103 : decode cX4_init 103 = .ok (.putfield 54, 3) := by decide +kernel
theorem dX4_init_106 : decode cX4_init 106 = .ok (.aload_n 0, 1) := by decide +kernel
theorem dX4_init_107 : decode cX4_init 107 = .ok (.iconst 3, 1) := by decide +kernel
theorem dX4_init_108 : decode cX4_init 108 = .ok (.newarray .int, 2) := by decide +kernel
theorem dX4_init_110 : decode cX4_init 110 = .ok (.putfield 57, 3) := by decide +kernel
theorem dX4_init_113 : decode cX4_init 113 = .ok (.aload_n 0, 1) := by decide +kernel
theorem dX4_init_114 : decode cX4_init 114 = .ok (.iconst 3, 1) := by decide +kernel
theorem dX4_init_115 : decode cX4_init 115 = .ok (.newarray .int, 2) := by decide +kernel
theorem dX4_init_117 : decode cX4_init 117 = .ok (.putfield 60, 3) := by decide +kernel
theorem dX4_init_120 : decode cX4_init 120 = .ok (.aload_n 0, 1) := by decide +kernel
theorem dX4_init_121 : decode cX4_init 121 = .ok (.iconst 3, 1) := by decide +kernel
theorem dX4_init_122 : decode cX4_init 122 = .ok (.newarray .int, 2) := by decide +kernel
theorem dX4_init_124 : decode cX4_init 124 = .ok (.putfield 63, 3) := by decide +kernel
theorem dX4_init_127 : decode cX4_init 127 = .ok (.aload_n 0, 1) := by decide +kernel
theorem dX4_init_128 : decode cX4_init 128 = .ok (.iconst 3, 1) := by decide +kernel
theorem dX4_init_129 : decode cX4_init 129 = .ok (.newarray .int, 2) := by decide +kernel
theorem dX4_init_131 : decode cX4_init 131 = .ok (.putfield 66, 3) := by decide +kernel
theorem dX4_init_134 : decode cX4_init 134 = .ok (.aload_n 0, 1) := by decide +kernel
theorem dX4_init_135 : decode cX4_init 135 = .ok (.iconst 3, 1) := by decide +kernel
theorem dX4_init_136 : decode cX4_init 136 = .ok (.newarray .int, 2) := by decide +kernel
theorem dX4_init_138 : decode cX4_init 138 = .ok (.putfield 69, 3) := by decide +kernel
theorem dX4_init_141 : decode cX4_init 141 = .ok (.aload_n 0, 1) := by decide +kernel
theorem dX4_init_142 : decode cX4_init 142 = .ok (.iconst 3, 1) := by decide +kernel
theorem dX4_init_143 : decode cX4_init 143 = .ok (.newarray .boolean, 2) := by decide +kernel
theorem dX4_init_145 : decode cX4_init 145 = .ok (.putfield 72, 3) := by decide +kernel
theorem dX4_init_148 : decode cX4_init 148 = .ok (.aload_n 0, 1) := by decide +kernel
theorem dX4_init_149 : decode cX4_init 149 = .ok (.iconst 3, 1) := by decide +kernel
theorem dX4_init_150 : decode cX4_init 150 = .ok (.newarray .int, 2) := by decide +kernel
theorem dX4_init_152 : decode cX4_init 152 = .ok (.putfield 76, 3) := by decide +kernel
theorem dX4_init_155 : decode cX4_init 155 = .ok (.aload_n 0, 1) := by decide +kernel
theorem dX4_init_156 : decode cX4_init 156 = .ok (.iconst 3, 1) := by decide +kernel
theorem dX4_init_157 : decode cX4_init 157 = .ok (.newarray .int, 2) := by decide +kernel
theorem dX4_init_159 : decode cX4_init 159 = .ok (.putfield 79, 3) := by decide +kernel
theorem dX4_init_162 : decode cX4_init 162 = .ok (.aload_n 0, 1) := by decide +kernel
theorem dX4_init_163 : decode cX4_init 163 = .ok (.iconst 3, 1) := by decide +kernel
theorem dX4_init_164 : decode cX4_init 164 = .ok (.newarray .int, 2) := by decide +kernel
theorem dX4_init_166 : decode cX4_init 166 = .ok (.putfield 82, 3) := by decide +kernel
theorem dX4_init_169 : decode cX4_init 169 = .ok (.aload_n 0, 1) := by decide +kernel
theorem dX4_init_170 : decode cX4_init 170 = .ok (.iconst 3, 1) := by decide +kernel
theorem dX4_init_171 : decode cX4_init 171 = .ok (.newarray .int, 2) := by decide +kernel
theorem dX4_init_173 : decode cX4_init 173 = .ok (.putfield 85, 3) := by decide +kernel
theorem dX4_init_176 : decode cX4_init 176 = .ok (.aload_n 0, 1) := by decide +kernel
theorem dX4_init_177 : decode cX4_init 177 = .ok (.iconst 3, 1) := by decide +kernel
theorem dX4_init_178 : decode cX4_init 178 = .ok (.newarray .int, 2) := by decide +kernel
theorem dX4_init_180 : decode cX4_init 180 = .ok (.putfield 88, 3) := by decide +kernel
theorem dX4_init_183 : decode cX4_init 183 = .ok (.aload_n 0, 1) := by decide +kernel
theorem dX4_init_184 : decode cX4_init 184 = .ok (.iconst 3, 1) := by decide +kernel
theorem dX4_init_185 : decode cX4_init 185 = .ok (.newarray .int, 2) := by decide +kernel
theorem dX4_init_187 : decode cX4_init 187 = .ok (.putfield 91, 3) := by decide +kernel
theorem dX4_init_190 : decode cX4_init 190 = .ok (.aload_n 0, 1) := by decide +kernel
theorem dX4_init_191 : decode cX4_init 191 = .ok (.iconst 3, 1) := by decide +kernel
theorem dX4_init_192 : decode cX4_init 192 = .ok (.newarray .int, 2) := by decide +kernel
theorem dX4_init_194 : decode cX4_init 194 = .ok (.putfield 94, 3) := by decide +kernel
theorem dX4_init_197 : decode cX4_init 197 = .ok (.aload_n 0, 1) := by decide +kernel
theorem dX4_init_198 : decode cX4_init 198 = .ok (.iconst 3, 1) := by decide +kernel
theorem dX4_init_199 : decode cX4_init 199 = .ok (.newarray .int, 2) := by decide +kernel
theorem dX4_init_201 : decode cX4_init 201 = .ok (.putfield 97, 3) := by decide +kernel
theorem dX4_init_204 : decode cX4_init 204 = .ok (.aload_n 0, 1) := by decide +kernel
theorem dX4_init_205 : decode cX4_init 205 = .ok (.iconst 3, 1) := by decide +kernel
theorem dX4_init_206 : decode cX4_init 206 = .ok (.newarray .int, 2) := by decide +kernel
theorem dX4_init_208 : decode cX4_init 208 = .ok (.putfield 100, 3) := by decide +kernel
theorem dX4_init_211 : decode cX4_init 211 = .ok (.aload_n 0, 1) := by decide +kernel
theorem dX4_init_212 : decode cX4_init 212 = .ok (.iconst 0, 1) := by decide +kernel
theorem dX4_init_213 : decode cX4_init 213 = .ok (.putfield 103, 3) := by decide +kernel
theorem dX4_init_216 : decode cX4_init 216 = .ok (.return_, 1) := by decide +kernel
theorem dX4_thrown_0 : decode cX4_thrown 0 = .ok (.aload_n 0, 1) := by decide +kernel
theorem dX4_thrown_1 : decode cX4_thrown 1 = .ok (.getfield 103, 3) := by decide +kernel
theorem dX4_thrown_4 : decode cX4_thrown 4 = .ok (.ireturn, 1) := by decide +kernel
theorem dX4_fails_0 : decode cX4_fails 0 = .ok (.aload_n 0, 1) := by decide +kernel
theorem dX4_fails_1 : decode cX4_fails 1 = .ok (.iload_n 1, 1) := by decide +kernel
theorem dX4_fails_2 : decode cX4_fails 2 = .ok (.putfield 103, 3) := by decide +kernel
theorem dX4_fails_5 : decode cX4_fails 5 = .ok (.iconst 0, 1) := by decide +kernel
theorem dX4_fails_6 : decode cX4_fails 6 = .ok (.ireturn, 1) := by decide +kernel
theorem dX4_in_0 : decode cX4_in 0 = .ok (.iload_n 0, 1) := by decide +kernel
theorem dX4_in_1 : decode cX4_in 1 = .ok (.iload_n 1, 1) := by decide +kernel
theorem dX4_in_2 : decode cX4_in 2 = .ok (.if_icmp .lt 12, 3) := by decide +kernel
theorem dX4_in_5 : decode cX4_in 5 = .ok (.iload_n 0, 1) := by decide +kernel
theorem dX4_in_6 : decode cX4_in 6 = .ok (.iload_n 2, 1) := by decide +kernel
theorem dX4_in_7 : decode cX4_in 7 = .ok (.if_icmp .gt 7, 3) := by decide +kernel
theorem dX4_in_10 : decode cX4_in 10 = .ok (.iconst 1, 1) := by decide +kernel
theorem dX4_in_11 : decode cX4_in 11 = .ok (.goto 4, 3) := by decide +kernel
theorem dX4_in_14 : decode cX4_in 14 = .ok (.iconst 0, 1) := by decide +kernel
theorem dX4_in_15 : decode cX4_in 15 = .ok (.ireturn, 1) := by decide +kernel
theorem dX4_lesser_0 : decode cX4_lesser 0 = .ok (.iload_n 0, 1) := by decide +kernel
theorem dX4_lesser_1 : decode cX4_lesser 1 = .ok (.iload_n 1, 1) := by decide +kernel
theorem dX4_lesser_2 : decode cX4_lesser 2 = .ok (.if_icmp .ge 7, 3) := by decide +kernel
theorem dX4_lesser_5 : decode cX4_lesser 5 = .ok (.iload_n 0, 1) := by decide +kernel
theorem dX4_lesser_6 : decode cX4_lesser 6 = .ok (.goto 4, 3) := by decide +kernel
theorem dX4_lesser_9 : decode cX4_lesser 9 = .ok (.iload_n 1, 1) := by decide +kernel
theorem dX4_lesser_10 : decode cX4_lesser 10 = .ok (.ireturn, 1) := by decide +kernel
set_option maxRecDepth 20000 in
theorem ggX4_isLoad_X4_in : GoodIn wsX4_isLoad wsX4_in := goodIn_r _ [5] (by decide +kernel) (by decide +kernel)
set_option maxRecDepth 20000 in
theorem gX4_isLoad_X4_in : GoodIn wsX4_isLoad (va_wsS RX4 109 yX4_in wsX4_in) := goodIn_app (goodIn_of _ (by decide +kernel)) ggX4_isLoad_X4_in
theorem dX4_isLoad_0 : decode cX4_isLoad 0 = .ok (.iload_n 1, 1) := by decide +kernel
theorem dX4_isLoad_1 : decode cX4_isLoad 1 = .ok (.iconst 0, 1) := by decide +kernel
theorem dX4_isLoad_2 : decode cX4_isLoad 2 = .ok (.aload_n 0, 1) := by decide +kernel
theorem dX4_isLoad_3 : decode cX4_isLoad 3 = .ok (.getfield 106, 3) := by decide +kernel
theorem dX4_isLoad_6 : decode cX4_isLoad 6 = .ok (.iconst 1, 1) := by decide +kernel
theorem dX4_isLoad_7 : decode cX4_isLoad 7 = .ok (.isub, 1) := by decide +kernel
theorem dX4_isLoad_8 : decode cX4_isLoad 8 = .ok (.invokestatic 109, 3) := by decide +kernel
theorem dX4_isLoad_11 : decode cX4_isLoad 11 = .ok (.ireturn, 1) := by decide +kernel
set_option maxRecDepth 20000 in
theorem ggX4_isGenerator_X4_in : GoodIn wsX4_isGenerator wsX4_in := goodIn_r _ [5] (by decide +kernel) (by decide +kernel)
set_option maxRecDepth 20000 in
theorem gX4_isGenerator_X4_in : GoodIn wsX4_isGenerator (va_wsS RX4 109 yX4_in wsX4_in) := goodIn_app (goodIn_of _ (by decide +kernel)) ggX4_isGenerator_X4_in
theorem dX4_isGenerator_0 : decode cX4_isGenerator 0 = .ok (.iload_n 1, 1) := by decide +kernel
theorem dX4_isGenerator_1 : decode cX4_isGenerator 1 = .ok (.iconst 0, 1) := by decide +kernel
theorem dX4_isGenerator_2 : decode cX4_isGenerator 2 = .ok (.aload_n 0, 1) := by decide +kernel
theorem dX4_isGenerator_3 : decode cX4_isGenerator 3 = .ok (.getfield 113, 3) := by decide +kernel
theorem dX4_isGenerator_6 : decode cX4_isGenerator 6 = .ok (.iconst 1, 1) := by decide +kernel
theorem dX4_isGenerator_7 : decode cX4_isGenerator 7 = .ok (.isub, 1) := by decide +kernel
theorem dX4_isGenerator_8 : decode cX4_isGenerator 8 = .ok (.invokestatic 109, 3) := by decide +kernel
theorem dX4_isGenerator_11 : decode cX4_isGenerator 11 = .ok (.ireturn, 1) := by decide +kernel
set_option maxRecDepth 20000 in
theorem ggX4_addLoad_X4_in : GoodIn wsX4_addLoad wsX4_in := goodIn_r _ [10] (by decide +kernel) (by decide +kernel)
set_option maxRecDepth 20000 in
theorem gX4_addLoad_X4_in : GoodIn wsX4_addLoad (va_wsS RX4 109 yX4_in wsX4_in) := goodIn_app (goodIn_of _ (by decide +kernel)) ggX4_addLoad_X4_in
theorem dX4_addLoad_0 : decode cX4_addLoad 0 = .ok (.aload_n 0, 1) := by decide +kernel
theorem dX4_addLoad_1 : decode cX4_addLoad 1 = .ok (.iload_n 1, 1) := by decide +kernel
theorem dX4_addLoad_2 : decode cX4_addLoad 2 = .ok (.iconst 1, 1) := by decide +kernel
theorem dX4_addLoad_3 : decode cX4_addLoad 3 = .ok (.iconst 5, 1) := by decide +kernel
theorem dX4_addLoad_4 : decode cX4_addLoad 4 = .ok (.invokestatic 109, 3) := by decide +kernel
theorem dX4_addLoad_7 : decode cX4_addLoad 7 = .ok (.ifCond .eq 14, 3) := by decide +kernel
theorem dX4_addLoad_10 : decode cX4_addLoad 10 = .ok (.iload_n 2, 1) := by decide +kernel
theorem dX4_addLoad_11 : decode cX4_addLoad 11 = .ok (.iconst 1, 1) := by decide +kernel
theorem dX4_addLoad_12 : decode cX4_addLoad 12 = .ok (.sipush 500, 3) := by decide +kernel
theorem dX4_addLoad_15 : decode cX4_addLoad 15 = .ok (.invokestatic 109, 3) := by decide +kernel
theorem dX4_addLoad_18 : decode cX4_addLoad 18 = .ok (.ifCond .ne 7, 3) := by decide +kernel
theorem dX4_addLoad_21 : decode cX4_addLoad 21 = .ok (.iconst 1, 1) := by decide +kernel
theorem dX4_addLoad_22 : decode cX4_addLoad 22 = .ok (.goto 17, 3) := by decide +kernel
theorem dX4_addLoad_25 : decode cX4_addLoad 25 = .ok (.aload_n 0, 1) := by decide +kernel
theorem dX4_addLoad_26 : decode cX4_addLoad 26 = .ok (.getfield 106, 3) := by decide +kernel
theorem dX4_addLoad_29 : decode cX4_addLoad 29 = .ok (.bipush 10, 2) := by decide +kernel
theorem dX4_addLoad_31 : decode cX4_addLoad 31 = .ok (.if_icmp .ne 7, 3) := by decide +kernel
theorem dX4_addLoad_34 : decode cX4_addLoad 34 = .ok (.iconst 2, 1) := by decide +kernel
theorem dX4_addLoad_35 : decode cX4_addLoad 35 = .ok (.goto 4, 3) := by decide +kernel
theorem dX4_addLoad_38 : decode cX4_addLoad 38 = .ok (.iconst 0, 1) := by decide +kernel
theorem dX4_addLoad_39 : decode cX4_addLoad 39 = .ok (.putfield 103, 3) := by decide +kernel
theorem dX4_addLoad_42 : decode cX4_addLoad 42 = .ok (.aload_n 0, 1) := by decide +kernel
theorem dX4_addLoad_43 : decode cX4_addLoad 43 = .ok (.getfield 103, 3) := by decide +kernel
theorem dX4_addLoad_46 : decode cX4_addLoad 46 = .ok (.ifCond .le 5, 3) := by decide +kernel
theorem dX4_addLoad_49 : decode cX4_addLoad 49 = .ok (.iconst 0, 1) := by decide +kernel
theorem dX4_addLoad_50 : decode cX4_addLoad 50 = .ok (.ireturn, 1) := by decide +kernel
theorem dX4_addLoad_51 : decode cX4_addLoad 51 = .ok (.aload_n 0, 1) := by decide +kernel
theorem dX4_addLoad_52 : decode cX4_addLoad 52 = .ok (.getfield 23, 3) := by decide +kernel
theorem dX4_addLoad_55 : decode cX4_addLoad 55 = .ok (.aload_n 0, 1) := by decide +kernel
theorem dX4_addLoad_56 : decode cX4_addLoad 56 = .ok (.getfield 106, 3) := by decide +kernel
theorem dX4_addLoad_59 : decode cX4_addLoad 59 = .ok (.iload_n 1, 1) := by decide +kernel
theorem dX4_addLoad_60 : decode cX4_addLoad 60 = .ok (.iastore, 1) := by decide +kernel
theorem dX4_addLoad_61 : decode cX4_addLoad 61 = .ok (.aload_n 0, 1) := by decide +kernel
theorem dX4_addLoad_62 : decode cX4_addLoad 62 = .ok (.getfield 27, 3) := by decide +kernel
theorem dX4_addLoad_65 : decode cX4_addLoad 65 = .ok (.aload_n 0, 1) := by decide +kernel
theorem dX4_addLoad_66 : decode cX4_addLoad 66 = .ok (.getfield 106, 3) := by decide +kernel
theorem dX4_addLoad_69 : decode cX4_addLoad 69 = .ok (.iload_n 2, 1) := by decide +kernel
theorem dX4_addLoad_70 : decode cX4_addLoad 70 = .ok (.iastore, 1) := by decide +kernel
theorem dX4_addLoad_71 : decode cX4_addLoad 71 = .ok (.aload_n 0, 1) := by decide +kernel
theorem dX4_addLoad_72 : decode cX4_addLoad 72 = .ok (.getfield 30, 3) := by decide +kernel
theorem dX4_addLoad_75 : decode cX4_addLoad 75 = .ok (.aload_n 0, 1) := by decide +kernel
theorem dX4_addLoad_76 : decode cX4_addLoad 76 = .ok (.getfield 106, 3) := by decide +kernel
theorem dX4_addLoad_79 : decode cX4_addLoad 79 = .ok (.aload_n 0, 1) := by decide +kernel
theorem dX4_addLoad_80 : decode cX4_addLoad 80 = .ok (.getfield 7, 3) := by decide +kernel
theorem dX4_addLoad_83 : decode cX4_addLoad 83 = .ok (.ifCond .eq 7, 3) := by decide +kernel
theorem dX4_addLoad_86 : decode cX4_addLoad 86 = .ok (.iconst 1, 1) := by decide +kernel
theorem dX4_addLoad_87 : decode cX4_addLoad 87 = .ok (.goto 4, 3) := by decide +kernel
theorem dX4_addLoad_90 : decode cX4_addLoad 90 = .ok (.iconst 2, 1) := by decide +kernel
theorem dX4_addLoad_91 : decode cX4_addLoad 91 = .ok (.iastore, 1) := by decide +kernel
theorem dX4_addLoad_92 : decode cX4_addLoad 92 = .ok (.aload_n 0, 1) := by decide +kernel
theorem dX4_addLoad_93 : decode cX4_addLoad 93 = .ok (.dup, 1) := by decide +kernel
theorem dX4_addLoad_94 : decode cX4_addLoad 94 = .ok (.getfield 106, 3) := by decide +kernel
theorem dX4_addLoad_97 : decode cX4_addLoad 97 = .ok (.iconst 1, 1) := by decide +kernel
theorem dX4_addLoad_98 : decode cX4_addLoad 98 = .ok (.iadd, 1) := by decide +kernel
theorem dX4_addLoad_99 : decode cX4_addLoad 99 = .ok (.putfield 106, 3) := by decide +kernel
theorem dX4_addLoad_102 : decode cX4_addLoad 102 = .ok (.aload_n 0, 1) := by decide +kernel
theorem dX4_addLoad_103 : decode cX4_addLoad 103 = .ok (.getfield 106, 3) := by decide +kernel
theorem dX4_addLoad_106 : decode cX4_addLoad 106 = .ok (.iconst 1, 1) := by decide +kernel
theorem dX4_addLoad_107 : decode cX4_addLoad 107 = .ok (.isub, 1) := by decide +kernel
theorem dX4_addLoad_108 : decode cX4_addLoad 108 = .ok (.ireturn, 1) := by decide +kernel
set_option maxRecDepth 20000 in
theorem ggX4_addBattery_X4_in : GoodIn wsX4_addBattery wsX4_in := goodIn_r _ [10] (by decide +kernel) (by decide +kernel)
set_option maxRecDepth 20000 in
theorem gX4_addBattery_X4_in : GoodIn wsX4_addBattery (va_wsS RX4 109 yX4_in wsX4_in) := goodIn_app (goodIn_of _ (by decide +kernel)) ggX4_addBattery_X4_in
theorem dX4_addBattery_0 : decode cX4_addBattery 0 = .ok (.aload_n 0, 1) := by decide +kernel
theorem dX4_addBattery_1 : decode cX4_addBattery 1 = .ok (.iload_n 1, 1) := by decide +kernel
theorem dX4_addBattery_2 : decode cX4_addBattery 2 = .ok (.iconst 1, 1) := by decide +kernel
theorem dX4_addBattery_3 : decode cX4_addBattery 3 = .ok (.sipush 20000, 3) := by decide +kernel
theorem dX4_addBattery_6 : decode cX4_addBattery 6 = .ok (.invokestatic 109, 3) := by decide +kernel
theorem dX4_addBattery_9 : decode cX4_addBattery 9 = .ok (.ifCond .eq 25, 3) := by decide +kernel
theorem dX4_addBattery_12 : decode cX4_addBattery 12 = .ok (.iload_n 2, 1) := by decide +kernel
theorem dX4_addBattery_13 : decode cX4_addBattery 13 = .ok (.iconst 1, 1) := by decide +kernel
theorem dX4_addBattery_14 : decode cX4_addBattery 14 = .ok (.sipush 500, 3) := by decide +kernel
theorem dX4_addBattery_17 : decode cX4_addBattery 17 = .ok (.invokestatic 109, 3) := by decide +kernel
theorem dX4_addBattery_20 : decode cX4_addBattery 20 = .ok (.ifCond .eq 14, 3) := by decide +kernel
theorem dX4_addBattery_23 : decode cX4_addBattery 23 = .ok (.iload_n 3, 1) := by decide +kernel
theorem dX4_addBattery_24 : decode cX4_addBattery 24 = .ok (.iconst 1, 1) := by decide +kernel
theorem dX4_addBattery_25 : decode cX4_addBattery 25 = .ok (.sipush 500, 3) := by decide +kernel
theorem dX4_addBattery_28 : decode cX4_addBattery 28 = .ok (.invokestatic 109, 3) := by decide +kernel
theorem dX4_addBattery_31 : decode cX4_addBattery 31 = .ok (.ifCond .ne 7, 3) := by decide +kernel
theorem dX4_addBattery_34 : decode cX4_addBattery 34 = .ok (.iconst 1, 1) := by decide +kernel
theorem dX4_addBattery_35 : decode cX4_addBattery 35 = .ok (.goto 16, 3) := by decide +kernel
theorem dX4_addBattery_38 : decode cX4_addBattery 38 = .ok (.aload_n 0, 1) := by decide +kernel
theorem dX4_addBattery_39 : decode cX4_addBattery 39 = .ok (.getfield 116, 3) := by decide +kernel
theorem dX4_addBattery_42 : decode cX4_addBattery 42 = .ok (.iconst 3, 1) := by decide +kernel
theorem dX4_addBattery_43 : decode cX4_addBattery 43 = .ok (.if_icmp .ne 7, 3) := by decide +kernel
theorem dX4_addBattery_46 : decode cX4_addBattery 46 = .ok (.iconst 2, 1) := by decide +kernel
theorem dX4_addBattery_47 : decode cX4_addBattery 47 = .ok (.goto 4, 3) := by decide +kernel
theorem dX4_addBattery_50 : decode cX4_addBattery 50 = .ok (.iconst 0, 1) := by decide +kernel
theorem dX4_addBattery_51 : decode cX4_addBattery 51 = .ok (.putfield 103, 3) := by decide +kernel
theorem dX4_addBattery_54 : decode cX4_addBattery 54 = .ok (.aload_n 0, 1) := by decide +kernel
theorem dX4_addBattery_55 : decode cX4_addBattery 55 = .ok (.getfield 103, 3) := by decide +kernel
theorem dX4_addBattery_58 : decode cX4_addBattery 58 = .ok (.ifCond .le 5, 3) := by decide +kernel
theorem dX4_addBattery_61 : decode cX4_addBattery 61 = .ok (.iconst 0, 1) := by decide +kernel
theorem dX4_addBattery_62 : decode cX4_addBattery 62 = .ok (.ireturn, 1) := by decide +kernel
theorem dX4_addBattery_63 : decode cX4_addBattery 63 = .ok (.aload_n 0, 1) := by decide +kernel
theorem dX4_addBattery_64 : decode cX4_addBattery 64 = .ok (.getfield 39, 3) := by decide +kernel
theorem dX4_addBattery_67 : decode cX4_addBattery 67 = .ok (.aload_n 0, 1) := by decide +kernel
theorem dX4_addBattery_68 : decode cX4_addBattery 68 = .ok (.getfield 116, 3) := by decide +kernel
theorem dX4_addBattery_71 : decode cX4_addBattery 71 = .ok (.iload_n 1, 1) := by decide +kernel
theorem dX4_addBattery_72 : decode cX4_addBattery 72 = .ok (.iastore, 1) := by decide +kernel
theorem dX4_addBattery_73 : decode cX4_addBattery 73 = .ok (.aload_n 0, 1) := by decide +kernel
theorem dX4_addBattery_74 : decode cX4_addBattery 74 = .ok (.getfield 42, 3) := by decide +kernel
theorem dX4_addBattery_77 : decode cX4_addBattery 77 = .ok (.aload_n 0, 1) := by decide +kernel
theorem dX4_addBattery_78 : decode cX4_addBattery 78 = .ok (.getfield 116, 3) := by decide +kernel
theorem dX4_addBattery_81 : decode cX4_addBattery 81 = .ok (.iload_n 1, 1) := by decide +kernel
theorem dX4_addBattery_82 : decode cX4_addBattery 82 = .ok (.iastore, 1) := by decide +kernel
theorem dX4_addBattery_83 : decode cX4_addBattery 83 = .ok (.aload_n 0, 1) := by decide +kernel
theorem dX4_addBattery_84 : decode cX4_addBattery 84 = .ok (.getfield 45, 3) := by decide +kernel
theorem dX4_addBattery_87 : decode cX4_addBattery 87 = .ok (.aload_n 0, 1) := by decide +kernel
theorem dX4_addBattery_88 : decode cX4_addBattery 88 = .ok (.getfield 116, 3) := by decide +kernel
theorem dX4_addBattery_91 : decode cX4_addBattery 91 = .ok (.iload_n 2, 1) := by decide +kernel
theorem dX4_addBattery_92 : decode cX4_addBattery 92 = .ok (.iastore, 1) := by decide +kernel
theorem dX4_addBattery_93 : decode cX4_addBattery 93 = .ok (.aload_n 0, 1) := by decide +kernel
theorem dX4_addBattery_94 : decode cX4_addBattery 94 = .ok (.getfield 48, 3) := by decide +kernel
theorem dX4_addBattery_97 : decode cX4_addBattery 97 = .ok (.aload_n 0, 1) := by decide +kernel
theorem dX4_addBattery_98 : decode cX4_addBattery 98 = .ok (.getfield 116, 3) := by decide +kernel
theorem dX4_addBattery_101 : decode cX4_addBattery 101 = .ok (.iload_n 3, 1) := by decide +kernel
theorem dX4_addBattery_102 : decode cX4_addBattery 102 = .ok (.iastore, 1) := by decide +kernel
theorem dX4_addBattery_103 : decode cX4_addBattery 103 = .ok (.aload_n 0, 1) := by decide +kernel
theorem dX4_addBattery_104 : decode cX4_addBattery 104 = .ok (.dup, 1) := by decide +kernel
theorem dX4_addBattery_105 : decode cX4_addBattery 105 = .ok (.getfield 116, 3) := by decide +kernel
theorem dX4_addBattery_108 : decode cX4_addBattery 108 = .ok (.iconst 1, 1) := by decide +kernel
theorem dX4_addBattery_109 : decode cX4_addBattery 109 = .ok (.iadd, 1) := by decide +kernel
theorem dX4_addBattery_110 : decode cX4_addBattery 110 = .ok (.putfield 116, 3) := by decide +kernel
theorem dX4_addBattery_113 : decode cX4_addBattery 113 = .ok (.aload_n 0, 1) := by decide +kernel
theorem dX4_addBattery_114 : decode cX4_addBattery 114 = .ok (.getfield 116, 3) := by decide +kernel
theorem dX4_addBattery_117 : decode cX4_addBattery 117 = .ok (.iconst 1, 1) := by decide +kernel
theorem dX4_addBattery_118 : decode cX4_addBattery 118 = .ok (.isub, 1) := by decide +kernel
theorem dX4_addBattery_119 : decode cX4_addBattery 119 = .ok (.ireturn, 1) := by decide +kernel
set_option maxRecDepth 20000 in
theorem ggX4_addGenerator_X4_in : GoodIn wsX4_addGenerator wsX4_in := goodIn_r _ [10] (by decide +kernel) (by decide +kernel)
set_option maxRecDepth 20000 in
theorem gX4_addGenerator_X4_in : GoodIn wsX4_addGenerator (va_wsS RX4 109 yX4_in wsX4_in) := goodIn_app (goodIn_of _ (by decide +kernel)) ggX4_addGenerator_X4_in
theorem dX4_addGenerator_0 : decode cX4_addGenerator 0 = .ok (.aload_n 0, 1) := by decide +kernel
theorem dX4_addGenerator_1 : decode cX4_addGenerator 1 = .ok (.iload_n 1, 1) := by decide +kernel
theorem dX4_addGenerator_2 : decode cX4_addGenerator 2 = .ok (.iconst 1, 1) := by decide +kernel
theorem dX4_addGenerator_3 : decode cX4_addGenerator 3 = .ok (.sipush 1000, 3) := by decide +kernel
theorem dX4_addGenerator_6 : decode cX4_addGenerator 6 = .ok (.invokestatic 109, 3) := by decide +kernel
theorem dX4_addGenerator_9 : decode cX4_addGenerator 9 = .ok (.ifCond .eq 24, 3) := by decide +kernel
theorem dX4_addGenerator_12 : decode cX4_addGenerator 12 = .ok (.iload_n 2, 1) := by decide +kernel
theorem dX4_addGenerator_13 : decode cX4_addGenerator 13 = .ok (.iconst 1, 1) := by decide +kernel
theorem dX4_addGenerator_14 : decode cX4_addGenerator 14 = .ok (.bipush 10, 2) := by decide +kernel
theorem dX4_addGenerator_16 : decode cX4_addGenerator 16 = .ok (.invokestatic 109, 3) := by decide +kernel
theorem dX4_addGenerator_19 : decode cX4_addGenerator 19 = .ok (.ifCond .eq 14, 3) := by decide +kernel
theorem dX4_addGenerator_22 : decode cX4_addGenerator 22 = .ok (.iload_n 3, 1) := by decide +kernel
theorem dX4_addGenerator_23 : decode cX4_addGenerator 23 = .ok (.iconst 1, 1) := by decide +kernel
theorem dX4_addGenerator_24 : decode cX4_addGenerator 24 = .ok (.sipush 1000, 3) := by decide +kernel
theorem dX4_addGenerator_27 : decode cX4_addGenerator 27 = .ok (.invokestatic 109, 3) := by decide +kernel
theorem dX4_addGenerator_30 : decode cX4_addGenerator 30 = .ok (.ifCond .ne 7, 3) := by decide +kernel
theorem dX4_addGenerator_33 : decode cX4_addGenerator 33 = .ok (.iconst 1, 1) := by decide +kernel
theorem dX4_addGenerator_34 : decode cX4_addGenerator 34 = .ok (.goto 16, 3) := by decide +kernel
theorem dX4_addGenerator_37 : decode cX4_addGenerator 37 = .ok (.aload_n 0, 1) := by decide +kernel
theorem dX4_addGenerator_38 : decode cX4_addGenerator 38 = .ok (.getfield 113, 3) := by decide +kernel
theorem dX4_addGenerator_41 : decode cX4_addGenerator 41 = .ok (.iconst 3, 1) := by decide +kernel
theorem dX4_addGenerator_42 : decode cX4_addGenerator 42 = .ok (.if_icmp .ne 7, 3) := by decide +kernel
theorem dX4_addGenerator_45 : decode cX4_addGenerator 45 = .ok (.iconst 2, 1) := by decide +kernel
theorem dX4_addGenerator_46 : decode cX4_addGenerator 46 = .ok (.goto 4, 3) := by decide +kernel
theorem dX4_addGenerator_49 : decode cX4_addGenerator 49 = .ok (.iconst 0, 1) := by decide +kernel
theorem dX4_addGenerator_50 : decode cX4_addGenerator 50 = .ok (.putfield 103, 3) := by decide +kernel
theorem dX4_addGenerator_53 : decode cX4_addGenerator 53 = .ok (.aload_n 0, 1) := by decide +kernel
theorem dX4_addGenerator_54 : decode cX4_addGenerator 54 = .ok (.getfield 103, 3) := by decide +kernel
theorem dX4_addGenerator_57 : decode cX4_addGenerator 57 = .ok (.ifCond .le 5, 3) := by decide +kernel
theorem dX4_addGenerator_60 : decode cX4_addGenerator 60 = .ok (.iconst 0, 1) := by decide +kernel
theorem dX4_addGenerator_61 : decode cX4_addGenerator 61 = .ok (.ireturn, 1) := by decide +kernel
theorem dX4_addGenerator_62 : decode cX4_addGenerator 62 = .ok (.aload_n 0, 1) := by decide +kernel
theorem dX4_addGenerator_63 : decode cX4_addGenerator 63 = .ok (.getfield 57, 3) := by decide +kernel
theorem dX4_addGenerator_66 : decode cX4_addGenerator 66 = .ok (.aload_n 0, 1) := by decide +kernel
theorem dX4_addGenerator_67 : decode cX4_addGenerator 67 = .ok (.getfield 113, 3) := by decide +kernel
theorem dX4_addGenerator_70 : decode cX4_addGenerator 70 = .ok (.iload_n 1, 1) := by decide +kernel
theorem dX4_addGenerator_71 : decode cX4_addGenerator 71 = .ok (.iastore, 1) := by decide +kernel
theorem dX4_addGenerator_72 : decode cX4_addGenerator 72 = .ok (.aload_n 0, 1) := by decide +kernel
theorem dX4_addGenerator_73 : decode cX4_addGenerator 73 = .ok (.getfield 60, 3) := by decide +kernel
theorem dX4_addGenerator_76 : decode cX4_addGenerator 76 = .ok (.aload_n 0, 1) := by decide +kernel
theorem dX4_addGenerator_77 : decode cX4_addGenerator 77 = .ok (.getfield 113, 3) := by decide +kernel
theorem dX4_addGenerator_80 : decode cX4_addGenerator 80 = .ok (.iload_n 2, 1) := by decide +kernel
theorem dX4_addGenerator_81 : decode cX4_addGenerator 81 = .ok (.iastore, 1) := by decide +kernel
theorem dX4_addGenerator_82 : decode cX4_addGenerator 82 = .ok (.aload_n 0, 1) := by decide +kernel
theorem dX4_addGenerator_83 : decode cX4_addGenerator 83 = .ok (.getfield 63, 3) := by decide +kernel
theorem dX4_addGenerator_86 : decode cX4_addGenerator 86 = .ok (.aload_n 0, 1) := by decide +kernel
theorem dX4_addGenerator_87 : decode cX4_addGenerator 87 = .ok (.getfield 113, 3) := by decide +kernel
theorem dX4_addGenerator_90 : decode cX4_addGenerator 90 = .ok (.iload_n 3, 1) := by decide +kernel
theorem dX4_addGenerator_91 : decode cX4_addGenerator 91 = .ok (.iastore, 1) := by decide +kernel
theorem dX4_addGenerator_92 : decode cX4_addGenerator 92 = .ok (.aload_n 0, 1) := by decide +kernel
theorem dX4_addGenerator_93 : decode cX4_addGenerator 93 = .ok (.getfield 66, 3) := by decide +kernel
theorem dX4_addGenerator_96 : decode cX4_addGenerator 96 = .ok (.aload_n 0, 1) := by decide +kernel
theorem dX4_addGenerator_97 : decode cX4_addGenerator 97 = .ok (.getfield 113, 3) := by decide +kernel
theorem dX4_addGenerator_100 : decode cX4_addGenerator 100 = .ok (.iload_n 3, 1) := by decide +kernel
theorem dX4_addGenerator_101 : decode cX4_addGenerator 101 = .ok (.iastore, 1) := by decide +kernel
theorem dX4_addGenerator_102 : decode cX4_addGenerator 102 = .ok (.aload_n 0, 1) := by decide +kernel
theorem dX4_addGenerator_103 : decode cX4_addGenerator 103 = .ok (.dup, 1) := by decide +kernel
theorem dX4_addGenerator_104 : decode cX4_addGenerator 104 = .ok (.getfield 113, 3) := by decide +kernel
theorem dX4_addGenerator_107 : decode cX4_addGenerator 107 = .ok (.iconst 1, 1) := by decide +kernel
theorem dX4_addGenerator_108 : decode cX4_addGenerator 108 = .ok (.iadd, 1) := by decide +kernel
theorem dX4_addGenerator_109 : decode cX4_addGenerator 109 = .ok (.putfield 113, 3) := by decide +kernel
theorem dX4_addGenerator_112 : decode cX4_addGenerator 112 = .ok (.aload_n 0, 1) := by decide +kernel
theorem dX4_addGenerator_113 : decode cX4_addGenerator 113 = .ok (.getfield 113, 3) := by decide +kernel
theorem dX4_addGenerator_116 : decode cX4_addGenerator 116 = .ok (.iconst 1, 1) := by decide +kernel
theorem dX4_addGenerator_117 : decode cX4_addGenerator 117 = .ok (.isub, 1) := by decide +kernel
theorem dX4_addGenerator_118 : decode cX4_addGenerator 118 = .ok (.ireturn, 1) := by decide +kernel
set_option maxRecDepth 20000 in
theorem ggX4_switchLoad_X4_isLoad : GoodIn wsX4_switchLoad wsX4_isLoad := goodIn_r _ [7, 8, 9, 10, 6, 11, 12, 13, 14, 15, 16, 17, 18, 19, 20, 21, 22, 23, 24, 25, 26, 27, 28, 29, 30, 31, 32, 33, 34, 35, 36, 37, 38, 39, 40, 41, 42, 43, 44, 45, 46, 47, 48, 49, 50, 51] (by decide +kernel) (by decide +kernel)
set_option maxRecDepth 20000 in
theorem gX4_switchLoad_X4_isLoad : GoodIn wsX4_switchLoad (wsV RX4 119 RX4 yX4_isLoad wsX4_isLoad) := goodIn_app (goodIn_of _ (by decide +kernel)) ggX4_switchLoad_X4_isLoad
theorem dX4_switchLoad_0 : decode cX4_switchLoad 0 = .ok (.aload_n 0, 1) := by decide +kernel
theorem dX4_switchLoad_1 : decode cX4_switchLoad 1 = .ok (.aload_n 0, 1) := by decide +kernel
theorem dX4_switchLoad_2 : decode cX4_switchLoad 2 = .ok (.iload_n 1, 1) := by decide +kernel
theorem dX4_switchLoad_3 : decode cX4_switchLoad 3 = .ok (.invokevirtual 119, 3) := by decide +kernel
theorem dX4_switchLoad_6 : decode cX4_switchLoad 6 = .ok (.ifCond .eq 7, 3) := by decide +kernel
theorem dX4_switchLoad_9 : decode cX4_switchLoad 9 = .ok (.iconst 0, 1) := by decide +kernel
theorem dX4_switchLoad_10 : decode cX4_switchLoad 10 = .ok (.goto 4, 3) := by decide +kernel
theorem dX4_switchLoad_13 : decode cX4_switchLoad 13 = .ok (.iconst 1, 1) := by decide +kernel
theorem dX4_switchLoad_14 : decode cX4_switchLoad 14 = .ok (.putfield 103, 3) := by decide +kernel
theorem dX4_switchLoad_17 : decode cX4_switchLoad 17 = .ok (.aload_n 0, 1) := by decide +kernel
theorem dX4_switchLoad_18 : decode cX4_switchLoad 18 = .ok (.getfield 103, 3) := by decide +kernel
theorem dX4_switchLoad_21 : decode cX4_switchLoad 21 = .ok (.ifCond .le 5, 3) := by decide +kernel
theorem dX4_switchLoad_24 : decode cX4_switchLoad 24 = .ok (.iconst 0, 1) := by decide +kernel
theorem dX4_switchLoad_25 : decode cX4_switchLoad 25 = .ok (.ireturn, 1) := by decide +kernel
theorem dX4_switchLoad_26 : decode cX4_switchLoad 26 = .ok (.aload_n 0, 1) := by decide +kernel
theorem dX4_switchLoad_27 : decode cX4_switchLoad 27 = .ok (.getfield 30, 3) := by decide +kernel
theorem dX4_switchLoad_30 : decode cX4_switchLoad 30 = .ok (.iload_n 1, 1) := by decide +kernel
theorem dX4_switchLoad_31 : decode cX4_switchLoad 31 = .ok (.iload_n 2, 1) := by decide +kernel
theorem dX4_switchLoad_32 : decode cX4_switchLoad 32 = .ok (.ifCond .ne 7, 3) := by decide +kernel
theorem dX4_switchLoad_35 : decode cX4_switchLoad 35 = .ok (.iconst 0, 1) := by decide +kernel
theorem dX4_switchLoad_36 : decode cX4_switchLoad 36 = .ok (.goto 22, 3) := by decide +kernel
theorem dX4_switchLoad_39 : decode cX4_switchLoad 39 = .ok (.aload_n 0, 1) := by decide +kernel
theorem dX4_switchLoad_40 : decode cX4_switchLoad 40 = .ok (.getfield 30, 3) := by decide +kernel
theorem dX4_switchLoad_43 : decode cX4_switchLoad 43 = .ok (.iload_n 1, 1) := by decide +kernel
theorem dX4_switchLoad_44 : decode cX4_switchLoad 44 = .ok (.iaload, 1) := by decide +kernel
theorem dX4_switchLoad_45 : decode cX4_switchLoad 45 = .ok (.ifCond .ne 7, 3) := by decide +kernel
theorem dX4_switchLoad_48 : decode cX4_switchLoad 48 = .ok (.iconst 2, 1) := by decide +kernel
theorem dX4_switchLoad_49 : decode cX4_switchLoad 49 = .ok (.goto 9, 3) := by decide +kernel
theorem dX4_switchLoad_52 : decode cX4_switchLoad 52 = .ok (.aload_n 0, 1) := by decide +kernel
theorem dX4_switchLoad_53 : decode cX4_switchLoad 53 = .ok (.getfield 30, 3) := by decide +kernel
theorem dX4_switchLoad_56 : decode cX4_switchLoad 56 = .ok (.iload_n 1, 1) := by decide +kernel
theorem dX4_switchLoad_57 : decode cX4_switchLoad 57 = .ok (.iaload, 1) := by decide +kernel
theorem dX4_switchLoad_58 : decode cX4_switchLoad 58 = .ok (.iastore, 1) := by decide +kernel
theorem dX4_switchLoad_59 : decode cX4_switchLoad 59 = .ok (.aload_n 0, 1) := by decide +kernel
theorem dX4_switchLoad_60 : decode cX4_switchLoad 60 = .ok (.getfield 30, 3) := by decide +kernel
theorem dX4_switchLoad_63 : decode cX4_switchLoad 63 = .ok (.iload_n 1, 1) := by decide +kernel
theorem dX4_switchLoad_64 : decode cX4_switchLoad 64 = .ok (.iaload, 1) := by decide +kernel
theorem dX4_switchLoad_65 : decode cX4_switchLoad 65 = .ok (.ireturn, 1) := by decide +kernel
set_option maxRecDepth 20000 in
theorem ggX4_setPower_X4_isLoad : GoodIn wsX4_setPower wsX4_isLoad := goodIn_r _ [7, 8, 9, 10, 6, 11, 12, 13, 14, 15, 16, 17, 18, 19, 20, 21, 22, 23, 24, 25, 26, 27, 28, 29, 30, 31, 32, 33, 34, 35, 36, 37, 38, 39, 40, 41, 42, 43, 44, 45, 46, 47, 48, 49, 50, 51] (by decide +kernel) (by decide +kernel)
set_option maxRecDepth 20000 in
theorem gX4_setPower_X4_isLoad : GoodIn wsX4_setPower (wsV RX4 119 RX4 yX4_isLoad wsX4_isLoad) := goodIn_app (goodIn_of _ (by decide +kernel)) ggX4_setPower_X4_isLoad
set_option maxRecDepth 20000 in
theorem ggX4_setPower_X4_in : GoodIn wsX4_setPower wsX4_in := goodIn_r _ [11] (by decide +kernel) (by decide +kernel)
set_option maxRecDepth 20000 in
theorem gX4_setPower_X4_in : GoodIn wsX4_setPower (va_wsS RX4 109 yX4_in wsX4_in) := goodIn_app (goodIn_of _ (by decide +kernel)) ggX4_setPower_X4_in
theorem dX4_setPower_0 : decode cX4_setPower 0 = .ok (.aload_n 0, 1) := by decide +kernel
theorem dX4_setPower_1 : decode cX4_setPower 1 = .ok (.aload_n 0, 1) := by decide +kernel
theorem dX4_setPower_2 : decode cX4_setPower 2 = .ok (.iload_n 1, 1) := by decide +kernel
theorem dX4_setPower_3 : decode cX4_setPower 3 = .ok (.invokevirtual 119, 3) := by decide +kernel
theorem dX4_setPower_6 : decode cX4_setPower 6 = .ok (.ifCond .ne 7, 3) := by decide +kernel
theorem dX4_setPower_9 : decode cX4_setPower 9 = .ok (.iconst 1, 1) := by decide +kernel
theorem dX4_setPower_10 : decode cX4_setPower 10 = .ok (.goto 19, 3) := by decide +kernel
theorem dX4_setPower_13 : decode cX4_setPower 13 = .ok (.iload_n 2, 1) := by decide +kernel
theorem dX4_setPower_14 : decode cX4_setPower 14 = .ok (.iconst 1, 1) := by decide +kernel
theorem dX4_setPower_15 : decode cX4_setPower 15 = .ok (.sipush 500, 3) := by decide +kernel
theorem dX4_setPower_18 : decode cX4_setPower 18 = .ok (.invokestatic 109, 3) := by decide +kernel
theorem dX4_setPower_21 : decode cX4_setPower 21 = .ok (.ifCond .eq 7, 3) := by decide +kernel
theorem dX4_setPower_24 : decode cX4_setPower 24 = .ok (.iconst 0, 1) := by decide +kernel
theorem dX4_setPower_25 : decode cX4_setPower 25 = .ok (.goto 4, 3) := by decide +kernel
theorem dX4_setPower_28 : decode cX4_setPower 28 = .ok (.iconst 2, 1) := by decide +kernel
theorem dX4_setPower_29 : decode cX4_setPower 29 = .ok (.putfield 103, 3) := by decide +kernel
theorem dX4_setPower_32 : decode cX4_setPower 32 = .ok (.aload_n 0, 1) := by decide +kernel
theorem dX4_setPower_33 : decode cX4_setPower 33 = .ok (.getfield 103, 3) := by decide +kernel
theorem dX4_setPower_36 : decode cX4_setPower 36 = .ok (.ifCond .le 5, 3) := by decide +kernel
theorem dX4_setPower_39 : decode cX4_setPower 39 = .ok (.iconst 0, 1) := by decide +kernel
theorem dX4_setPower_40 : decode cX4_setPower 40 = .ok (.ireturn, 1) := by decide +kernel
theorem dX4_setPower_41 : decode cX4_setPower 41 = .ok (.aload_n 0, 1) := by decide +kernel
theorem dX4_setPower_42 : decode cX4_setPower 42 = .ok (.getfield 27, 3) := by decide +kernel
theorem dX4_setPower_45 : decode cX4_setPower 45 = .ok (.iload_n 1, 1) := by decide +kernel
theorem dX4_setPower_46 : decode cX4_setPower 46 = .ok (.iaload, 1) := by decide +kernel
theorem dX4_setPower_47 : decode cX4_setPower 47 = .ok (.istore_n 3, 1) := by decide +kernel
theorem dX4_setPower_48 : decode cX4_setPower 48 = .ok (.aload_n 0, 1) := by decide +kernel
theorem dX4_setPower_49 : decode cX4_setPower 49 = .ok (.getfield 27, 3) := by decide +kernel
theorem dX4_setPower_52 : decode cX4_setPower 52 = .ok (.iload_n 1, 1) := by decide +kernel
theorem dX4_setPower_53 : decode cX4_setPower 53 = .ok (.iload_n 2, 1) := by decide +kernel
theorem dX4_setPower_54 : decode cX4_setPower 54 = .ok (.iastore, 1) := by decide +kernel
theorem dX4_setPower_55 : decode cX4_setPower 55 = .ok (.iload_n 3, 1) := by decide +kernel
theorem dX4_setPower_56 : decode cX4_setPower 56 = .ok (.ireturn, 1) := by decide +kernel
set_option maxRecDepth 20000 in
theorem ggX4_refuel_X4_isGenerator : GoodIn wsX4_refuel wsX4_isGenerator := goodIn_r _ [8, 9, 10, 11, 7, 12, 16, 17, 18, 19, 20, 21, 22, 23, 24, 25, 26, 27, 28, 29, 30, 31, 32, 33, 34, 35, 36, 37, 38, 39, 40, 41, 42, 43, 44, 45, 46, 47, 48, 49, 50, 51, 52, 53, 54, 55] (by decide +kernel) (by decide +kernel)
set_option maxRecDepth 20000 in
theorem gX4_refuel_X4_isGenerator : GoodIn wsX4_refuel (wsV RX4 123 RX4 yX4_isGenerator wsX4_isGenerator) := goodIn_app (goodIn_of _ (by decide +kernel)) ggX4_refuel_X4_isGenerator
set_option maxRecDepth 20000 in
theorem ggX4_refuel_X4_in : GoodIn wsX4_refuel wsX4_in := goodIn_r _ [12] (by decide +kernel) (by decide +kernel)
set_option maxRecDepth 20000 in
theorem gX4_refuel_X4_in : GoodIn wsX4_refuel (va_wsS RX4 109 yX4_in wsX4_in) := goodIn_app (goodIn_of _ (by decide +kernel)) ggX4_refuel_X4_in
set_option maxRecDepth 20000 in
theorem ggX4_refuel_X4_lesser : GoodIn wsX4_refuel wsX4_lesser := goodIn_r _ [15] (by decide +kernel) (by decide +kernel)
set_option maxRecDepth 20000 in
theorem gX4_refuel_X4_lesser : GoodIn wsX4_refuel (va_wsS RX4 126 yX4_lesser wsX4_lesser) := goodIn_app (goodIn_of _ (by decide +kernel)) ggX4_refuel_X4_lesser
theorem dX4_refuel_0 : decode cX4_refuel 0 = .ok (.aload_n 0, 1) := by decide +kernel
theorem dX4_refuel_1 : decode cX4_refuel 1 = .ok (.aload_n 0, 1) := by decide +kernel
theorem dX4_refuel_2 : decode cX4_refuel 2 = .ok (.iload_n 1, 1) := by decide +kernel
theorem dX4_refuel_3 : decode cX4_refuel 3 = .ok (.invokevirtual 123, 3) := by decide +kernel
theorem dX4_refuel_6 : decode cX4_refuel 6 = .ok (.ifCond .ne 7, 3) := by decide +kernel
theorem dX4_refuel_9 : decode cX4_refuel 9 = .ok (.iconst 1, 1) := by decide +kernel
theorem dX4_refuel_10 : decode cX4_refuel 10 = .ok (.goto 19, 3) := by decide +kernel
theorem dX4_refuel_13 : decode cX4_refuel 13 = .ok (.iload_n 2, 1) := by decide +kernel
theorem dX4_refuel_14 : decode cX4_refuel 14 = .ok (.iconst 1, 1) := by decide +kernel
theorem dX4_refuel_15 : decode cX4_refuel 15 = .ok (.sipush 1000, 3) := by decide +kernel
theorem dX4_refuel_18 : decode cX4_refuel 18 = .ok (.invokestatic 109, 3) := by decide +kernel
theorem dX4_refuel_21 : decode cX4_refuel 21 = .ok (.ifCond .eq 7, 3) := by decide +kernel
theorem dX4_refuel_24 : decode cX4_refuel 24 = .ok (.iconst 0, 1) := by decide +kernel
theorem dX4_refuel_25 : decode cX4_refuel 25 = .ok (.goto 4, 3) := by decide +kernel
theorem dX4_refuel_28 : decode cX4_refuel 28 = .ok (.iconst 2, 1) := by decide +kernel
theorem dX4_refuel_29 : decode cX4_refuel 29 = .ok (.putfield 103, 3) := by decide +kernel
theorem dX4_refuel_32 : decode cX4_refuel 32 = .ok (.aload_n 0, 1) := by decide +kernel
theorem dX4_refuel_33 : decode cX4_refuel 33 = .ok (.getfield 103, 3) := by decide +kernel
theorem dX4_refuel_36 : decode cX4_refuel 36 = .ok (.ifCond .le 5, 3) := by decide +kernel
theorem dX4_refuel_39 : decode cX4_refuel 39 = .ok (.iconst 0, 1) := by decide +kernel
theorem dX4_refuel_40 : decode cX4_refuel 40 = .ok (.ireturn, 1) := by decide +kernel
theorem dX4_refuel_41 : decode cX4_refuel 41 = .ok (.iload_n 2, 1) := by decide +kernel
theorem dX4_refuel_42 : decode cX4_refuel 42 = .ok (.aload_n 0, 1) := by decide +kernel
theorem dX4_refuel_43 : decode cX4_refuel 43 = .ok (.getfield 63, 3) := by decide +kernel
theorem dX4_refuel_46 : decode cX4_refuel 46 = .ok (.iload_n 1, 1) := by decide +kernel
theorem dX4_refuel_47 : decode cX4_refuel 47 = .ok (.iaload, 1) := by decide +kernel
theorem dX4_refuel_48 : decode cX4_refuel 48 = .ok (.aload_n 0, 1) := by decide +kernel
theorem dX4_refuel_49 : decode cX4_refuel 49 = .ok (.getfield 66, 3) := by decide +kernel
theorem dX4_refuel_52 : decode cX4_refuel 52 = .ok (.iload_n 1, 1) := by decide +kernel
theorem dX4_refuel_53 : decode cX4_refuel 53 = .ok (.iaload, 1) := by decide +kernel
theorem dX4_refuel_54 : decode cX4_refuel 54 = .ok (.isub, 1) := by decide +kernel
theorem dX4_refuel_55 : decode cX4_refuel 55 = .ok (.invokestatic 126, 3) := by decide +kernel
theorem dX4_refuel_58 : decode cX4_refuel 58 = .ok (.istore_n 3, 1) := by decide +kernel
theorem dX4_refuel_59 : decode cX4_refuel 59 = .ok (.aload_n 0, 1) := by decide +kernel
theorem dX4_refuel_60 : decode cX4_refuel 60 = .ok (.getfield 66, 3) := by decide +kernel
theorem dX4_refuel_63 : decode cX4_refuel 63 = .ok (.iload_n 1, 1) := by decide +kernel
theorem dX4_refuel_64 : decode cX4_refuel 64 = .ok (.dup2, 1) := by decide +kernel
theorem dX4_refuel_65 : decode cX4_refuel 65 = .ok (.iaload, 1) := by decide +kernel
theorem dX4_refuel_66 : decode cX4_refuel 66 = .ok (.iload_n 3, 1) := by decide +kernel
theorem dX4_refuel_67 : decode cX4_refuel 67 = .ok (.iadd, 1) := by decide +kernel
theorem dX4_refuel_68 : decode cX4_refuel 68 = .ok (.iastore, 1) := by decide +kernel
theorem dX4_refuel_69 : decode cX4_refuel 69 = .ok (.iload_n 3, 1) := by decide +kernel
theorem dX4_refuel_70 : decode cX4_refuel 70 = .ok (.ireturn, 1) := by decide +kernel
set_option maxRecDepth 20000 in
theorem ggX4_setFailures_X4_isGenerator : GoodIn wsX4_setFailures wsX4_isGenerator := goodIn_r _ [7, 8, 9, 10, 6, 11, 12, 13, 14, 15, 16, 17, 18, 19, 20, 21, 22, 23, 24, 25, 26, 27, 28, 29, 30, 31, 32, 33, 34, 35, 36, 37, 38, 39, 40, 41, 42, 43, 44, 45, 46, 47, 48, 49, 50, 51] (by decide +kernel) (by decide +kernel)
set_option maxRecDepth 20000 in
theorem gX4_setFailures_X4_isGenerator : GoodIn wsX4_setFailures (wsV RX4 123 RX4 yX4_isGenerator wsX4_isGenerator) := goodIn_app (goodIn_of _ (by decide +kernel)) ggX4_setFailures_X4_isGenerator
set_option maxRecDepth 20000 in
theorem ggX4_setFailures_X4_in : GoodIn wsX4_setFailures wsX4_in := goodIn_r _ [11] (by decide +kernel) (by decide +kernel)
set_option maxRecDepth 20000 in
theorem gX4_setFailures_X4_in : GoodIn wsX4_setFailures (va_wsS RX4 109 yX4_in wsX4_in) := goodIn_app (goodIn_of _ (by decide +kernel)) ggX4_setFailures_X4_in
theorem dX4_setFailures_0 : decode cX4_setFailures 0 = .ok (.aload_n 0, 1) := by decide +kernel
theorem dX4_setFailures_1 : decode cX4_setFailures 1 = .ok (.aload_n 0, 1) := by decide +kernel
theorem dX4_setFailures_2 : decode cX4_setFailures 2 = .ok (.iload_n 1, 1) := by decide +kernel
theorem dX4_setFailures_3 : decode cX4_setFailures 3 = .ok (.invokevirtual 123, 3) := by decide +kernel
theorem dX4_setFailures_6 : decode cX4_setFailures 6 = .ok (.ifCond .ne 7, 3) := by decide +kernel
theorem dX4_setFailures_9 : decode cX4_setFailures 9 = .ok (.iconst 1, 1) := by decide +kernel
theorem dX4_setFailures_10 : decode cX4_setFailures 10 = .ok (.goto 17, 3) := by decide +kernel
theorem dX4_setFailures_13 : decode cX4_setFailures 13 = .ok (.iload_n 2, 1) := by decide +kernel
theorem dX4_setFailures_14 : decode cX4_setFailures 14 = .ok (.iconst 0, 1) := by decide +kernel
theorem dX4_setFailures_15 : decode cX4_setFailures 15 = .ok (.iconst 5, 1) := by decide +kernel
theorem dX4_setFailures_16 : decode cX4_setFailures 16 = .ok (.invokestatic 109, 3) := by decide +kernel
theorem dX4_setFailures_19 : decode cX4_setFailures 19 = .ok (.ifCond .eq 7, 3) := by decide +kernel
theorem dX4_setFailures_22 : decode cX4_setFailures 22 = .ok (.iconst 0, 1) := by decide +kernel
theorem dX4_setFailures_23 : decode cX4_setFailures 23 = .ok (.goto 4, 3) := by decide +kernel
theorem dX4_setFailures_26 : decode cX4_setFailures 26 = .ok (.iconst 2, 1) := by decide +kernel
theorem dX4_setFailures_27 : decode cX4_setFailures 27 = .ok (.putfield 103, 3) := by decide +kernel
theorem dX4_setFailures_30 : decode cX4_setFailures 30 = .ok (.aload_n 0, 1) := by decide +kernel
theorem dX4_setFailures_31 : decode cX4_setFailures 31 = .ok (.getfield 103, 3) := by decide +kernel
theorem dX4_setFailures_34 : decode cX4_setFailures 34 = .ok (.ifCond .le 5, 3) := by decide +kernel
theorem dX4_setFailures_37 : decode cX4_setFailures 37 = .ok (.iconst 0, 1) := by decide +kernel
theorem dX4_setFailures_38 : decode cX4_setFailures 38 = .ok (.ireturn, 1) := by decide +kernel
theorem dX4_setFailures_39 : decode cX4_setFailures 39 = .ok (.aload_n 0, 1) := by decide +kernel
theorem dX4_setFailures_40 : decode cX4_setFailures 40 = .ok (.getfield 85, 3) := by decide +kernel
theorem dX4_setFailures_43 : decode cX4_setFailures 43 = .ok (.iload_n 1, 1) := by decide +kernel
theorem dX4_setFailures_44 : decode cX4_setFailures 44 = .ok (.iaload, 1) := by decide +kernel
theorem dX4_setFailures_45 : decode cX4_setFailures 45 = .ok (.istore_n 3, 1) := by decide +kernel
theorem dX4_setFailures_46 : decode cX4_setFailures 46 = .ok (.aload_n 0, 1) := by decide +kernel
theorem dX4_setFailures_47 : decode cX4_setFailures 47 = .ok (.getfield 85, 3) := by decide +kernel
theorem dX4_setFailures_50 : decode cX4_setFailures 50 = .ok (.iload_n 1, 1) := by decide +kernel
theorem dX4_setFailures_51 : decode cX4_setFailures 51 = .ok (.iload_n 2, 1) := by decide +kernel
theorem dX4_setFailures_52 : decode cX4_setFailures 52 = .ok (.iastore, 1) := by decide +kernel
theorem dX4_setFailures_53 : decode cX4_setFailures 53 = .ok (.iload_n 3, 1) := by decide +kernel
theorem dX4_setFailures_54 : decode cX4_setFailures 54 = .ok (.ireturn, 1) := by decide +kernel
set_option maxRecDepth 20000 in
theorem ggX4_setTests_X4_isGenerator : GoodIn wsX4_setTests wsX4_isGenerator := goodIn_r _ [8, 9, 10, 11, 7, 12, 13, 14, 15, 16, 17, 18, 19, 20, 21, 22, 23, 24, 25, 26, 27, 28, 29, 30, 31, 32, 33, 34, 35, 36, 37, 38, 39, 40, 41, 42, 43, 44, 45, 46, 47, 48, 49, 50, 51, 52] (by decide +kernel) (by decide +kernel)
set_option maxRecDepth 20000 in
theorem gX4_setTests_X4_isGenerator : GoodIn wsX4_setTests (wsV RX4 123 RX4 yX4_isGenerator wsX4_isGenerator) := goodIn_app (goodIn_of _ (by decide +kernel)) ggX4_setTests_X4_isGenerator
set_option maxRecDepth 20000 in
theorem ggX4_setTests_X4_in : GoodIn wsX4_setTests wsX4_in := goodIn_r _ [12] (by decide +kernel) (by decide +kernel)
set_option maxRecDepth 20000 in
theorem gX4_setTests_X4_in : GoodIn wsX4_setTests (va_wsS RX4 109 yX4_in wsX4_in) := goodIn_app (goodIn_of _ (by decide +kernel)) ggX4_setTests_X4_in
theorem dX4_setTests_0 : decode cX4_setTests 0 = .ok (.aload_n 0, 1) := by decide +kernel
theorem dX4_setTests_1 : decode cX4_setTests 1 = .ok (.aload_n 0, 1) := by decide +kernel
theorem dX4_setTests_2 : decode cX4_setTests 2 = .ok (.iload_n 1, 1) := by decide +kernel
theorem dX4_setTests_3 : decode cX4_setTests 3 = .ok (.invokevirtual 123, 3) := by decide +kernel
theorem dX4_setTests_6 : decode cX4_setTests 6 = .ok (.ifCond .ne 7, 3) := by decide +kernel
theorem dX4_setTests_9 : decode cX4_setTests 9 = .ok (.iconst 1, 1) := by decide +kernel
theorem dX4_setTests_10 : decode cX4_setTests 10 = .ok (.goto 29, 3) := by decide +kernel
theorem dX4_setTests_13 : decode cX4_setTests 13 = .ok (.iload_n 2, 1) := by decide +kernel
theorem dX4_setTests_14 : decode cX4_setTests 14 = .ok (.iconst 0, 1) := by decide +kernel
theorem dX4_setTests_15 : decode cX4_setTests 15 = .ok (.sipush 10000, 3) := by decide +kernel
theorem dX4_setTests_18 : decode cX4_setTests 18 = .ok (.invokestatic 109, 3) := by decide +kernel
theorem dX4_setTests_21 : decode cX4_setTests 21 = .ok (.ifCond .eq 17, 3) := by decide +kernel
theorem dX4_setTests_24 : decode cX4_setTests 24 = .ok (.iload_n 3, 1) := by decide +kernel
theorem dX4_setTests_25 : decode cX4_setTests 25 = .ok (.iconst 1, 1) := by decide +kernel
theorem dX4_setTests_26 : decode cX4_setTests 26 = .ok (.bipush 60, 2) := by decide +kernel
theorem dX4_setTests_28 : decode cX4_setTests 28 = .ok (.invokestatic 109, 3) := by decide +kernel
theorem dX4_setTests_31 : decode cX4_setTests 31 = .ok (.ifCond .eq 7, 3) := by decide +kernel
theorem dX4_setTests_34 : decode cX4_setTests 34 = .ok (.iconst 0, 1) := by decide +kernel
theorem dX4_setTests_35 : decode cX4_setTests 35 = .ok (.goto 4, 3) := by decide +kernel
theorem dX4_setTests_38 : decode cX4_setTests 38 = .ok (.iconst 2, 1) := by decide +kernel
theorem dX4_setTests_39 : decode cX4_setTests 39 = .ok (.putfield 103, 3) := by decide +kernel
theorem dX4_setTests_42 : decode cX4_setTests 42 = .ok (.aload_n 0, 1) := by decide +kernel
theorem dX4_setTests_43 : decode cX4_setTests 43 = .ok (.getfield 103, 3) := by decide +kernel
theorem dX4_setTests_46 : decode cX4_setTests 46 = .ok (.ifCond .le 5, 3) := by decide +kernel
theorem dX4_setTests_49 : decode cX4_setTests 49 = .ok (.iconst 0, 1) := by decide +kernel
theorem dX4_setTests_50 : decode cX4_setTests 50 = .ok (.ireturn, 1) := by decide +kernel
theorem dX4_setTests_51 : decode cX4_setTests 51 = .ok (.aload_n 0, 1) := by decide +kernel
theorem dX4_setTests_52 : decode cX4_setTests 52 = .ok (.getfield 88, 3) := by decide +kernel
theorem dX4_setTests_55 : decode cX4_setTests 55 = .ok (.iload_n 1, 1) := by decide +kernel
theorem dX4_setTests_56 : decode cX4_setTests 56 = .ok (.iaload, 1) := by decide +kernel
theorem dX4_setTests_57 : decode cX4_setTests 57 = .ok (.istore 4, 2) := by decide +kernel
theorem dX4_setTests_59 : decode cX4_setTests 59 = .ok (.aload_n 0, 1) := by decide +kernel
theorem dX4_setTests_60 : decode cX4_setTests 60 = .ok (.getfield 88, 3) := by decide +kernel
theorem dX4_setTests_63 : decode cX4_setTests 63 = .ok (.iload_n 1, 1) := by decide +kernel
theorem dX4_setTests_64 : decode cX4_setTests 64 = .ok (.iload_n 2, 1) := by decide +kernel
theorem dX4_setTests_65 : decode cX4_setTests 65 = .ok (.iastore, 1) := by decide +kernel
theorem dX4_setTests_66 : decode cX4_setTests 66 = .ok (.aload_n 0, 1) := by decide +kernel
theorem dX4_setTests_67 : decode cX4_setTests 67 = .ok (.getfield 91, 3) := by decide +kernel
theorem dX4_setTests_70 : decode cX4_setTests 70 = .ok (.iload_n 1, 1) := by decide +kernel
theorem dX4_setTests_71 : decode cX4_setTests 71 = .ok (.iload_n 3, 1) := by decide +kernel
theorem dX4_setTests_72 : decode cX4_setTests 72 = .ok (.iastore, 1) := by decide +kernel
theorem dX4_setTests_73 : decode cX4_setTests 73 = .ok (.iload 4, 2) := by decide +kernel
theorem dX4_setTests_75 : decode cX4_setTests 75 = .ok (.ireturn, 1) := by decide +kernel
set_option maxRecDepth 20000 in
theorem ggX4_setTimes_X4_in : GoodIn wsX4_setTimes wsX4_in := goodIn_r _ [7] (by decide +kernel) (by decide +kernel)
set_option maxRecDepth 20000 in
theorem gX4_setTimes_X4_in : GoodIn wsX4_setTimes (va_wsS RX4 109 yX4_in wsX4_in) := goodIn_app (goodIn_of _ (by decide +kernel)) ggX4_setTimes_X4_in
theorem dX4_setTimes_0 : decode cX4_setTimes 0 = .ok (.aload_n 0, 1) := by decide +kernel
theorem dX4_setTimes_1 : decode cX4_setTimes 1 = .ok (.iload_n 1, 1) := by decide +kernel
theorem dX4_setTimes_2 : decode cX4_setTimes 2 = .ok (.iconst 0, 1) := by decide +kernel
theorem dX4_setTimes_3 : decode cX4_setTimes 3 = .ok (.bipush 30, 2) := by decide +kernel
theorem dX4_setTimes_5 : decode cX4_setTimes 5 = .ok (.invokestatic 109, 3) := by decide +kernel
theorem dX4_setTimes_8 : decode cX4_setTimes 8 = .ok (.ifCond .eq 17, 3) := by decide +kernel
theorem dX4_setTimes_11 : decode cX4_setTimes 11 = .ok (.iload_n 2, 1) := by decide +kernel
theorem dX4_setTimes_12 : decode cX4_setTimes 12 = .ok (.iconst 1, 1) := by decide +kernel
theorem dX4_setTimes_13 : decode cX4_setTimes 13 = .ok (.bipush 10, 2) := by decide +kernel
theorem dX4_setTimes_15 : decode cX4_setTimes 15 = .ok (.invokestatic 109, 3) := by decide +kernel
theorem dX4_setTimes_18 : decode cX4_setTimes 18 = .ok (.ifCond .eq 7, 3) := by decide +kernel
theorem dX4_setTimes_21 : decode cX4_setTimes 21 = .ok (.iconst 0, 1) := by decide +kernel
theorem dX4_setTimes_22 : decode cX4_setTimes 22 = .ok (.goto 4, 3) := by decide +kernel
theorem dX4_setTimes_25 : decode cX4_setTimes 25 = .ok (.iconst 1, 1) := by decide +kernel
theorem dX4_setTimes_26 : decode cX4_setTimes 26 = .ok (.putfield 103, 3) := by decide +kernel
theorem dX4_setTimes_29 : decode cX4_setTimes 29 = .ok (.aload_n 0, 1) := by decide +kernel
theorem dX4_setTimes_30 : decode cX4_setTimes 30 = .ok (.getfield 103, 3) := by decide +kernel
theorem dX4_setTimes_33 : decode cX4_setTimes 33 = .ok (.ifCond .le 5, 3) := by decide +kernel
theorem dX4_setTimes_36 : decode cX4_setTimes 36 = .ok (.iconst 0, 1) := by decide +kernel
theorem dX4_setTimes_37 : decode cX4_setTimes 37 = .ok (.ireturn, 1) := by decide +kernel
theorem dX4_setTimes_38 : decode cX4_setTimes 38 = .ok (.aload_n 0, 1) := by decide +kernel
theorem dX4_setTimes_39 : decode cX4_setTimes 39 = .ok (.getfield 13, 3) := by decide +kernel
theorem dX4_setTimes_42 : decode cX4_setTimes 42 = .ok (.istore_n 3, 1) := by decide +kernel
theorem dX4_setTimes_43 : decode cX4_setTimes 43 = .ok (.aload_n 0, 1) := by decide +kernel
theorem dX4_setTimes_44 : decode cX4_setTimes 44 = .ok (.iload_n 1, 1) := by decide +kernel
theorem dX4_setTimes_45 : decode cX4_setTimes 45 = .ok (.putfield 13, 3) := by decide +kernel
theorem dX4_setTimes_48 : decode cX4_setTimes 48 = .ok (.aload_n 0, 1) := by decide +kernel
theorem dX4_setTimes_49 : decode cX4_setTimes 49 = .ok (.iload_n 2, 1) := by decide +kernel
theorem dX4_setTimes_50 : decode cX4_setTimes 50 = .ok (.putfield 17, 3) := by decide +kernel
theorem dX4_setTimes_53 : decode cX4_setTimes 53 = .ok (.iload_n 3, 1) := by decide +kernel
theorem dX4_setTimes_54 : decode cX4_setTimes 54 = .ok (.ireturn, 1) := by decide +kernel
theorem dX4_setMains_0 : decode cX4_setMains 0 = .ok (.aload_n 0, 1) := by decide +kernel
theorem dX4_setMains_1 : decode cX4_setMains 1 = .ok (.iconst 0, 1) := by decide +kernel
theorem dX4_setMains_2 : decode cX4_setMains 2 = .ok (.putfield 103, 3) := by decide +kernel
theorem dX4_setMains_5 : decode cX4_setMains 5 = .ok (.aload_n 0, 1) := by decide +kernel
theorem dX4_setMains_6 : decode cX4_setMains 6 = .ok (.getfield 7, 3) := by decide +kernel
theorem dX4_setMains_9 : decode cX4_setMains 9 = .ok (.istore_n 2, 1) := by decide +kernel
theorem dX4_setMains_10 : decode cX4_setMains 10 = .ok (.aload_n 0, 1) := by decide +kernel
theorem dX4_setMains_11 : decode cX4_setMains 11 = .ok (.iload_n 1, 1) := by decide +kernel
theorem dX4_setMains_12 : decode cX4_setMains 12 = .ok (.putfield 7, 3) := by decide +kernel
theorem dX4_setMains_15 : decode cX4_setMains 15 = .ok (.iload_n 2, 1) := by decide +kernel
theorem dX4_setMains_16 : decode cX4_setMains 16 = .ok (.ireturn, 1) := by decide +kernel
theorem dX4_beginsToStart_0 : decode cX4_beginsToStart 0 = .ok (.aload_n 0, 1) := by decide +kernel
theorem dX4_beginsToStart_1 : decode cX4_beginsToStart 1 = .ok (.getfield 7, 3) := by decide +kernel
theorem dX4_beginsToStart_4 : decode cX4_beginsToStart 4 = .ok (.ifCond .ne 18, 3) := by decide +kernel
theorem dX4_beginsToStart_7 : decode cX4_beginsToStart 7 = .ok (.aload_n 0, 1) := by decide +kernel
theorem dX4_beginsToStart_8 : decode cX4_beginsToStart 8 = .ok (.getfield 130, 3) := by decide +kernel
theorem dX4_beginsToStart_11 : decode cX4_beginsToStart 11 = .ok (.aload_n 0, 1) := by decide +kernel
theorem dX4_beginsToStart_12 : decode cX4_beginsToStart 12 = .ok (.getfield 13, 3) := by decide +kernel
theorem dX4_beginsToStart_15 : decode cX4_beginsToStart 15 = .ok (.if_icmp .lt 7, 3) := by decide +kernel
theorem dX4_beginsToStart_18 : decode cX4_beginsToStart 18 = .ok (.iconst 1, 1) := by decide +kernel
theorem dX4_beginsToStart_19 : decode cX4_beginsToStart 19 = .ok (.goto 4, 3) := by decide +kernel
theorem dX4_beginsToStart_22 : decode cX4_beginsToStart 22 = .ok (.iconst 0, 1) := by decide +kernel
theorem dX4_beginsToStart_23 : decode cX4_beginsToStart 23 = .ok (.istore_n 2, 1) := by decide +kernel
theorem dX4_beginsToStart_24 : decode cX4_beginsToStart 24 = .ok (.aload_n 0, 1) := by decide +kernel
theorem dX4_beginsToStart_25 : decode cX4_beginsToStart 25 = .ok (.getfield 7, 3) := by decide +kernel
theorem dX4_beginsToStart_28 : decode cX4_beginsToStart 28 = .ok (.ifCond .eq 30, 3) := by decide +kernel
theorem dX4_beginsToStart_31 : decode cX4_beginsToStart 31 = .ok (.aload_n 0, 1) := by decide +kernel
theorem dX4_beginsToStart_32 : decode cX4_beginsToStart 32 = .ok (.getfield 88, 3) := by decide +kernel
theorem dX4_beginsToStart_35 : decode cX4_beginsToStart 35 = .ok (.iload_n 1, 1) := by decide +kernel
theorem dX4_beginsToStart_36 : decode cX4_beginsToStart 36 = .ok (.iaload, 1) := by decide +kernel
theorem dX4_beginsToStart_37 : decode cX4_beginsToStart 37 = .ok (.ifCond .le 21, 3) := by decide +kernel
theorem dX4_beginsToStart_40 : decode cX4_beginsToStart 40 = .ok (.aload_n 0, 1) := by decide +kernel
theorem dX4_beginsToStart_41 : decode cX4_beginsToStart 41 = .ok (.getfield 133, 3) := by decide +kernel
theorem dX4_beginsToStart_44 : decode cX4_beginsToStart 44 = .ok (.aload_n 0, 1) := by decide +kernel
theorem dX4_beginsToStart_45 : decode cX4_beginsToStart 45 = .ok (.getfield 88, 3) := by decide +kernel
theorem dX4_beginsToStart_48 : decode cX4_beginsToStart 48 = .ok (.iload_n 1, 1) := by decide +kernel
theorem dX4_beginsToStart_49 : decode cX4_beginsToStart 49 = .ok (.iaload, 1) := by decide +kernel
theorem dX4_beginsToStart_50 : decode cX4_beginsToStart 50 = .ok (.irem, 1) := by decide +kernel
theorem dX4_beginsToStart_51 : decode cX4_beginsToStart 51 = .ok (.ifCond .ne 7, 3) := by decide +kernel
theorem dX4_beginsToStart_54 : decode cX4_beginsToStart 54 = .ok (.iconst 1, 1) := by decide +kernel
theorem dX4_beginsToStart_55 : decode cX4_beginsToStart 55 = .ok (.goto 4, 3) := by decide +kernel
theorem dX4_beginsToStart_58 : decode cX4_beginsToStart 58 = .ok (.iconst 0, 1) := by decide +kernel
theorem dX4_beginsToStart_59 : decode cX4_beginsToStart 59 = .ok (.istore_n 3, 1) := by decide +kernel
theorem dX4_beginsToStart_60 : decode cX4_beginsToStart 60 = .ok (.aload_n 0, 1) := by decide +kernel
theorem dX4_beginsToStart_61 : decode cX4_beginsToStart 61 = .ok (.getfield 66, 3) := by decide +kernel
theorem dX4_beginsToStart_64 : decode cX4_beginsToStart 64 = .ok (.iload_n 1, 1) := by decide +kernel
theorem dX4_beginsToStart_65 : decode cX4_beginsToStart 65 = .ok (.iaload, 1) := by decide +kernel
theorem dX4_beginsToStart_66 : decode cX4_beginsToStart 66 = .ok (.ifCond .le 37, 3) := by decide +kernel
theorem dX4_beginsToStart_69 : decode cX4_beginsToStart 69 = .ok (.iload_n 2, 1) := by decide +kernel
theorem dX4_beginsToStart_70 : decode cX4_beginsToStart 70 = .ok (.ifCond .ne 7, 3) := by decide +kernel
theorem dX4_beginsToStart_73 : decode cX4_beginsToStart 73 = .ok (.iload_n 3, 1) := by decide +kernel
theorem dX4_beginsToStart_74 : decode cX4_beginsToStart 74 = .ok (.ifCond .eq 29, 3) := by decide +kernel
theorem dX4_beginsToStart_77 : decode cX4_beginsToStart 77 = .ok (.aload_n 0, 1) := by decide +kernel
theorem dX4_beginsToStart_78 : decode cX4_beginsToStart 78 = .ok (.getfield 69, 3) := by decide +kernel
theorem dX4_beginsToStart_81 : decode cX4_beginsToStart 81 = .ok (.iload_n 1, 1) := by decide +kernel
theorem dX4_beginsToStart_82 : decode cX4_beginsToStart 82 = .ok (.iconst 1, 1) := by decide +kernel
theorem dX4_beginsToStart_83 : decode cX4_beginsToStart 83 = .ok (.iastore, 1) := by decide +kernel
theorem dX4_beginsToStart_84 : decode cX4_beginsToStart 84 = .ok (.aload_n 0, 1) := by decide +kernel
theorem dX4_beginsToStart_85 : decode cX4_beginsToStart 85 = .ok (.getfield 72, 3) := by decide +kernel
theorem dX4_beginsToStart_88 : decode cX4_beginsToStart 88 = .ok (.iload_n 1, 1) := by decide +kernel
theorem dX4_beginsToStart_89 : decode cX4_beginsToStart 89 = .ok (.iload_n 3, 1) := by decide +kernel
theorem dX4_beginsToStart_90 : decode cX4_beginsToStart 90 = .ok (.bastore, 1) := by decide +kernel
theorem dX4_beginsToStart_91 : decode cX4_beginsToStart 91 = .ok (.aload_n 0, 1) := by decide +kernel
theorem dX4_beginsToStart_92 : decode cX4_beginsToStart 92 = .ok (.getfield 76, 3) := by decide +kernel
theorem dX4_beginsToStart_95 : decode cX4_beginsToStart 95 = .ok (.iload_n 1, 1) := by decide +kernel
theorem dX4_beginsToStart_96 : decode cX4_beginsToStart 96 = .ok (.aload_n 0, 1) := by decide +kernel
theorem dX4_beginsToStart_97 : decode cX4_beginsToStart 97 = .ok (.getfield 60, 3) := by decide +kernel
theorem dX4_beginsToStart_100 : decode cX4_beginsToStart 100 = .ok (.iload_n 1, 1) := by decide +kernel
theorem dX4_beginsToStart_101 : decode cX4_beginsToStart 101 = .ok (.iaload, 1) := by decide +kernel
theorem dX4_beginsToStart_102 : decode cX4_beginsToStart 102 = .ok (.iastore, 1) := by decide +kernel
theorem dX4_beginsToStart_103 : decode cX4_beginsToStart 103 = .ok (.return_, 1) := by decide +kernel
theorem dX4_stops_0 : decode cX4_stops 0 = .ok (.aload_n 0, 1) := by decide +kernel
theorem dX4_stops_1 : decode cX4_stops 1 = .ok (.getfield 69, 3) := by decide +kernel
theorem dX4_stops_4 : decode cX4_stops 4 = .ok (.iload_n 1, 1) := by decide +kernel
theorem dX4_stops_5 : decode cX4_stops 5 = .ok (.iconst 0, 1) := by decide +kernel
theorem dX4_stops_6 : decode cX4_stops 6 = .ok (.iastore, 1) := by decide +kernel
theorem dX4_stops_7 : decode cX4_stops 7 = .ok (.aload_n 0, 1) := by decide +kernel
theorem dX4_stops_8 : decode cX4_stops 8 = .ok (.getfield 72, 3) := by decide +kernel
theorem dX4_stops_11 : decode cX4_stops 11 = .ok (.iload_n 1, 1) := by decide +kernel
theorem dX4_stops_12 : decode cX4_stops 12 = .ok (.iconst 0, 1) := by decide +kernel
theorem dX4_stops_13 : decode cX4_stops 13 = .ok (.bastore, 1) := by decide +kernel
theorem dX4_stops_14 : decode cX4_stops 14 = .ok (.return_, 1) := by decide +kernel
set_option maxRecDepth 20000 in
theorem ggX4_goesOnStarting_X4_stops : GoodIn wsX4_goesOnStarting wsX4_stops := goodIn_r _ [12, 6, 5, 13, 14, 15, 16, 17, 18, 19, 20, 21, 22, 23, 24, 25, 26, 27, 28, 29, 30, 31, 32, 33, 34, 35, 36, 37, 38, 39, 40, 41, 42, 43, 44, 45, 46, 47, 48, 49, 50, 51, 52] (by decide +kernel) (by decide +kernel)
set_option maxRecDepth 20000 in
theorem gX4_goesOnStarting_X4_stops : GoodIn wsX4_goesOnStarting (wsV RX4 136 RX4 yX4_stops wsX4_stops) := goodIn_app (goodIn_of _ (by decide +kernel)) ggX4_goesOnStarting_X4_stops
theorem dX4_goesOnStarting_0 : decode cX4_goesOnStarting 0 = .ok (.aload_n 0, 1) := by decide +kernel
theorem dX4_goesOnStarting_1 : decode cX4_goesOnStarting 1 = .ok (.getfield 76, 3) := by decide +kernel
theorem dX4_goesOnStarting_4 : decode cX4_goesOnStarting 4 = .ok (.iload_n 1, 1) := by decide +kernel
theorem dX4_goesOnStarting_5 : decode cX4_goesOnStarting 5 = .ok (.dup2, 1) := by decide +kernel
theorem dX4_goesOnStarting_6 : decode cX4_goesOnStarting 6 = .ok (.iaload, 1) := by decide +kernel
theorem dX4_goesOnStarting_7 : decode cX4_goesOnStarting 7 = .ok (.iconst 1, 1) := by decide +kernel
theorem dX4_goesOnStarting_8 : decode cX4_goesOnStarting 8 = .ok (.isub, 1) := by decide +kernel
theorem dX4_goesOnStarting_9 : decode cX4_goesOnStarting 9 = .ok (.iastore, 1) := by decide +kernel
theorem dX4_goesOnStarting_10 : decode cX4_goesOnStarting 10 = .ok (.aload_n 0, 1) := by decide +kernel
theorem dX4_goesOnStarting_11 : decode cX4_goesOnStarting 11 = .ok (.getfield 76, 3) := by decide +kernel
theorem dX4_goesOnStarting_14 : decode cX4_goesOnStarting 14 = .ok (.iload_n 1, 1) := by decide +kernel
theorem dX4_goesOnStarting_15 : decode cX4_goesOnStarting 15 = .ok (.iaload, 1) := by decide +kernel
theorem dX4_goesOnStarting_16 : decode cX4_goesOnStarting 16 = .ok (.ifCond .le 4, 3) := by decide +kernel
theorem dX4_goesOnStarting_19 : decode cX4_goesOnStarting 19 = .ok (.return_, 1) := by decide +kernel
theorem dX4_goesOnStarting_20 : decode cX4_goesOnStarting 20 = .ok (.aload_n 0, 1) := by decide +kernel
theorem dX4_goesOnStarting_21 : decode cX4_goesOnStarting 21 = .ok (.getfield 85, 3) := by decide +kernel
theorem dX4_goesOnStarting_24 : decode cX4_goesOnStarting 24 = .ok (.iload_n 1, 1) := by decide +kernel
theorem dX4_goesOnStarting_25 : decode cX4_goesOnStarting 25 = .ok (.iaload, 1) := by decide +kernel
theorem dX4_goesOnStarting_26 : decode cX4_goesOnStarting 26 = .ok (.ifCond .le 54, 3) := by decide +kernel
theorem dX4_goesOnStarting_29 : decode cX4_goesOnStarting 29 = .ok (.aload_n 0, 1) := by decide +kernel
theorem dX4_goesOnStarting_30 : decode cX4_goesOnStarting 30 = .ok (.getfield 85, 3) := by decide +kernel
theorem dX4_goesOnStarting_33 : decode cX4_goesOnStarting 33 = .ok (.iload_n 1, 1) := by decide +kernel
theorem dX4_goesOnStarting_34 : decode cX4_goesOnStarting 34 = .ok (.dup2, 1) := by decide +kernel
theorem dX4_goesOnStarting_35 : decode cX4_goesOnStarting 35 = .ok (.iaload, 1) := by decide +kernel
theorem dX4_goesOnStarting_36 : decode cX4_goesOnStarting 36 = .ok (.iconst 1, 1) := by decide +kernel
theorem dX4_goesOnStarting_37 : decode cX4_goesOnStarting 37 = .ok (.isub, 1) := by decide +kernel
theorem dX4_goesOnStarting_38 : decode cX4_goesOnStarting 38 = .ok (.iastore, 1) := by decide +kernel
theorem dX4_goesOnStarting_39 : decode cX4_goesOnStarting 39 = .ok (.aload_n 0, 1) := by decide +kernel
theorem dX4_goesOnStarting_40 : decode cX4_goesOnStarting 40 = .ok (.getfield 94, 3) := by decide +kernel
theorem dX4_goesOnStarting_43 : decode cX4_goesOnStarting 43 = .ok (.iload_n 1, 1) := by decide +kernel
theorem dX4_goesOnStarting_44 : decode cX4_goesOnStarting 44 = .ok (.dup2, 1) := by decide +kernel
theorem dX4_goesOnStarting_45 : decode cX4_goesOnStarting 45 = .ok (.iaload, 1) := by decide +kernel
theorem dX4_goesOnStarting_46 : decode cX4_goesOnStarting 46 = .ok (.iconst 1, 1) := by decide +kernel
theorem dX4_goesOnStarting_47 : decode cX4_goesOnStarting 47 = .ok (.iadd, 1) := by decide +kernel
theorem dX4_goesOnStarting_48 : decode cX4_goesOnStarting 48 = .ok (.iastore, 1) := by decide +kernel
theorem dX4_goesOnStarting_49 : decode cX4_goesOnStarting 49 = .ok (.aload_n 0, 1) := by decide +kernel
theorem dX4_goesOnStarting_50 : decode cX4_goesOnStarting 50 = .ok (.getfield 100, 3) := by decide +kernel
theorem dX4_goesOnStarting_53 : decode cX4_goesOnStarting 53 = .ok (.iload_n 1, 1) := by decide +kernel
theorem dX4_goesOnStarting_54 : decode cX4_goesOnStarting 54 = .ok (.dup2, 1) := by decide +kernel
theorem dX4_goesOnStarting_55 : decode cX4_goesOnStarting 55 = .ok (.iaload, 1) := by decide +kernel
theorem dX4_goesOnStarting_56 : decode cX4_goesOnStarting 56 = .ok (.aload_n 0, 1) := by decide +kernel
theorem dX4_goesOnStarting_57 : decode cX4_goesOnStarting 57 = .ok (.getfield 72, 3) := by decide +kernel
theorem dX4_goesOnStarting_60 : decode cX4_goesOnStarting 60 = .ok (.iload_n 1, 1) := by decide +kernel
theorem dX4_goesOnStarting_61 : decode cX4_goesOnStarting 61 = .ok (.baload, 1) := by decide +kernel
theorem dX4_goesOnStarting_62 : decode cX4_goesOnStarting 62 = .ok (.ifCond .eq 7, 3) := by decide +kernel
theorem dX4_goesOnStarting_65 : decode cX4_goesOnStarting 65 = .ok (.iconst 1, 1) := by decide +kernel
theorem dX4_goesOnStarting_66 : decode cX4_goesOnStarting 66 = .ok (.goto 4, 3) := by decide +kernel
theorem dX4_goesOnStarting_69 : decode cX4_goesOnStarting 69 = .ok (.iconst 0, 1) := by decide +kernel
theorem dX4_goesOnStarting_70 : decode cX4_goesOnStarting 70 = .ok (.iadd, 1) := by decide +kernel
theorem dX4_goesOnStarting_71 : decode cX4_goesOnStarting 71 = .ok (.iastore, 1) := by decide +kernel
theorem dX4_goesOnStarting_72 : decode cX4_goesOnStarting 72 = .ok (.aload_n 0, 1) := by decide +kernel
theorem dX4_goesOnStarting_73 : decode cX4_goesOnStarting 73 = .ok (.iload_n 1, 1) := by decide +kernel
theorem dX4_goesOnStarting_74 : decode cX4_goesOnStarting 74 = .ok (.invokevirtual 136, 3) := by decide +kernel
theorem dX4_goesOnStarting_77 : decode cX4_goesOnStarting 77 = .ok (.goto 17, 3) := by decide +kernel
theorem dX4_goesOnStarting_80 : decode cX4_goesOnStarting 80 = .ok (.aload_n 0, 1) := by decide +kernel
theorem dX4_goesOnStarting_81 : decode cX4_goesOnStarting 81 = .ok (.getfield 69, 3) := by decide +kernel
theorem dX4_goesOnStarting_84 : decode cX4_goesOnStarting 84 = .ok (.iload_n 1, 1) := by decide +kernel
theorem dX4_goesOnStarting_85 : decode cX4_goesOnStarting 85 = .ok (.iconst 2, 1) := by decide +kernel
theorem dX4_goesOnStarting_86 : decode cX4_goesOnStarting 86 = .ok (.iastore, 1) := by decide +kernel
theorem dX4_goesOnStarting_87 : decode cX4_goesOnStarting 87 = .ok (.aload_n 0, 1) := by decide +kernel
theorem dX4_goesOnStarting_88 : decode cX4_goesOnStarting 88 = .ok (.getfield 79, 3) := by decide +kernel
theorem dX4_goesOnStarting_91 : decode cX4_goesOnStarting 91 = .ok (.iload_n 1, 1) := by decide +kernel
theorem dX4_goesOnStarting_92 : decode cX4_goesOnStarting 92 = .ok (.iconst 0, 1) := by decide +kernel
theorem dX4_goesOnStarting_93 : decode cX4_goesOnStarting 93 = .ok (.iastore, 1) := by decide +kernel
theorem dX4_goesOnStarting_94 : decode cX4_goesOnStarting 94 = .ok (.return_, 1) := by decide +kernel
set_option maxRecDepth 20000 in
theorem ggX4_goesOnRunning_X4_stops : GoodIn wsX4_goesOnRunning wsX4_stops := goodIn_r _ [10, 11, 1, 12, 13, 14, 15, 16, 17, 18, 19, 20, 21, 22, 23, 24, 25, 26, 27, 28, 29, 30, 31, 32, 33, 34, 35, 36, 37, 38, 39, 40, 41, 42, 43, 44, 45, 46, 47, 48, 49, 50, 51] (by decide +kernel) (by decide +kernel)
set_option maxRecDepth 20000 in
theorem gX4_goesOnRunning_X4_stops : GoodIn wsX4_goesOnRunning (wsV RX4 136 RX4 yX4_stops wsX4_stops) := goodIn_app (goodIn_of _ (by decide +kernel)) ggX4_goesOnRunning_X4_stops
theorem dX4_goesOnRunning_0 : decode cX4_goesOnRunning 0 = .ok (.aload_n 0, 1) := by decide +kernel
theorem dX4_goesOnRunning_1 : decode cX4_goesOnRunning 1 = .ok (.getfield 72, 3) := by decide +kernel
theorem dX4_goesOnRunning_4 : decode cX4_goesOnRunning 4 = .ok (.iload_n 1, 1) := by decide +kernel
theorem dX4_goesOnRunning_5 : decode cX4_goesOnRunning 5 = .ok (.baload, 1) := by decide +kernel
theorem dX4_goesOnRunning_6 : decode cX4_goesOnRunning 6 = .ok (.ifCond .eq 20, 3) := by decide +kernel
theorem dX4_goesOnRunning_9 : decode cX4_goesOnRunning 9 = .ok (.aload_n 0, 1) := by decide +kernel
theorem dX4_goesOnRunning_10 : decode cX4_goesOnRunning 10 = .ok (.getfield 7, 3) := by decide +kernel
theorem dX4_goesOnRunning_13 : decode cX4_goesOnRunning 13 = .ok (.ifCond .ne 13, 3) := by decide +kernel
theorem dX4_goesOnRunning_16 : decode cX4_goesOnRunning 16 = .ok (.aload_n 0, 1) := by decide +kernel
theorem dX4_goesOnRunning_17 : decode cX4_goesOnRunning 17 = .ok (.getfield 72, 3) := by decide +kernel
theorem dX4_goesOnRunning_20 : decode cX4_goesOnRunning 20 = .ok (.iload_n 1, 1) := by decide +kernel
theorem dX4_goesOnRunning_21 : decode cX4_goesOnRunning 21 = .ok (.iconst 0, 1) := by decide +kernel
theorem dX4_goesOnRunning_22 : decode cX4_goesOnRunning 22 = .ok (.bastore, 1) := by decide +kernel
theorem dX4_goesOnRunning_23 : decode cX4_goesOnRunning 23 = .ok (.goto 66, 3) := by decide +kernel
theorem dX4_goesOnRunning_26 : decode cX4_goesOnRunning 26 = .ok (.aload_n 0, 1) := by decide +kernel
theorem dX4_goesOnRunning_27 : decode cX4_goesOnRunning 27 = .ok (.getfield 72, 3) := by decide +kernel
theorem dX4_goesOnRunning_30 : decode cX4_goesOnRunning 30 = .ok (.iload_n 1, 1) := by decide +kernel
theorem dX4_goesOnRunning_31 : decode cX4_goesOnRunning 31 = .ok (.baload, 1) := by decide +kernel
theorem dX4_goesOnRunning_32 : decode cX4_goesOnRunning 32 = .ok (.ifCond .eq 36, 3) := by decide +kernel
theorem dX4_goesOnRunning_35 : decode cX4_goesOnRunning 35 = .ok (.aload_n 0, 1) := by decide +kernel
theorem dX4_goesOnRunning_36 : decode cX4_goesOnRunning 36 = .ok (.getfield 79, 3) := by decide +kernel
theorem dX4_goesOnRunning_39 : decode cX4_goesOnRunning 39 = .ok (.iload_n 1, 1) := by decide +kernel
theorem dX4_goesOnRunning_40 : decode cX4_goesOnRunning 40 = .ok (.iaload, 1) := by decide +kernel
theorem dX4_goesOnRunning_41 : decode cX4_goesOnRunning 41 = .ok (.aload_n 0, 1) := by decide +kernel
theorem dX4_goesOnRunning_42 : decode cX4_goesOnRunning 42 = .ok (.getfield 91, 3) := by decide +kernel
theorem dX4_goesOnRunning_45 : decode cX4_goesOnRunning 45 = .ok (.iload_n 1, 1) := by decide +kernel
theorem dX4_goesOnRunning_46 : decode cX4_goesOnRunning 46 = .ok (.iaload, 1) := by decide +kernel
theorem dX4_goesOnRunning_47 : decode cX4_goesOnRunning 47 = .ok (.if_icmp .lt 21, 3) := by decide +kernel
theorem dX4_goesOnRunning_50 : decode cX4_goesOnRunning 50 = .ok (.aload_n 0, 1) := by decide +kernel
theorem dX4_goesOnRunning_51 : decode cX4_goesOnRunning 51 = .ok (.getfield 97, 3) := by decide +kernel
theorem dX4_goesOnRunning_54 : decode cX4_goesOnRunning 54 = .ok (.iload_n 1, 1) := by decide +kernel
theorem dX4_goesOnRunning_55 : decode cX4_goesOnRunning 55 = .ok (.dup2, 1) := by decide +kernel
theorem dX4_goesOnRunning_56 : decode cX4_goesOnRunning 56 = .ok (.iaload, 1) := by decide +kernel
theorem dX4_goesOnRunning_57 : decode cX4_goesOnRunning 57 = .ok (.iconst 1, 1) := by decide +kernel
theorem dX4_goesOnRunning_58 : decode cX4_goesOnRunning 58 = .ok (.iadd, 1) := by decide +kernel
theorem dX4_goesOnRunning_59 : decode cX4_goesOnRunning 59 = .ok (.iastore, 1) := by decide +kernel
theorem dX4_goesOnRunning_60 : decode cX4_goesOnRunning 60 = .ok (.aload_n 0, 1) := by decide +kernel
theorem dX4_goesOnRunning_61 : decode cX4_goesOnRunning 61 = .ok (.iload_n 1, 1) := by decide +kernel
theorem dX4_goesOnRunning_62 : decode cX4_goesOnRunning 62 = .ok (.invokevirtual 136, 3) := by decide +kernel
theorem dX4_goesOnRunning_65 : decode cX4_goesOnRunning 65 = .ok (.goto 24, 3) := by decide +kernel
theorem dX4_goesOnRunning_68 : decode cX4_goesOnRunning 68 = .ok (.aload_n 0, 1) := by decide +kernel
theorem dX4_goesOnRunning_69 : decode cX4_goesOnRunning 69 = .ok (.getfield 72, 3) := by decide +kernel
theorem dX4_goesOnRunning_72 : decode cX4_goesOnRunning 72 = .ok (.iload_n 1, 1) := by decide +kernel
theorem dX4_goesOnRunning_73 : decode cX4_goesOnRunning 73 = .ok (.baload, 1) := by decide +kernel
theorem dX4_goesOnRunning_74 : decode cX4_goesOnRunning 74 = .ok (.ifCond .ne 15, 3) := by decide +kernel
theorem dX4_goesOnRunning_77 : decode cX4_goesOnRunning 77 = .ok (.aload_n 0, 1) := by decide +kernel
theorem dX4_goesOnRunning_78 : decode cX4_goesOnRunning 78 = .ok (.getfield 7, 3) := by decide +kernel
theorem dX4_goesOnRunning_81 : decode cX4_goesOnRunning 81 = .ok (.ifCond .eq 8, 3) := by decide +kernel
theorem dX4_goesOnRunning_84 : decode cX4_goesOnRunning 84 = .ok (.aload_n 0, 1) := by decide +kernel
theorem dX4_goesOnRunning_85 : decode cX4_goesOnRunning 85 = .ok (.iload_n 1, 1) := by decide +kernel
theorem dX4_goesOnRunning_86 : decode cX4_goesOnRunning 86 = .ok (.invokevirtual 136, 3) := by decide +kernel
theorem dX4_goesOnRunning_89 : decode cX4_goesOnRunning 89 = .ok (.return_, 1) := by decide +kernel
theorem dX4_gives_0 : decode cX4_gives 0 = .ok (.aload_n 0, 1) := by decide +kernel
theorem dX4_gives_1 : decode cX4_gives 1 = .ok (.getfield 69, 3) := by decide +kernel
theorem dX4_gives_4 : decode cX4_gives 4 = .ok (.iload_n 1, 1) := by decide +kernel
theorem dX4_gives_5 : decode cX4_gives 5 = .ok (.iaload, 1) := by decide +kernel
theorem dX4_gives_6 : decode cX4_gives 6 = .ok (.iconst 2, 1) := by decide +kernel
theorem dX4_gives_7 : decode cX4_gives 7 = .ok (.if_icmp .ne 16, 3) := by decide +kernel
theorem dX4_gives_10 : decode cX4_gives 10 = .ok (.aload_n 0, 1) := by decide +kernel
theorem dX4_gives_11 : decode cX4_gives 11 = .ok (.getfield 72, 3) := by decide +kernel
theorem dX4_gives_14 : decode cX4_gives 14 = .ok (.iload_n 1, 1) := by decide +kernel
theorem dX4_gives_15 : decode cX4_gives 15 = .ok (.baload, 1) := by decide +kernel
theorem dX4_gives_16 : decode cX4_gives 16 = .ok (.ifCond .ne 7, 3) := by decide +kernel
theorem dX4_gives_19 : decode cX4_gives 19 = .ok (.iconst 1, 1) := by decide +kernel
theorem dX4_gives_20 : decode cX4_gives 20 = .ok (.goto 4, 3) := by decide +kernel
theorem dX4_gives_23 : decode cX4_gives 23 = .ok (.iconst 0, 1) := by decide +kernel
theorem dX4_gives_24 : decode cX4_gives 24 = .ok (.ireturn, 1) := by decide +kernel
set_option maxRecDepth 20000 in
theorem ggX4_fromGeneratorsNow_X4_gives : GoodIn wsX4_fromGeneratorsNow wsX4_gives := goodIn_r _ [7, 8, 9, 10, 11, 12, 13, 14, 15, 16, 17, 18, 19, 20, 21, 22, 23, 24, 25, 26, 27, 28, 29, 30, 31, 32, 33, 34, 35, 36, 37, 38, 39, 40, 41, 42, 43, 44, 45, 46, 47, 48, 49] (by decide +kernel) (by decide +kernel)
set_option maxRecDepth 20000 in
theorem gX4_fromGeneratorsNow_X4_gives : GoodIn wsX4_fromGeneratorsNow (wsV RX4 140 RX4 yX4_gives wsX4_gives) := goodIn_app (goodIn_of _ (by decide +kernel)) ggX4_fromGeneratorsNow_X4_gives
theorem dX4_fromGeneratorsNow_0 : decode cX4_fromGeneratorsNow 0 = .ok (.iconst 0, 1) := by decide +kernel
theorem dX4_fromGeneratorsNow_1 : decode cX4_fromGeneratorsNow 1 = .ok (.istore_n 1, 1) := by decide +kernel
theorem dX4_fromGeneratorsNow_2 : decode cX4_fromGeneratorsNow 2 = .ok (.iconst 0, 1) := by decide +kernel
theorem dX4_fromGeneratorsNow_3 : decode cX4_fromGeneratorsNow 3 = .ok (.istore_n 2, 1) := by decide +kernel
theorem dX4_fromGeneratorsNow_4 : decode cX4_fromGeneratorsNow 4 = .ok (.iload_n 2, 1) := by decide +kernel
theorem dX4_fromGeneratorsNow_5 : decode cX4_fromGeneratorsNow 5 = .ok (.aload_n 0, 1) := by decide +kernel
theorem dX4_fromGeneratorsNow_6 : decode cX4_fromGeneratorsNow 6 = .ok (.getfield 113, 3) := by decide +kernel
theorem dX4_fromGeneratorsNow_9 : decode cX4_fromGeneratorsNow 9 = .ok (.if_icmp .ge 30, 3) := by decide +kernel
theorem dX4_fromGeneratorsNow_12 : decode cX4_fromGeneratorsNow 12 = .ok (.iload_n 1, 1) := by decide +kernel
theorem dX4_fromGeneratorsNow_13 : decode cX4_fromGeneratorsNow 13 = .ok (.aload_n 0, 1) := by decide +kernel
theorem dX4_fromGeneratorsNow_14 : decode cX4_fromGeneratorsNow 14 = .ok (.iload_n 2, 1) := by decide +kernel
theorem dX4_fromGeneratorsNow_15 : decode cX4_fromGeneratorsNow 15 = .ok (.invokevirtual 140, 3) := by decide +kernel
theorem dX4_fromGeneratorsNow_18 : decode cX4_fromGeneratorsNow 18 = .ok (.ifCond .eq 12, 3) := by decide +kernel
theorem dX4_fromGeneratorsNow_21 : decode cX4_fromGeneratorsNow 21 = .ok (.aload_n 0, 1) := by decide +kernel
theorem dX4_fromGeneratorsNow_22 : decode cX4_fromGeneratorsNow 22 = .ok (.getfield 57, 3) := by decide +kernel
theorem dX4_fromGeneratorsNow_25 : decode cX4_fromGeneratorsNow 25 = .ok (.iload_n 2, 1) := by decide +kernel
theorem dX4_fromGeneratorsNow_26 : decode cX4_fromGeneratorsNow 26 = .ok (.iaload, 1) := by decide +kernel
theorem dX4_fromGeneratorsNow_27 : decode cX4_fromGeneratorsNow 27 = .ok (.goto 4, 3) := by decide +kernel
theorem dX4_fromGeneratorsNow_30 : decode cX4_fromGeneratorsNow 30 = .ok (.iconst 0, 1) := by decide +kernel
theorem dX4_fromGeneratorsNow_31 : decode cX4_fromGeneratorsNow 31 = .ok (.iadd, 1) := by decide +kernel
theorem dX4_fromGeneratorsNow_32 : decode cX4_fromGeneratorsNow 32 = .ok (.istore_n 1, 1) := by decide +kernel
theorem dX4_fromGeneratorsNow_33 : decode cX4_fromGeneratorsNow 33 = .ok (.iinc 2 1, 3) := by decide +kernel
theorem dX4_fromGeneratorsNow_36 : decode cX4_fromGeneratorsNow 36 = .ok (.goto (-32), 3) := by decide +kernel
theorem dX4_fromGeneratorsNow_39 : decode cX4_fromGeneratorsNow 39 = .ok (.iload_n 1, 1) := by decide +kernel
theorem dX4_fromGeneratorsNow_40 : decode cX4_fromGeneratorsNow 40 = .ok (.ireturn, 1) := by decide +kernel
set_option maxRecDepth 20000 in
theorem ggX4_fromBatteriesNow_X4_lesser : GoodIn wsX4_fromBatteriesNow wsX4_lesser := goodIn_r _ [6] (by decide +kernel) (by decide +kernel)
set_option maxRecDepth 20000 in
theorem gX4_fromBatteriesNow_X4_lesser : GoodIn wsX4_fromBatteriesNow (va_wsS RX4 126 yX4_lesser wsX4_lesser) := goodIn_app (goodIn_of _ (by decide +kernel)) ggX4_fromBatteriesNow_X4_lesser
theorem dX4_fromBatteriesNow_0 : decode cX4_fromBatteriesNow 0 = .ok (.iconst 0, 1) := by decide +kernel
theorem dX4_fromBatteriesNow_1 : decode cX4_fromBatteriesNow 1 = .ok (.istore_n 2, 1) := by decide +kernel
theorem dX4_fromBatteriesNow_2 : decode cX4_fromBatteriesNow 2 = .ok (.iconst 0, 1) := by decide +kernel
theorem dX4_fromBatteriesNow_3 : decode cX4_fromBatteriesNow 3 = .ok (.istore_n 3, 1) := by decide +kernel
theorem dX4_fromBatteriesNow_4 : decode cX4_fromBatteriesNow 4 = .ok (.iload_n 3, 1) := by decide +kernel
theorem dX4_fromBatteriesNow_5 : decode cX4_fromBatteriesNow 5 = .ok (.aload_n 0, 1) := by decide +kernel
theorem dX4_fromBatteriesNow_6 : decode cX4_fromBatteriesNow 6 = .ok (.getfield 116, 3) := by decide +kernel
theorem dX4_fromBatteriesNow_9 : decode cX4_fromBatteriesNow 9 = .ok (.if_icmp .ge 24, 3) := by decide +kernel
theorem dX4_fromBatteriesNow_12 : decode cX4_fromBatteriesNow 12 = .ok (.iload_n 2, 1) := by decide +kernel
theorem dX4_fromBatteriesNow_13 : decode cX4_fromBatteriesNow 13 = .ok (.aload_n 0, 1) := by decide +kernel
theorem dX4_fromBatteriesNow_14 : decode cX4_fromBatteriesNow 14 = .ok (.getfield 45, 3) := by decide +kernel
theorem dX4_fromBatteriesNow_17 : decode cX4_fromBatteriesNow 17 = .ok (.iload_n 3, 1) := by decide +kernel
theorem dX4_fromBatteriesNow_18 : decode cX4_fromBatteriesNow 18 = .ok (.iaload, 1) := by decide +kernel
theorem dX4_fromBatteriesNow_19 : decode cX4_fromBatteriesNow 19 = .ok (.aload_n 1, 1) := by decide +kernel
theorem dX4_fromBatteriesNow_20 : decode cX4_fromBatteriesNow 20 = .ok (.iload_n 3, 1) := by decide +kernel
theorem dX4_fromBatteriesNow_21 : decode cX4_fromBatteriesNow 21 = .ok (.iaload, 1) := by decide +kernel
theorem dX4_fromBatteriesNow_22 : decode cX4_fromBatteriesNow 22 = .ok (.invokestatic 126, 3) := by decide +kernel
theorem dX4_fromBatteriesNow_25 : decode cX4_fromBatteriesNow 25 = .ok (.iadd, 1) := by decide +kernel
theorem dX4_fromBatteriesNow_26 : decode cX4_fromBatteriesNow 26 = .ok (.istore_n 2, 1) := by decide +kernel
theorem dX4_fromBatteriesNow_27 : decode cX4_fromBatteriesNow 27 = .ok (.iinc 3 1, 3) := by decide +kernel
theorem dX4_fromBatteriesNow_30 : decode cX4_fromBatteriesNow 30 = .ok (.goto (-26), 3) := by decide +kernel
theorem dX4_fromBatteriesNow_33 : decode cX4_fromBatteriesNow 33 = .ok (.iload_n 2, 1) := by decide +kernel
theorem dX4_fromBatteriesNow_34 : decode cX4_fromBatteriesNow 34 = .ok (.ireturn, 1) := by decide +kernel
theorem dX4_needed_0 : decode cX4_needed 0 = .ok (.iconst 0, 1) := by decide +kernel
theorem dX4_needed_1 : decode cX4_needed 1 = .ok (.istore_n 1, 1) := by decide +kernel
theorem dX4_needed_2 : decode cX4_needed 2 = .ok (.iconst 0, 1) := by decide +kernel
theorem dX4_needed_3 : decode cX4_needed 3 = .ok (.istore_n 2, 1) := by decide +kernel
theorem dX4_needed_4 : decode cX4_needed 4 = .ok (.iload_n 2, 1) := by decide +kernel
theorem dX4_needed_5 : decode cX4_needed 5 = .ok (.aload_n 0, 1) := by decide +kernel
theorem dX4_needed_6 : decode cX4_needed 6 = .ok (.getfield 106, 3) := by decide +kernel
theorem dX4_needed_9 : decode cX4_needed 9 = .ok (.if_icmp .ge 32, 3) := by decide +kernel
theorem dX4_needed_12 : decode cX4_needed 12 = .ok (.iload_n 1, 1) := by decide +kernel
theorem dX4_needed_13 : decode cX4_needed 13 = .ok (.aload_n 0, 1) := by decide +kernel
theorem dX4_needed_14 : decode cX4_needed 14 = .ok (.getfield 30, 3) := by decide +kernel
theorem dX4_needed_17 : decode cX4_needed 17 = .ok (.iload_n 2, 1) := by decide +kernel
theorem dX4_needed_18 : decode cX4_needed 18 = .ok (.iaload, 1) := by decide +kernel
theorem dX4_needed_19 : decode cX4_needed 19 = .ok (.iconst 1, 1) := by decide +kernel
theorem dX4_needed_20 : decode cX4_needed 20 = .ok (.if_icmp .ne 12, 3) := by decide +kernel
theorem dX4_needed_23 : decode cX4_needed 23 = .ok (.aload_n 0, 1) := by decide +kernel
theorem dX4_needed_24 : decode cX4_needed 24 = .ok (.getfield 27, 3) := by decide +kernel
theorem dX4_needed_27 : decode cX4_needed 27 = .ok (.iload_n 2, 1) := by decide +kernel
theorem dX4_needed_28 : decode cX4_needed 28 = .ok (.iaload, 1) := by decide +kernel
theorem dX4_needed_29 : decode cX4_needed 29 = .ok (.goto 4, 3) := by decide +kernel
theorem dX4_needed_32 : decode cX4_needed 32 = .ok (.iconst 0, 1) := by decide +kernel
theorem dX4_needed_33 : decode cX4_needed 33 = .ok (.iadd, 1) := by decide +kernel
theorem dX4_needed_34 : decode cX4_needed 34 = .ok (.istore_n 1, 1) := by decide +kernel
theorem dX4_needed_35 : decode cX4_needed 35 = .ok (.iinc 2 1, 3) := by decide +kernel
theorem dX4_needed_38 : decode cX4_needed 38 = .ok (.goto (-34), 3) := by decide +kernel
theorem dX4_needed_41 : decode cX4_needed 41 = .ok (.iload_n 1, 1) := by decide +kernel
theorem dX4_needed_42 : decode cX4_needed 42 = .ok (.ireturn, 1) := by decide +kernel
theorem dX4_isLess_0 : decode cX4_isLess 0 = .ok (.aload_n 0, 1) := by decide +kernel
theorem dX4_isLess_1 : decode cX4_isLess 1 = .ok (.getfield 23, 3) := by decide +kernel
theorem dX4_isLess_4 : decode cX4_isLess 4 = .ok (.iload_n 1, 1) := by decide +kernel
theorem dX4_isLess_5 : decode cX4_isLess 5 = .ok (.iaload, 1) := by decide +kernel
theorem dX4_isLess_6 : decode cX4_isLess 6 = .ok (.aload_n 0, 1) := by decide +kernel
theorem dX4_isLess_7 : decode cX4_isLess 7 = .ok (.getfield 23, 3) := by decide +kernel
theorem dX4_isLess_10 : decode cX4_isLess 10 = .ok (.iload_n 2, 1) := by decide +kernel
theorem dX4_isLess_11 : decode cX4_isLess 11 = .ok (.iaload, 1) := by decide +kernel
theorem dX4_isLess_12 : decode cX4_isLess 12 = .ok (.isub, 1) := by decide +kernel
theorem dX4_isLess_13 : decode cX4_isLess 13 = .ok (.istore_n 3, 1) := by decide +kernel
theorem dX4_isLess_14 : decode cX4_isLess 14 = .ok (.aload_n 0, 1) := by decide +kernel
theorem dX4_isLess_15 : decode cX4_isLess 15 = .ok (.getfield 27, 3) := by decide +kernel
theorem dX4_isLess_18 : decode cX4_isLess 18 = .ok (.iload_n 1, 1) := by decide +kernel
theorem dX4_isLess_19 : decode cX4_isLess 19 = .ok (.iaload, 1) := by decide +kernel
theorem dX4_isLess_20 : decode cX4_isLess 20 = .ok (.aload_n 0, 1) := by decide +kernel
theorem dX4_isLess_21 : decode cX4_isLess 21 = .ok (.getfield 27, 3) := by decide +kernel
theorem dX4_isLess_24 : decode cX4_isLess 24 = .ok (.iload_n 2, 1) := by decide +kernel
theorem dX4_isLess_25 : decode cX4_isLess 25 = .ok (.iaload, 1) := by decide +kernel
theorem dX4_isLess_26 : decode cX4_isLess 26 = .ok (.isub, 1) := by decide +kernel
theorem dX4_isLess_27 : decode cX4_isLess 27 = .ok (.istore 4, 2) := by decide +kernel
theorem dX4_isLess_29 : decode cX4_isLess 29 = .ok (.iload_n 3, 1) := by decide +kernel
theorem dX4_isLess_30 : decode cX4_isLess 30 = .ok (.ifCond .eq 15, 3) := by decide +kernel
theorem dX4_isLess_33 : decode cX4_isLess 33 = .ok (.iload_n 3, 1) := by decide +kernel
theorem dX4_isLess_34 : decode cX4_isLess 34 = .ok (.ifCond .ge 7, 3) := by decide +kernel
theorem dX4_isLess_37 : decode cX4_isLess 37 = .ok (.iconst 1, 1) := by decide +kernel
theorem dX4_isLess_38 : decode cX4_isLess 38 = .ok (.goto 35, 3) := by decide +kernel
theorem dX4_isLess_41 : decode cX4_isLess 41 = .ok (.iconst 0, 1) := by decide +kernel
theorem dX4_isLess_42 : decode cX4_isLess 42 = .ok (.goto 31, 3) := by decide +kernel
theorem dX4_isLess_45 : decode cX4_isLess 45 = .ok (.iload 4, 2) := by decide +kernel
theorem dX4_isLess_47 : decode cX4_isLess 47 = .ok (.ifCond .eq 16, 3) := by decide +kernel
theorem dX4_isLess_50 : decode cX4_isLess 50 = .ok (.iload 4, 2) := by decide +kernel
theorem dX4_isLess_52 : decode cX4_isLess 52 = .ok (.ifCond .ge 7, 3) := by decide +kernel
theorem dX4_isLess_55 : decode cX4_isLess 55 = .ok (.iconst 1, 1) := by decide +kernel
theorem dX4_isLess_56 : decode cX4_isLess 56 = .ok (.goto 17, 3) := by decide +kernel
theorem dX4_isLess_59 : decode cX4_isLess 59 = .ok (.iconst 0, 1) := by decide +kernel
theorem dX4_isLess_60 : decode cX4_isLess 60 = .ok (.goto 13, 3) := by decide +kernel
theorem dX4_isLess_63 : decode cX4_isLess 63 = .ok (.iload_n 1, 1) := by decide +kernel
theorem dX4_isLess_64 : decode cX4_isLess 64 = .ok (.iload_n 2, 1) := by decide +kernel
theorem dX4_isLess_65 : decode cX4_isLess 65 = .ok (.if_icmp .ge 7, 3) := by decide +kernel
theorem dX4_isLess_68 : decode cX4_isLess 68 = .ok (.iconst 1, 1) := by decide +kernel
theorem dX4_isLess_69 : decode cX4_isLess 69 = .ok (.goto 4, 3) := by decide +kernel
theorem dX4_isLess_72 : decode cX4_isLess 72 = .ok (.iconst 0, 1) := by decide +kernel
theorem dX4_isLess_73 : decode cX4_isLess 73 = .ok (.ireturn, 1) := by decide +kernel
set_option maxRecDepth 20000 in
theorem ggX4_inOrder_X4_isLess : GoodIn wsX4_inOrder wsX4_isLess := goodIn_r _ [7, 8, 9, 10, 11, 12, 13, 14, 15, 16, 17, 18, 19, 20, 21, 22, 23, 24, 25, 26, 27, 28, 29, 30, 31, 32, 33, 34, 35, 36, 37, 38, 39, 40, 41, 42, 43, 44, 45, 46, 47, 48, 49] (by decide +kernel) (by decide +kernel)
set_option maxRecDepth 20000 in
theorem gX4_inOrder_X4_isLess : GoodIn wsX4_inOrder (wsV RX4 143 RX4 yX4_isLess wsX4_isLess) := goodIn_app (goodIn_of _ (by decide +kernel)) ggX4_inOrder_X4_isLess
theorem dX4_inOrder_0 : decode cX4_inOrder 0 = .ok (.iconst (-1), 1) := by decide +kernel
theorem dX4_inOrder_1 : decode cX4_inOrder 1 = .ok (.istore 4, 2) := by decide +kernel
theorem dX4_inOrder_3 : decode cX4_inOrder 3 = .ok (.iconst 0, 1) := by decide +kernel
theorem dX4_inOrder_4 : decode cX4_inOrder 4 = .ok (.istore 5, 2) := by decide +kernel
theorem dX4_inOrder_6 : decode cX4_inOrder 6 = .ok (.iload 5, 2) := by decide +kernel
theorem dX4_inOrder_8 : decode cX4_inOrder 8 = .ok (.aload_n 0, 1) := by decide +kernel
theorem dX4_inOrder_9 : decode cX4_inOrder 9 = .ok (.getfield 106, 3) := by decide +kernel
theorem dX4_inOrder_12 : decode cX4_inOrder 12 = .ok (.if_icmp .ge 114, 3) := by decide +kernel
theorem dX4_inOrder_15 : decode cX4_inOrder 15 = .ok (.iconst 0, 1) := by decide +kernel
theorem dX4_inOrder_16 : decode cX4_inOrder 16 = .ok (.istore 6, 2) := by decide +kernel
theorem dX4_inOrder_18 : decode cX4_inOrder 18 = .ok (.iconst 0, 1) := by decide +kernel
theorem dX4_inOrder_19 : decode cX4_inOrder 19 = .ok (.istore 7, 2) := by decide +kernel
theorem dX4_inOrder_21 : decode cX4_inOrder 21 = .ok (.iload 7, 2) := by decide +kernel
theorem dX4_inOrder_23 : decode cX4_inOrder 23 = .ok (.aload_n 0, 1) := by decide +kernel
theorem dX4_inOrder_24 : decode cX4_inOrder 24 = .ok (.getfield 106, 3) := by decide +kernel
theorem dX4_inOrder_27 : decode cX4_inOrder 27 = .ok (.if_icmp .ge 67, 3) := by decide +kernel
theorem dX4_inOrder_30 : decode cX4_inOrder 30 = .ok (.iload_n 3, 1) := by decide +kernel
theorem dX4_inOrder_31 : decode cX4_inOrder 31 = .ok (.ifCond .eq 14, 3) := by decide +kernel
theorem dX4_inOrder_34 : decode cX4_inOrder 34 = .ok (.aload_n 0, 1) := by decide +kernel
theorem dX4_inOrder_35 : decode cX4_inOrder 35 = .ok (.iload 7, 2) := by decide +kernel
theorem dX4_inOrder_37 : decode cX4_inOrder 37 = .ok (.iload 5, 2) := by decide +kernel
theorem dX4_inOrder_39 : decode cX4_inOrder 39 = .ok (.invokevirtual 143, 3) := by decide +kernel
theorem dX4_inOrder_42 : decode cX4_inOrder 42 = .ok (.goto 11, 3) := by decide +kernel
theorem dX4_inOrder_45 : decode cX4_inOrder 45 = .ok (.aload_n 0, 1) := by decide +kernel
theorem dX4_inOrder_46 : decode cX4_inOrder 46 = .ok (.iload 5, 2) := by decide +kernel
theorem dX4_inOrder_48 : decode cX4_inOrder 48 = .ok (.iload 7, 2) := by decide +kernel
theorem dX4_inOrder_50 : decode cX4_inOrder 50 = .ok (.invokevirtual 143, 3) := by decide +kernel
theorem dX4_inOrder_53 : decode cX4_inOrder 53 = .ok (.istore 8, 2) := by decide +kernel
theorem dX4_inOrder_55 : decode cX4_inOrder 55 = .ok (.iload 6, 2) := by decide +kernel
theorem dX4_inOrder_57 : decode cX4_inOrder 57 = .ok (.aload_n 0, 1) := by decide +kernel
theorem dX4_inOrder_58 : decode cX4_inOrder 58 = .ok (.getfield 30, 3) := by decide +kernel
theorem dX4_inOrder_61 : decode cX4_inOrder 61 = .ok (.iload 7, 2) := by decide +kernel
theorem dX4_inOrder_63 : decode cX4_inOrder 63 = .ok (.iaload, 1) := by decide +kernel
theorem dX4_inOrder_64 : decode cX4_inOrder 64 = .ok (.iload_n 1, 1) := by decide +kernel
theorem dX4_inOrder_65 : decode cX4_inOrder 65 = .ok (.if_icmp .ne 19, 3) := by decide +kernel
theorem dX4_inOrder_68 : decode cX4_inOrder 68 = .ok (.iload 7, 2) := by decide +kernel
theorem dX4_inOrder_70 : decode cX4_inOrder 70 = .ok (.iload 5, 2) := by decide +kernel
theorem dX4_inOrder_72 : decode cX4_inOrder 72 = .ok (.if_icmp .eq 12, 3) := by decide +kernel
theorem dX4_inOrder_75 : decode cX4_inOrder 75 = .ok (.iload 8, 2) := by decide +kernel
theorem dX4_inOrder_77 : decode cX4_inOrder 77 = .ok (.ifCond .eq 7, 3) := by decide +kernel
theorem dX4_inOrder_80 : decode cX4_inOrder 80 = .ok (.iconst 1, 1) := by decide +kernel
theorem dX4_inOrder_81 : decode cX4_inOrder 81 = .ok (.goto 4, 3) := by decide +kernel
theorem dX4_inOrder_84 : decode cX4_inOrder 84 = .ok (.iconst 0, 1) := by decide +kernel
theorem dX4_inOrder_85 : decode cX4_inOrder 85 = .ok (.iadd, 1) := by decide +kernel
theorem dX4_inOrder_86 : decode cX4_inOrder 86 = .ok (.istore 6, 2) := by decide +kernel
theorem dX4_inOrder_88 : decode cX4_inOrder 88 = .ok (.iinc 7 1, 3) := by decide +kernel
theorem dX4_inOrder_91 : decode cX4_inOrder 91 = .ok (.goto (-70), 3) := by decide +kernel
theorem dX4_inOrder_94 : decode cX4_inOrder 94 = .ok (.aload_n 0, 1) := by decide +kernel
theorem dX4_inOrder_95 : decode cX4_inOrder 95 = .ok (.getfield 30, 3) := by decide +kernel
theorem dX4_inOrder_98 : decode cX4_inOrder 98 = .ok (.iload 5, 2) := by decide +kernel
theorem dX4_inOrder_100 : decode cX4_inOrder 100 = .ok (.iaload, 1) := by decide +kernel
theorem dX4_inOrder_101 : decode cX4_inOrder 101 = .ok (.iload_n 1, 1) := by decide +kernel
theorem dX4_inOrder_102 : decode cX4_inOrder 102 = .ok (.if_icmp .ne 14, 3) := by decide +kernel
theorem dX4_inOrder_105 : decode cX4_inOrder 105 = .ok (.iload 6, 2) := by decide +kernel
theorem dX4_inOrder_107 : decode cX4_inOrder 107 = .ok (.iload_n 2, 1) := by decide +kernel
theorem dX4_inOrder_108 : decode cX4_inOrder 108 = .ok (.if_icmp .ne 8, 3) := by decide +kernel
theorem dX4_inOrder_111 : decode cX4_inOrder 111 = .ok (.iload 5, 2) := by decide +kernel
theorem dX4_inOrder_113 : decode cX4_inOrder 113 = .ok (.goto 5, 3) := by decide +kernel
theorem dX4_inOrder_116 : decode cX4_inOrder 116 = .ok (.iload 4, 2) := by decide +kernel
theorem dX4_inOrder_118 : decode cX4_inOrder 118 = .ok (.istore 4, 2) := by decide +kernel
theorem dX4_inOrder_120 : decode cX4_inOrder 120 = .ok (.iinc 5 1, 3) := by decide +kernel
theorem dX4_inOrder_123 : decode cX4_inOrder 123 = .ok (.goto (-117), 3) := by decide +kernel
theorem dX4_inOrder_126 : decode cX4_inOrder 126 = .ok (.iload 4, 2) := by decide +kernel
theorem dX4_inOrder_128 : decode cX4_inOrder 128 = .ok (.ireturn, 1) := by decide +kernel
set_option maxRecDepth 20000 in
theorem ggX4_sheds_X4_fromGeneratorsNow : GoodIn wsX4_sheds wsX4_fromGeneratorsNow := goodIn_r _ [8, 9, 10, 11, 12, 13, 7, 14, 15, 16, 41, 42, 43, 44, 45, 46, 47, 48, 49, 50, 51, 52, 53, 54, 55, 56, 57, 58, 59, 60, 61, 62, 63, 64, 65, 66, 67, 68, 69, 70, 71, 72, 73, 74, 75, 76, 77, 78, 79, 80] (by decide +kernel) (by decide +kernel)
set_option maxRecDepth 20000 in
theorem gX4_sheds_X4_fromGeneratorsNow : GoodIn wsX4_sheds (wsV RX4 147 RX4 yX4_fromGeneratorsNow wsX4_fromGeneratorsNow) := goodIn_app (goodIn_of _ (by decide +kernel)) ggX4_sheds_X4_fromGeneratorsNow
set_option maxRecDepth 20000 in
theorem ggX4_sheds_X4_fromBatteriesNow : GoodIn wsX4_sheds wsX4_fromBatteriesNow := goodIn_r _ [20, 21, 22, 23, 24, 7, 25, 41, 42, 43, 44, 45, 46, 47, 48, 49, 50, 51, 52, 53, 54, 55, 56, 57, 58, 59, 60, 61, 62, 63, 64, 65, 66, 67, 68, 69, 70, 71, 72, 73, 74, 75, 76, 77, 78, 79, 80] (by decide +kernel) (by decide +kernel)
set_option maxRecDepth 20000 in
theorem gX4_sheds_X4_fromBatteriesNow : GoodIn wsX4_sheds (wsV RX4 151 RX4 yX4_fromBatteriesNow wsX4_fromBatteriesNow) := goodIn_app (goodIn_of _ (by decide +kernel)) ggX4_sheds_X4_fromBatteriesNow
set_option maxRecDepth 20000 in
theorem ggX4_sheds_X4_needed : GoodIn wsX4_sheds wsX4_needed := goodIn_r _ [29, 30, 3, 31, 41, 42, 43, 44, 45, 46, 47, 48, 49, 50, 51, 52, 53, 54, 55, 56, 57, 58, 59, 60, 61, 62, 63, 64, 65, 66, 67, 68, 69, 70, 71, 72, 73, 74, 75, 76, 77, 78, 79, 80] (by decide +kernel) (by decide +kernel)
set_option maxRecDepth 20000 in
theorem gX4_sheds_X4_needed : GoodIn wsX4_sheds (wsV RX4 155 RX4 yX4_needed wsX4_needed) := goodIn_app (goodIn_of _ (by decide +kernel)) ggX4_sheds_X4_needed
set_option maxRecDepth 20000 in
theorem ggX4_sheds_X4_inOrder : GoodIn wsX4_sheds wsX4_inOrder := goodIn_r _ [35, 30, 3, 36, 37, 38, 7, 39, 40, 31, 41, 42, 43, 44, 45, 46, 47, 48, 49, 50, 51, 52, 53, 54, 55, 56, 57, 58, 59, 60, 61, 62, 63, 64, 65, 66, 67, 68, 69, 70, 71, 72, 73, 74, 75, 76, 77, 78, 79, 80] (by decide +kernel) (by decide +kernel)
set_option maxRecDepth 20000 in
theorem gX4_sheds_X4_inOrder : GoodIn wsX4_sheds (wsV RX4 158 RX4 yX4_inOrder wsX4_inOrder) := goodIn_app (goodIn_of _ (by decide +kernel)) ggX4_sheds_X4_inOrder
theorem dX4_sheds_0 : decode cX4_sheds 0 = .ok (.iconst 0, 1) := by decide +kernel
theorem dX4_sheds_1 : decode cX4_sheds 1 = .ok (.istore_n 1, 1) := by decide +kernel
theorem dX4_sheds_2 : decode cX4_sheds 2 = .ok (.aload_n 0, 1) := by decide +kernel
theorem dX4_sheds_3 : decode cX4_sheds 3 = .ok (.invokevirtual 147, 3) := by decide +kernel
theorem dX4_sheds_6 : decode cX4_sheds 6 = .ok (.aload_n 0, 1) := by decide +kernel
theorem dX4_sheds_7 : decode cX4_sheds 7 = .ok (.aload_n 0, 1) := by decide +kernel
theorem dX4_sheds_8 : decode cX4_sheds 8 = .ok (.getfield 42, 3) := by decide +kernel
theorem dX4_sheds_11 : decode cX4_sheds 11 = .ok (.invokevirtual 151, 3) := by decide +kernel
theorem dX4_sheds_14 : decode cX4_sheds 14 = .ok (.iadd, 1) := by decide +kernel
theorem dX4_sheds_15 : decode cX4_sheds 15 = .ok (.istore_n 2, 1) := by decide +kernel
theorem dX4_sheds_16 : decode cX4_sheds 16 = .ok (.aload_n 0, 1) := by decide +kernel
theorem dX4_sheds_17 : decode cX4_sheds 17 = .ok (.getfield 7, 3) := by decide +kernel
theorem dX4_sheds_20 : decode cX4_sheds 20 = .ok (.ifCond .ne 30, 3) := by decide +kernel
theorem dX4_sheds_23 : decode cX4_sheds 23 = .ok (.aload_n 0, 1) := by decide +kernel
theorem dX4_sheds_24 : decode cX4_sheds 24 = .ok (.invokevirtual 155, 3) := by decide +kernel
theorem dX4_sheds_27 : decode cX4_sheds 27 = .ok (.iload_n 2, 1) := by decide +kernel
theorem dX4_sheds_28 : decode cX4_sheds 28 = .ok (.if_icmp .le 22, 3) := by decide +kernel
theorem dX4_sheds_31 : decode cX4_sheds 31 = .ok (.aload_n 0, 1) := by decide +kernel
theorem dX4_sheds_32 : decode cX4_sheds 32 = .ok (.getfield 30, 3) := by decide +kernel
theorem dX4_sheds_35 : decode cX4_sheds 35 = .ok (.aload_n 0, 1) := by decide +kernel
theorem dX4_sheds_36 : decode cX4_sheds 36 = .ok (.iconst 1, 1) := by decide +kernel
theorem dX4_sheds_37 : decode cX4_sheds 37 = .ok (.iconst 0, 1) := by decide +kernel
theorem dX4_sheds_38 : decode cX4_sheds 38 = .ok (.iconst 0, 1) := by decide +kernel
theorem dX4_sheds_39 : decode cX4_sheds 39 = .ok (.invokevirtual 158, 3) := by decide +kernel
theorem dX4_sheds_42 : decode cX4_sheds 42 = .ok (.iconst 2, 1) := by decide +kernel
theorem dX4_sheds_43 : decode cX4_sheds 43 = .ok (.iastore, 1) := by decide +kernel
theorem dX4_sheds_44 : decode cX4_sheds 44 = .ok (.iinc 1 1, 3) := by decide +kernel
theorem dX4_sheds_47 : decode cX4_sheds 47 = .ok (.goto (-31), 3) := by decide +kernel
theorem dX4_sheds_50 : decode cX4_sheds 50 = .ok (.iload_n 1, 1) := by decide +kernel
theorem dX4_sheds_51 : decode cX4_sheds 51 = .ok (.ireturn, 1) := by decide +kernel
set_option maxRecDepth 20000 in
theorem ggX4_returns_X4_inOrder : GoodIn wsX4_returns wsX4_inOrder := goodIn_r _ [11, 12, 6, 13, 14, 15, 10, 16, 17, 5, 34, 35, 36, 37, 38, 39, 40, 41, 42, 43, 44, 45, 46, 47, 48, 49, 50, 51, 52, 53, 54, 55, 56, 57, 58, 59, 60, 61, 62, 63, 64, 65, 66, 67, 68, 69, 70, 71, 72, 73] (by decide +kernel) (by decide +kernel)
set_option maxRecDepth 20000 in
theorem gX4_returns_X4_inOrder : GoodIn wsX4_returns (wsV RX4 158 RX4 yX4_inOrder wsX4_inOrder) := goodIn_app (goodIn_of _ (by decide +kernel)) ggX4_returns_X4_inOrder
set_option maxRecDepth 20000 in
theorem ggX4_returns_X4_needed : GoodIn wsX4_returns wsX4_needed := goodIn_r _ [21, 12, 6, 5, 34, 35, 36, 37, 38, 39, 40, 41, 42, 43, 44, 45, 46, 47, 48, 49, 50, 51, 52, 53, 54, 55, 56, 57, 58, 59, 60, 61, 62, 63, 64, 65, 66, 67, 68, 69, 70, 71, 72, 73] (by decide +kernel) (by decide +kernel)
set_option maxRecDepth 20000 in
theorem gX4_returns_X4_needed : GoodIn wsX4_returns (wsV RX4 155 RX4 yX4_needed wsX4_needed) := goodIn_app (goodIn_of _ (by decide +kernel)) ggX4_returns_X4_needed
set_option maxRecDepth 20000 in
theorem ggX4_returns_X4_fromGeneratorsNow : GoodIn wsX4_returns wsX4_fromGeneratorsNow := goodIn_r _ [25, 26, 27, 28, 29, 30, 10, 31, 32, 33, 34, 35, 36, 37, 38, 39, 40, 41, 42, 43, 44, 45, 46, 47, 48, 49, 50, 51, 52, 53, 54, 55, 56, 57, 58, 59, 60, 61, 62, 63, 64, 65, 66, 67, 68, 69, 70, 71, 72, 73] (by decide +kernel) (by decide +kernel)
set_option maxRecDepth 20000 in
theorem gX4_returns_X4_fromGeneratorsNow : GoodIn wsX4_returns (wsV RX4 147 RX4 yX4_fromGeneratorsNow wsX4_fromGeneratorsNow) := goodIn_app (goodIn_of _ (by decide +kernel)) ggX4_returns_X4_fromGeneratorsNow
theorem dX4_returns_0 : decode cX4_returns 0 = .ok (.aload_n 0, 1) := by decide +kernel
theorem dX4_returns_1 : decode cX4_returns 1 = .ok (.iconst 2, 1) := by decide +kernel
theorem dX4_returns_2 : decode cX4_returns 2 = .ok (.iconst 0, 1) := by decide +kernel
theorem dX4_returns_3 : decode cX4_returns 3 = .ok (.iconst 1, 1) := by decide +kernel
theorem dX4_returns_4 : decode cX4_returns 4 = .ok (.invokevirtual 158, 3) := by decide +kernel
theorem dX4_returns_7 : decode cX4_returns 7 = .ok (.istore_n 1, 1) := by decide +kernel
theorem dX4_returns_8 : decode cX4_returns 8 = .ok (.aload_n 0, 1) := by decide +kernel
theorem dX4_returns_9 : decode cX4_returns 9 = .ok (.getfield 20, 3) := by decide +kernel
theorem dX4_returns_12 : decode cX4_returns 12 = .ok (.iconst (-1), 1) := by decide +kernel
theorem dX4_returns_13 : decode cX4_returns 13 = .ok (.if_icmp .eq 19, 3) := by decide +kernel
theorem dX4_returns_16 : decode cX4_returns 16 = .ok (.aload_n 0, 1) := by decide +kernel
theorem dX4_returns_17 : decode cX4_returns 17 = .ok (.getfield 133, 3) := by decide +kernel
theorem dX4_returns_20 : decode cX4_returns 20 = .ok (.aload_n 0, 1) := by decide +kernel
theorem dX4_returns_21 : decode cX4_returns 21 = .ok (.getfield 20, 3) := by decide +kernel
theorem dX4_returns_24 : decode cX4_returns 24 = .ok (.isub, 1) := by decide +kernel
theorem dX4_returns_25 : decode cX4_returns 25 = .ok (.aload_n 0, 1) := by decide +kernel
theorem dX4_returns_26 : decode cX4_returns 26 = .ok (.getfield 17, 3) := by decide +kernel
theorem dX4_returns_29 : decode cX4_returns 29 = .ok (.if_icmp .lt 7, 3) := by decide +kernel
theorem dX4_returns_32 : decode cX4_returns 32 = .ok (.iconst 1, 1) := by decide +kernel
theorem dX4_returns_33 : decode cX4_returns 33 = .ok (.goto 4, 3) := by decide +kernel
theorem dX4_returns_36 : decode cX4_returns 36 = .ok (.iconst 0, 1) := by decide +kernel
theorem dX4_returns_37 : decode cX4_returns 37 = .ok (.istore_n 2, 1) := by decide +kernel
theorem dX4_returns_38 : decode cX4_returns 38 = .ok (.iload_n 1, 1) := by decide +kernel
theorem dX4_returns_39 : decode cX4_returns 39 = .ok (.iconst (-1), 1) := by decide +kernel
theorem dX4_returns_40 : decode cX4_returns 40 = .ok (.if_icmp .eq 47, 3) := by decide +kernel
theorem dX4_returns_43 : decode cX4_returns 43 = .ok (.iload_n 2, 1) := by decide +kernel
theorem dX4_returns_44 : decode cX4_returns 44 = .ok (.ifCond .eq 43, 3) := by decide +kernel
theorem dX4_returns_47 : decode cX4_returns 47 = .ok (.aload_n 0, 1) := by decide +kernel
theorem dX4_returns_48 : decode cX4_returns 48 = .ok (.getfield 7, 3) := by decide +kernel
theorem dX4_returns_51 : decode cX4_returns 51 = .ok (.ifCond .ne 21, 3) := by decide +kernel
theorem dX4_returns_54 : decode cX4_returns 54 = .ok (.aload_n 0, 1) := by decide +kernel
theorem dX4_returns_55 : decode cX4_returns 55 = .ok (.invokevirtual 155, 3) := by decide +kernel
theorem dX4_returns_58 : decode cX4_returns 58 = .ok (.aload_n 0, 1) := by decide +kernel
theorem dX4_returns_59 : decode cX4_returns 59 = .ok (.getfield 27, 3) := by decide +kernel
theorem dX4_returns_62 : decode cX4_returns 62 = .ok (.iload_n 1, 1) := by decide +kernel
theorem dX4_returns_63 : decode cX4_returns 63 = .ok (.iaload, 1) := by decide +kernel
theorem dX4_returns_64 : decode cX4_returns 64 = .ok (.iadd, 1) := by decide +kernel
theorem dX4_returns_65 : decode cX4_returns 65 = .ok (.aload_n 0, 1) := by decide +kernel
theorem dX4_returns_66 : decode cX4_returns 66 = .ok (.invokevirtual 147, 3) := by decide +kernel
theorem dX4_returns_69 : decode cX4_returns 69 = .ok (.if_icmp .gt 18, 3) := by decide +kernel
theorem dX4_returns_72 : decode cX4_returns 72 = .ok (.aload_n 0, 1) := by decide +kernel
theorem dX4_returns_73 : decode cX4_returns 73 = .ok (.getfield 30, 3) := by decide +kernel
theorem dX4_returns_76 : decode cX4_returns 76 = .ok (.iload_n 1, 1) := by decide +kernel
theorem dX4_returns_77 : decode cX4_returns 77 = .ok (.iconst 1, 1) := by decide +kernel
theorem dX4_returns_78 : decode cX4_returns 78 = .ok (.iastore, 1) := by decide +kernel
theorem dX4_returns_79 : decode cX4_returns 79 = .ok (.aload_n 0, 1) := by decide +kernel
theorem dX4_returns_80 : decode cX4_returns 80 = .ok (.aload_n 0, 1) := by decide +kernel
theorem dX4_returns_81 : decode cX4_returns 81 = .ok (.getfield 133, 3) := by decide +kernel
theorem dX4_returns_84 : decode cX4_returns 84 = .ok (.putfield 20, 3) := by decide +kernel
theorem dX4_returns_87 : decode cX4_returns 87 = .ok (.return_, 1) := by decide +kernel
set_option maxRecDepth 20000 in
theorem ggX4_takes_X4_gives : GoodIn wsX4_takes wsX4_gives := goodIn_r _ [8, 9, 10, 14, 15, 16, 17, 18, 19, 20, 21, 22, 23, 24, 25, 26, 27, 28, 29, 30, 31, 32, 33, 34, 35, 36, 37, 38, 39, 40, 41, 42, 43, 44, 45, 46, 47, 48, 49, 50, 51, 52, 53] (by decide +kernel) (by decide +kernel)
set_option maxRecDepth 20000 in
theorem gX4_takes_X4_gives : GoodIn wsX4_takes (wsV RX4 140 RX4 yX4_gives wsX4_gives) := goodIn_app (goodIn_of _ (by decide +kernel)) ggX4_takes_X4_gives
set_option maxRecDepth 20000 in
theorem ggX4_takes_X4_lesser : GoodIn wsX4_takes wsX4_lesser := goodIn_r _ [13] (by decide +kernel) (by decide +kernel)
set_option maxRecDepth 20000 in
theorem gX4_takes_X4_lesser : GoodIn wsX4_takes (va_wsS RX4 126 yX4_lesser wsX4_lesser) := goodIn_app (goodIn_of _ (by decide +kernel)) ggX4_takes_X4_lesser
theorem dX4_takes_0 : decode cX4_takes 0 = .ok (.iload_n 1, 1) := by decide +kernel
theorem dX4_takes_1 : decode cX4_takes 1 = .ok (.istore_n 2, 1) := by decide +kernel
theorem dX4_takes_2 : decode cX4_takes 2 = .ok (.iconst 0, 1) := by decide +kernel
theorem dX4_takes_3 : decode cX4_takes 3 = .ok (.istore_n 3, 1) := by decide +kernel
theorem dX4_takes_4 : decode cX4_takes 4 = .ok (.iload_n 3, 1) := by decide +kernel
theorem dX4_takes_5 : decode cX4_takes 5 = .ok (.aload_n 0, 1) := by decide +kernel
theorem dX4_takes_6 : decode cX4_takes 6 = .ok (.getfield 113, 3) := by decide +kernel
theorem dX4_takes_9 : decode cX4_takes 9 = .ok (.if_icmp .ge 56, 3) := by decide +kernel
theorem dX4_takes_12 : decode cX4_takes 12 = .ok (.aload_n 0, 1) := by decide +kernel
theorem dX4_takes_13 : decode cX4_takes 13 = .ok (.iload_n 3, 1) := by decide +kernel
theorem dX4_takes_14 : decode cX4_takes 14 = .ok (.invokevirtual 140, 3) := by decide +kernel
theorem dX4_takes_17 : decode cX4_takes 17 = .ok (.ifCond .eq 23, 3) := by decide +kernel
theorem dX4_takes_20 : decode cX4_takes 20 = .ok (.aload_n 0, 1) := by decide +kernel
theorem dX4_takes_21 : decode cX4_takes 21 = .ok (.getfield 57, 3) := by decide +kernel
theorem dX4_takes_24 : decode cX4_takes 24 = .ok (.iload_n 3, 1) := by decide +kernel
theorem dX4_takes_25 : decode cX4_takes 25 = .ok (.iaload, 1) := by decide +kernel
theorem dX4_takes_26 : decode cX4_takes 26 = .ok (.aload_n 0, 1) := by decide +kernel
theorem dX4_takes_27 : decode cX4_takes 27 = .ok (.getfield 82, 3) := by decide +kernel
theorem dX4_takes_30 : decode cX4_takes 30 = .ok (.iload_n 3, 1) := by decide +kernel
theorem dX4_takes_31 : decode cX4_takes 31 = .ok (.iaload, 1) := by decide +kernel
theorem dX4_takes_32 : decode cX4_takes 32 = .ok (.isub, 1) := by decide +kernel
theorem dX4_takes_33 : decode cX4_takes 33 = .ok (.iload_n 2, 1) := by decide +kernel
theorem dX4_takes_34 : decode cX4_takes 34 = .ok (.invokestatic 126, 3) := by decide +kernel
theorem dX4_takes_37 : decode cX4_takes 37 = .ok (.goto 4, 3) := by decide +kernel
theorem dX4_takes_40 : decode cX4_takes 40 = .ok (.iconst 0, 1) := by decide +kernel
theorem dX4_takes_41 : decode cX4_takes 41 = .ok (.istore 4, 2) := by decide +kernel
theorem dX4_takes_43 : decode cX4_takes 43 = .ok (.aload_n 0, 1) := by decide +kernel
theorem dX4_takes_44 : decode cX4_takes 44 = .ok (.getfield 82, 3) := by decide +kernel
theorem dX4_takes_47 : decode cX4_takes 47 = .ok (.iload_n 3, 1) := by decide +kernel
theorem dX4_takes_48 : decode cX4_takes 48 = .ok (.dup2, 1) := by decide +kernel
theorem dX4_takes_49 : decode cX4_takes 49 = .ok (.iaload, 1) := by decide +kernel
theorem dX4_takes_50 : decode cX4_takes 50 = .ok (.iload 4, 2) := by decide +kernel
theorem dX4_takes_52 : decode cX4_takes 52 = .ok (.iadd, 1) := by decide +kernel
theorem dX4_takes_53 : decode cX4_takes 53 = .ok (.iastore, 1) := by decide +kernel
theorem dX4_takes_54 : decode cX4_takes 54 = .ok (.iload_n 2, 1) := by decide +kernel
theorem dX4_takes_55 : decode cX4_takes 55 = .ok (.iload 4, 2) := by decide +kernel
theorem dX4_takes_57 : decode cX4_takes 57 = .ok (.isub, 1) := by decide +kernel
theorem dX4_takes_58 : decode cX4_takes 58 = .ok (.istore_n 2, 1) := by decide +kernel
theorem dX4_takes_59 : decode cX4_takes 59 = .ok (.iinc 3 1, 3) := by decide +kernel
theorem dX4_takes_62 : decode cX4_takes 62 = .ok (.goto (-58), 3) := by decide +kernel
theorem dX4_takes_65 : decode cX4_takes 65 = .ok (.iload_n 1, 1) := by decide +kernel
theorem dX4_takes_66 : decode cX4_takes 66 = .ok (.iload_n 2, 1) := by decide +kernel
theorem dX4_takes_67 : decode cX4_takes 67 = .ok (.isub, 1) := by decide +kernel
theorem dX4_takes_68 : decode cX4_takes 68 = .ok (.ireturn, 1) := by decide +kernel
set_option maxRecDepth 20000 in
theorem ggX4_serves_X4_needed : GoodIn wsX4_serves wsX4_needed := goodIn_r _ [17, 1, 3, 4, 34, 35, 36, 37, 38, 39, 40, 41, 42, 43, 44, 45, 46, 47, 48, 49, 50, 51, 52, 53, 54, 55, 56, 57, 58, 59, 60, 61, 62, 63, 64, 65, 66, 67, 68, 69, 70, 71, 72, 73] (by decide +kernel) (by decide +kernel)
set_option maxRecDepth 20000 in
theorem gX4_serves_X4_needed : GoodIn wsX4_serves (wsV RX4 155 RX4 yX4_needed wsX4_needed) := goodIn_app (goodIn_of _ (by decide +kernel)) ggX4_serves_X4_needed
set_option maxRecDepth 20000 in
theorem ggX4_serves_X4_takes : GoodIn wsX4_serves wsX4_takes := goodIn_r _ [21, 22, 23, 24, 25, 26, 27, 16, 28, 29, 30, 31, 32, 33, 34, 35, 36, 37, 38, 39, 40, 41, 42, 43, 44, 45, 46, 47, 48, 49, 50, 51, 52, 53, 54, 55, 56, 57, 58, 59, 60, 61, 62, 63, 64, 65, 66, 67, 68, 69, 70, 71, 72, 73] (by decide +kernel) (by decide +kernel)
set_option maxRecDepth 20000 in
theorem gX4_serves_X4_takes : GoodIn wsX4_serves (wsV RX4 165 RX4 yX4_takes wsX4_takes) := goodIn_app (goodIn_of _ (by decide +kernel)) ggX4_serves_X4_takes
set_option maxRecDepth 20000 in
theorem ggX4_serves_X4_lesser : GoodIn wsX4_serves wsX4_lesser := goodIn_r _ [33] (by decide +kernel) (by decide +kernel)
set_option maxRecDepth 20000 in
theorem gX4_serves_X4_lesser : GoodIn wsX4_serves (va_wsS RX4 126 yX4_lesser wsX4_lesser) := goodIn_app (goodIn_of _ (by decide +kernel)) ggX4_serves_X4_lesser
theorem dX4_serves_0 : decode cX4_serves 0 = .ok (.aload_n 0, 1) := by decide +kernel
theorem dX4_serves_1 : decode cX4_serves 1 = .ok (.invokevirtual 155, 3) := by decide +kernel
theorem dX4_serves_4 : decode cX4_serves 4 = .ok (.istore_n 1, 1) := by decide +kernel
theorem dX4_serves_5 : decode cX4_serves 5 = .ok (.iconst 0, 1) := by decide +kernel
theorem dX4_serves_6 : decode cX4_serves 6 = .ok (.istore_n 2, 1) := by decide +kernel
theorem dX4_serves_7 : decode cX4_serves 7 = .ok (.iload_n 2, 1) := by decide +kernel
theorem dX4_serves_8 : decode cX4_serves 8 = .ok (.aload_n 0, 1) := by decide +kernel
theorem dX4_serves_9 : decode cX4_serves 9 = .ok (.getfield 106, 3) := by decide +kernel
theorem dX4_serves_12 : decode cX4_serves 12 = .ok (.if_icmp .ge 62, 3) := by decide +kernel
theorem dX4_serves_15 : decode cX4_serves 15 = .ok (.aload_n 0, 1) := by decide +kernel
theorem dX4_serves_16 : decode cX4_serves 16 = .ok (.getfield 33, 3) := by decide +kernel
theorem dX4_serves_19 : decode cX4_serves 19 = .ok (.iload_n 2, 1) := by decide +kernel
theorem dX4_serves_20 : decode cX4_serves 20 = .ok (.dup2, 1) := by decide +kernel
theorem dX4_serves_21 : decode cX4_serves 21 = .ok (.iaload, 1) := by decide +kernel
theorem dX4_serves_22 : decode cX4_serves 22 = .ok (.aload_n 0, 1) := by decide +kernel
theorem dX4_serves_23 : decode cX4_serves 23 = .ok (.getfield 30, 3) := by decide +kernel
theorem dX4_serves_26 : decode cX4_serves 26 = .ok (.iload_n 2, 1) := by decide +kernel
theorem dX4_serves_27 : decode cX4_serves 27 = .ok (.iaload, 1) := by decide +kernel
theorem dX4_serves_28 : decode cX4_serves 28 = .ok (.iconst 1, 1) := by decide +kernel
theorem dX4_serves_29 : decode cX4_serves 29 = .ok (.if_icmp .ne 12, 3) := by decide +kernel
theorem dX4_serves_32 : decode cX4_serves 32 = .ok (.aload_n 0, 1) := by decide +kernel
theorem dX4_serves_33 : decode cX4_serves 33 = .ok (.getfield 27, 3) := by decide +kernel
theorem dX4_serves_36 : decode cX4_serves 36 = .ok (.iload_n 2, 1) := by decide +kernel
theorem dX4_serves_37 : decode cX4_serves 37 = .ok (.iaload, 1) := by decide +kernel
theorem dX4_serves_38 : decode cX4_serves 38 = .ok (.goto 4, 3) := by decide +kernel
theorem dX4_serves_41 : decode cX4_serves 41 = .ok (.iconst 0, 1) := by decide +kernel
theorem dX4_serves_42 : decode cX4_serves 42 = .ok (.iadd, 1) := by decide +kernel
theorem dX4_serves_43 : decode cX4_serves 43 = .ok (.iastore, 1) := by decide +kernel
theorem dX4_serves_44 : decode cX4_serves 44 = .ok (.aload_n 0, 1) := by decide +kernel
theorem dX4_serves_45 : decode cX4_serves 45 = .ok (.getfield 36, 3) := by decide +kernel
theorem dX4_serves_48 : decode cX4_serves 48 = .ok (.iload_n 2, 1) := by decide +kernel
theorem dX4_serves_49 : decode cX4_serves 49 = .ok (.dup2, 1) := by decide +kernel
theorem dX4_serves_50 : decode cX4_serves 50 = .ok (.iaload, 1) := by decide +kernel
theorem dX4_serves_51 : decode cX4_serves 51 = .ok (.aload_n 0, 1) := by decide +kernel
theorem dX4_serves_52 : decode cX4_serves 52 = .ok (.getfield 30, 3) := by decide +kernel
theorem dX4_serves_55 : decode cX4_serves 55 = .ok (.iload_n 2, 1) := by decide +kernel
theorem dX4_serves_56 : decode cX4_serves 56 = .ok (.iaload, 1) := by decide +kernel
theorem dX4_serves_57 : decode cX4_serves 57 = .ok (.iconst 2, 1) := by decide +kernel
theorem dX4_serves_58 : decode cX4_serves 58 = .ok (.if_icmp .ne 7, 3) := by decide +kernel
theorem dX4_serves_61 : decode cX4_serves 61 = .ok (.iconst 1, 1) := by decide +kernel
theorem dX4_serves_62 : decode cX4_serves 62 = .ok (.goto 4, 3) := by decide +kernel
theorem dX4_serves_65 : decode cX4_serves 65 = .ok (.iconst 0, 1) := by decide +kernel
theorem dX4_serves_66 : decode cX4_serves 66 = .ok (.iadd, 1) := by decide +kernel
theorem dX4_serves_67 : decode cX4_serves 67 = .ok (.iastore, 1) := by decide +kernel
theorem dX4_serves_68 : decode cX4_serves 68 = .ok (.iinc 2 1, 3) := by decide +kernel
theorem dX4_serves_71 : decode cX4_serves 71 = .ok (.goto (-64), 3) := by decide +kernel
theorem dX4_serves_74 : decode cX4_serves 74 = .ok (.aload_n 0, 1) := by decide +kernel
theorem dX4_serves_75 : decode cX4_serves 75 = .ok (.getfield 7, 3) := by decide +kernel
theorem dX4_serves_78 : decode cX4_serves 78 = .ok (.ifCond .eq 14, 3) := by decide +kernel
theorem dX4_serves_81 : decode cX4_serves 81 = .ok (.aload_n 0, 1) := by decide +kernel
theorem dX4_serves_82 : decode cX4_serves 82 = .ok (.dup, 1) := by decide +kernel
theorem dX4_serves_83 : decode cX4_serves 83 = .ok (.getfield 162, 3) := by decide +kernel
theorem dX4_serves_86 : decode cX4_serves 86 = .ok (.iload_n 1, 1) := by decide +kernel
theorem dX4_serves_87 : decode cX4_serves 87 = .ok (.iadd, 1) := by decide +kernel
theorem dX4_serves_88 : decode cX4_serves 88 = .ok (.putfield 162, 3) := by decide +kernel
theorem dX4_serves_91 : decode cX4_serves 91 = .ok (.return_, 1) := by decide +kernel
theorem dX4_serves_92 : decode cX4_serves 92 = .ok (.aload_n 0, 1) := by decide +kernel
theorem dX4_serves_93 : decode cX4_serves 93 = .ok (.iload_n 1, 1) := by decide +kernel
theorem dX4_serves_94 : decode cX4_serves 94 = .ok (.invokevirtual 165, 3) := by decide +kernel
theorem dX4_serves_97 : decode cX4_serves 97 = .ok (.istore_n 2, 1) := by decide +kernel
theorem dX4_serves_98 : decode cX4_serves 98 = .ok (.aload_n 0, 1) := by decide +kernel
theorem dX4_serves_99 : decode cX4_serves 99 = .ok (.dup, 1) := by decide +kernel
theorem dX4_serves_100 : decode cX4_serves 100 = .ok (.getfield 169, 3) := by decide +kernel
theorem dX4_serves_103 : decode cX4_serves 103 = .ok (.iload_n 2, 1) := by decide +kernel
theorem dX4_serves_104 : decode cX4_serves 104 = .ok (.iadd, 1) := by decide +kernel
theorem dX4_serves_105 : decode cX4_serves 105 = .ok (.putfield 169, 3) := by decide +kernel
theorem dX4_serves_108 : decode cX4_serves 108 = .ok (.iload_n 1, 1) := by decide +kernel
theorem dX4_serves_109 : decode cX4_serves 109 = .ok (.iload_n 2, 1) := by decide +kernel
theorem dX4_serves_110 : decode cX4_serves 110 = .ok (.isub, 1) := by decide +kernel
theorem dX4_serves_111 : decode cX4_serves 111 = .ok (.istore_n 3, 1) := by decide +kernel
theorem dX4_serves_112 : decode cX4_serves 112 = .ok (.iconst 0, 1) := by decide +kernel
theorem dX4_serves_113 : decode cX4_serves 113 = .ok (.istore 4, 2) := by decide +kernel
theorem dX4_serves_115 : decode cX4_serves 115 = .ok (.iload 4, 2) := by decide +kernel
theorem dX4_serves_117 : decode cX4_serves 117 = .ok (.aload_n 0, 1) := by decide +kernel
theorem dX4_serves_118 : decode cX4_serves 118 = .ok (.getfield 116, 3) := by decide +kernel
theorem dX4_serves_121 : decode cX4_serves 121 = .ok (.if_icmp .ge 60, 3) := by decide +kernel
theorem dX4_serves_124 : decode cX4_serves 124 = .ok (.aload_n 0, 1) := by decide +kernel
theorem dX4_serves_125 : decode cX4_serves 125 = .ok (.getfield 45, 3) := by decide +kernel
theorem dX4_serves_128 : decode cX4_serves 128 = .ok (.iload 4, 2) := by decide +kernel
theorem dX4_serves_130 : decode cX4_serves 130 = .ok (.iaload, 1) := by decide +kernel
theorem dX4_serves_131 : decode cX4_serves 131 = .ok (.aload_n 0, 1) := by decide +kernel
theorem dX4_serves_132 : decode cX4_serves 132 = .ok (.getfield 42, 3) := by decide +kernel
theorem dX4_serves_135 : decode cX4_serves 135 = .ok (.iload 4, 2) := by decide +kernel
theorem dX4_serves_137 : decode cX4_serves 137 = .ok (.iaload, 1) := by decide +kernel
theorem dX4_serves_138 : decode cX4_serves 138 = .ok (.invokestatic 126, 3) := by decide +kernel
theorem dX4_serves_141 : decode cX4_serves 141 = .ok (.iload_n 3, 1) := by decide +kernel
theorem dX4_serves_142 : decode cX4_serves 142 = .ok (.invokestatic 126, 3) := by decide +kernel
theorem dX4_serves_145 : decode cX4_serves 145 = .ok (.istore 5, 2) := by decide +kernel
theorem dX4_serves_147 : decode cX4_serves 147 = .ok (.aload_n 0, 1) := by decide +kernel
theorem dX4_serves_148 : decode cX4_serves 148 = .ok (.getfield 42, 3) := by decide +kernel
theorem dX4_serves_151 : decode cX4_serves 151 = .ok (.iload 4, 2) := by decide +kernel
theorem dX4_serves_153 : decode cX4_serves 153 = .ok (.dup2, 1) := by decide +kernel
theorem dX4_serves_154 : decode cX4_serves 154 = .ok (.iaload, 1) := by decide +kernel
theorem dX4_serves_155 : decode cX4_serves 155 = .ok (.iload 5, 2) := by decide +kernel
theorem dX4_serves_157 : decode cX4_serves 157 = .ok (.isub, 1) := by decide +kernel
theorem dX4_serves_158 : decode cX4_serves 158 = .ok (.iastore, 1) := by decide +kernel
theorem dX4_serves_159 : decode cX4_serves 159 = .ok (.aload_n 0, 1) := by decide +kernel
theorem dX4_serves_160 : decode cX4_serves 160 = .ok (.dup, 1) := by decide +kernel
theorem dX4_serves_161 : decode cX4_serves 161 = .ok (.getfield 172, 3) := by decide +kernel
theorem dX4_serves_164 : decode cX4_serves 164 = .ok (.iload 5, 2) := by decide +kernel
theorem dX4_serves_166 : decode cX4_serves 166 = .ok (.iadd, 1) := by decide +kernel
theorem dX4_serves_167 : decode cX4_serves 167 = .ok (.putfield 172, 3) := by decide +kernel
theorem dX4_serves_170 : decode cX4_serves 170 = .ok (.iload_n 3, 1) := by decide +kernel
theorem dX4_serves_171 : decode cX4_serves 171 = .ok (.iload 5, 2) := by decide +kernel
theorem dX4_serves_173 : decode cX4_serves 173 = .ok (.isub, 1) := by decide +kernel
theorem dX4_serves_174 : decode cX4_serves 174 = .ok (.istore_n 3, 1) := by decide +kernel
theorem dX4_serves_175 : decode cX4_serves 175 = .ok (.iinc 4 1, 3) := by decide +kernel
theorem dX4_serves_178 : decode cX4_serves 178 = .ok (.goto (-63), 3) := by decide +kernel
theorem dX4_serves_181 : decode cX4_serves 181 = .ok (.return_, 1) := by decide +kernel
set_option maxRecDepth 20000 in
theorem ggX4_charges_X4_lesser : GoodIn wsX4_charges wsX4_lesser := goodIn_r _ [10] (by decide +kernel) (by decide +kernel)
set_option maxRecDepth 20000 in
theorem gX4_charges_X4_lesser : GoodIn wsX4_charges (va_wsS RX4 126 yX4_lesser wsX4_lesser) := goodIn_app (goodIn_of _ (by decide +kernel)) ggX4_charges_X4_lesser
set_option maxRecDepth 20000 in
theorem ggX4_charges_X4_takes : GoodIn wsX4_charges wsX4_takes := goodIn_r _ [14, 15, 16, 17, 18, 19, 20, 9, 21, 22, 23, 7, 8, 10, 24, 25, 26, 27, 28, 29, 30, 31, 32, 33, 34, 35, 36, 37, 38, 39, 40, 41, 42, 43, 44, 45, 46, 47, 48, 49, 50, 51, 52, 53, 54, 55, 56, 57, 58, 59, 60, 61, 62, 63] (by decide +kernel) (by decide +kernel)
set_option maxRecDepth 20000 in
theorem gX4_charges_X4_takes : GoodIn wsX4_charges (wsV RX4 165 RX4 yX4_takes wsX4_takes) := goodIn_app (goodIn_of _ (by decide +kernel)) ggX4_charges_X4_takes
theorem dX4_charges_0 : decode cX4_charges 0 = .ok (.iconst 0, 1) := by decide +kernel
theorem dX4_charges_1 : decode cX4_charges 1 = .ok (.istore_n 1, 1) := by decide +kernel
theorem dX4_charges_2 : decode cX4_charges 2 = .ok (.iload_n 1, 1) := by decide +kernel
theorem dX4_charges_3 : decode cX4_charges 3 = .ok (.aload_n 0, 1) := by decide +kernel
theorem dX4_charges_4 : decode cX4_charges 4 = .ok (.getfield 116, 3) := by decide +kernel
theorem dX4_charges_7 : decode cX4_charges 7 = .ok (.if_icmp .ge 69, 3) := by decide +kernel
theorem dX4_charges_10 : decode cX4_charges 10 = .ok (.aload_n 0, 1) := by decide +kernel
theorem dX4_charges_11 : decode cX4_charges 11 = .ok (.getfield 48, 3) := by decide +kernel
theorem dX4_charges_14 : decode cX4_charges 14 = .ok (.iload_n 1, 1) := by decide +kernel
theorem dX4_charges_15 : decode cX4_charges 15 = .ok (.iaload, 1) := by decide +kernel
theorem dX4_charges_16 : decode cX4_charges 16 = .ok (.aload_n 0, 1) := by decide +kernel
theorem dX4_charges_17 : decode cX4_charges 17 = .ok (.getfield 39, 3) := by decide +kernel
theorem dX4_charges_20 : decode cX4_charges 20 = .ok (.iload_n 1, 1) := by decide +kernel
theorem dX4_charges_21 : decode cX4_charges 21 = .ok (.iaload, 1) := by decide +kernel
theorem dX4_charges_22 : decode cX4_charges 22 = .ok (.aload_n 0, 1) := by decide +kernel
theorem dX4_charges_23 : decode cX4_charges 23 = .ok (.getfield 42, 3) := by decide +kernel
theorem dX4_charges_26 : decode cX4_charges 26 = .ok (.iload_n 1, 1) := by decide +kernel
theorem dX4_charges_27 : decode cX4_charges 27 = .ok (.iaload, 1) := by decide +kernel
theorem dX4_charges_28 : decode cX4_charges 28 = .ok (.isub, 1) := by decide +kernel
theorem dX4_charges_29 : decode cX4_charges 29 = .ok (.invokestatic 126, 3) := by decide +kernel
theorem dX4_charges_32 : decode cX4_charges 32 = .ok (.istore_n 2, 1) := by decide +kernel
theorem dX4_charges_33 : decode cX4_charges 33 = .ok (.aload_n 0, 1) := by decide +kernel
theorem dX4_charges_34 : decode cX4_charges 34 = .ok (.getfield 7, 3) := by decide +kernel
theorem dX4_charges_37 : decode cX4_charges 37 = .ok (.ifCond .eq 7, 3) := by decide +kernel
theorem dX4_charges_40 : decode cX4_charges 40 = .ok (.iload_n 2, 1) := by decide +kernel
theorem dX4_charges_41 : decode cX4_charges 41 = .ok (.goto 8, 3) := by decide +kernel
theorem dX4_charges_44 : decode cX4_charges 44 = .ok (.aload_n 0, 1) := by decide +kernel
theorem dX4_charges_45 : decode cX4_charges 45 = .ok (.iload_n 2, 1) := by decide +kernel
theorem dX4_charges_46 : decode cX4_charges 46 = .ok (.invokevirtual 165, 3) := by decide +kernel
theorem dX4_charges_49 : decode cX4_charges 49 = .ok (.istore_n 3, 1) := by decide +kernel
theorem dX4_charges_50 : decode cX4_charges 50 = .ok (.aload_n 0, 1) := by decide +kernel
theorem dX4_charges_51 : decode cX4_charges 51 = .ok (.getfield 42, 3) := by decide +kernel
theorem dX4_charges_54 : decode cX4_charges 54 = .ok (.iload_n 1, 1) := by decide +kernel
theorem dX4_charges_55 : decode cX4_charges 55 = .ok (.dup2, 1) := by decide +kernel
theorem dX4_charges_56 : decode cX4_charges 56 = .ok (.iaload, 1) := by decide +kernel
theorem dX4_charges_57 : decode cX4_charges 57 = .ok (.iload_n 3, 1) := by decide +kernel
theorem dX4_charges_58 : decode cX4_charges 58 = .ok (.iadd, 1) := by decide +kernel
theorem dX4_charges_59 : decode cX4_charges 59 = .ok (.iastore, 1) := by decide +kernel
theorem dX4_charges_60 : decode cX4_charges 60 = .ok (.aload_n 0, 1) := by decide +kernel
theorem dX4_charges_61 : decode cX4_charges 61 = .ok (.dup, 1) := by decide +kernel
theorem dX4_charges_62 : decode cX4_charges 62 = .ok (.getfield 175, 3) := by decide +kernel
theorem dX4_charges_65 : decode cX4_charges 65 = .ok (.iload_n 3, 1) := by decide +kernel
theorem dX4_charges_66 : decode cX4_charges 66 = .ok (.iadd, 1) := by decide +kernel
theorem dX4_charges_67 : decode cX4_charges 67 = .ok (.putfield 175, 3) := by decide +kernel
theorem dX4_charges_70 : decode cX4_charges 70 = .ok (.iinc 1 1, 3) := by decide +kernel
theorem dX4_charges_73 : decode cX4_charges 73 = .ok (.goto (-71), 3) := by decide +kernel
theorem dX4_charges_76 : decode cX4_charges 76 = .ok (.return_, 1) := by decide +kernel
set_option maxRecDepth 20000 in
theorem ggX4_wears_X4_lesser : GoodIn wsX4_wears wsX4_lesser := goodIn_r _ [15] (by decide +kernel) (by decide +kernel)
set_option maxRecDepth 20000 in
theorem gX4_wears_X4_lesser : GoodIn wsX4_wears (va_wsS RX4 126 yX4_lesser wsX4_lesser) := goodIn_app (goodIn_of _ (by decide +kernel)) ggX4_wears_X4_lesser
set_option maxRecDepth 20000 in
theorem ggX4_wears_X4_stops : GoodIn wsX4_wears wsX4_stops := goodIn_r _ [19, 2, 7, 20, 21, 22, 23, 24, 25, 26, 27, 28, 29, 30, 31, 32, 33, 34, 35, 36, 37, 38, 39, 40, 41, 42, 43, 44, 45, 46, 47, 48, 49, 50, 51, 52, 53, 54, 55, 56, 57, 58, 59] (by decide +kernel) (by decide +kernel)
set_option maxRecDepth 20000 in
theorem gX4_wears_X4_stops : GoodIn wsX4_wears (wsV RX4 136 RX4 yX4_stops wsX4_stops) := goodIn_app (goodIn_of _ (by decide +kernel)) ggX4_wears_X4_stops
theorem dX4_wears_0 : decode cX4_wears 0 = .ok (.iconst 0, 1) := by decide +kernel
theorem dX4_wears_1 : decode cX4_wears 1 = .ok (.istore_n 1, 1) := by decide +kernel
theorem dX4_wears_2 : decode cX4_wears 2 = .ok (.iload_n 1, 1) := by decide +kernel
theorem dX4_wears_3 : decode cX4_wears 3 = .ok (.aload_n 0, 1) := by decide +kernel
theorem dX4_wears_4 : decode cX4_wears 4 = .ok (.getfield 113, 3) := by decide +kernel
theorem dX4_wears_7 : decode cX4_wears 7 = .ok (.if_icmp .ge 111, 3) := by decide +kernel
theorem dX4_wears_10 : decode cX4_wears 10 = .ok (.aload_n 0, 1) := by decide +kernel
theorem dX4_wears_11 : decode cX4_wears 11 = .ok (.getfield 69, 3) := by decide +kernel
theorem dX4_wears_14 : decode cX4_wears 14 = .ok (.iload_n 1, 1) := by decide +kernel
theorem dX4_wears_15 : decode cX4_wears 15 = .ok (.iaload, 1) := by decide +kernel
theorem dX4_wears_16 : decode cX4_wears 16 = .ok (.iconst 2, 1) := by decide +kernel
theorem dX4_wears_17 : decode cX4_wears 17 = .ok (.if_icmp .ne 95, 3) := by decide +kernel
theorem dX4_wears_20 : decode cX4_wears 20 = .ok (.aload_n 0, 1) := by decide +kernel
theorem dX4_wears_21 : decode cX4_wears 21 = .ok (.getfield 79, 3) := by decide +kernel
theorem dX4_wears_24 : decode cX4_wears 24 = .ok (.iload_n 1, 1) := by decide +kernel
theorem dX4_wears_25 : decode cX4_wears 25 = .ok (.dup2, 1) := by decide +kernel
theorem dX4_wears_26 : decode cX4_wears 26 = .ok (.iaload, 1) := by decide +kernel
theorem dX4_wears_27 : decode cX4_wears 27 = .ok (.iconst 1, 1) := by decide +kernel
theorem dX4_wears_28 : decode cX4_wears 28 = .ok (.iadd, 1) := by decide +kernel
theorem dX4_wears_29 : decode cX4_wears 29 = .ok (.iastore, 1) := by decide +kernel
theorem dX4_wears_30 : decode cX4_wears 30 = .ok (.aload_n 0, 1) := by decide +kernel
theorem dX4_wears_31 : decode cX4_wears 31 = .ok (.getfield 82, 3) := by decide +kernel
theorem dX4_wears_34 : decode cX4_wears 34 = .ok (.iload_n 1, 1) := by decide +kernel
theorem dX4_wears_35 : decode cX4_wears 35 = .ok (.iaload, 1) := by decide +kernel
theorem dX4_wears_36 : decode cX4_wears 36 = .ok (.ifCond .ne 7, 3) := by decide +kernel
theorem dX4_wears_39 : decode cX4_wears 39 = .ok (.iconst 1, 1) := by decide +kernel
theorem dX4_wears_40 : decode cX4_wears 40 = .ok (.goto 15, 3) := by decide +kernel
theorem dX4_wears_43 : decode cX4_wears 43 = .ok (.aload_n 0, 1) := by decide +kernel
theorem dX4_wears_44 : decode cX4_wears 44 = .ok (.getfield 82, 3) := by decide +kernel
theorem dX4_wears_47 : decode cX4_wears 47 = .ok (.iload_n 1, 1) := by decide +kernel
theorem dX4_wears_48 : decode cX4_wears 48 = .ok (.iaload, 1) := by decide +kernel
theorem dX4_wears_49 : decode cX4_wears 49 = .ok (.bipush 49, 2) := by decide +kernel
theorem dX4_wears_51 : decode cX4_wears 51 = .ok (.iadd, 1) := by decide +kernel
theorem dX4_wears_52 : decode cX4_wears 52 = .ok (.bipush 50, 2) := by decide +kernel
theorem dX4_wears_54 : decode cX4_wears 54 = .ok (.idiv, 1) := by decide +kernel
theorem dX4_wears_55 : decode cX4_wears 55 = .ok (.istore_n 2, 1) := by decide +kernel
theorem dX4_wears_56 : decode cX4_wears 56 = .ok (.aload_n 0, 1) := by decide +kernel
theorem dX4_wears_57 : decode cX4_wears 57 = .ok (.getfield 66, 3) := by decide +kernel
theorem dX4_wears_60 : decode cX4_wears 60 = .ok (.iload_n 1, 1) := by decide +kernel
theorem dX4_wears_61 : decode cX4_wears 61 = .ok (.dup2, 1) := by decide +kernel
theorem dX4_wears_62 : decode cX4_wears 62 = .ok (.iaload, 1) := by decide +kernel
theorem dX4_wears_63 : decode cX4_wears 63 = .ok (.iload_n 2, 1) := by decide +kernel
theorem dX4_wears_64 : decode cX4_wears 64 = .ok (.aload_n 0, 1) := by decide +kernel
theorem dX4_wears_65 : decode cX4_wears 65 = .ok (.getfield 66, 3) := by decide +kernel
theorem dX4_wears_68 : decode cX4_wears 68 = .ok (.iload_n 1, 1) := by decide +kernel
theorem dX4_wears_69 : decode cX4_wears 69 = .ok (.iaload, 1) := by decide +kernel
theorem dX4_wears_70 : decode cX4_wears 70 = .ok (.invokestatic 126, 3) := by decide +kernel
theorem dX4_wears_73 : decode cX4_wears 73 = .ok (.isub, 1) := by decide +kernel
theorem dX4_wears_74 : decode cX4_wears 74 = .ok (.iastore, 1) := by decide +kernel
theorem dX4_wears_75 : decode cX4_wears 75 = .ok (.aload_n 0, 1) := by decide +kernel
theorem dX4_wears_76 : decode cX4_wears 76 = .ok (.getfield 66, 3) := by decide +kernel
theorem dX4_wears_79 : decode cX4_wears 79 = .ok (.iload_n 1, 1) := by decide +kernel
theorem dX4_wears_80 : decode cX4_wears 80 = .ok (.iaload, 1) := by decide +kernel
theorem dX4_wears_81 : decode cX4_wears 81 = .ok (.ifCond .ne 31, 3) := by decide +kernel
theorem dX4_wears_84 : decode cX4_wears 84 = .ok (.aload_n 0, 1) := by decide +kernel
theorem dX4_wears_85 : decode cX4_wears 85 = .ok (.getfield 100, 3) := by decide +kernel
theorem dX4_wears_88 : decode cX4_wears 88 = .ok (.iload_n 1, 1) := by decide +kernel
theorem dX4_wears_89 : decode cX4_wears 89 = .ok (.dup2, 1) := by decide +kernel
theorem dX4_wears_90 : decode cX4_wears 90 = .ok (.iaload, 1) := by decide +kernel
theorem dX4_wears_91 : decode cX4_wears 91 = .ok (.aload_n 0, 1) := by decide +kernel
theorem dX4_wears_92 : decode cX4_wears 92 = .ok (.getfield 72, 3) := by decide +kernel
theorem dX4_wears_95 : decode cX4_wears 95 = .ok (.iload_n 1, 1) := by decide +kernel
theorem dX4_wears_96 : decode cX4_wears 96 = .ok (.baload, 1) := by decide +kernel
theorem dX4_wears_97 : decode cX4_wears 97 = .ok (.ifCond .eq 7, 3) := by decide +kernel
theorem dX4_wears_100 : decode cX4_wears 100 = .ok (.iconst 1, 1) := by decide +kernel
theorem dX4_wears_101 : decode cX4_wears 101 = .ok (.goto 4, 3) := by decide +kernel
theorem dX4_wears_104 : decode cX4_wears 104 = .ok (.iconst 0, 1) := by decide +kernel
theorem dX4_wears_105 : decode cX4_wears 105 = .ok (.iadd, 1) := by decide +kernel
theorem dX4_wears_106 : decode cX4_wears 106 = .ok (.iastore, 1) := by decide +kernel
theorem dX4_wears_107 : decode cX4_wears 107 = .ok (.aload_n 0, 1) := by decide +kernel
theorem dX4_wears_108 : decode cX4_wears 108 = .ok (.iload_n 1, 1) := by decide +kernel
theorem dX4_wears_109 : decode cX4_wears 109 = .ok (.invokevirtual 136, 3) := by decide +kernel
theorem dX4_wears_112 : decode cX4_wears 112 = .ok (.iinc 1 1, 3) := by decide +kernel
theorem dX4_wears_115 : decode cX4_wears 115 = .ok (.goto (-113), 3) := by decide +kernel
theorem dX4_wears_118 : decode cX4_wears 118 = .ok (.iconst 0, 1) := by decide +kernel
theorem dX4_wears_119 : decode cX4_wears 119 = .ok (.istore_n 1, 1) := by decide +kernel
theorem dX4_wears_120 : decode cX4_wears 120 = .ok (.iload_n 1, 1) := by decide +kernel
theorem dX4_wears_121 : decode cX4_wears 121 = .ok (.aload_n 0, 1) := by decide +kernel
theorem dX4_wears_122 : decode cX4_wears 122 = .ok (.getfield 116, 3) := by decide +kernel
theorem dX4_wears_125 : decode cX4_wears 125 = .ok (.if_icmp .ge 51, 3) := by decide +kernel
theorem dX4_wears_128 : decode cX4_wears 128 = .ok (.aload_n 0, 1) := by decide +kernel
theorem dX4_wears_129 : decode cX4_wears 129 = .ok (.getfield 39, 3) := by decide +kernel
theorem dX4_wears_132 : decode cX4_wears 132 = .ok (.iload_n 1, 1) := by decide +kernel
theorem dX4_wears_133 : decode cX4_wears 133 = .ok (.dup2, 1) := by decide +kernel
theorem dX4_wears_134 : decode cX4_wears 134 = .ok (.iaload, 1) := by decide +kernel
theorem dX4_wears_135 : decode cX4_wears 135 = .ok (.aload_n 0, 1) := by decide +kernel
theorem dX4_wears_136 : decode cX4_wears 136 = .ok (.getfield 51, 3) := by decide +kernel
theorem dX4_wears_139 : decode cX4_wears 139 = .ok (.iload_n 1, 1) := by decide +kernel
theorem dX4_wears_140 : decode cX4_wears 140 = .ok (.iaload, 1) := by decide +kernel
theorem dX4_wears_141 : decode cX4_wears 141 = .ok (.ifCond .le 26, 3) := by decide +kernel
theorem dX4_wears_144 : decode cX4_wears 144 = .ok (.aload_n 0, 1) := by decide +kernel
theorem dX4_wears_145 : decode cX4_wears 145 = .ok (.getfield 42, 3) := by decide +kernel
theorem dX4_wears_148 : decode cX4_wears 148 = .ok (.iload_n 1, 1) := by decide +kernel
theorem dX4_wears_149 : decode cX4_wears 149 = .ok (.iaload, 1) := by decide +kernel
theorem dX4_wears_150 : decode cX4_wears 150 = .ok (.ifCond .ne 17, 3) := by decide +kernel
theorem dX4_wears_153 : decode cX4_wears 153 = .ok (.aload_n 0, 1) := by decide +kernel
theorem dX4_wears_154 : decode cX4_wears 154 = .ok (.getfield 39, 3) := by decide +kernel
theorem dX4_wears_157 : decode cX4_wears 157 = .ok (.iload_n 1, 1) := by decide +kernel
theorem dX4_wears_158 : decode cX4_wears 158 = .ok (.iaload, 1) := by decide +kernel
theorem dX4_wears_159 : decode cX4_wears 159 = .ok (.iconst 1, 1) := by decide +kernel
theorem dX4_wears_160 : decode cX4_wears 160 = .ok (.if_icmp .le 7, 3) := by decide +kernel
theorem dX4_wears_163 : decode cX4_wears 163 = .ok (.iconst 1, 1) := by decide +kernel
theorem dX4_wears_164 : decode cX4_wears 164 = .ok (.goto 4, 3) := by decide +kernel
theorem dX4_wears_167 : decode cX4_wears 167 = .ok (.iconst 0, 1) := by decide +kernel
theorem dX4_wears_168 : decode cX4_wears 168 = .ok (.isub, 1) := by decide +kernel
theorem dX4_wears_169 : decode cX4_wears 169 = .ok (.iastore, 1) := by decide +kernel
theorem dX4_wears_170 : decode cX4_wears 170 = .ok (.iinc 1 1, 3) := by decide +kernel
theorem dX4_wears_173 : decode cX4_wears 173 = .ok (.goto (-53), 3) := by decide +kernel
theorem dX4_wears_176 : decode cX4_wears 176 = .ok (.return_, 1) := by decide +kernel
set_option maxRecDepth 20000 in
theorem ggX4_minute_X4_beginsToStart : GoodIn wsX4_minute wsX4_beginsToStart := goodIn_r _ [14, 2, 3, 15, 16, 1, 17, 9, 18, 19, 20, 106, 107, 108, 109, 110, 111, 112, 113, 114, 115, 116, 117, 118, 119, 120, 121, 122, 123, 124, 125, 126, 127, 128, 129, 130, 131, 132, 133, 134, 135, 136, 137, 138, 139, 140, 141, 142, 143, 144, 145] (by decide +kernel) (by decide +kernel)
set_option maxRecDepth 20000 in
theorem gX4_minute_X4_beginsToStart : GoodIn wsX4_minute (wsV RX4 178 RX4 yX4_beginsToStart wsX4_beginsToStart) := goodIn_app (goodIn_of _ (by decide +kernel)) ggX4_minute_X4_beginsToStart
set_option maxRecDepth 20000 in
theorem ggX4_minute_X4_goesOnStarting : GoodIn wsX4_minute wsX4_goesOnStarting := goodIn_r _ [24, 19, 25, 26, 27, 18, 9, 28, 29, 30, 31, 13, 32, 106, 107, 108, 109, 110, 111, 112, 113, 114, 115, 116, 117, 118, 119, 120, 121, 122, 123, 124, 125, 126, 127, 128, 129, 130, 131, 132, 133, 134, 135, 136, 137, 138, 139, 140, 141, 142, 143, 144, 145] (by decide +kernel) (by decide +kernel)
set_option maxRecDepth 20000 in
theorem gX4_minute_X4_goesOnStarting : GoodIn wsX4_minute (wsV RX4 181 RX4 yX4_goesOnStarting wsX4_goesOnStarting) := goodIn_app (goodIn_of _ (by decide +kernel)) ggX4_minute_X4_goesOnStarting
set_option maxRecDepth 20000 in
theorem ggX4_minute_X4_goesOnRunning : GoodIn wsX4_minute wsX4_goesOnRunning := goodIn_r _ [36, 18, 2, 28, 37, 38, 29, 30, 31, 13, 32, 9, 106, 107, 108, 109, 110, 111, 112, 113, 114, 115, 116, 117, 118, 119, 120, 121, 122, 123, 124, 125, 126, 127, 128, 129, 130, 131, 132, 133, 134, 135, 136, 137, 138, 139, 140, 141, 142, 143, 144, 145] (by decide +kernel) (by decide +kernel)
set_option maxRecDepth 20000 in
theorem gX4_minute_X4_goesOnRunning : GoodIn wsX4_minute (wsV RX4 184 RX4 yX4_goesOnRunning wsX4_goesOnRunning) := goodIn_app (goodIn_of _ (by decide +kernel)) ggX4_minute_X4_goesOnRunning
set_option maxRecDepth 20000 in
theorem ggX4_minute_X4_sheds : GoodIn wsX4_minute wsX4_sheds := goodIn_r _ [42, 6, 2, 43, 44, 45, 46, 13, 47, 7, 48, 49, 50, 51, 52, 9, 18, 53, 54, 55, 56, 4, 57, 58, 59, 60, 61, 62, 63, 64, 65, 66, 67, 68, 69, 70, 71, 72, 73, 74, 75, 106, 107, 108, 109, 110, 111, 112, 113, 114, 115, 116, 117, 118, 119, 120, 121, 122, 123, 124, 125, 126, 127, 128, 129, 130, 131, 132, 133, 134, 135, 136, 137, 138, 139, 140, 141, 142, 143, 144, 145] (by decide +kernel) (by decide +kernel)
set_option maxRecDepth 20000 in
theorem gX4_minute_X4_sheds : GoodIn wsX4_minute (wsV RX4 187 RX4 yX4_sheds wsX4_sheds) := goodIn_app (goodIn_of _ (by decide +kernel)) ggX4_minute_X4_sheds
set_option maxRecDepth 20000 in
theorem ggX4_minute_X4_returns : GoodIn wsX4_minute wsX4_returns := goodIn_r _ [79, 80, 1, 81, 2, 66, 43, 67, 68, 69, 13, 70, 65, 71, 72, 73, 74, 75, 61, 62, 63, 64, 44, 45, 46, 47, 7, 48, 49, 50, 51, 52, 9, 18, 106, 107, 108, 109, 110, 111, 112, 113, 114, 115, 116, 117, 118, 119, 120, 121, 122, 123, 124, 125, 126, 127, 128, 129, 130, 131, 132, 133, 134, 135, 136, 137, 138, 139, 140, 141, 142, 143, 144, 145] (by decide +kernel) (by decide +kernel)
set_option maxRecDepth 20000 in
theorem gX4_minute_X4_returns : GoodIn wsX4_minute (wsV RX4 190 RX4 yX4_returns wsX4_returns) := goodIn_app (goodIn_of _ (by decide +kernel)) ggX4_minute_X4_returns
set_option maxRecDepth 20000 in
theorem ggX4_minute_X4_serves : GoodIn wsX4_minute wsX4_serves := goodIn_r _ [85, 65, 86, 43, 66, 87, 2, 88, 89, 4, 57, 6, 90, 61, 62, 63, 13, 64, 91, 92, 93, 94, 7, 48, 8, 49, 50, 51, 52, 9, 18, 58, 59, 60, 106, 107, 108, 109, 110, 111, 112, 113, 114, 115, 116, 117, 118, 119, 120, 121, 122, 123, 124, 125, 126, 127, 128, 129, 130, 131, 132, 133, 134, 135, 136, 137, 138, 139, 140, 141, 142, 143, 144, 145] (by decide +kernel) (by decide +kernel)
set_option maxRecDepth 20000 in
theorem gX4_minute_X4_serves : GoodIn wsX4_minute (wsV RX4 193 RX4 yX4_serves wsX4_serves) := goodIn_app (goodIn_of _ (by decide +kernel)) ggX4_minute_X4_serves
set_option maxRecDepth 20000 in
theorem ggX4_minute_X4_charges : GoodIn wsX4_minute wsX4_charges := goodIn_r _ [98, 4, 99, 100, 6, 2, 101, 58, 59, 13, 60, 91, 92, 93, 94, 7, 48, 8, 49, 50, 51, 52, 9, 18, 106, 107, 108, 109, 110, 111, 112, 113, 114, 115, 116, 117, 118, 119, 120, 121, 122, 123, 124, 125, 126, 127, 128, 129, 130, 131, 132, 133, 134, 135, 136, 137, 138, 139, 140, 141, 142, 143, 144, 145] (by decide +kernel) (by decide +kernel)
set_option maxRecDepth 20000 in
theorem gX4_minute_X4_charges : GoodIn wsX4_minute (wsV RX4 196 RX4 yX4_charges wsX4_charges) := goodIn_app (goodIn_of _ (by decide +kernel)) ggX4_minute_X4_charges
set_option maxRecDepth 20000 in
theorem ggX4_minute_X4_wears : GoodIn wsX4_minute wsX4_wears := goodIn_r _ [105, 7, 9, 28, 8, 17, 27, 18, 4, 100, 5, 6, 58, 59, 13, 60, 29, 30, 31, 32, 106, 107, 108, 109, 110, 111, 112, 113, 114, 115, 116, 117, 118, 119, 120, 121, 122, 123, 124, 125, 126, 127, 128, 129, 130, 131, 132, 133, 134, 135, 136, 137, 138, 139, 140, 141, 142, 143, 144, 145] (by decide +kernel) (by decide +kernel)
set_option maxRecDepth 20000 in
theorem gX4_minute_X4_wears : GoodIn wsX4_minute (wsV RX4 198 RX4 yX4_wears wsX4_wears) := goodIn_app (goodIn_of _ (by decide +kernel)) ggX4_minute_X4_wears
theorem dX4_minute_0 : decode cX4_minute 0 = .ok (.aload_n 0, 1) := by decide +kernel
theorem dX4_minute_1 : decode cX4_minute 1 = .ok (.dup, 1) := by decide +kernel
theorem dX4_minute_2 : decode cX4_minute 2 = .ok (.getfield 133, 3) := by decide +kernel
theorem dX4_minute_5 : decode cX4_minute 5 = .ok (.iconst 1, 1) := by decide +kernel
theorem dX4_minute_6 : decode cX4_minute 6 = .ok (.iadd, 1) := by decide +kernel
theorem dX4_minute_7 : decode cX4_minute 7 = .ok (.putfield 133, 3) := by decide +kernel
theorem dX4_minute_10 : decode cX4_minute 10 = .ok (.aload_n 0, 1) := by decide +kernel
theorem dX4_minute_11 : decode cX4_minute 11 = .ok (.aload_n 0, 1) := by decide +kernel
theorem dX4_minute_12 : decode cX4_minute 12 = .ok (.getfield 7, 3) := by decide +kernel
theorem dX4_minute_15 : decode cX4_minute 15 = .ok (.ifCond .eq 7, 3) := by decide +kernel
theorem dX4_minute_18 : decode cX4_minute 18 = .ok (.iconst 0, 1) := by decide +kernel
theorem dX4_minute_19 : decode cX4_minute 19 = .ok (.goto 9, 3) := by decide +kernel
theorem dX4_minute_22 : decode cX4_minute 22 = .ok (.aload_n 0, 1) := by decide +kernel
theorem dX4_minute_23 : decode cX4_minute 23 = .ok (.getfield 130, 3) := by decide +kernel
theorem dX4_minute_26 : decode cX4_minute 26 = .ok (.iconst 1, 1) := by decide +kernel
theorem dX4_minute_27 : decode cX4_minute 27 = .ok (.iadd, 1) := by decide +kernel
theorem dX4_minute_28 : decode cX4_minute 28 = .ok (.putfield 130, 3) := by decide +kernel
theorem dX4_minute_31 : decode cX4_minute 31 = .ok (.iconst 0, 1) := by decide +kernel
theorem dX4_minute_32 : decode cX4_minute 32 = .ok (.istore_n 1, 1) := by decide +kernel
theorem dX4_minute_33 : decode cX4_minute 33 = .ok (.iload_n 1, 1) := by decide +kernel
theorem dX4_minute_34 : decode cX4_minute 34 = .ok (.aload_n 0, 1) := by decide +kernel
theorem dX4_minute_35 : decode cX4_minute 35 = .ok (.getfield 116, 3) := by decide +kernel
theorem dX4_minute_38 : decode cX4_minute 38 = .ok (.if_icmp .ge 21, 3) := by decide +kernel
theorem dX4_minute_41 : decode cX4_minute 41 = .ok (.aload_n 0, 1) := by decide +kernel
theorem dX4_minute_42 : decode cX4_minute 42 = .ok (.getfield 51, 3) := by decide +kernel
theorem dX4_minute_45 : decode cX4_minute 45 = .ok (.iload_n 1, 1) := by decide +kernel
theorem dX4_minute_46 : decode cX4_minute 46 = .ok (.aload_n 0, 1) := by decide +kernel
theorem dX4_minute_47 : decode cX4_minute 47 = .ok (.getfield 42, 3) := by decide +kernel
theorem dX4_minute_50 : decode cX4_minute 50 = .ok (.iload_n 1, 1) := by decide +kernel
theorem dX4_minute_51 : decode cX4_minute 51 = .ok (.iaload, 1) := by decide +kernel
theorem dX4_minute_52 : decode cX4_minute 52 = .ok (.iastore, 1) := by decide +kernel
theorem dX4_minute_53 : decode cX4_minute 53 = .ok (.iinc 1 1, 3) := by decide +kernel
theorem dX4_minute_56 : decode cX4_minute 56 = .ok (.goto (-23), 3) := by decide +kernel
theorem dX4_minute_59 : decode cX4_minute 59 = .ok (.iconst 0, 1) := by decide +kernel
theorem dX4_minute_60 : decode cX4_minute 60 = .ok (.istore_n 1, 1) := by decide +kernel
theorem dX4_minute_61 : decode cX4_minute 61 = .ok (.iload_n 1, 1) := by decide +kernel
theorem dX4_minute_62 : decode cX4_minute 62 = .ok (.aload_n 0, 1) := by decide +kernel
theorem dX4_minute_63 : decode cX4_minute 63 = .ok (.getfield 113, 3) := by decide +kernel
theorem dX4_minute_66 : decode cX4_minute 66 = .ok (.if_icmp .ge 56, 3) := by decide +kernel
theorem dX4_minute_69 : decode cX4_minute 69 = .ok (.aload_n 0, 1) := by decide +kernel
theorem dX4_minute_70 : decode cX4_minute 70 = .ok (.getfield 82, 3) := by decide +kernel
theorem dX4_minute_73 : decode cX4_minute 73 = .ok (.iload_n 1, 1) := by decide +kernel
theorem dX4_minute_74 : decode cX4_minute 74 = .ok (.iconst 0, 1) := by decide +kernel
theorem dX4_minute_75 : decode cX4_minute 75 = .ok (.iastore, 1) := by decide +kernel
theorem dX4_minute_76 : decode cX4_minute 76 = .ok (.aload_n 0, 1) := by decide +kernel
theorem dX4_minute_77 : decode cX4_minute 77 = .ok (.getfield 69, 3) := by decide +kernel
theorem dX4_minute_80 : decode cX4_minute 80 = .ok (.iload_n 1, 1) := by decide +kernel
theorem dX4_minute_81 : decode cX4_minute 81 = .ok (.iaload, 1) := by decide +kernel
theorem dX4_minute_82 : decode cX4_minute 82 = .ok (.ifCond .ne 11, 3) := by decide +kernel
theorem dX4_minute_85 : decode cX4_minute 85 = .ok (.aload_n 0, 1) := by decide +kernel
theorem dX4_minute_86 : decode cX4_minute 86 = .ok (.iload_n 1, 1) := by decide +kernel
theorem dX4_minute_87 : decode cX4_minute 87 = .ok (.invokevirtual 178, 3) := by decide +kernel
theorem dX4_minute_90 : decode cX4_minute 90 = .ok (.goto 26, 3) := by decide +kernel
theorem dX4_minute_93 : decode cX4_minute 93 = .ok (.aload_n 0, 1) := by decide +kernel
theorem dX4_minute_94 : decode cX4_minute 94 = .ok (.getfield 69, 3) := by decide +kernel
theorem dX4_minute_97 : decode cX4_minute 97 = .ok (.iload_n 1, 1) := by decide +kernel
theorem dX4_minute_98 : decode cX4_minute 98 = .ok (.iaload, 1) := by decide +kernel
theorem dX4_minute_99 : decode cX4_minute 99 = .ok (.iconst 1, 1) := by decide +kernel
theorem dX4_minute_100 : decode cX4_minute 100 = .ok (.if_icmp .ne 11, 3) := by decide +kernel
theorem dX4_minute_103 : decode cX4_minute 103 = .ok (.aload_n 0, 1) := by decide +kernel
theorem dX4_minute_104 : decode cX4_minute 104 = .ok (.iload_n 1, 1) := by decide +kernel
theorem dX4_minute_105 : decode cX4_minute 105 = .ok (.invokevirtual 181, 3) := by decide +kernel
theorem dX4_minute_108 : decode cX4_minute 108 = .ok (.goto 8, 3) := by decide +kernel
theorem dX4_minute_111 : decode cX4_minute 111 = .ok (.aload_n 0, 1) := by decide +kernel
theorem dX4_minute_112 : decode cX4_minute 112 = .ok (.iload_n 1, 1) := by decide +kernel
theorem dX4_minute_113 : decode cX4_minute 113 = .ok (.invokevirtual 184, 3) := by decide +kernel
theorem dX4_minute_116 : decode cX4_minute 116 = .ok (.iinc 1 1, 3) := by decide +kernel
theorem dX4_minute_119 : decode cX4_minute 119 = .ok (.goto (-58), 3) := by decide +kernel
theorem dX4_minute_122 : decode cX4_minute 122 = .ok (.aload_n 0, 1) := by decide +kernel
theorem dX4_minute_123 : decode cX4_minute 123 = .ok (.invokevirtual 187, 3) := by decide +kernel
theorem dX4_minute_126 : decode cX4_minute 126 = .ok (.istore_n 1, 1) := by decide +kernel
theorem dX4_minute_127 : decode cX4_minute 127 = .ok (.iload_n 1, 1) := by decide +kernel
theorem dX4_minute_128 : decode cX4_minute 128 = .ok (.ifCond .ne 7, 3) := by decide +kernel
theorem dX4_minute_131 : decode cX4_minute 131 = .ok (.aload_n 0, 1) := by decide +kernel
theorem dX4_minute_132 : decode cX4_minute 132 = .ok (.invokevirtual 190, 3) := by decide +kernel
theorem dX4_minute_135 : decode cX4_minute 135 = .ok (.aload_n 0, 1) := by decide +kernel
theorem dX4_minute_136 : decode cX4_minute 136 = .ok (.invokevirtual 193, 3) := by decide +kernel
theorem dX4_minute_139 : decode cX4_minute 139 = .ok (.aload_n 0, 1) := by decide +kernel
theorem dX4_minute_140 : decode cX4_minute 140 = .ok (.invokevirtual 196, 3) := by decide +kernel
theorem dX4_minute_143 : decode cX4_minute 143 = .ok (.aload_n 0, 1) := by decide +kernel
theorem dX4_minute_144 : decode cX4_minute 144 = .ok (.invokevirtual 198, 3) := by decide +kernel
theorem dX4_minute_147 : decode cX4_minute 147 = .ok (.iload_n 1, 1) := by decide +kernel
theorem dX4_minute_148 : decode cX4_minute 148 = .ok (.ireturn, 1) := by decide +kernel
set_option maxRecDepth 20000 in
theorem ggX4_pass_X4_in : GoodIn wsX4_pass wsX4_in := goodIn_r _ [5] (by decide +kernel) (by decide +kernel)
set_option maxRecDepth 20000 in
theorem gX4_pass_X4_in : GoodIn wsX4_pass (va_wsS RX4 109 yX4_in wsX4_in) := goodIn_app (goodIn_of _ (by decide +kernel)) ggX4_pass_X4_in
set_option maxRecDepth 20000 in
theorem ggX4_pass_X4_minute : GoodIn wsX4_pass wsX4_minute := goodIn_r _ [9, 10, 11, 12, 13, 14, 15, 16, 17, 18, 19, 20, 21, 4, 22, 23, 24, 25, 26, 27, 28, 29, 30, 31, 32, 33, 34, 35, 36, 37, 38, 39, 40, 41, 42, 43, 44, 45, 46, 47, 48, 49, 50, 51, 52, 53, 54, 55, 56, 57, 58, 59, 60, 61, 62, 63, 64, 65, 66, 67, 68, 69, 70, 71, 72, 73, 74, 75, 76, 77, 78, 79, 80, 81, 82, 83, 84, 85, 86, 87, 88, 89, 90, 91, 92, 93, 94, 95, 96, 97, 98, 99, 100, 101, 102, 103, 104, 105, 106, 107, 108, 109, 110, 111, 112, 113, 114, 115, 116, 117, 118, 119, 120, 121, 122, 123, 124, 125, 126, 127, 128, 129, 130, 131, 132, 133, 134, 135, 136, 137, 138, 139, 140, 141, 142, 143, 144, 145, 146, 147, 148, 149, 150, 151, 152, 153] (by decide +kernel) (by decide +kernel)
set_option maxRecDepth 20000 in
theorem gX4_pass_X4_minute : GoodIn wsX4_pass (wsV RX4 201 RX4 yX4_minute wsX4_minute) := goodIn_app (goodIn_of _ (by decide +kernel)) ggX4_pass_X4_minute
theorem dX4_pass_0 : decode cX4_pass 0 = .ok (.aload_n 0, 1) := by decide +kernel
theorem dX4_pass_1 : decode cX4_pass 1 = .ok (.iload_n 1, 1) := by decide +kernel
theorem dX4_pass_2 : decode cX4_pass 2 = .ok (.iconst 1, 1) := by decide +kernel
theorem dX4_pass_3 : decode cX4_pass 3 = .ok (.sipush 500, 3) := by decide +kernel
theorem dX4_pass_6 : decode cX4_pass 6 = .ok (.invokestatic 109, 3) := by decide +kernel
theorem dX4_pass_9 : decode cX4_pass 9 = .ok (.ifCond .eq 7, 3) := by decide +kernel
theorem dX4_pass_12 : decode cX4_pass 12 = .ok (.iconst 0, 1) := by decide +kernel
theorem dX4_pass_13 : decode cX4_pass 13 = .ok (.goto 4, 3) := by decide +kernel
theorem dX4_pass_16 : decode cX4_pass 16 = .ok (.iconst 1, 1) := by decide +kernel
theorem dX4_pass_17 : decode cX4_pass 17 = .ok (.putfield 103, 3) := by decide +kernel
theorem dX4_pass_20 : decode cX4_pass 20 = .ok (.iconst 0, 1) := by decide +kernel
theorem dX4_pass_21 : decode cX4_pass 21 = .ok (.istore_n 2, 1) := by decide +kernel
theorem dX4_pass_22 : decode cX4_pass 22 = .ok (.iconst 0, 1) := by decide +kernel
theorem dX4_pass_23 : decode cX4_pass 23 = .ok (.istore_n 3, 1) := by decide +kernel
theorem dX4_pass_24 : decode cX4_pass 24 = .ok (.iload_n 3, 1) := by decide +kernel
theorem dX4_pass_25 : decode cX4_pass 25 = .ok (.iload_n 1, 1) := by decide +kernel
theorem dX4_pass_26 : decode cX4_pass 26 = .ok (.if_icmp .ge 23, 3) := by decide +kernel
theorem dX4_pass_29 : decode cX4_pass 29 = .ok (.aload_n 0, 1) := by decide +kernel
theorem dX4_pass_30 : decode cX4_pass 30 = .ok (.getfield 103, 3) := by decide +kernel
theorem dX4_pass_33 : decode cX4_pass 33 = .ok (.ifCond .ne 16, 3) := by decide +kernel
theorem dX4_pass_36 : decode cX4_pass 36 = .ok (.iload_n 2, 1) := by decide +kernel
theorem dX4_pass_37 : decode cX4_pass 37 = .ok (.aload_n 0, 1) := by decide +kernel
theorem dX4_pass_38 : decode cX4_pass 38 = .ok (.invokevirtual 201, 3) := by decide +kernel
theorem dX4_pass_41 : decode cX4_pass 41 = .ok (.iadd, 1) := by decide +kernel
theorem dX4_pass_42 : decode cX4_pass 42 = .ok (.istore_n 2, 1) := by decide +kernel
theorem dX4_pass_43 : decode cX4_pass 43 = .ok (.iinc 3 1, 3) := by decide +kernel
theorem dX4_pass_46 : decode cX4_pass 46 = .ok (.goto (-22), 3) := by decide +kernel
theorem dX4_pass_49 : decode cX4_pass 49 = .ok (.iload_n 2, 1) := by decide +kernel
theorem dX4_pass_50 : decode cX4_pass 50 = .ok (.ireturn, 1) := by decide +kernel
theorem dX4_time_0 : decode cX4_time 0 = .ok (.aload_n 0, 1) := by decide +kernel
theorem dX4_time_1 : decode cX4_time 1 = .ok (.iconst 0, 1) := by decide +kernel
theorem dX4_time_2 : decode cX4_time 2 = .ok (.putfield 103, 3) := by decide +kernel
theorem dX4_time_5 : decode cX4_time 5 = .ok (.aload_n 0, 1) := by decide +kernel
theorem dX4_time_6 : decode cX4_time 6 = .ok (.getfield 133, 3) := by decide +kernel
theorem dX4_time_9 : decode cX4_time 9 = .ok (.ireturn, 1) := by decide +kernel
theorem dX4_outage_0 : decode cX4_outage 0 = .ok (.aload_n 0, 1) := by decide +kernel
theorem dX4_outage_1 : decode cX4_outage 1 = .ok (.iconst 0, 1) := by decide +kernel
theorem dX4_outage_2 : decode cX4_outage 2 = .ok (.putfield 103, 3) := by decide +kernel
theorem dX4_outage_5 : decode cX4_outage 5 = .ok (.aload_n 0, 1) := by decide +kernel
theorem dX4_outage_6 : decode cX4_outage 6 = .ok (.getfield 130, 3) := by decide +kernel
theorem dX4_outage_9 : decode cX4_outage 9 = .ok (.ireturn, 1) := by decide +kernel
set_option maxRecDepth 20000 in
theorem ggX4_told_X4_in : GoodIn wsX4_told wsX4_in := goodIn_r _ [5] (by decide +kernel) (by decide +kernel)
set_option maxRecDepth 20000 in
theorem gX4_told_X4_in : GoodIn wsX4_told (va_wsS RX4 109 yX4_in wsX4_in) := goodIn_app (goodIn_of _ (by decide +kernel)) ggX4_told_X4_in
set_option maxRecDepth 20000 in
theorem ggX4_told_X4_fails : GoodIn wsX4_told wsX4_fails := goodIn_r _ [9, 1, 10, 11, 12, 13, 14, 15, 16, 17, 18, 19, 20, 21, 22, 23, 24, 25, 26, 27, 28, 29, 30, 31, 32, 33, 34, 35, 36, 37, 38, 39, 40, 41, 42, 43, 44, 45, 46, 47, 48, 49] (by decide +kernel) (by decide +kernel)
set_option maxRecDepth 20000 in
theorem gX4_told_X4_fails : GoodIn wsX4_told (wsV RX4 204 RX4 yX4_fails wsX4_fails) := goodIn_app (goodIn_of _ (by decide +kernel)) ggX4_told_X4_fails
theorem dX4_told_0 : decode cX4_told 0 = .ok (.aload_n 0, 1) := by decide +kernel
theorem dX4_told_1 : decode cX4_told 1 = .ok (.iconst 0, 1) := by decide +kernel
theorem dX4_told_2 : decode cX4_told 2 = .ok (.putfield 103, 3) := by decide +kernel
theorem dX4_told_5 : decode cX4_told 5 = .ok (.iload_n 2, 1) := by decide +kernel
theorem dX4_told_6 : decode cX4_told 6 = .ok (.iconst 0, 1) := by decide +kernel
theorem dX4_told_7 : decode cX4_told 7 = .ok (.iload_n 3, 1) := by decide +kernel
theorem dX4_told_8 : decode cX4_told 8 = .ok (.iconst 1, 1) := by decide +kernel
theorem dX4_told_9 : decode cX4_told 9 = .ok (.isub, 1) := by decide +kernel
theorem dX4_told_10 : decode cX4_told 10 = .ok (.invokestatic 109, 3) := by decide +kernel
theorem dX4_told_13 : decode cX4_told 13 = .ok (.ifCond .eq 9, 3) := by decide +kernel
theorem dX4_told_16 : decode cX4_told 16 = .ok (.aload_n 1, 1) := by decide +kernel
theorem dX4_told_17 : decode cX4_told 17 = .ok (.iload_n 2, 1) := by decide +kernel
theorem dX4_told_18 : decode cX4_told 18 = .ok (.iaload, 1) := by decide +kernel
theorem dX4_told_19 : decode cX4_told 19 = .ok (.goto 8, 3) := by decide +kernel
theorem dX4_told_22 : decode cX4_told 22 = .ok (.aload_n 0, 1) := by decide +kernel
theorem dX4_told_23 : decode cX4_told 23 = .ok (.iconst 1, 1) := by decide +kernel
theorem dX4_told_24 : decode cX4_told 24 = .ok (.invokevirtual 204, 3) := by decide +kernel
theorem dX4_told_27 : decode cX4_told 27 = .ok (.ireturn, 1) := by decide +kernel
set_option maxRecDepth 20000 in
theorem ggX4_stateOf_X4_told : GoodIn wsX4_stateOf wsX4_told := goodIn_r _ [7, 8, 9, 10, 6, 11, 12, 13, 14, 15, 16, 17, 18, 19, 20, 21, 22, 23, 24, 25, 26, 27, 28, 29, 30, 31, 32, 33, 34, 35, 36, 37, 38, 39, 40, 41, 42, 43, 44, 45, 46, 47, 48, 49, 50, 51, 52, 53, 54, 55] (by decide +kernel) (by decide +kernel)
set_option maxRecDepth 20000 in
theorem gX4_stateOf_X4_told : GoodIn wsX4_stateOf (wsV RX4 207 RX4 yX4_told wsX4_told) := goodIn_app (goodIn_of _ (by decide +kernel)) ggX4_stateOf_X4_told
theorem dX4_stateOf_0 : decode cX4_stateOf 0 = .ok (.aload_n 0, 1) := by decide +kernel
theorem dX4_stateOf_1 : decode cX4_stateOf 1 = .ok (.aload_n 0, 1) := by decide +kernel
theorem dX4_stateOf_2 : decode cX4_stateOf 2 = .ok (.getfield 30, 3) := by decide +kernel
theorem dX4_stateOf_5 : decode cX4_stateOf 5 = .ok (.iload_n 1, 1) := by decide +kernel
theorem dX4_stateOf_6 : decode cX4_stateOf 6 = .ok (.aload_n 0, 1) := by decide +kernel
theorem dX4_stateOf_7 : decode cX4_stateOf 7 = .ok (.getfield 106, 3) := by decide +kernel
theorem dX4_stateOf_10 : decode cX4_stateOf 10 = .ok (.invokevirtual 207, 3) := by decide +kernel
theorem dX4_stateOf_13 : decode cX4_stateOf 13 = .ok (.ireturn, 1) := by decide +kernel
set_option maxRecDepth 20000 in
theorem ggX4_demand_X4_needed : GoodIn wsX4_demand wsX4_needed := goodIn_r _ [6, 7, 8, 9, 10, 11, 12, 13, 14, 15, 16, 17, 18, 19, 20, 21, 22, 23, 24, 25, 26, 27, 28, 29, 30, 31, 32, 33, 34, 35, 36, 37, 38, 39, 40, 41, 42, 43, 44, 45, 46, 47, 48, 49] (by decide +kernel) (by decide +kernel)
set_option maxRecDepth 20000 in
theorem gX4_demand_X4_needed : GoodIn wsX4_demand (wsV RX4 155 RX4 yX4_needed wsX4_needed) := goodIn_app (goodIn_of _ (by decide +kernel)) ggX4_demand_X4_needed
theorem dX4_demand_0 : decode cX4_demand 0 = .ok (.aload_n 0, 1) := by decide +kernel
theorem dX4_demand_1 : decode cX4_demand 1 = .ok (.iconst 0, 1) := by decide +kernel
theorem dX4_demand_2 : decode cX4_demand 2 = .ok (.putfield 103, 3) := by decide +kernel
theorem dX4_demand_5 : decode cX4_demand 5 = .ok (.aload_n 0, 1) := by decide +kernel
theorem dX4_demand_6 : decode cX4_demand 6 = .ok (.invokevirtual 155, 3) := by decide +kernel
theorem dX4_demand_9 : decode cX4_demand 9 = .ok (.ireturn, 1) := by decide +kernel
set_option maxRecDepth 20000 in
theorem ggX4_placed_X4_inOrder : GoodIn wsX4_placed wsX4_inOrder := goodIn_r _ [6, 7, 8, 9, 10, 11, 5, 12, 13, 14, 15, 16, 17, 18, 19, 20, 21, 22, 23, 24, 25, 26, 27, 28, 29, 30, 31, 32, 33, 34, 35, 36, 37, 38, 39, 40, 41, 42, 43, 44, 45, 46, 47, 48, 49, 50, 51, 52, 53, 54] (by decide +kernel) (by decide +kernel)
set_option maxRecDepth 20000 in
theorem gX4_placed_X4_inOrder : GoodIn wsX4_placed (wsV RX4 158 RX4 yX4_inOrder wsX4_inOrder) := goodIn_app (goodIn_of _ (by decide +kernel)) ggX4_placed_X4_inOrder
theorem dX4_placed_0 : decode cX4_placed 0 = .ok (.iload_n 2, 1) := by decide +kernel
theorem dX4_placed_1 : decode cX4_placed 1 = .ok (.ifCond .lt 13, 3) := by decide +kernel
theorem dX4_placed_4 : decode cX4_placed 4 = .ok (.aload_n 0, 1) := by decide +kernel
theorem dX4_placed_5 : decode cX4_placed 5 = .ok (.iload_n 1, 1) := by decide +kernel
theorem dX4_placed_6 : decode cX4_placed 6 = .ok (.iload_n 2, 1) := by decide +kernel
theorem dX4_placed_7 : decode cX4_placed 7 = .ok (.iload_n 3, 1) := by decide +kernel
theorem dX4_placed_8 : decode cX4_placed 8 = .ok (.invokevirtual 158, 3) := by decide +kernel
theorem dX4_placed_11 : decode cX4_placed 11 = .ok (.goto 4, 3) := by decide +kernel
theorem dX4_placed_14 : decode cX4_placed 14 = .ok (.iconst (-1), 1) := by decide +kernel
theorem dX4_placed_15 : decode cX4_placed 15 = .ok (.istore 4, 2) := by decide +kernel
theorem dX4_placed_17 : decode cX4_placed 17 = .ok (.aload_n 0, 1) := by decide +kernel
theorem dX4_placed_18 : decode cX4_placed 18 = .ok (.iload 4, 2) := by decide +kernel
theorem dX4_placed_20 : decode cX4_placed 20 = .ok (.iconst (-1), 1) := by decide +kernel
theorem dX4_placed_21 : decode cX4_placed 21 = .ok (.if_icmp .ne 7, 3) := by decide +kernel
theorem dX4_placed_24 : decode cX4_placed 24 = .ok (.iconst 1, 1) := by decide +kernel
theorem dX4_placed_25 : decode cX4_placed 25 = .ok (.goto 4, 3) := by decide +kernel
theorem dX4_placed_28 : decode cX4_placed 28 = .ok (.iconst 0, 1) := by decide +kernel
theorem dX4_placed_29 : decode cX4_placed 29 = .ok (.putfield 103, 3) := by decide +kernel
theorem dX4_placed_32 : decode cX4_placed 32 = .ok (.iload 4, 2) := by decide +kernel
theorem dX4_placed_34 : decode cX4_placed 34 = .ok (.iconst (-1), 1) := by decide +kernel
theorem dX4_placed_35 : decode cX4_placed 35 = .ok (.if_icmp .ne 7, 3) := by decide +kernel
theorem dX4_placed_38 : decode cX4_placed 38 = .ok (.iconst 0, 1) := by decide +kernel
theorem dX4_placed_39 : decode cX4_placed 39 = .ok (.goto 5, 3) := by decide +kernel
theorem dX4_placed_42 : decode cX4_placed 42 = .ok (.iload 4, 2) := by decide +kernel
theorem dX4_placed_44 : decode cX4_placed 44 = .ok (.ireturn, 1) := by decide +kernel
set_option maxRecDepth 20000 in
theorem ggX4_shedOrder_X4_placed : GoodIn wsX4_shedOrder wsX4_placed := goodIn_r _ [5, 6, 7, 8, 9, 4, 10, 11, 12, 13, 14, 15, 16, 17, 18, 19, 20, 21, 22, 23, 24, 25, 26, 27, 28, 29, 30, 31, 32, 33, 34, 35, 36, 37, 38, 39, 40, 41, 42, 43, 44, 45, 46, 47, 48, 49, 50, 51, 52, 53, 54, 55, 56, 57, 58] (by decide +kernel) (by decide +kernel)
set_option maxRecDepth 20000 in
theorem gX4_shedOrder_X4_placed : GoodIn wsX4_shedOrder (wsV RX4 211 RX4 yX4_placed wsX4_placed) := goodIn_app (goodIn_of _ (by decide +kernel)) ggX4_shedOrder_X4_placed
theorem dX4_shedOrder_0 : decode cX4_shedOrder 0 = .ok (.aload_n 0, 1) := by decide +kernel
theorem dX4_shedOrder_1 : decode cX4_shedOrder 1 = .ok (.iconst 1, 1) := by decide +kernel
theorem dX4_shedOrder_2 : decode cX4_shedOrder 2 = .ok (.iload_n 1, 1) := by decide +kernel
theorem dX4_shedOrder_3 : decode cX4_shedOrder 3 = .ok (.iconst 0, 1) := by decide +kernel
theorem dX4_shedOrder_4 : decode cX4_shedOrder 4 = .ok (.invokevirtual 211, 3) := by decide +kernel
theorem dX4_shedOrder_7 : decode cX4_shedOrder 7 = .ok (.ireturn, 1) := by decide +kernel
set_option maxRecDepth 20000 in
theorem ggX4_returnOrder_X4_placed : GoodIn wsX4_returnOrder wsX4_placed := goodIn_r _ [5, 6, 7, 8, 9, 4, 10, 11, 12, 13, 14, 15, 16, 17, 18, 19, 20, 21, 22, 23, 24, 25, 26, 27, 28, 29, 30, 31, 32, 33, 34, 35, 36, 37, 38, 39, 40, 41, 42, 43, 44, 45, 46, 47, 48, 49, 50, 51, 52, 53, 54, 55, 56, 57, 58] (by decide +kernel) (by decide +kernel)
set_option maxRecDepth 20000 in
theorem gX4_returnOrder_X4_placed : GoodIn wsX4_returnOrder (wsV RX4 211 RX4 yX4_placed wsX4_placed) := goodIn_app (goodIn_of _ (by decide +kernel)) ggX4_returnOrder_X4_placed
theorem dX4_returnOrder_0 : decode cX4_returnOrder 0 = .ok (.aload_n 0, 1) := by decide +kernel
theorem dX4_returnOrder_1 : decode cX4_returnOrder 1 = .ok (.iconst 2, 1) := by decide +kernel
theorem dX4_returnOrder_2 : decode cX4_returnOrder 2 = .ok (.iload_n 1, 1) := by decide +kernel
theorem dX4_returnOrder_3 : decode cX4_returnOrder 3 = .ok (.iconst 1, 1) := by decide +kernel
theorem dX4_returnOrder_4 : decode cX4_returnOrder 4 = .ok (.invokevirtual 211, 3) := by decide +kernel
theorem dX4_returnOrder_7 : decode cX4_returnOrder 7 = .ok (.ireturn, 1) := by decide +kernel
set_option maxRecDepth 20000 in
theorem ggX4_chargeOf_X4_told : GoodIn wsX4_chargeOf wsX4_told := goodIn_r _ [7, 8, 9, 10, 6, 11, 12, 13, 14, 15, 16, 17, 18, 19, 20, 21, 22, 23, 24, 25, 26, 27, 28, 29, 30, 31, 32, 33, 34, 35, 36, 37, 38, 39, 40, 41, 42, 43, 44, 45, 46, 47, 48, 49, 50, 51, 52, 53, 54, 55] (by decide +kernel) (by decide +kernel)
set_option maxRecDepth 20000 in
theorem gX4_chargeOf_X4_told : GoodIn wsX4_chargeOf (wsV RX4 207 RX4 yX4_told wsX4_told) := goodIn_app (goodIn_of _ (by decide +kernel)) ggX4_chargeOf_X4_told
theorem dX4_chargeOf_0 : decode cX4_chargeOf 0 = .ok (.aload_n 0, 1) := by decide +kernel
theorem dX4_chargeOf_1 : decode cX4_chargeOf 1 = .ok (.aload_n 0, 1) := by decide +kernel
theorem dX4_chargeOf_2 : decode cX4_chargeOf 2 = .ok (.getfield 42, 3) := by decide +kernel
theorem dX4_chargeOf_5 : decode cX4_chargeOf 5 = .ok (.iload_n 1, 1) := by decide +kernel
theorem dX4_chargeOf_6 : decode cX4_chargeOf 6 = .ok (.aload_n 0, 1) := by decide +kernel
theorem dX4_chargeOf_7 : decode cX4_chargeOf 7 = .ok (.getfield 116, 3) := by decide +kernel
theorem dX4_chargeOf_10 : decode cX4_chargeOf 10 = .ok (.invokevirtual 207, 3) := by decide +kernel
theorem dX4_chargeOf_13 : decode cX4_chargeOf 13 = .ok (.ireturn, 1) := by decide +kernel
set_option maxRecDepth 20000 in
theorem ggX4_capacityOf_X4_told : GoodIn wsX4_capacityOf wsX4_told := goodIn_r _ [7, 8, 9, 10, 6, 11, 12, 13, 14, 15, 16, 17, 18, 19, 20, 21, 22, 23, 24, 25, 26, 27, 28, 29, 30, 31, 32, 33, 34, 35, 36, 37, 38, 39, 40, 41, 42, 43, 44, 45, 46, 47, 48, 49, 50, 51, 52, 53, 54, 55] (by decide +kernel) (by decide +kernel)
set_option maxRecDepth 20000 in
theorem gX4_capacityOf_X4_told : GoodIn wsX4_capacityOf (wsV RX4 207 RX4 yX4_told wsX4_told) := goodIn_app (goodIn_of _ (by decide +kernel)) ggX4_capacityOf_X4_told
theorem dX4_capacityOf_0 : decode cX4_capacityOf 0 = .ok (.aload_n 0, 1) := by decide +kernel
theorem dX4_capacityOf_1 : decode cX4_capacityOf 1 = .ok (.aload_n 0, 1) := by decide +kernel
theorem dX4_capacityOf_2 : decode cX4_capacityOf 2 = .ok (.getfield 39, 3) := by decide +kernel
theorem dX4_capacityOf_5 : decode cX4_capacityOf 5 = .ok (.iload_n 1, 1) := by decide +kernel
theorem dX4_capacityOf_6 : decode cX4_capacityOf 6 = .ok (.aload_n 0, 1) := by decide +kernel
theorem dX4_capacityOf_7 : decode cX4_capacityOf 7 = .ok (.getfield 116, 3) := by decide +kernel
theorem dX4_capacityOf_10 : decode cX4_capacityOf 10 = .ok (.invokevirtual 207, 3) := by decide +kernel
theorem dX4_capacityOf_13 : decode cX4_capacityOf 13 = .ok (.ireturn, 1) := by decide +kernel
set_option maxRecDepth 20000 in
theorem ggX4_generatorState_X4_told : GoodIn wsX4_generatorState wsX4_told := goodIn_r _ [9, 3, 10, 11, 8, 12, 13, 14, 15, 16, 17, 18, 19, 20, 21, 22, 23, 24, 25, 26, 27, 28, 29, 30, 31, 32, 33, 34, 35, 36, 37, 38, 39, 40, 41, 42, 43, 44, 45, 46, 47, 48, 49, 50, 51, 52, 53, 54, 55, 56] (by decide +kernel) (by decide +kernel)
set_option maxRecDepth 20000 in
theorem gX4_generatorState_X4_told : GoodIn wsX4_generatorState (wsV RX4 207 RX4 yX4_told wsX4_told) := goodIn_app (goodIn_of _ (by decide +kernel)) ggX4_generatorState_X4_told
theorem dX4_generatorState_0 : decode cX4_generatorState 0 = .ok (.aload_n 0, 1) := by decide +kernel
theorem dX4_generatorState_1 : decode cX4_generatorState 1 = .ok (.aload_n 0, 1) := by decide +kernel
theorem dX4_generatorState_2 : decode cX4_generatorState 2 = .ok (.getfield 69, 3) := by decide +kernel
theorem dX4_generatorState_5 : decode cX4_generatorState 5 = .ok (.iload_n 1, 1) := by decide +kernel
theorem dX4_generatorState_6 : decode cX4_generatorState 6 = .ok (.aload_n 0, 1) := by decide +kernel
theorem dX4_generatorState_7 : decode cX4_generatorState 7 = .ok (.getfield 113, 3) := by decide +kernel
theorem dX4_generatorState_10 : decode cX4_generatorState 10 = .ok (.invokevirtual 207, 3) := by decide +kernel
theorem dX4_generatorState_13 : decode cX4_generatorState 13 = .ok (.istore_n 2, 1) := by decide +kernel
theorem dX4_generatorState_14 : decode cX4_generatorState 14 = .ok (.aload_n 0, 1) := by decide +kernel
theorem dX4_generatorState_15 : decode cX4_generatorState 15 = .ok (.getfield 103, 3) := by decide +kernel
theorem dX4_generatorState_18 : decode cX4_generatorState 18 = .ok (.ifCond .ne 19, 3) := by decide +kernel
theorem dX4_generatorState_21 : decode cX4_generatorState 21 = .ok (.aload_n 0, 1) := by decide +kernel
theorem dX4_generatorState_22 : decode cX4_generatorState 22 = .ok (.getfield 72, 3) := by decide +kernel
theorem dX4_generatorState_25 : decode cX4_generatorState 25 = .ok (.iload_n 1, 1) := by decide +kernel
theorem dX4_generatorState_26 : decode cX4_generatorState 26 = .ok (.baload, 1) := by decide +kernel
theorem dX4_generatorState_27 : decode cX4_generatorState 27 = .ok (.ifCond .eq 10, 3) := by decide +kernel
theorem dX4_generatorState_30 : decode cX4_generatorState 30 = .ok (.iload_n 2, 1) := by decide +kernel
theorem dX4_generatorState_31 : decode cX4_generatorState 31 = .ok (.bipush 10, 2) := by decide +kernel
theorem dX4_generatorState_33 : decode cX4_generatorState 33 = .ok (.iadd, 1) := by decide +kernel
theorem dX4_generatorState_34 : decode cX4_generatorState 34 = .ok (.goto 4, 3) := by decide +kernel
theorem dX4_generatorState_37 : decode cX4_generatorState 37 = .ok (.iload_n 2, 1) := by decide +kernel
theorem dX4_generatorState_38 : decode cX4_generatorState 38 = .ok (.ireturn, 1) := by decide +kernel
set_option maxRecDepth 20000 in
theorem ggX4_fuelOf_X4_told : GoodIn wsX4_fuelOf wsX4_told := goodIn_r _ [7, 8, 9, 10, 6, 11, 12, 13, 14, 15, 16, 17, 18, 19, 20, 21, 22, 23, 24, 25, 26, 27, 28, 29, 30, 31, 32, 33, 34, 35, 36, 37, 38, 39, 40, 41, 42, 43, 44, 45, 46, 47, 48, 49, 50, 51, 52, 53, 54, 55] (by decide +kernel) (by decide +kernel)
set_option maxRecDepth 20000 in
theorem gX4_fuelOf_X4_told : GoodIn wsX4_fuelOf (wsV RX4 207 RX4 yX4_told wsX4_told) := goodIn_app (goodIn_of _ (by decide +kernel)) ggX4_fuelOf_X4_told
theorem dX4_fuelOf_0 : decode cX4_fuelOf 0 = .ok (.aload_n 0, 1) := by decide +kernel
theorem dX4_fuelOf_1 : decode cX4_fuelOf 1 = .ok (.aload_n 0, 1) := by decide +kernel
theorem dX4_fuelOf_2 : decode cX4_fuelOf 2 = .ok (.getfield 66, 3) := by decide +kernel
theorem dX4_fuelOf_5 : decode cX4_fuelOf 5 = .ok (.iload_n 1, 1) := by decide +kernel
theorem dX4_fuelOf_6 : decode cX4_fuelOf 6 = .ok (.aload_n 0, 1) := by decide +kernel
theorem dX4_fuelOf_7 : decode cX4_fuelOf 7 = .ok (.getfield 113, 3) := by decide +kernel
theorem dX4_fuelOf_10 : decode cX4_fuelOf 10 = .ok (.invokevirtual 207, 3) := by decide +kernel
theorem dX4_fuelOf_13 : decode cX4_fuelOf 13 = .ok (.ireturn, 1) := by decide +kernel
set_option maxRecDepth 20000 in
theorem ggX4_batteryMinutes_X4_needed : GoodIn wsX4_batteryMinutes wsX4_needed := goodIn_r _ [10, 11, 12, 13, 21, 22, 23, 24, 25, 26, 27, 28, 29, 30, 31, 32, 33, 34, 35, 36, 37, 38, 39, 40, 41, 42, 43, 44, 45, 46, 47, 48, 49, 50, 51, 52, 53, 54, 55, 56, 57, 58, 59, 60] (by decide +kernel) (by decide +kernel)
set_option maxRecDepth 20000 in
theorem gX4_batteryMinutes_X4_needed : GoodIn wsX4_batteryMinutes (wsV RX4 155 RX4 yX4_needed wsX4_needed) := goodIn_app (goodIn_of _ (by decide +kernel)) ggX4_batteryMinutes_X4_needed
set_option maxRecDepth 20000 in
theorem ggX4_batteryMinutes_X4_fromBatteriesNow : GoodIn wsX4_batteryMinutes wsX4_fromBatteriesNow := goodIn_r _ [17, 2, 5, 18, 19, 9, 20, 21, 22, 23, 24, 25, 26, 27, 28, 29, 30, 31, 32, 33, 34, 35, 36, 37, 38, 39, 40, 41, 42, 43, 44, 45, 46, 47, 48, 49, 50, 51, 52, 53, 54, 55, 56, 57, 58, 59, 60] (by decide +kernel) (by decide +kernel)
set_option maxRecDepth 20000 in
theorem gX4_batteryMinutes_X4_fromBatteriesNow : GoodIn wsX4_batteryMinutes (wsV RX4 151 RX4 yX4_fromBatteriesNow wsX4_fromBatteriesNow) := goodIn_app (goodIn_of _ (by decide +kernel)) ggX4_batteryMinutes_X4_fromBatteriesNow
set_option maxRecDepth 20000 in
theorem ggX4_batteryMinutes_X4_lesser : GoodIn wsX4_batteryMinutes wsX4_lesser := goodIn_r _ [20] (by decide +kernel) (by decide +kernel)
set_option maxRecDepth 20000 in
theorem gX4_batteryMinutes_X4_lesser : GoodIn wsX4_batteryMinutes (va_wsS RX4 126 yX4_lesser wsX4_lesser) := goodIn_app (goodIn_of _ (by decide +kernel)) ggX4_batteryMinutes_X4_lesser
theorem dX4_batteryMinutes_0 : decode cX4_batteryMinutes 0 = .ok (.aload_n 0, 1) := by decide +kernel
theorem dX4_batteryMinutes_1 : decode cX4_batteryMinutes 1 = .ok (.iconst 0, 1) := by decide +kernel
theorem dX4_batteryMinutes_2 : decode cX4_batteryMinutes 2 = .ok (.putfield 103, 3) := by decide +kernel
theorem dX4_batteryMinutes_5 : decode cX4_batteryMinutes 5 = .ok (.aload_n 0, 1) := by decide +kernel
theorem dX4_batteryMinutes_6 : decode cX4_batteryMinutes 6 = .ok (.invokevirtual 155, 3) := by decide +kernel
theorem dX4_batteryMinutes_9 : decode cX4_batteryMinutes 9 = .ok (.istore_n 1, 1) := by decide +kernel
theorem dX4_batteryMinutes_10 : decode cX4_batteryMinutes 10 = .ok (.iload_n 1, 1) := by decide +kernel
theorem dX4_batteryMinutes_11 : decode cX4_batteryMinutes 11 = .ok (.ifCond .ne 7, 3) := by decide +kernel
theorem dX4_batteryMinutes_14 : decode cX4_batteryMinutes 14 = .ok (.sipush 1000, 3) := by decide +kernel
theorem dX4_batteryMinutes_17 : decode cX4_batteryMinutes 17 = .ok (.ireturn, 1) := by decide +kernel
theorem dX4_batteryMinutes_18 : decode cX4_batteryMinutes 18 = .ok (.iconst 0, 1) := by decide +kernel
theorem dX4_batteryMinutes_19 : decode cX4_batteryMinutes 19 = .ok (.istore_n 2, 1) := by decide +kernel
theorem dX4_batteryMinutes_20 : decode cX4_batteryMinutes 20 = .ok (.iload_n 2, 1) := by decide +kernel
theorem dX4_batteryMinutes_21 : decode cX4_batteryMinutes 21 = .ok (.aload_n 0, 1) := by decide +kernel
theorem dX4_batteryMinutes_22 : decode cX4_batteryMinutes 22 = .ok (.getfield 116, 3) := by decide +kernel
theorem dX4_batteryMinutes_25 : decode cX4_batteryMinutes 25 = .ok (.if_icmp .ge 21, 3) := by decide +kernel
theorem dX4_batteryMinutes_28 : decode cX4_batteryMinutes 28 = .ok (.aload_n 0, 1) := by decide +kernel
theorem dX4_batteryMinutes_29 : decode cX4_batteryMinutes 29 = .ok (.getfield 54, 3) := by decide +kernel
theorem dX4_batteryMinutes_32 : decode cX4_batteryMinutes 32 = .ok (.iload_n 2, 1) := by decide +kernel
theorem dX4_batteryMinutes_33 : decode cX4_batteryMinutes 33 = .ok (.aload_n 0, 1) := by decide +kernel
theorem dX4_batteryMinutes_34 : decode cX4_batteryMinutes 34 = .ok (.getfield 42, 3) := by decide +kernel
theorem dX4_batteryMinutes_37 : decode cX4_batteryMinutes 37 = .ok (.iload_n 2, 1) := by decide +kernel
theorem dX4_batteryMinutes_38 : decode cX4_batteryMinutes 38 = .ok (.iaload, 1) := by decide +kernel
theorem dX4_batteryMinutes_39 : decode cX4_batteryMinutes 39 = .ok (.iastore, 1) := by decide +kernel
theorem dX4_batteryMinutes_40 : decode cX4_batteryMinutes 40 = .ok (.iinc 2 1, 3) := by decide +kernel
theorem dX4_batteryMinutes_43 : decode cX4_batteryMinutes 43 = .ok (.goto (-23), 3) := by decide +kernel
theorem dX4_batteryMinutes_46 : decode cX4_batteryMinutes 46 = .ok (.iconst 0, 1) := by decide +kernel
theorem dX4_batteryMinutes_47 : decode cX4_batteryMinutes 47 = .ok (.istore_n 2, 1) := by decide +kernel
theorem dX4_batteryMinutes_48 : decode cX4_batteryMinutes 48 = .ok (.iload_n 2, 1) := by decide +kernel
theorem dX4_batteryMinutes_49 : decode cX4_batteryMinutes 49 = .ok (.sipush 1000, 3) := by decide +kernel
theorem dX4_batteryMinutes_52 : decode cX4_batteryMinutes 52 = .ok (.if_icmp .ge 81, 3) := by decide +kernel
theorem dX4_batteryMinutes_55 : decode cX4_batteryMinutes 55 = .ok (.aload_n 0, 1) := by decide +kernel
theorem dX4_batteryMinutes_56 : decode cX4_batteryMinutes 56 = .ok (.aload_n 0, 1) := by decide +kernel
theorem dX4_batteryMinutes_57 : decode cX4_batteryMinutes 57 = .ok (.getfield 54, 3) := by decide +kernel
theorem dX4_batteryMinutes_60 : decode cX4_batteryMinutes 60 = .ok (.invokevirtual 151, 3) := by decide +kernel
theorem dX4_batteryMinutes_63 : decode cX4_batteryMinutes 63 = .ok (.iload_n 1, 1) := by decide +kernel
theorem dX4_batteryMinutes_64 : decode cX4_batteryMinutes 64 = .ok (.if_icmp .lt 69, 3) := by decide +kernel
theorem dX4_batteryMinutes_67 : decode cX4_batteryMinutes 67 = .ok (.iload_n 1, 1) := by decide +kernel
theorem dX4_batteryMinutes_68 : decode cX4_batteryMinutes 68 = .ok (.istore_n 3, 1) := by decide +kernel
theorem dX4_batteryMinutes_69 : decode cX4_batteryMinutes 69 = .ok (.iconst 0, 1) := by decide +kernel
theorem dX4_batteryMinutes_70 : decode cX4_batteryMinutes 70 = .ok (.istore 4, 2) := by decide +kernel
theorem dX4_batteryMinutes_72 : decode cX4_batteryMinutes 72 = .ok (.iload 4, 2) := by decide +kernel
theorem dX4_batteryMinutes_74 : decode cX4_batteryMinutes 74 = .ok (.aload_n 0, 1) := by decide +kernel
theorem dX4_batteryMinutes_75 : decode cX4_batteryMinutes 75 = .ok (.getfield 116, 3) := by decide +kernel
theorem dX4_batteryMinutes_78 : decode cX4_batteryMinutes 78 = .ok (.if_icmp .ge 49, 3) := by decide +kernel
theorem dX4_batteryMinutes_81 : decode cX4_batteryMinutes 81 = .ok (.aload_n 0, 1) := by decide +kernel
theorem dX4_batteryMinutes_82 : decode cX4_batteryMinutes 82 = .ok (.getfield 45, 3) := by decide +kernel
theorem dX4_batteryMinutes_85 : decode cX4_batteryMinutes 85 = .ok (.iload 4, 2) := by decide +kernel
theorem dX4_batteryMinutes_87 : decode cX4_batteryMinutes 87 = .ok (.iaload, 1) := by decide +kernel
theorem dX4_batteryMinutes_88 : decode cX4_batteryMinutes 88 = .ok (.aload_n 0, 1) := by decide +kernel
theorem dX4_batteryMinutes_89 : decode cX4_batteryMinutes 89 = .ok (.getfield 54, 3) := by decide +kernel
theorem dX4_batteryMinutes_92 : decode cX4_batteryMinutes 92 = .ok (.iload 4, 2) := by decide +kernel
theorem dX4_batteryMinutes_94 : decode cX4_batteryMinutes 94 = .ok (.iaload, 1) := by decide +kernel
theorem dX4_batteryMinutes_95 : decode cX4_batteryMinutes 95 = .ok (.invokestatic 126, 3) := by decide +kernel
theorem dX4_batteryMinutes_98 : decode cX4_batteryMinutes 98 = .ok (.iload_n 3, 1) := by decide +kernel
theorem dX4_batteryMinutes_99 : decode cX4_batteryMinutes 99 = .ok (.invokestatic 126, 3) := by decide +kernel
theorem dX4_batteryMinutes_102 : decode cX4_batteryMinutes 102 = .ok (.istore 5, 2) := by decide +kernel
theorem dX4_batteryMinutes_104 : decode cX4_batteryMinutes 104 = .ok (.aload_n 0, 1) := by decide +kernel
theorem dX4_batteryMinutes_105 : decode cX4_batteryMinutes 105 = .ok (.getfield 54, 3) := by decide +kernel
theorem dX4_batteryMinutes_108 : decode cX4_batteryMinutes 108 = .ok (.iload 4, 2) := by decide +kernel
theorem dX4_batteryMinutes_110 : decode cX4_batteryMinutes 110 = .ok (.dup2, 1) := by decide +kernel
theorem dX4_batteryMinutes_111 : decode cX4_batteryMinutes 111 = .ok (.iaload, 1) := by decide +kernel
theorem dX4_batteryMinutes_112 : decode cX4_batteryMinutes 112 = .ok (.iload 5, 2) := by decide +kernel
theorem dX4_batteryMinutes_114 : decode cX4_batteryMinutes 114 = .ok (.isub, 1) := by decide +kernel
theorem dX4_batteryMinutes_115 : decode cX4_batteryMinutes 115 = .ok (.iastore, 1) := by decide +kernel
theorem dX4_batteryMinutes_116 : decode cX4_batteryMinutes 116 = .ok (.iload_n 3, 1) := by decide +kernel
theorem dX4_batteryMinutes_117 : decode cX4_batteryMinutes 117 = .ok (.iload 5, 2) := by decide +kernel
theorem dX4_batteryMinutes_119 : decode cX4_batteryMinutes 119 = .ok (.isub, 1) := by decide +kernel
theorem dX4_batteryMinutes_120 : decode cX4_batteryMinutes 120 = .ok (.istore_n 3, 1) := by decide +kernel
theorem dX4_batteryMinutes_121 : decode cX4_batteryMinutes 121 = .ok (.iinc 4 1, 3) := by decide +kernel
theorem dX4_batteryMinutes_124 : decode cX4_batteryMinutes 124 = .ok (.goto (-52), 3) := by decide +kernel
theorem dX4_batteryMinutes_127 : decode cX4_batteryMinutes 127 = .ok (.iinc 2 1, 3) := by decide +kernel
theorem dX4_batteryMinutes_130 : decode cX4_batteryMinutes 130 = .ok (.goto (-82), 3) := by decide +kernel
theorem dX4_batteryMinutes_133 : decode cX4_batteryMinutes 133 = .ok (.iload_n 2, 1) := by decide +kernel
theorem dX4_batteryMinutes_134 : decode cX4_batteryMinutes 134 = .ok (.ireturn, 1) := by decide +kernel
set_option maxRecDepth 20000 in
theorem ggX4_energyOf_X4_told : GoodIn wsX4_energyOf wsX4_told := goodIn_r _ [7, 8, 9, 10, 6, 11, 12, 13, 14, 15, 16, 17, 18, 19, 20, 21, 22, 23, 24, 25, 26, 27, 28, 29, 30, 31, 32, 33, 34, 35, 36, 37, 38, 39, 40, 41, 42, 43, 44, 45, 46, 47, 48, 49, 50, 51, 52, 53, 54, 55] (by decide +kernel) (by decide +kernel)
set_option maxRecDepth 20000 in
theorem gX4_energyOf_X4_told : GoodIn wsX4_energyOf (wsV RX4 207 RX4 yX4_told wsX4_told) := goodIn_app (goodIn_of _ (by decide +kernel)) ggX4_energyOf_X4_told
theorem dX4_energyOf_0 : decode cX4_energyOf 0 = .ok (.aload_n 0, 1) := by decide +kernel
theorem dX4_energyOf_1 : decode cX4_energyOf 1 = .ok (.aload_n 0, 1) := by decide +kernel
theorem dX4_energyOf_2 : decode cX4_energyOf 2 = .ok (.getfield 33, 3) := by decide +kernel
theorem dX4_energyOf_5 : decode cX4_energyOf 5 = .ok (.iload_n 1, 1) := by decide +kernel
theorem dX4_energyOf_6 : decode cX4_energyOf 6 = .ok (.aload_n 0, 1) := by decide +kernel
theorem dX4_energyOf_7 : decode cX4_energyOf 7 = .ok (.getfield 106, 3) := by decide +kernel
theorem dX4_energyOf_10 : decode cX4_energyOf 10 = .ok (.invokevirtual 207, 3) := by decide +kernel
theorem dX4_energyOf_13 : decode cX4_energyOf 13 = .ok (.ireturn, 1) := by decide +kernel
set_option maxRecDepth 20000 in
theorem ggX4_darkMinutes_X4_told : GoodIn wsX4_darkMinutes wsX4_told := goodIn_r _ [7, 8, 9, 10, 6, 11, 12, 13, 14, 15, 16, 17, 18, 19, 20, 21, 22, 23, 24, 25, 26, 27, 28, 29, 30, 31, 32, 33, 34, 35, 36, 37, 38, 39, 40, 41, 42, 43, 44, 45, 46, 47, 48, 49, 50, 51, 52, 53, 54, 55] (by decide +kernel) (by decide +kernel)
set_option maxRecDepth 20000 in
theorem gX4_darkMinutes_X4_told : GoodIn wsX4_darkMinutes (wsV RX4 207 RX4 yX4_told wsX4_told) := goodIn_app (goodIn_of _ (by decide +kernel)) ggX4_darkMinutes_X4_told
theorem dX4_darkMinutes_0 : decode cX4_darkMinutes 0 = .ok (.aload_n 0, 1) := by decide +kernel
theorem dX4_darkMinutes_1 : decode cX4_darkMinutes 1 = .ok (.aload_n 0, 1) := by decide +kernel
theorem dX4_darkMinutes_2 : decode cX4_darkMinutes 2 = .ok (.getfield 36, 3) := by decide +kernel
theorem dX4_darkMinutes_5 : decode cX4_darkMinutes 5 = .ok (.iload_n 1, 1) := by decide +kernel
theorem dX4_darkMinutes_6 : decode cX4_darkMinutes 6 = .ok (.aload_n 0, 1) := by decide +kernel
theorem dX4_darkMinutes_7 : decode cX4_darkMinutes 7 = .ok (.getfield 106, 3) := by decide +kernel
theorem dX4_darkMinutes_10 : decode cX4_darkMinutes 10 = .ok (.invokevirtual 207, 3) := by decide +kernel
theorem dX4_darkMinutes_13 : decode cX4_darkMinutes 13 = .ok (.ireturn, 1) := by decide +kernel
theorem dX4_fromMains_0 : decode cX4_fromMains 0 = .ok (.aload_n 0, 1) := by decide +kernel
theorem dX4_fromMains_1 : decode cX4_fromMains 1 = .ok (.iconst 0, 1) := by decide +kernel
theorem dX4_fromMains_2 : decode cX4_fromMains 2 = .ok (.putfield 103, 3) := by decide +kernel
theorem dX4_fromMains_5 : decode cX4_fromMains 5 = .ok (.aload_n 0, 1) := by decide +kernel
theorem dX4_fromMains_6 : decode cX4_fromMains 6 = .ok (.getfield 162, 3) := by decide +kernel
theorem dX4_fromMains_9 : decode cX4_fromMains 9 = .ok (.ireturn, 1) := by decide +kernel
theorem dX4_fromGenerators_0 : decode cX4_fromGenerators 0 = .ok (.aload_n 0, 1) := by decide +kernel
theorem dX4_fromGenerators_1 : decode cX4_fromGenerators 1 = .ok (.iconst 0, 1) := by decide +kernel
theorem dX4_fromGenerators_2 : decode cX4_fromGenerators 2 = .ok (.putfield 103, 3) := by decide +kernel
theorem dX4_fromGenerators_5 : decode cX4_fromGenerators 5 = .ok (.aload_n 0, 1) := by decide +kernel
theorem dX4_fromGenerators_6 : decode cX4_fromGenerators 6 = .ok (.getfield 169, 3) := by decide +kernel
theorem dX4_fromGenerators_9 : decode cX4_fromGenerators 9 = .ok (.ireturn, 1) := by decide +kernel
theorem dX4_fromBatteries_0 : decode cX4_fromBatteries 0 = .ok (.aload_n 0, 1) := by decide +kernel
theorem dX4_fromBatteries_1 : decode cX4_fromBatteries 1 = .ok (.iconst 0, 1) := by decide +kernel
theorem dX4_fromBatteries_2 : decode cX4_fromBatteries 2 = .ok (.putfield 103, 3) := by decide +kernel
theorem dX4_fromBatteries_5 : decode cX4_fromBatteries 5 = .ok (.aload_n 0, 1) := by decide +kernel
theorem dX4_fromBatteries_6 : decode cX4_fromBatteries 6 = .ok (.getfield 172, 3) := by decide +kernel
theorem dX4_fromBatteries_9 : decode cX4_fromBatteries 9 = .ok (.ireturn, 1) := by decide +kernel
theorem dX4_intoBatteries_0 : decode cX4_intoBatteries 0 = .ok (.aload_n 0, 1) := by decide +kernel
theorem dX4_intoBatteries_1 : decode cX4_intoBatteries 1 = .ok (.iconst 0, 1) := by decide +kernel
theorem dX4_intoBatteries_2 : decode cX4_intoBatteries 2 = .ok (.putfield 103, 3) := by decide +kernel
theorem dX4_intoBatteries_5 : decode cX4_intoBatteries 5 = .ok (.aload_n 0, 1) := by decide +kernel
theorem dX4_intoBatteries_6 : decode cX4_intoBatteries 6 = .ok (.getfield 175, 3) := by decide +kernel
theorem dX4_intoBatteries_9 : decode cX4_intoBatteries 9 = .ok (.ireturn, 1) := by decide +kernel
set_option maxRecDepth 20000 in
theorem ggX4_failedStarts_X4_told : GoodIn wsX4_failedStarts wsX4_told := goodIn_r _ [7, 8, 9, 10, 6, 11, 12, 13, 14, 15, 16, 17, 18, 19, 20, 21, 22, 23, 24, 25, 26, 27, 28, 29, 30, 31, 32, 33, 34, 35, 36, 37, 38, 39, 40, 41, 42, 43, 44, 45, 46, 47, 48, 49, 50, 51, 52, 53, 54, 55] (by decide +kernel) (by decide +kernel)
set_option maxRecDepth 20000 in
theorem gX4_failedStarts_X4_told : GoodIn wsX4_failedStarts (wsV RX4 207 RX4 yX4_told wsX4_told) := goodIn_app (goodIn_of _ (by decide +kernel)) ggX4_failedStarts_X4_told
theorem dX4_failedStarts_0 : decode cX4_failedStarts 0 = .ok (.aload_n 0, 1) := by decide +kernel
theorem dX4_failedStarts_1 : decode cX4_failedStarts 1 = .ok (.aload_n 0, 1) := by decide +kernel
theorem dX4_failedStarts_2 : decode cX4_failedStarts 2 = .ok (.getfield 94, 3) := by decide +kernel
theorem dX4_failedStarts_5 : decode cX4_failedStarts 5 = .ok (.iload_n 1, 1) := by decide +kernel
theorem dX4_failedStarts_6 : decode cX4_failedStarts 6 = .ok (.aload_n 0, 1) := by decide +kernel
theorem dX4_failedStarts_7 : decode cX4_failedStarts 7 = .ok (.getfield 113, 3) := by decide +kernel
theorem dX4_failedStarts_10 : decode cX4_failedStarts 10 = .ok (.invokevirtual 207, 3) := by decide +kernel
theorem dX4_failedStarts_13 : decode cX4_failedStarts 13 = .ok (.ireturn, 1) := by decide +kernel
set_option maxRecDepth 20000 in
theorem ggX4_tests_X4_isGenerator : GoodIn wsX4_tests wsX4_isGenerator := goodIn_r _ [8, 9, 10, 11, 7, 12, 13, 14, 15, 16, 17, 18, 19, 20, 21, 22, 23, 24, 25, 26, 27, 28, 29, 30, 31, 32, 33, 34, 35, 36, 37, 38, 39, 40, 41, 42, 43, 44, 45, 46, 47, 48, 49, 50, 51, 52] (by decide +kernel) (by decide +kernel)
set_option maxRecDepth 20000 in
theorem gX4_tests_X4_isGenerator : GoodIn wsX4_tests (wsV RX4 123 RX4 yX4_isGenerator wsX4_isGenerator) := goodIn_app (goodIn_of _ (by decide +kernel)) ggX4_tests_X4_isGenerator
theorem dX4_tests_0 : decode cX4_tests 0 = .ok (.aload_n 0, 1) := by decide +kernel
theorem dX4_tests_1 : decode cX4_tests 1 = .ok (.aload_n 0, 1) := by decide +kernel
theorem dX4_tests_2 : decode cX4_tests 2 = .ok (.iload_n 1, 1) := by decide +kernel
theorem dX4_tests_3 : decode cX4_tests 3 = .ok (.invokevirtual 123, 3) := by decide +kernel
theorem dX4_tests_6 : decode cX4_tests 6 = .ok (.ifCond .eq 7, 3) := by decide +kernel
theorem dX4_tests_9 : decode cX4_tests 9 = .ok (.iconst 0, 1) := by decide +kernel
theorem dX4_tests_10 : decode cX4_tests 10 = .ok (.goto 4, 3) := by decide +kernel
theorem dX4_tests_13 : decode cX4_tests 13 = .ok (.iconst 1, 1) := by decide +kernel
theorem dX4_tests_14 : decode cX4_tests 14 = .ok (.putfield 103, 3) := by decide +kernel
theorem dX4_tests_17 : decode cX4_tests 17 = .ok (.aload_n 0, 1) := by decide +kernel
theorem dX4_tests_18 : decode cX4_tests 18 = .ok (.getfield 103, 3) := by decide +kernel
theorem dX4_tests_21 : decode cX4_tests 21 = .ok (.ifCond .le 7, 3) := by decide +kernel
theorem dX4_tests_24 : decode cX4_tests 24 = .ok (.iconst 0, 1) := by decide +kernel
theorem dX4_tests_25 : decode cX4_tests 25 = .ok (.goto 20, 3) := by decide +kernel
theorem dX4_tests_28 : decode cX4_tests 28 = .ok (.sipush 1000, 3) := by decide +kernel
theorem dX4_tests_31 : decode cX4_tests 31 = .ok (.aload_n 0, 1) := by decide +kernel
theorem dX4_tests_32 : decode cX4_tests 32 = .ok (.getfield 97, 3) := by decide +kernel
theorem dX4_tests_35 : decode cX4_tests 35 = .ok (.iload_n 1, 1) := by decide +kernel
theorem dX4_tests_36 : decode cX4_tests 36 = .ok (.iaload, 1) := by decide +kernel
theorem dX4_tests_37 : decode cX4_tests 37 = .ok (.imul, 1) := by decide +kernel
theorem dX4_tests_38 : decode cX4_tests 38 = .ok (.aload_n 0, 1) := by decide +kernel
theorem dX4_tests_39 : decode cX4_tests 39 = .ok (.getfield 100, 3) := by decide +kernel
theorem dX4_tests_42 : decode cX4_tests 42 = .ok (.iload_n 1, 1) := by decide +kernel
theorem dX4_tests_43 : decode cX4_tests 43 = .ok (.iaload, 1) := by decide +kernel
theorem dX4_tests_44 : decode cX4_tests 44 = .ok (.iadd, 1) := by decide +kernel
theorem dX4_tests_45 : decode cX4_tests 45 = .ok (.ireturn, 1) := by decide +kernel
theorem dJ9_max_7cf53_0 : decode cJ9_max_7cf53 0 = .ok (.iload_n 0, 1) := by decide +kernel
theorem dJ9_max_7cf53_1 : decode cJ9_max_7cf53 1 = .ok (.iload_n 1, 1) := by decide +kernel
theorem dJ9_max_7cf53_2 : decode cJ9_max_7cf53 2 = .ok (.if_icmp .lt 7, 3) := by decide +kernel
theorem dJ9_max_7cf53_5 : decode cJ9_max_7cf53 5 = .ok (.iload_n 0, 1) := by decide +kernel
theorem dJ9_max_7cf53_6 : decode cJ9_max_7cf53 6 = .ok (.goto 4, 3) := by decide +kernel
theorem dJ9_max_7cf53_9 : decode cJ9_max_7cf53 9 = .ok (.iload_n 1, 1) := by decide +kernel
theorem dJ9_max_7cf53_10 : decode cJ9_max_7cf53 10 = .ok (.ireturn, 1) := by decide +kernel
theorem dJ9_min_7cf53_0 : decode cJ9_min_7cf53 0 = .ok (.iload_n 0, 1) := by decide +kernel
theorem dJ9_min_7cf53_1 : decode cJ9_min_7cf53 1 = .ok (.iload_n 1, 1) := by decide +kernel
theorem dJ9_min_7cf53_2 : decode cJ9_min_7cf53 2 = .ok (.if_icmp .gt 7, 3) := by decide +kernel
theorem dJ9_min_7cf53_5 : decode cJ9_min_7cf53 5 = .ok (.iload_n 0, 1) := by decide +kernel
theorem dJ9_min_7cf53_6 : decode cJ9_min_7cf53 6 = .ok (.goto 4, 3) := by decide +kernel
theorem dJ9_min_7cf53_9 : decode cJ9_min_7cf53 9 = .ok (.iload_n 1, 1) := by decide +kernel
theorem dJ9_min_7cf53_10 : decode cJ9_min_7cf53 10 = .ok (.ireturn, 1) := by decide +kernel
