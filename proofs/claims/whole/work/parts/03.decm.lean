theorem dX8_init_0 : decode cX8_init 0 = .ok (.aload_n 0, 1) := by decide +kernel
theorem dX8_init_1 : decode cX8_init 1 = .ok (.invokespecial 1, 3) := by decide +kernel
theorem dX8_init_4 : decode cX8_init 4 = .ok (.aload_n 0, 1) := by decide +kernel
theorem dX8_init_5 : decode cX8_init 5 = .ok (.bipush 10, 2) := by decide +kernel
theorem dX8_init_7 : decode cX8_init 7 = .ok (.newarray .int, 2) := by decide +kernel
theorem dX8_init_9 : decode cX8_init 9 = .ok (.putfield 7, 3) := by decide +kernel
theorem dX8_init_12 : decode cX8_init 12 = .ok (.aload_n 0, 1) := by decide +kernel
theorem dX8_init_13 : decode cX8_init 13 = .ok (.bipush 10, 2) := by decide +kernel
theorem dX8_init_15 : decode cX8_init 15 = .ok (.newarray .int, 2) := by decide +kernel
theorem dX8_init_17 : decode cX8_init 17 = .ok (.putfield 13, 3) := by decide +kernel
theorem dX8_init_20 : decode cX8_init 20 = .ok (.aload_n 0, 1) := by decide +kernel
theorem dX8_init_21 : decode cX8_init 21 = .ok (.bipush 10, 2) := by decide +kernel
theorem dX8_init_23 : decode cX8_init 23 = .ok (.newarray .int, 2) := by decide +kernel
theorem dX8_init_25 : decode cX8_init 25 = .ok (.putfield 16, 3) := by decide +kernel
theorem dX8_init_28 : decode cX8_init 28 = .ok (.aload_n 0, 1) := by decide +kernel
theorem dX8_init_29 : decode cX8_init 29 = .ok (.bipush 10, 2) := by decide +kernel
theorem dX8_init_31 : decode cX8_init 31 = .ok (.newarray .int, 2) := by decide +kernel
theorem dX8_init_33 : decode cX8_init 33 = .ok (.putfield 19, 3) := by decide +kernel
theorem dX8_init_36 : decode cX8_init 36 = .ok (.aload_n 0, 1) := by decide +kernel
theorem dX8_init_37 : decode cX8_init 37 = .ok (.bipush 80, 2) := by decide +kernel
theorem dX8_init_39 : decode cX8_init 39 = .ok (.newarray .int, 2) := by decide +kernel
theorem dX8_init_41 : decode cX8_init 41 = .ok (.putfield 22, 3) := by decide +kernel
theorem dX8_init_44 : decode cX8_init 44 = .ok (.aload_n 0, 1) := by decide +kernel
theorem dX8_init_45 : decode cX8_init 45 = .ok (.bipush 80, 2) := by decide +kernel
theorem dX8_init_47 : decode cX8_init 47 = .ok (.newarray .int, 2) := by decide +kernel
theorem dX8_init_49 : decode cX8_init 49 = .ok (.putfield 25, 3) := by decide +kernel
theorem dX8_init_52 : decode cX8_init 52 = .ok (.aload_n 0, 1) := by decide +kernel
theorem dX8_init_53 : decode cX8_init 53 = .ok (.bipush 80, 2) := by decide +kernel
theorem dX8_init_55 : decode cX8_init 55 = .ok (.newarray .int, 2) := by decide +kernel
theorem dX8_init_57 : decode cX8_init 57 = .ok (.putfield 28, 3) := by decide +kernel
theorem dX8_init_60 : decode cX8_init 60 = .ok (.aload_n 0, 1) := by decide +kernel
theorem dX8_init_61 : decode cX8_init 61 = .ok (.bipush 10, 2) := by decide +kernel
theorem dX8_init_63 : decode cX8_init 63 = .ok (.newarray .int, 2) := by decide +kernel
theorem dX8_init_65 : decode cX8_init 65 = .ok (.putfield 31, 3) := by decide +kernel
theorem dX8_init_68 : decode cX8_init 68 = .ok (.aload_n 0, 1) := by decide +kernel
theorem dX8_init_69 : decode cX8_init 69 = .ok (.bipush 10, 2) := by decide +kernel
theorem dX8_init_71 : decode cX8_init 71 = .ok (.newarray .int, 2) := by decide +kernel
theorem dX8_init_73 : decode cX8_init 73 = .ok (.putfield 34, 3) := by decide +kernel
theorem dX8_init_76 : decode cX8_init 76 = .ok (.aload_n 0, 1) := by decide +kernel
theorem dX8_init_77 : decode cX8_init 77 = .ok (.bipush 30, 2) := by decide +kernel
theorem dX8_init_79 : decode cX8_init 79 = .ok (.newarray .int, 2) := by decide +kernel
theorem dX8_init_81 : decode cX8_init 81 = .ok (.putfield 37, 3) := by decide +kernel
theorem dX8_init_84 : decode cX8_init 84 = .ok (.aload_n 0, 1) := by decide +kernel
theorem dX8_init_85 : decode cX8_init 85 = .ok (.bipush 30, 2) := by decide +kernel
theorem dX8_init_87 : decode cX8_init 87 = .ok (.newarray .int, 2) := by decide +kernel
theorem dX8_init_89 : decode cX8_init 89 = .ok (.putfield 40, 3) := by decide +kernel
theorem dX8_init_92 : decode cX8_init 92 = .ok (.aload_n 0, 1) := by decide +kernel
theorem dX8_init_93 : decode cX8_init 93 = .ok (.bipush 30, 2) := by decide +kernel
theorem dX8_init_95 : decode cX8_init 95 = .ok (.newarray .int, 2) := by decide +kernel
theorem dX8_init_97 : decode cX8_init 97 = .ok (.putfield 43, 3) := by decide +kernel
theorem dX8_init_100 : decode cX8_init 100 = .ok (.aload_n 0, 1) := by decide +kernel
theorem dX8_init_101 : decode cX8_init 101 = .ok (.bipush 30, 2) := by decide +kernel
theorem dX8_init_103 : decode cX8_init 103 = .ok (.newarray .int, 2) := by decide +kernel
theorem dX8_init_105 : decode cX8_init 105 = .ok (.putfield 46, 3) := by decide +kernel
theorem dX8_init_108 : decode cX8_init 108 = .ok (.aload_n 0, 1) := by decide +kernel
theorem dX8_init_109 : decode cX8_init 109 = .ok (.bipush 10, 2) := by decide +kernel
theorem dX8_init_111 : decode cX8_init 111 = .ok (.newarray .int, 2) := by decide +kernel
theorem dX8_init_113 : decode cX8_init 113 = .ok (.putfield 49, 3) := by decide +kernel
theorem dX8_init_116 : decode cX8_init 116 = .ok (.aload_n 0, 1) := by decide +kernel
theorem dX8_init_117 : decode cX8_init 117 = .ok (.bipush 10, 2) := by decide +kernel
theorem dX8_init_119 : decode cX8_init 119 = .ok (.newarray .int, 2) := by decide +kernel
theorem dX8_init_121 : decode cX8_init 121 = .ok (.putfield 52, 3) := by decide +kernel
theorem dX8_init_124 : decode cX8_init 124 = .ok (.aload_n 0, 1) := by decide +kernel
theorem dX8_init_125 : decode cX8_init 125 = .ok (.bipush 10, 2) := by decide +kernel
theorem dX8_init_127 : decode cX8_init 127 = .ok (.newarray .boolean, 2) := by decide +kernel
theorem dX8_init_129 : decode cX8_init 129 = .ok (.putfield 55, 3) := by decide +kernel
theorem dX8_init_132 : decode cX8_init 132 = .ok (.aload_n 0, 1) := by decide +kernel
theorem dX8_init_133 : decode cX8_init 133 = .ok (.sipush 400, 3) := by decide +kernel
theorem dX8_init_136 : decode cX8_init 136 = .ok (.newarray .int, 2) := by decide +kernel
theorem dX8_init_138 : decode cX8_init 138 = .ok (.putfield 59, 3) := by decide +kernel
theorem dX8_init_141 : decode cX8_init 141 = .ok (.aload_n 0, 1) := by decide +kernel
theorem dX8_init_142 : decode cX8_init 142 = .ok (.iconst 4, 1) := by decide +kernel
theorem dX8_init_143 : decode cX8_init 143 = .ok (.newarray .boolean, 2) := by decide +kernel
theorem dX8_init_145 : decode cX8_init 145 = .ok (.putfield 62, 3) := by decide +kernel
theorem dX8_init_148 : decode cX8_init 148 = .ok (.aload_n 0, 1) := by decide +kernel
theorem dX8_init_149 : decode cX8_init 149 = .ok (.iconst 4, 1) := by decide +kernel
theorem dX8_init_150 : decode cX8_init 150 = .ok (.newarray .int, 2) := by decide +kernel
theorem dX8_init_152 : decode cX8_init 152 = .ok (.putfield 65, 3) := by decide +kernel
theorem dX8_init_155 : decode cX8_init 155 = .ok (.aload_n 0, 1) := by decide +kernel
theorem dX8_init_156 : decode cX8_init 156 = .ok (.iconst 4, 1) := by decide +kernel
theorem dX8_init_157 : decode cX8_init 157 = .ok (.newarray .int, 2) := by decide +kernel
theorem dX8_init_159 : decode cX8_init 159 = .ok (.putfield 68, 3) := by decide +kernel
theorem dX8_init_162 : decode cX8_init 162 = .ok (.aload_n 0, 1) := by decide +kernel
theorem dX8_init_163 : decode cX8_init 163 = .ok (.ldc 71, 2) := by decide +kernel
theorem dX8_init_165 : decode cX8_init 165 = .ok (.putfield 72, 3) := by decide +kernel
theorem dX8_init_168 : decode cX8_init 168 = .ok (.aload_n 0, 1) := by decide +kernel
theorem dX8_init_169 : decode cX8_init 169 = .ok (.iconst 3, 1) := by decide +kernel
theorem dX8_init_170 : decode cX8_init 170 = .ok (.putfield 76, 3) := by decide +kernel
theorem dX8_init_173 : decode cX8_init 173 = .ok (.aload_n 0, 1) := by decide +kernel
theorem dX8_init_174 : decode cX8_init 174 = .ok (.sipush 1000, 3) := by decide +kernel
theorem dX8_init_177 : decode cX8_init 177 = .ok (.putfield 79, 3) := by decide +kernel
theorem dX8_init_180 : decode cX8_init 180 = .ok (.aload_n 0, 1) := by decide +kernel
theorem dX8_init_181 : decode cX8_init 181 = .ok (.ldc 71, 2) := by decide +kernel
theorem dX8_init_183 : decode cX8_init 183 = .ok (.putfield 82, 3) := by decide +kernel
theorem dX8_init_186 : decode cX8_init 186 = .ok (.aload_n 0, 1) := by decide +kernel
theorem dX8_init_187 : decode cX8_init 187 = .ok (.getfield 62, 3) := by decide +kernel
theorem dX8_init_190 : decode cX8_init 190 = .ok (.iconst 0, 1) := by decide +kernel
theorem dX8_init_191 : decode cX8_init 191 = .ok (.iconst 1, 1) := by decide +kernel
theorem dX8_init_192 : decode cX8_init 192 = .ok (.bastore, 1) := by decide +kernel
theorem dX8_init_193 : decode cX8_init 193 = .ok (.iconst 0, 1) := by decide +kernel
theorem dX8_init_194 : decode cX8_init 194 = .ok (.istore_n 1, 1) := by decide +kernel
theorem dX8_init_195 : decode cX8_init 195 = .ok (.iload_n 1, 1) := by decide +kernel
theorem dX8_init_196 : decode cX8_init 196 = .ok (.bipush 10, 2) := by decide +kernel
theorem dX8_init_198 : decode cX8_init 198 = .ok (.if_icmp .ge 24, 3) := by decide +kernel
theorem dX8_init_201 : decode cX8_init 201 = .ok (.aload_n 0, 1) := by decide +kernel
theorem dX8_init_202 : decode cX8_init 202 = .ok (.getfield 7, 3) := by decide +kernel
theorem dX8_init_205 : decode cX8_init 205 = .ok (.iload_n 1, 1) := by decide +kernel
theorem dX8_init_206 : decode cX8_init 206 = .ok (.iconst 1, 1) := by decide +kernel
theorem dX8_init_207 : decode cX8_init 207 = .ok (.iastore, 1) := by decide +kernel
theorem dX8_init_208 : decode cX8_init 208 = .ok (.aload_n 0, 1) := by decide +kernel
theorem dX8_init_209 : decode cX8_init 209 = .ok (.getfield 52, 3) := by decide +kernel
theorem dX8_init_212 : decode cX8_init 212 = .ok (.iload_n 1, 1) := by decide +kernel
theorem dX8_init_213 : decode cX8_init 213 = .ok (.ldc 71, 2) := by decide +kernel
theorem dX8_init_215 : decode cX8_init 215 = .ok (.iastore, 1) := by decide +kernel
theorem dX8_init_216 : decode cX8_init 216 = .ok (.iinc 1 1, 3) := by decide +kernel
theorem dX8_init_219 : decode cX8_init 219 = .ok (.goto (-24), 3) := by decide +kernel
theorem dX8_init_222 : decode cX8_init 222 = .ok (.return_, 1) := by decide +kernel
theorem dX8_isFact_0 : decode cX8_isFact 0 = .ok (.iload_n 0, 1) := by decide +kernel
theorem dX8_isFact_1 : decode cX8_isFact 1 = .ok (.ifCond .lt 13, 3) := by decide +kernel
theorem dX8_isFact_4 : decode cX8_isFact 4 = .ok (.iload_n 0, 1) := by decide +kernel
theorem dX8_isFact_5 : decode cX8_isFact 5 = .ok (.bipush 10, 2) := by decide +kernel
theorem dX8_isFact_7 : decode cX8_isFact 7 = .ok (.if_icmp .ge 7, 3) := by decide +kernel
theorem dX8_isFact_10 : decode cX8_isFact 10 = .ok (.iconst 1, 1) := by decide +kernel
theorem dX8_isFact_11 : decode cX8_isFact 11 = .ok (.goto 4, 3) := by decide +kernel
theorem dX8_isFact_14 : decode cX8_isFact 14 = .ok (.iconst 0, 1) := by decide +kernel
theorem dX8_isFact_15 : decode cX8_isFact 15 = .ok (.ireturn, 1) := by decide +kernel
theorem dX8_isEnd_0 : decode cX8_isEnd 0 = .ok (.iload_n 0, 1) := by decide +kernel
theorem dX8_isEnd_1 : decode cX8_isEnd 1 = .ok (.ldc 85, 2) := by decide +kernel
theorem dX8_isEnd_3 : decode cX8_isEnd 3 = .ok (.if_icmp .lt 13, 3) := by decide +kernel
theorem dX8_isEnd_6 : decode cX8_isEnd 6 = .ok (.iload_n 0, 1) := by decide +kernel
theorem dX8_isEnd_7 : decode cX8_isEnd 7 = .ok (.ldc 86, 2) := by decide +kernel
theorem dX8_isEnd_9 : decode cX8_isEnd 9 = .ok (.if_icmp .gt 7, 3) := by decide +kernel
theorem dX8_isEnd_12 : decode cX8_isEnd 12 = .ok (.iconst 1, 1) := by decide +kernel
theorem dX8_isEnd_13 : decode cX8_isEnd 13 = .ok (.goto 4, 3) := by decide +kernel
theorem dX8_isEnd_16 : decode cX8_isEnd 16 = .ok (.iconst 0, 1) := by decide +kernel
theorem dX8_isEnd_17 : decode cX8_isEnd 17 = .ok (.ireturn, 1) := by decide +kernel
theorem dX8_isShare_0 : decode cX8_isShare 0 = .ok (.iload_n 1, 1) := by decide +kernel
theorem dX8_isShare_1 : decode cX8_isShare 1 = .ok (.ifCond .lt 15, 3) := by decide +kernel
theorem dX8_isShare_4 : decode cX8_isShare 4 = .ok (.iload_n 1, 1) := by decide +kernel
theorem dX8_isShare_5 : decode cX8_isShare 5 = .ok (.aload_n 0, 1) := by decide +kernel
theorem dX8_isShare_6 : decode cX8_isShare 6 = .ok (.getfield 87, 3) := by decide +kernel
theorem dX8_isShare_9 : decode cX8_isShare 9 = .ok (.if_icmp .ge 7, 3) := by decide +kernel
theorem dX8_isShare_12 : decode cX8_isShare 12 = .ok (.iconst 1, 1) := by decide +kernel
theorem dX8_isShare_13 : decode cX8_isShare 13 = .ok (.goto 4, 3) := by decide +kernel
theorem dX8_isShare_16 : decode cX8_isShare 16 = .ok (.iconst 0, 1) := by decide +kernel
theorem dX8_isShare_17 : decode cX8_isShare 17 = .ok (.ireturn, 1) := by decide +kernel
theorem dX8_share_0 : decode cX8_share 0 = .ok (.iload_n 1, 1) := by decide +kernel
theorem dX8_share_1 : decode cX8_share 1 = .ok (.invokestatic 90, 3) := by decide +kernel
theorem dX8_share_4 : decode cX8_share 4 = .ok (.ifCond .ne 6, 3) := by decide +kernel
theorem dX8_share_7 : decode cX8_share 7 = .ok (.ldc 94, 2) := by decide +kernel
theorem dX8_share_9 : decode cX8_share 9 = .ok (.ireturn, 1) := by decide +kernel
theorem dX8_share_10 : decode cX8_share 10 = .ok (.aload_n 0, 1) := by decide +kernel
theorem dX8_share_11 : decode cX8_share 11 = .ok (.getfield 87, 3) := by decide +kernel
theorem dX8_share_14 : decode cX8_share 14 = .ok (.bipush 10, 2) := by decide +kernel
theorem dX8_share_16 : decode cX8_share 16 = .ok (.if_icmp .ne 6, 3) := by decide +kernel
theorem dX8_share_19 : decode cX8_share 19 = .ok (.ldc 95, 2) := by decide +kernel
theorem dX8_share_21 : decode cX8_share 21 = .ok (.ireturn, 1) := by decide +kernel
theorem dX8_share_22 : decode cX8_share 22 = .ok (.aload_n 0, 1) := by decide +kernel
theorem dX8_share_23 : decode cX8_share 23 = .ok (.getfield 16, 3) := by decide +kernel
theorem dX8_share_26 : decode cX8_share 26 = .ok (.aload_n 0, 1) := by decide +kernel
theorem dX8_share_27 : decode cX8_share 27 = .ok (.getfield 87, 3) := by decide +kernel
theorem dX8_share_30 : decode cX8_share 30 = .ok (.iload_n 1, 1) := by decide +kernel
theorem dX8_share_31 : decode cX8_share 31 = .ok (.iastore, 1) := by decide +kernel
theorem dX8_share_32 : decode cX8_share 32 = .ok (.aload_n 0, 1) := by decide +kernel
theorem dX8_share_33 : decode cX8_share 33 = .ok (.dup, 1) := by decide +kernel
theorem dX8_share_34 : decode cX8_share 34 = .ok (.getfield 87, 3) := by decide +kernel
theorem dX8_share_37 : decode cX8_share 37 = .ok (.iconst 1, 1) := by decide +kernel
theorem dX8_share_38 : decode cX8_share 38 = .ok (.iadd, 1) := by decide +kernel
theorem dX8_share_39 : decode cX8_share 39 = .ok (.putfield 87, 3) := by decide +kernel
theorem dX8_share_42 : decode cX8_share 42 = .ok (.aload_n 0, 1) := by decide +kernel
theorem dX8_share_43 : decode cX8_share 43 = .ok (.getfield 87, 3) := by decide +kernel
theorem dX8_share_46 : decode cX8_share 46 = .ok (.iconst 1, 1) := by decide +kernel
theorem dX8_share_47 : decode cX8_share 47 = .ok (.isub, 1) := by decide +kernel
theorem dX8_share_48 : decode cX8_share 48 = .ok (.ireturn, 1) := by decide +kernel
theorem dX8_act_0 : decode cX8_act 0 = .ok (.aload_n 0, 1) := by decide +kernel
theorem dX8_act_1 : decode cX8_act 1 = .ok (.iload_n 1, 1) := by decide +kernel
theorem dX8_act_2 : decode cX8_act 2 = .ok (.invokevirtual 96, 3) := by decide +kernel
theorem dX8_act_5 : decode cX8_act 5 = .ok (.ifCond .ne 6, 3) := by decide +kernel
theorem dX8_act_8 : decode cX8_act 8 = .ok (.ldc 94, 2) := by decide +kernel
theorem dX8_act_10 : decode cX8_act 10 = .ok (.ireturn, 1) := by decide +kernel
theorem dX8_act_11 : decode cX8_act 11 = .ok (.iload_n 2, 1) := by decide +kernel
theorem dX8_act_12 : decode cX8_act 12 = .ok (.ifCond .lt 28, 3) := by decide +kernel
theorem dX8_act_15 : decode cX8_act 15 = .ok (.iload_n 2, 1) := by decide +kernel
theorem dX8_act_16 : decode cX8_act 16 = .ok (.bipush 9, 2) := by decide +kernel
theorem dX8_act_18 : decode cX8_act 18 = .ok (.if_icmp .gt 22, 3) := by decide +kernel
theorem dX8_act_21 : decode cX8_act 21 = .ok (.iload_n 2, 1) := by decide +kernel
theorem dX8_act_22 : decode cX8_act 22 = .ok (.ifCond .ne 21, 3) := by decide +kernel
theorem dX8_act_25 : decode cX8_act 25 = .ok (.iload_n 3, 1) := by decide +kernel
theorem dX8_act_26 : decode cX8_act 26 = .ok (.invokestatic 99, 3) := by decide +kernel
theorem dX8_act_29 : decode cX8_act 29 = .ok (.ifCond .eq 11, 3) := by decide +kernel
theorem dX8_act_32 : decode cX8_act 32 = .ok (.iload 4, 2) := by decide +kernel
theorem dX8_act_34 : decode cX8_act 34 = .ok (.invokestatic 99, 3) := by decide +kernel
theorem dX8_act_37 : decode cX8_act 37 = .ok (.ifCond .ne 6, 3) := by decide +kernel
theorem dX8_act_40 : decode cX8_act 40 = .ok (.ldc 102, 2) := by decide +kernel
theorem dX8_act_42 : decode cX8_act 42 = .ok (.ireturn, 1) := by decide +kernel
theorem dX8_act_43 : decode cX8_act 43 = .ok (.aload_n 0, 1) := by decide +kernel
theorem dX8_act_44 : decode cX8_act 44 = .ok (.getfield 19, 3) := by decide +kernel
theorem dX8_act_47 : decode cX8_act 47 = .ok (.iload_n 1, 1) := by decide +kernel
theorem dX8_act_48 : decode cX8_act 48 = .ok (.iaload, 1) := by decide +kernel
theorem dX8_act_49 : decode cX8_act 49 = .ok (.bipush 8, 2) := by decide +kernel
theorem dX8_act_51 : decode cX8_act 51 = .ok (.if_icmp .ne 6, 3) := by decide +kernel
theorem dX8_act_54 : decode cX8_act 54 = .ok (.ldc 95, 2) := by decide +kernel
theorem dX8_act_56 : decode cX8_act 56 = .ok (.ireturn, 1) := by decide +kernel
theorem dX8_act_57 : decode cX8_act 57 = .ok (.aload_n 0, 1) := by decide +kernel
theorem dX8_act_58 : decode cX8_act 58 = .ok (.getfield 22, 3) := by decide +kernel
theorem dX8_act_61 : decode cX8_act 61 = .ok (.bipush 8, 2) := by decide +kernel
theorem dX8_act_63 : decode cX8_act 63 = .ok (.iload_n 1, 1) := by decide +kernel
theorem dX8_act_64 : decode cX8_act 64 = .ok (.imul, 1) := by decide +kernel
theorem dX8_act_65 : decode cX8_act 65 = .ok (.aload_n 0, 1) := by decide +kernel
theorem dX8_act_66 : decode cX8_act 66 = .ok (.getfield 19, 3) := by decide +kernel
theorem dX8_act_69 : decode cX8_act 69 = .ok (.iload_n 1, 1) := by decide +kernel
theorem dX8_act_70 : decode cX8_act 70 = .ok (.iaload, 1) := by decide +kernel
theorem dX8_act_71 : decode cX8_act 71 = .ok (.iadd, 1) := by decide +kernel
theorem dX8_act_72 : decode cX8_act 72 = .ok (.iload_n 2, 1) := by decide +kernel
theorem dX8_act_73 : decode cX8_act 73 = .ok (.iastore, 1) := by decide +kernel
theorem dX8_act_74 : decode cX8_act 74 = .ok (.aload_n 0, 1) := by decide +kernel
theorem dX8_act_75 : decode cX8_act 75 = .ok (.getfield 25, 3) := by decide +kernel
theorem dX8_act_78 : decode cX8_act 78 = .ok (.bipush 8, 2) := by decide +kernel
theorem dX8_act_80 : decode cX8_act 80 = .ok (.iload_n 1, 1) := by decide +kernel
theorem dX8_act_81 : decode cX8_act 81 = .ok (.imul, 1) := by decide +kernel
theorem dX8_act_82 : decode cX8_act 82 = .ok (.aload_n 0, 1) := by decide +kernel
theorem dX8_act_83 : decode cX8_act 83 = .ok (.getfield 19, 3) := by decide +kernel
theorem dX8_act_86 : decode cX8_act 86 = .ok (.iload_n 1, 1) := by decide +kernel
theorem dX8_act_87 : decode cX8_act 87 = .ok (.iaload, 1) := by decide +kernel
theorem dX8_act_88 : decode cX8_act 88 = .ok (.iadd, 1) := by decide +kernel
theorem dX8_act_89 : decode cX8_act 89 = .ok (.iload_n 3, 1) := by decide +kernel
theorem dX8_act_90 : decode cX8_act 90 = .ok (.iastore, 1) := by decide +kernel
theorem dX8_act_91 : decode cX8_act 91 = .ok (.aload_n 0, 1) := by decide +kernel
theorem dX8_act_92 : decode cX8_act 92 = .ok (.getfield 28, 3) := by decide +kernel
theorem dX8_act_95 : decode cX8_act 95 = .ok (.bipush 8, 2) := by decide +kernel
theorem dX8_act_97 : decode cX8_act 97 = .ok (.iload_n 1, 1) := by decide +kernel
theorem dX8_act_98 : decode cX8_act 98 = .ok (.imul, 1) := by decide +kernel
theorem dX8_act_99 : decode cX8_act 99 = .ok (.aload_n 0, 1) := by decide +kernel
theorem dX8_act_100 : decode cX8_act 100 = .ok (.getfield 19, 3) := by decide +kernel
theorem dX8_act_103 : decode cX8_act 103 = .ok (.iload_n 1, 1) := by decide +kernel
theorem dX8_act_104 : decode cX8_act 104 = .ok (.iaload, 1) := by decide +kernel
theorem dX8_act_105 : decode cX8_act 105 = .ok (.iadd, 1) := by decide +kernel
theorem dX8_act_106 : decode cX8_act 106 = .ok (.iload 4, 2) := by decide +kernel
theorem dX8_act_108 : decode cX8_act 108 = .ok (.iastore, 1) := by decide +kernel
theorem dX8_act_109 : decode cX8_act 109 = .ok (.aload_n 0, 1) := by decide +kernel
theorem dX8_act_110 : decode cX8_act 110 = .ok (.getfield 19, 3) := by decide +kernel
theorem dX8_act_113 : decode cX8_act 113 = .ok (.iload_n 1, 1) := by decide +kernel
theorem dX8_act_114 : decode cX8_act 114 = .ok (.dup2, 1) := by decide +kernel
theorem dX8_act_115 : decode cX8_act 115 = .ok (.iaload, 1) := by decide +kernel
theorem dX8_act_116 : decode cX8_act 116 = .ok (.iconst 1, 1) := by decide +kernel
theorem dX8_act_117 : decode cX8_act 117 = .ok (.iadd, 1) := by decide +kernel
theorem dX8_act_118 : decode cX8_act 118 = .ok (.iastore, 1) := by decide +kernel
theorem dX8_act_119 : decode cX8_act 119 = .ok (.aload_n 0, 1) := by decide +kernel
theorem dX8_act_120 : decode cX8_act 120 = .ok (.getfield 19, 3) := by decide +kernel
theorem dX8_act_123 : decode cX8_act 123 = .ok (.iload_n 1, 1) := by decide +kernel
theorem dX8_act_124 : decode cX8_act 124 = .ok (.iaload, 1) := by decide +kernel
theorem dX8_act_125 : decode cX8_act 125 = .ok (.ireturn, 1) := by decide +kernel
theorem dX8_fact_0 : decode cX8_fact 0 = .ok (.iload_n 1, 1) := by decide +kernel
theorem dX8_fact_1 : decode cX8_fact 1 = .ok (.invokestatic 90, 3) := by decide +kernel
theorem dX8_fact_4 : decode cX8_fact 4 = .ok (.ifCond .ne 6, 3) := by decide +kernel
theorem dX8_fact_7 : decode cX8_fact 7 = .ok (.ldc 94, 2) := by decide +kernel
theorem dX8_fact_9 : decode cX8_fact 9 = .ok (.ireturn, 1) := by decide +kernel
theorem dX8_fact_10 : decode cX8_fact 10 = .ok (.iload_n 2, 1) := by decide +kernel
theorem dX8_fact_11 : decode cX8_fact 11 = .ok (.invokestatic 99, 3) := by decide +kernel
theorem dX8_fact_14 : decode cX8_fact 14 = .ok (.ifCond .eq 15, 3) := by decide +kernel
theorem dX8_fact_17 : decode cX8_fact 17 = .ok (.iload_n 3, 1) := by decide +kernel
theorem dX8_fact_18 : decode cX8_fact 18 = .ok (.invokestatic 99, 3) := by decide +kernel
theorem dX8_fact_21 : decode cX8_fact 21 = .ok (.ifCond .eq 8, 3) := by decide +kernel
theorem dX8_fact_24 : decode cX8_fact 24 = .ok (.iload_n 2, 1) := by decide +kernel
theorem dX8_fact_25 : decode cX8_fact 25 = .ok (.iload_n 3, 1) := by decide +kernel
theorem dX8_fact_26 : decode cX8_fact 26 = .ok (.if_icmp .le 6, 3) := by decide +kernel
theorem dX8_fact_29 : decode cX8_fact 29 = .ok (.ldc 102, 2) := by decide +kernel
theorem dX8_fact_31 : decode cX8_fact 31 = .ok (.ireturn, 1) := by decide +kernel
theorem dX8_fact_32 : decode cX8_fact 32 = .ok (.aload_n 0, 1) := by decide +kernel
theorem dX8_fact_33 : decode cX8_fact 33 = .ok (.getfield 7, 3) := by decide +kernel
theorem dX8_fact_36 : decode cX8_fact 36 = .ok (.iload_n 1, 1) := by decide +kernel
theorem dX8_fact_37 : decode cX8_fact 37 = .ok (.iload_n 2, 1) := by decide +kernel
theorem dX8_fact_38 : decode cX8_fact 38 = .ok (.iastore, 1) := by decide +kernel
theorem dX8_fact_39 : decode cX8_fact 39 = .ok (.aload_n 0, 1) := by decide +kernel
theorem dX8_fact_40 : decode cX8_fact 40 = .ok (.getfield 13, 3) := by decide +kernel
theorem dX8_fact_43 : decode cX8_fact 43 = .ok (.iload_n 1, 1) := by decide +kernel
theorem dX8_fact_44 : decode cX8_fact 44 = .ok (.iload_n 3, 1) := by decide +kernel
theorem dX8_fact_45 : decode cX8_fact 45 = .ok (.iastore, 1) := by decide +kernel
theorem dX8_fact_46 : decode cX8_fact 46 = .ok (.iconst 1, 1) := by decide +kernel
theorem dX8_fact_47 : decode cX8_fact 47 = .ok (.ireturn, 1) := by decide +kernel
theorem dX8_end_0 : decode cX8_end 0 = .ok (.iload_n 1, 1) := by decide +kernel
theorem dX8_end_1 : decode cX8_end 1 = .ok (.invokestatic 90, 3) := by decide +kernel
theorem dX8_end_4 : decode cX8_end 4 = .ok (.ifCond .ne 6, 3) := by decide +kernel
theorem dX8_end_7 : decode cX8_end 7 = .ok (.ldc 94, 2) := by decide +kernel
theorem dX8_end_9 : decode cX8_end 9 = .ok (.ireturn, 1) := by decide +kernel
theorem dX8_end_10 : decode cX8_end 10 = .ok (.iload_n 2, 1) := by decide +kernel
theorem dX8_end_11 : decode cX8_end 11 = .ok (.ifCond .lt 8, 3) := by decide +kernel
theorem dX8_end_14 : decode cX8_end 14 = .ok (.iload_n 2, 1) := by decide +kernel
theorem dX8_end_15 : decode cX8_end 15 = .ok (.iconst 1, 1) := by decide +kernel
theorem dX8_end_16 : decode cX8_end 16 = .ok (.if_icmp .le 6, 3) := by decide +kernel
theorem dX8_end_19 : decode cX8_end 19 = .ok (.ldc 102, 2) := by decide +kernel
theorem dX8_end_21 : decode cX8_end 21 = .ok (.ireturn, 1) := by decide +kernel
theorem dX8_end_22 : decode cX8_end 22 = .ok (.aload_n 0, 1) := by decide +kernel
theorem dX8_end_23 : decode cX8_end 23 = .ok (.getfield 7, 3) := by decide +kernel
theorem dX8_end_26 : decode cX8_end 26 = .ok (.iload_n 1, 1) := by decide +kernel
theorem dX8_end_27 : decode cX8_end 27 = .ok (.iaload, 1) := by decide +kernel
theorem dX8_end_28 : decode cX8_end 28 = .ok (.aload_n 0, 1) := by decide +kernel
theorem dX8_end_29 : decode cX8_end 29 = .ok (.getfield 13, 3) := by decide +kernel
theorem dX8_end_32 : decode cX8_end 32 = .ok (.iload_n 1, 1) := by decide +kernel
theorem dX8_end_33 : decode cX8_end 33 = .ok (.iaload, 1) := by decide +kernel
theorem dX8_end_34 : decode cX8_end 34 = .ok (.if_icmp .le 8, 3) := by decide +kernel
theorem dX8_end_37 : decode cX8_end 37 = .ok (.ldc 71, 2) := by decide +kernel
theorem dX8_end_39 : decode cX8_end 39 = .ok (.goto 22, 3) := by decide +kernel
theorem dX8_end_42 : decode cX8_end 42 = .ok (.iload_n 2, 1) := by decide +kernel
theorem dX8_end_43 : decode cX8_end 43 = .ok (.ifCond .ne 12, 3) := by decide +kernel
theorem dX8_end_46 : decode cX8_end 46 = .ok (.aload_n 0, 1) := by decide +kernel
theorem dX8_end_47 : decode cX8_end 47 = .ok (.getfield 7, 3) := by decide +kernel
theorem dX8_end_50 : decode cX8_end 50 = .ok (.iload_n 1, 1) := by decide +kernel
theorem dX8_end_51 : decode cX8_end 51 = .ok (.iaload, 1) := by decide +kernel
theorem dX8_end_52 : decode cX8_end 52 = .ok (.goto 9, 3) := by decide +kernel
theorem dX8_end_55 : decode cX8_end 55 = .ok (.aload_n 0, 1) := by decide +kernel
theorem dX8_end_56 : decode cX8_end 56 = .ok (.getfield 13, 3) := by decide +kernel
theorem dX8_end_59 : decode cX8_end 59 = .ok (.iload_n 1, 1) := by decide +kernel
theorem dX8_end_60 : decode cX8_end 60 = .ok (.iaload, 1) := by decide +kernel
theorem dX8_end_61 : decode cX8_end 61 = .ok (.ireturn, 1) := by decide +kernel
theorem dX8_workersLeft_0 : decode cX8_workersLeft 0 = .ok (.iconst 0, 1) := by decide +kernel
theorem dX8_workersLeft_1 : decode cX8_workersLeft 1 = .ok (.istore_n 1, 1) := by decide +kernel
theorem dX8_workersLeft_2 : decode cX8_workersLeft 2 = .ok (.iconst 0, 1) := by decide +kernel
theorem dX8_workersLeft_3 : decode cX8_workersLeft 3 = .ok (.istore_n 2, 1) := by decide +kernel
theorem dX8_workersLeft_4 : decode cX8_workersLeft 4 = .ok (.iload_n 2, 1) := by decide +kernel
theorem dX8_workersLeft_5 : decode cX8_workersLeft 5 = .ok (.iconst 4, 1) := by decide +kernel
theorem dX8_workersLeft_6 : decode cX8_workersLeft 6 = .ok (.if_icmp .ge 26, 3) := by decide +kernel
theorem dX8_workersLeft_9 : decode cX8_workersLeft 9 = .ok (.iload_n 1, 1) := by decide +kernel
theorem dX8_workersLeft_10 : decode cX8_workersLeft 10 = .ok (.aload_n 0, 1) := by decide +kernel
theorem dX8_workersLeft_11 : decode cX8_workersLeft 11 = .ok (.getfield 62, 3) := by decide +kernel
theorem dX8_workersLeft_14 : decode cX8_workersLeft 14 = .ok (.iload_n 2, 1) := by decide +kernel
theorem dX8_workersLeft_15 : decode cX8_workersLeft 15 = .ok (.baload, 1) := by decide +kernel
theorem dX8_workersLeft_16 : decode cX8_workersLeft 16 = .ok (.ifCond .eq 7, 3) := by decide +kernel
theorem dX8_workersLeft_19 : decode cX8_workersLeft 19 = .ok (.iconst 1, 1) := by decide +kernel
theorem dX8_workersLeft_20 : decode cX8_workersLeft 20 = .ok (.goto 4, 3) := by decide +kernel
theorem dX8_workersLeft_23 : decode cX8_workersLeft 23 = .ok (.iconst 0, 1) := by decide +kernel
theorem dX8_workersLeft_24 : decode cX8_workersLeft 24 = .ok (.iadd, 1) := by decide +kernel
theorem dX8_workersLeft_25 : decode cX8_workersLeft 25 = .ok (.istore_n 1, 1) := by decide +kernel
theorem dX8_workersLeft_26 : decode cX8_workersLeft 26 = .ok (.iinc 2 1, 3) := by decide +kernel
theorem dX8_workersLeft_29 : decode cX8_workersLeft 29 = .ok (.goto (-25), 3) := by decide +kernel
theorem dX8_workersLeft_32 : decode cX8_workersLeft 32 = .ok (.iload_n 1, 1) := by decide +kernel
theorem dX8_workersLeft_33 : decode cX8_workersLeft 33 = .ok (.ireturn, 1) := by decide +kernel
theorem dX8_workers_0 : decode cX8_workers 0 = .ok (.iload_n 1, 1) := by decide +kernel
theorem dX8_workers_1 : decode cX8_workers 1 = .ok (.iconst 1, 1) := by decide +kernel
theorem dX8_workers_2 : decode cX8_workers 2 = .ok (.if_icmp .lt 8, 3) := by decide +kernel
theorem dX8_workers_5 : decode cX8_workers 5 = .ok (.iload_n 1, 1) := by decide +kernel
theorem dX8_workers_6 : decode cX8_workers 6 = .ok (.iconst 4, 1) := by decide +kernel
theorem dX8_workers_7 : decode cX8_workers 7 = .ok (.if_icmp .le 6, 3) := by decide +kernel
theorem dX8_workers_10 : decode cX8_workers 10 = .ok (.ldc 102, 2) := by decide +kernel
theorem dX8_workers_12 : decode cX8_workers 12 = .ok (.ireturn, 1) := by decide +kernel
theorem dX8_workers_13 : decode cX8_workers 13 = .ok (.aload_n 0, 1) := by decide +kernel
theorem dX8_workers_14 : decode cX8_workers 14 = .ok (.invokevirtual 103, 3) := by decide +kernel
theorem dX8_workers_17 : decode cX8_workers 17 = .ok (.istore_n 2, 1) := by decide +kernel
theorem dX8_workers_18 : decode cX8_workers 18 = .ok (.iconst 0, 1) := by decide +kernel
theorem dX8_workers_19 : decode cX8_workers 19 = .ok (.istore_n 3, 1) := by decide +kernel
theorem dX8_workers_20 : decode cX8_workers 20 = .ok (.iload_n 3, 1) := by decide +kernel
theorem dX8_workers_21 : decode cX8_workers 21 = .ok (.iconst 4, 1) := by decide +kernel
theorem dX8_workers_22 : decode cX8_workers 22 = .ok (.if_icmp .ge 32, 3) := by decide +kernel
theorem dX8_workers_25 : decode cX8_workers 25 = .ok (.aload_n 0, 1) := by decide +kernel
theorem dX8_workers_26 : decode cX8_workers 26 = .ok (.getfield 62, 3) := by decide +kernel
theorem dX8_workers_29 : decode cX8_workers 29 = .ok (.iload_n 3, 1) := by decide +kernel
theorem dX8_workers_30 : decode cX8_workers 30 = .ok (.iload_n 3, 1) := by decide +kernel
theorem dX8_workers_31 : decode cX8_workers 31 = .ok (.iload_n 1, 1) := by decide +kernel
theorem dX8_workers_32 : decode cX8_workers 32 = .ok (.if_icmp .ge 7, 3) := by decide +kernel
theorem dX8_workers_35 : decode cX8_workers 35 = .ok (.iconst 1, 1) := by decide +kernel
theorem dX8_workers_36 : decode cX8_workers 36 = .ok (.goto 4, 3) := by decide +kernel
theorem dX8_workers_39 : decode cX8_workers 39 = .ok (.iconst 0, 1) := by decide +kernel
theorem dX8_workers_40 : decode cX8_workers 40 = .ok (.bastore, 1) := by decide +kernel
theorem dX8_workers_41 : decode cX8_workers 41 = .ok (.aload_n 0, 1) := by decide +kernel
theorem dX8_workers_42 : decode cX8_workers 42 = .ok (.getfield 65, 3) := by decide +kernel
theorem dX8_workers_45 : decode cX8_workers 45 = .ok (.iload_n 3, 1) := by decide +kernel
theorem dX8_workers_46 : decode cX8_workers 46 = .ok (.iconst 0, 1) := by decide +kernel
theorem dX8_workers_47 : decode cX8_workers 47 = .ok (.iastore, 1) := by decide +kernel
theorem dX8_workers_48 : decode cX8_workers 48 = .ok (.iinc 3 1, 3) := by decide +kernel
theorem dX8_workers_51 : decode cX8_workers 51 = .ok (.goto (-31), 3) := by decide +kernel
theorem dX8_workers_54 : decode cX8_workers 54 = .ok (.iload_n 2, 1) := by decide +kernel
theorem dX8_workers_55 : decode cX8_workers 55 = .ok (.ireturn, 1) := by decide +kernel
theorem dX8_lose_0 : decode cX8_lose 0 = .ok (.iload_n 1, 1) := by decide +kernel
theorem dX8_lose_1 : decode cX8_lose 1 = .ok (.ifCond .lt 17, 3) := by decide +kernel
theorem dX8_lose_4 : decode cX8_lose 4 = .ok (.iload_n 1, 1) := by decide +kernel
theorem dX8_lose_5 : decode cX8_lose 5 = .ok (.iconst 3, 1) := by decide +kernel
theorem dX8_lose_6 : decode cX8_lose 6 = .ok (.if_icmp .gt 12, 3) := by decide +kernel
theorem dX8_lose_9 : decode cX8_lose 9 = .ok (.aload_n 0, 1) := by decide +kernel
theorem dX8_lose_10 : decode cX8_lose 10 = .ok (.getfield 62, 3) := by decide +kernel
theorem dX8_lose_13 : decode cX8_lose 13 = .ok (.iload_n 1, 1) := by decide +kernel
theorem dX8_lose_14 : decode cX8_lose 14 = .ok (.baload, 1) := by decide +kernel
theorem dX8_lose_15 : decode cX8_lose 15 = .ok (.ifCond .ne 6, 3) := by decide +kernel
theorem dX8_lose_18 : decode cX8_lose 18 = .ok (.ldc 94, 2) := by decide +kernel
theorem dX8_lose_20 : decode cX8_lose 20 = .ok (.ireturn, 1) := by decide +kernel
theorem dX8_lose_21 : decode cX8_lose 21 = .ok (.iload_n 2, 1) := by decide +kernel
theorem dX8_lose_22 : decode cX8_lose 22 = .ok (.iconst 1, 1) := by decide +kernel
theorem dX8_lose_23 : decode cX8_lose 23 = .ok (.if_icmp .lt 9, 3) := by decide +kernel
theorem dX8_lose_26 : decode cX8_lose 26 = .ok (.iload_n 2, 1) := by decide +kernel
theorem dX8_lose_27 : decode cX8_lose 27 = .ok (.ldc 107, 2) := by decide +kernel
theorem dX8_lose_29 : decode cX8_lose 29 = .ok (.if_icmp .le 6, 3) := by decide +kernel
theorem dX8_lose_32 : decode cX8_lose 32 = .ok (.ldc 102, 2) := by decide +kernel
theorem dX8_lose_34 : decode cX8_lose 34 = .ok (.ireturn, 1) := by decide +kernel
theorem dX8_lose_35 : decode cX8_lose 35 = .ok (.aload_n 0, 1) := by decide +kernel
theorem dX8_lose_36 : decode cX8_lose 36 = .ok (.getfield 65, 3) := by decide +kernel
theorem dX8_lose_39 : decode cX8_lose 39 = .ok (.iload_n 1, 1) := by decide +kernel
theorem dX8_lose_40 : decode cX8_lose 40 = .ok (.iload_n 2, 1) := by decide +kernel
theorem dX8_lose_41 : decode cX8_lose 41 = .ok (.iastore, 1) := by decide +kernel
theorem dX8_lose_42 : decode cX8_lose 42 = .ok (.iconst 1, 1) := by decide +kernel
theorem dX8_lose_43 : decode cX8_lose 43 = .ok (.ireturn, 1) := by decide +kernel
theorem dX8_seed_0 : decode cX8_seed 0 = .ok (.aload_n 0, 1) := by decide +kernel
theorem dX8_seed_1 : decode cX8_seed 1 = .ok (.getfield 108, 3) := by decide +kernel
theorem dX8_seed_4 : decode cX8_seed 4 = .ok (.istore_n 2, 1) := by decide +kernel
theorem dX8_seed_5 : decode cX8_seed 5 = .ok (.aload_n 0, 1) := by decide +kernel
theorem dX8_seed_6 : decode cX8_seed 6 = .ok (.iload_n 1, 1) := by decide +kernel
theorem dX8_seed_7 : decode cX8_seed 7 = .ok (.putfield 108, 3) := by decide +kernel
theorem dX8_seed_10 : decode cX8_seed 10 = .ok (.iload_n 2, 1) := by decide +kernel
theorem dX8_seed_11 : decode cX8_seed 11 = .ok (.ireturn, 1) := by decide +kernel
theorem dX8_set_0 : decode cX8_set 0 = .ok (.iload_n 1, 1) := by decide +kernel
theorem dX8_set_1 : decode cX8_set 1 = .ok (.iconst 1, 1) := by decide +kernel
theorem dX8_set_2 : decode cX8_set 2 = .ok (.if_icmp .lt 20, 3) := by decide +kernel
theorem dX8_set_5 : decode cX8_set 5 = .ok (.iload_n 1, 1) := by decide +kernel
theorem dX8_set_6 : decode cX8_set 6 = .ok (.bipush 20, 2) := by decide +kernel
theorem dX8_set_8 : decode cX8_set 8 = .ok (.if_icmp .gt 14, 3) := by decide +kernel
theorem dX8_set_11 : decode cX8_set 11 = .ok (.iload_n 2, 1) := by decide +kernel
theorem dX8_set_12 : decode cX8_set 12 = .ok (.ifCond .lt 10, 3) := by decide +kernel
theorem dX8_set_15 : decode cX8_set 15 = .ok (.iload_n 2, 1) := by decide +kernel
theorem dX8_set_16 : decode cX8_set 16 = .ok (.sipush 10000, 3) := by decide +kernel
theorem dX8_set_19 : decode cX8_set 19 = .ok (.if_icmp .le 6, 3) := by decide +kernel
theorem dX8_set_22 : decode cX8_set 22 = .ok (.ldc 102, 2) := by decide +kernel
theorem dX8_set_24 : decode cX8_set 24 = .ok (.ireturn, 1) := by decide +kernel
theorem dX8_set_25 : decode cX8_set 25 = .ok (.aload_n 0, 1) := by decide +kernel
theorem dX8_set_26 : decode cX8_set 26 = .ok (.getfield 76, 3) := by decide +kernel
theorem dX8_set_29 : decode cX8_set 29 = .ok (.istore_n 3, 1) := by decide +kernel
theorem dX8_set_30 : decode cX8_set 30 = .ok (.aload_n 0, 1) := by decide +kernel
theorem dX8_set_31 : decode cX8_set 31 = .ok (.iload_n 1, 1) := by decide +kernel
theorem dX8_set_32 : decode cX8_set 32 = .ok (.putfield 76, 3) := by decide +kernel
theorem dX8_set_35 : decode cX8_set 35 = .ok (.aload_n 0, 1) := by decide +kernel
theorem dX8_set_36 : decode cX8_set 36 = .ok (.iload_n 2, 1) := by decide +kernel
theorem dX8_set_37 : decode cX8_set 37 = .ok (.putfield 79, 3) := by decide +kernel
theorem dX8_set_40 : decode cX8_set 40 = .ok (.iload_n 3, 1) := by decide +kernel
theorem dX8_set_41 : decode cX8_set 41 = .ok (.ireturn, 1) := by decide +kernel
theorem dX8_nearest_0 : decode cX8_nearest 0 = .ok (.lload_n 0, 1) := by decide +kernel
theorem dX8_nearest_1 : decode cX8_nearest 1 = .ok (.ldc2_w 111, 3) := by decide +kernel
theorem dX8_nearest_4 : decode cX8_nearest 4 = .ok (.lcmp, 1) := by decide +kernel
theorem dX8_nearest_5 : decode cX8_nearest 5 = .ok (.ifCond .ge 8, 3) := by decide +kernel
theorem dX8_nearest_8 : decode cX8_nearest 8 = .ok (.ldc 85, 2) := by decide +kernel
theorem dX8_nearest_10 : decode cX8_nearest 10 = .ok (.goto 18, 3) := by decide +kernel
theorem dX8_nearest_13 : decode cX8_nearest 13 = .ok (.lload_n 0, 1) := by decide +kernel
theorem dX8_nearest_14 : decode cX8_nearest 14 = .ok (.ldc2_w 113, 3) := by decide +kernel
theorem dX8_nearest_17 : decode cX8_nearest 17 = .ok (.lcmp, 1) := by decide +kernel
theorem dX8_nearest_18 : decode cX8_nearest 18 = .ok (.ifCond .le 8, 3) := by decide +kernel
theorem dX8_nearest_21 : decode cX8_nearest 21 = .ok (.ldc 86, 2) := by decide +kernel
theorem dX8_nearest_23 : decode cX8_nearest 23 = .ok (.goto 5, 3) := by decide +kernel
theorem dX8_nearest_26 : decode cX8_nearest 26 = .ok (.lload_n 0, 1) := by decide +kernel
theorem dX8_nearest_27 : decode cX8_nearest 27 = .ok (.l2i, 1) := by decide +kernel
theorem dX8_nearest_28 : decode cX8_nearest 28 = .ok (.ireturn, 1) := by decide +kernel
theorem dX8_begin_0 : decode cX8_begin 0 = .ok (.aload_n 0, 1) := by decide +kernel
theorem dX8_begin_1 : decode cX8_begin 1 = .ok (.getfield 31, 3) := by decide +kernel
theorem dX8_begin_4 : decode cX8_begin 4 = .ok (.iload_n 1, 1) := by decide +kernel
theorem dX8_begin_5 : decode cX8_begin 5 = .ok (.iconst 0, 1) := by decide +kernel
theorem dX8_begin_6 : decode cX8_begin 6 = .ok (.iastore, 1) := by decide +kernel
theorem dX8_begin_7 : decode cX8_begin 7 = .ok (.aload_n 0, 1) := by decide +kernel
theorem dX8_begin_8 : decode cX8_begin 8 = .ok (.getfield 34, 3) := by decide +kernel
theorem dX8_begin_11 : decode cX8_begin 11 = .ok (.iload_n 1, 1) := by decide +kernel
theorem dX8_begin_12 : decode cX8_begin 12 = .ok (.iconst 0, 1) := by decide +kernel
theorem dX8_begin_13 : decode cX8_begin 13 = .ok (.iastore, 1) := by decide +kernel
theorem dX8_begin_14 : decode cX8_begin 14 = .ok (.aload_n 0, 1) := by decide +kernel
theorem dX8_begin_15 : decode cX8_begin 15 = .ok (.getfield 49, 3) := by decide +kernel
theorem dX8_begin_18 : decode cX8_begin 18 = .ok (.iload_n 1, 1) := by decide +kernel
theorem dX8_begin_19 : decode cX8_begin 19 = .ok (.iconst 0, 1) := by decide +kernel
theorem dX8_begin_20 : decode cX8_begin 20 = .ok (.iastore, 1) := by decide +kernel
theorem dX8_begin_21 : decode cX8_begin 21 = .ok (.iconst 0, 1) := by decide +kernel
theorem dX8_begin_22 : decode cX8_begin 22 = .ok (.istore_n 2, 1) := by decide +kernel
theorem dX8_begin_23 : decode cX8_begin 23 = .ok (.iload_n 2, 1) := by decide +kernel
theorem dX8_begin_24 : decode cX8_begin 24 = .ok (.iconst 3, 1) := by decide +kernel
theorem dX8_begin_25 : decode cX8_begin 25 = .ok (.if_icmp .ge 31, 3) := by decide +kernel
theorem dX8_begin_28 : decode cX8_begin 28 = .ok (.aload_n 0, 1) := by decide +kernel
theorem dX8_begin_29 : decode cX8_begin 29 = .ok (.getfield 43, 3) := by decide +kernel
theorem dX8_begin_32 : decode cX8_begin 32 = .ok (.iconst 3, 1) := by decide +kernel
theorem dX8_begin_33 : decode cX8_begin 33 = .ok (.iload_n 1, 1) := by decide +kernel
theorem dX8_begin_34 : decode cX8_begin 34 = .ok (.imul, 1) := by decide +kernel
theorem dX8_begin_35 : decode cX8_begin 35 = .ok (.iload_n 2, 1) := by decide +kernel
theorem dX8_begin_36 : decode cX8_begin 36 = .ok (.iadd, 1) := by decide +kernel
theorem dX8_begin_37 : decode cX8_begin 37 = .ok (.iconst 1, 1) := by decide +kernel
theorem dX8_begin_38 : decode cX8_begin 38 = .ok (.iastore, 1) := by decide +kernel
theorem dX8_begin_39 : decode cX8_begin 39 = .ok (.aload_n 0, 1) := by decide +kernel
theorem dX8_begin_40 : decode cX8_begin 40 = .ok (.getfield 46, 3) := by decide +kernel
theorem dX8_begin_43 : decode cX8_begin 43 = .ok (.iconst 3, 1) := by decide +kernel
theorem dX8_begin_44 : decode cX8_begin 44 = .ok (.iload_n 1, 1) := by decide +kernel
theorem dX8_begin_45 : decode cX8_begin 45 = .ok (.imul, 1) := by decide +kernel
theorem dX8_begin_46 : decode cX8_begin 46 = .ok (.iload_n 2, 1) := by decide +kernel
theorem dX8_begin_47 : decode cX8_begin 47 = .ok (.iadd, 1) := by decide +kernel
theorem dX8_begin_48 : decode cX8_begin 48 = .ok (.iconst 0, 1) := by decide +kernel
theorem dX8_begin_49 : decode cX8_begin 49 = .ok (.iastore, 1) := by decide +kernel
theorem dX8_begin_50 : decode cX8_begin 50 = .ok (.iinc 2 1, 3) := by decide +kernel
theorem dX8_begin_53 : decode cX8_begin 53 = .ok (.goto (-30), 3) := by decide +kernel
theorem dX8_begin_56 : decode cX8_begin 56 = .ok (.return_, 1) := by decide +kernel
theorem dX8_push_0 : decode cX8_push 0 = .ok (.aload_n 0, 1) := by decide +kernel
theorem dX8_push_1 : decode cX8_push 1 = .ok (.getfield 34, 3) := by decide +kernel
theorem dX8_push_4 : decode cX8_push 4 = .ok (.iload_n 1, 1) := by decide +kernel
theorem dX8_push_5 : decode cX8_push 5 = .ok (.iaload, 1) := by decide +kernel
theorem dX8_push_6 : decode cX8_push 6 = .ok (.iconst 3, 1) := by decide +kernel
theorem dX8_push_7 : decode cX8_push 7 = .ok (.if_icmp .ne 5, 3) := by decide +kernel
theorem dX8_push_10 : decode cX8_push 10 = .ok (.iconst 2, 1) := by decide +kernel
theorem dX8_push_11 : decode cX8_push 11 = .ok (.ireturn, 1) := by decide +kernel
theorem dX8_push_12 : decode cX8_push 12 = .ok (.aload_n 0, 1) := by decide +kernel
theorem dX8_push_13 : decode cX8_push 13 = .ok (.getfield 37, 3) := by decide +kernel
theorem dX8_push_16 : decode cX8_push 16 = .ok (.iconst 3, 1) := by decide +kernel
theorem dX8_push_17 : decode cX8_push 17 = .ok (.iload_n 1, 1) := by decide +kernel
theorem dX8_push_18 : decode cX8_push 18 = .ok (.imul, 1) := by decide +kernel
theorem dX8_push_19 : decode cX8_push 19 = .ok (.aload_n 0, 1) := by decide +kernel
theorem dX8_push_20 : decode cX8_push 20 = .ok (.getfield 34, 3) := by decide +kernel
theorem dX8_push_23 : decode cX8_push 23 = .ok (.iload_n 1, 1) := by decide +kernel
theorem dX8_push_24 : decode cX8_push 24 = .ok (.iaload, 1) := by decide +kernel
theorem dX8_push_25 : decode cX8_push 25 = .ok (.iadd, 1) := by decide +kernel
theorem dX8_push_26 : decode cX8_push 26 = .ok (.iload_n 2, 1) := by decide +kernel
theorem dX8_push_27 : decode cX8_push 27 = .ok (.iastore, 1) := by decide +kernel
theorem dX8_push_28 : decode cX8_push 28 = .ok (.aload_n 0, 1) := by decide +kernel
theorem dX8_push_29 : decode cX8_push 29 = .ok (.getfield 40, 3) := by decide +kernel
theorem dX8_push_32 : decode cX8_push 32 = .ok (.iconst 3, 1) := by decide +kernel
theorem dX8_push_33 : decode cX8_push 33 = .ok (.iload_n 1, 1) := by decide +kernel
theorem dX8_push_34 : decode cX8_push 34 = .ok (.imul, 1) := by decide +kernel
theorem dX8_push_35 : decode cX8_push 35 = .ok (.aload_n 0, 1) := by decide +kernel
theorem dX8_push_36 : decode cX8_push 36 = .ok (.getfield 34, 3) := by decide +kernel
theorem dX8_push_39 : decode cX8_push 39 = .ok (.iload_n 1, 1) := by decide +kernel
theorem dX8_push_40 : decode cX8_push 40 = .ok (.iaload, 1) := by decide +kernel
theorem dX8_push_41 : decode cX8_push 41 = .ok (.iadd, 1) := by decide +kernel
theorem dX8_push_42 : decode cX8_push 42 = .ok (.iload_n 3, 1) := by decide +kernel
theorem dX8_push_43 : decode cX8_push 43 = .ok (.iastore, 1) := by decide +kernel
theorem dX8_push_44 : decode cX8_push 44 = .ok (.aload_n 0, 1) := by decide +kernel
theorem dX8_push_45 : decode cX8_push 45 = .ok (.getfield 34, 3) := by decide +kernel
theorem dX8_push_48 : decode cX8_push 48 = .ok (.iload_n 1, 1) := by decide +kernel
theorem dX8_push_49 : decode cX8_push 49 = .ok (.dup2, 1) := by decide +kernel
theorem dX8_push_50 : decode cX8_push 50 = .ok (.iaload, 1) := by decide +kernel
theorem dX8_push_51 : decode cX8_push 51 = .ok (.iconst 1, 1) := by decide +kernel
theorem dX8_push_52 : decode cX8_push 52 = .ok (.iadd, 1) := by decide +kernel
theorem dX8_push_53 : decode cX8_push 53 = .ok (.iastore, 1) := by decide +kernel
theorem dX8_push_54 : decode cX8_push 54 = .ok (.iconst 0, 1) := by decide +kernel
theorem dX8_push_55 : decode cX8_push 55 = .ok (.ireturn, 1) := by decide +kernel
theorem dX8_work_0 : decode cX8_work 0 = .ok (.aload_n 0, 1) := by decide +kernel
theorem dX8_work_1 : decode cX8_work 1 = .ok (.getfield 22, 3) := by decide +kernel
theorem dX8_work_4 : decode cX8_work 4 = .ok (.bipush 8, 2) := by decide +kernel
theorem dX8_work_6 : decode cX8_work 6 = .ok (.iload_n 1, 1) := by decide +kernel
theorem dX8_work_7 : decode cX8_work 7 = .ok (.imul, 1) := by decide +kernel
theorem dX8_work_8 : decode cX8_work 8 = .ok (.iload_n 2, 1) := by decide +kernel
theorem dX8_work_9 : decode cX8_work 9 = .ok (.iadd, 1) := by decide +kernel
theorem dX8_work_10 : decode cX8_work 10 = .ok (.iaload, 1) := by decide +kernel
theorem dX8_work_11 : decode cX8_work 11 = .ok (.istore_n 3, 1) := by decide +kernel
theorem dX8_work_12 : decode cX8_work 12 = .ok (.aload_n 0, 1) := by decide +kernel
theorem dX8_work_13 : decode cX8_work 13 = .ok (.getfield 25, 3) := by decide +kernel
theorem dX8_work_16 : decode cX8_work 16 = .ok (.bipush 8, 2) := by decide +kernel
theorem dX8_work_18 : decode cX8_work 18 = .ok (.iload_n 1, 1) := by decide +kernel
theorem dX8_work_19 : decode cX8_work 19 = .ok (.imul, 1) := by decide +kernel
theorem dX8_work_20 : decode cX8_work 20 = .ok (.iload_n 2, 1) := by decide +kernel
theorem dX8_work_21 : decode cX8_work 21 = .ok (.iadd, 1) := by decide +kernel
theorem dX8_work_22 : decode cX8_work 22 = .ok (.iaload, 1) := by decide +kernel
theorem dX8_work_23 : decode cX8_work 23 = .ok (.istore 4, 2) := by decide +kernel
theorem dX8_work_25 : decode cX8_work 25 = .ok (.iload_n 3, 1) := by decide +kernel
theorem dX8_work_26 : decode cX8_work 26 = .ok (.ifCond .ne 42, 3) := by decide +kernel
theorem dX8_work_29 : decode cX8_work 29 = .ok (.aload_n 0, 1) := by decide +kernel
theorem dX8_work_30 : decode cX8_work 30 = .ok (.getfield 28, 3) := by decide +kernel
theorem dX8_work_33 : decode cX8_work 33 = .ok (.bipush 8, 2) := by decide +kernel
theorem dX8_work_35 : decode cX8_work 35 = .ok (.iload_n 1, 1) := by decide +kernel
theorem dX8_work_36 : decode cX8_work 36 = .ok (.imul, 1) := by decide +kernel
theorem dX8_work_37 : decode cX8_work 37 = .ok (.iload_n 2, 1) := by decide +kernel
theorem dX8_work_38 : decode cX8_work 38 = .ok (.iadd, 1) := by decide +kernel
theorem dX8_work_39 : decode cX8_work 39 = .ok (.iaload, 1) := by decide +kernel
theorem dX8_work_40 : decode cX8_work 40 = .ok (.iload 4, 2) := by decide +kernel
theorem dX8_work_42 : decode cX8_work 42 = .ok (.if_icmp .ge 7, 3) := by decide +kernel
theorem dX8_work_45 : decode cX8_work 45 = .ok (.iconst 5, 1) := by decide +kernel
theorem dX8_work_46 : decode cX8_work 46 = .ok (.goto 21, 3) := by decide +kernel
theorem dX8_work_49 : decode cX8_work 49 = .ok (.aload_n 0, 1) := by decide +kernel
theorem dX8_work_50 : decode cX8_work 50 = .ok (.iload_n 1, 1) := by decide +kernel
theorem dX8_work_51 : decode cX8_work 51 = .ok (.iload 4, 2) := by decide +kernel
theorem dX8_work_53 : decode cX8_work 53 = .ok (.aload_n 0, 1) := by decide +kernel
theorem dX8_work_54 : decode cX8_work 54 = .ok (.getfield 28, 3) := by decide +kernel
theorem dX8_work_57 : decode cX8_work 57 = .ok (.bipush 8, 2) := by decide +kernel
theorem dX8_work_59 : decode cX8_work 59 = .ok (.iload_n 1, 1) := by decide +kernel
theorem dX8_work_60 : decode cX8_work 60 = .ok (.imul, 1) := by decide +kernel
theorem dX8_work_61 : decode cX8_work 61 = .ok (.iload_n 2, 1) := by decide +kernel
theorem dX8_work_62 : decode cX8_work 62 = .ok (.iadd, 1) := by decide +kernel
theorem dX8_work_63 : decode cX8_work 63 = .ok (.iaload, 1) := by decide +kernel
theorem dX8_work_64 : decode cX8_work 64 = .ok (.invokevirtual 115, 3) := by decide +kernel
theorem dX8_work_67 : decode cX8_work 67 = .ok (.ireturn, 1) := by decide +kernel
theorem dX8_work_68 : decode cX8_work 68 = .ok (.iload_n 3, 1) := by decide +kernel
theorem dX8_work_69 : decode cX8_work 69 = .ok (.iconst 1, 1) := by decide +kernel
theorem dX8_work_70 : decode cX8_work 70 = .ok (.if_icmp .ne 56, 3) := by decide +kernel
theorem dX8_work_73 : decode cX8_work 73 = .ok (.iload 4, 2) := by decide +kernel
theorem dX8_work_75 : decode cX8_work 75 = .ok (.invokestatic 90, 3) := by decide +kernel
theorem dX8_work_78 : decode cX8_work 78 = .ok (.ifCond .ne 7, 3) := by decide +kernel
theorem dX8_work_81 : decode cX8_work 81 = .ok (.iconst 2, 1) := by decide +kernel
theorem dX8_work_82 : decode cX8_work 82 = .ok (.goto 43, 3) := by decide +kernel
theorem dX8_work_85 : decode cX8_work 85 = .ok (.aload_n 0, 1) := by decide +kernel
theorem dX8_work_86 : decode cX8_work 86 = .ok (.getfield 7, 3) := by decide +kernel
theorem dX8_work_89 : decode cX8_work 89 = .ok (.iload 4, 2) := by decide +kernel
theorem dX8_work_91 : decode cX8_work 91 = .ok (.iaload, 1) := by decide +kernel
theorem dX8_work_92 : decode cX8_work 92 = .ok (.aload_n 0, 1) := by decide +kernel
theorem dX8_work_93 : decode cX8_work 93 = .ok (.getfield 13, 3) := by decide +kernel
theorem dX8_work_96 : decode cX8_work 96 = .ok (.iload 4, 2) := by decide +kernel
theorem dX8_work_98 : decode cX8_work 98 = .ok (.iaload, 1) := by decide +kernel
theorem dX8_work_99 : decode cX8_work 99 = .ok (.if_icmp .le 7, 3) := by decide +kernel
theorem dX8_work_102 : decode cX8_work 102 = .ok (.iconst 1, 1) := by decide +kernel
theorem dX8_work_103 : decode cX8_work 103 = .ok (.goto 22, 3) := by decide +kernel
theorem dX8_work_106 : decode cX8_work 106 = .ok (.aload_n 0, 1) := by decide +kernel
theorem dX8_work_107 : decode cX8_work 107 = .ok (.iload_n 1, 1) := by decide +kernel
theorem dX8_work_108 : decode cX8_work 108 = .ok (.aload_n 0, 1) := by decide +kernel
theorem dX8_work_109 : decode cX8_work 109 = .ok (.getfield 7, 3) := by decide +kernel
theorem dX8_work_112 : decode cX8_work 112 = .ok (.iload 4, 2) := by decide +kernel
theorem dX8_work_114 : decode cX8_work 114 = .ok (.iaload, 1) := by decide +kernel
theorem dX8_work_115 : decode cX8_work 115 = .ok (.aload_n 0, 1) := by decide +kernel
theorem dX8_work_116 : decode cX8_work 116 = .ok (.getfield 13, 3) := by decide +kernel
theorem dX8_work_119 : decode cX8_work 119 = .ok (.iload 4, 2) := by decide +kernel
theorem dX8_work_121 : decode cX8_work 121 = .ok (.iaload, 1) := by decide +kernel
theorem dX8_work_122 : decode cX8_work 122 = .ok (.invokevirtual 115, 3) := by decide +kernel
theorem dX8_work_125 : decode cX8_work 125 = .ok (.ireturn, 1) := by decide +kernel
theorem dX8_work_126 : decode cX8_work 126 = .ok (.iload_n 3, 1) := by decide +kernel
theorem dX8_work_127 : decode cX8_work 127 = .ok (.bipush 9, 2) := by decide +kernel
theorem dX8_work_129 : decode cX8_work 129 = .ok (.if_icmp .ne 73, 3) := by decide +kernel
theorem dX8_work_132 : decode cX8_work 132 = .ok (.iload 4, 2) := by decide +kernel
theorem dX8_work_134 : decode cX8_work 134 = .ok (.ifCond .lt 9, 3) := by decide +kernel
theorem dX8_work_137 : decode cX8_work 137 = .ok (.iload 4, 2) := by decide +kernel
theorem dX8_work_139 : decode cX8_work 139 = .ok (.iconst 2, 1) := by decide +kernel
theorem dX8_work_140 : decode cX8_work 140 = .ok (.if_icmp .le 5, 3) := by decide +kernel
theorem dX8_work_143 : decode cX8_work 143 = .ok (.iconst 2, 1) := by decide +kernel
theorem dX8_work_144 : decode cX8_work 144 = .ok (.ireturn, 1) := by decide +kernel
theorem dX8_work_145 : decode cX8_work 145 = .ok (.aload_n 0, 1) := by decide +kernel
theorem dX8_work_146 : decode cX8_work 146 = .ok (.getfield 43, 3) := by decide +kernel
theorem dX8_work_149 : decode cX8_work 149 = .ok (.iconst 3, 1) := by decide +kernel
theorem dX8_work_150 : decode cX8_work 150 = .ok (.iload_n 1, 1) := by decide +kernel
theorem dX8_work_151 : decode cX8_work 151 = .ok (.imul, 1) := by decide +kernel
theorem dX8_work_152 : decode cX8_work 152 = .ok (.iload 4, 2) := by decide +kernel
theorem dX8_work_154 : decode cX8_work 154 = .ok (.iadd, 1) := by decide +kernel
theorem dX8_work_155 : decode cX8_work 155 = .ok (.iaload, 1) := by decide +kernel
theorem dX8_work_156 : decode cX8_work 156 = .ok (.aload_n 0, 1) := by decide +kernel
theorem dX8_work_157 : decode cX8_work 157 = .ok (.getfield 46, 3) := by decide +kernel
theorem dX8_work_160 : decode cX8_work 160 = .ok (.iconst 3, 1) := by decide +kernel
theorem dX8_work_161 : decode cX8_work 161 = .ok (.iload_n 1, 1) := by decide +kernel
theorem dX8_work_162 : decode cX8_work 162 = .ok (.imul, 1) := by decide +kernel
theorem dX8_work_163 : decode cX8_work 163 = .ok (.iload 4, 2) := by decide +kernel
theorem dX8_work_165 : decode cX8_work 165 = .ok (.iadd, 1) := by decide +kernel
theorem dX8_work_166 : decode cX8_work 166 = .ok (.iaload, 1) := by decide +kernel
theorem dX8_work_167 : decode cX8_work 167 = .ok (.if_icmp .le 7, 3) := by decide +kernel
theorem dX8_work_170 : decode cX8_work 170 = .ok (.iconst 1, 1) := by decide +kernel
theorem dX8_work_171 : decode cX8_work 171 = .ok (.goto 30, 3) := by decide +kernel
theorem dX8_work_174 : decode cX8_work 174 = .ok (.aload_n 0, 1) := by decide +kernel
theorem dX8_work_175 : decode cX8_work 175 = .ok (.iload_n 1, 1) := by decide +kernel
theorem dX8_work_176 : decode cX8_work 176 = .ok (.aload_n 0, 1) := by decide +kernel
theorem dX8_work_177 : decode cX8_work 177 = .ok (.getfield 43, 3) := by decide +kernel
theorem dX8_work_180 : decode cX8_work 180 = .ok (.iconst 3, 1) := by decide +kernel
theorem dX8_work_181 : decode cX8_work 181 = .ok (.iload_n 1, 1) := by decide +kernel
theorem dX8_work_182 : decode cX8_work 182 = .ok (.imul, 1) := by decide +kernel
theorem dX8_work_183 : decode cX8_work 183 = .ok (.iload 4, 2) := by decide +kernel
theorem dX8_work_185 : decode cX8_work 185 = .ok (.iadd, 1) := by decide +kernel
theorem dX8_work_186 : decode cX8_work 186 = .ok (.iaload, 1) := by decide +kernel
theorem dX8_work_187 : decode cX8_work 187 = .ok (.aload_n 0, 1) := by decide +kernel
theorem dX8_work_188 : decode cX8_work 188 = .ok (.getfield 46, 3) := by decide +kernel
theorem dX8_work_191 : decode cX8_work 191 = .ok (.iconst 3, 1) := by decide +kernel
theorem dX8_work_192 : decode cX8_work 192 = .ok (.iload_n 1, 1) := by decide +kernel
theorem dX8_work_193 : decode cX8_work 193 = .ok (.imul, 1) := by decide +kernel
theorem dX8_work_194 : decode cX8_work 194 = .ok (.iload 4, 2) := by decide +kernel
theorem dX8_work_196 : decode cX8_work 196 = .ok (.iadd, 1) := by decide +kernel
theorem dX8_work_197 : decode cX8_work 197 = .ok (.iaload, 1) := by decide +kernel
theorem dX8_work_198 : decode cX8_work 198 = .ok (.invokevirtual 115, 3) := by decide +kernel
theorem dX8_work_201 : decode cX8_work 201 = .ok (.ireturn, 1) := by decide +kernel
theorem dX8_work_202 : decode cX8_work 202 = .ok (.aload_n 0, 1) := by decide +kernel
theorem dX8_work_203 : decode cX8_work 203 = .ok (.getfield 34, 3) := by decide +kernel
theorem dX8_work_206 : decode cX8_work 206 = .ok (.iload_n 1, 1) := by decide +kernel
theorem dX8_work_207 : decode cX8_work 207 = .ok (.iaload, 1) := by decide +kernel
theorem dX8_work_208 : decode cX8_work 208 = .ok (.ifCond .ne 5, 3) := by decide +kernel
theorem dX8_work_211 : decode cX8_work 211 = .ok (.iconst 2, 1) := by decide +kernel
theorem dX8_work_212 : decode cX8_work 212 = .ok (.ireturn, 1) := by decide +kernel
theorem dX8_work_213 : decode cX8_work 213 = .ok (.iconst 3, 1) := by decide +kernel
theorem dX8_work_214 : decode cX8_work 214 = .ok (.iload_n 1, 1) := by decide +kernel
theorem dX8_work_215 : decode cX8_work 215 = .ok (.imul, 1) := by decide +kernel
theorem dX8_work_216 : decode cX8_work 216 = .ok (.aload_n 0, 1) := by decide +kernel
theorem dX8_work_217 : decode cX8_work 217 = .ok (.getfield 34, 3) := by decide +kernel
theorem dX8_work_220 : decode cX8_work 220 = .ok (.iload_n 1, 1) := by decide +kernel
theorem dX8_work_221 : decode cX8_work 221 = .ok (.iaload, 1) := by decide +kernel
theorem dX8_work_222 : decode cX8_work 222 = .ok (.iadd, 1) := by decide +kernel
theorem dX8_work_223 : decode cX8_work 223 = .ok (.iconst 1, 1) := by decide +kernel
theorem dX8_work_224 : decode cX8_work 224 = .ok (.isub, 1) := by decide +kernel
theorem dX8_work_225 : decode cX8_work 225 = .ok (.istore 5, 2) := by decide +kernel
theorem dX8_work_227 : decode cX8_work 227 = .ok (.aload_n 0, 1) := by decide +kernel
theorem dX8_work_228 : decode cX8_work 228 = .ok (.getfield 37, 3) := by decide +kernel
theorem dX8_work_231 : decode cX8_work 231 = .ok (.iload 5, 2) := by decide +kernel
theorem dX8_work_233 : decode cX8_work 233 = .ok (.iaload, 1) := by decide +kernel
theorem dX8_work_234 : decode cX8_work 234 = .ok (.istore 6, 2) := by decide +kernel
theorem dX8_work_236 : decode cX8_work 236 = .ok (.aload_n 0, 1) := by decide +kernel
theorem dX8_work_237 : decode cX8_work 237 = .ok (.getfield 40, 3) := by decide +kernel
theorem dX8_work_240 : decode cX8_work 240 = .ok (.iload 5, 2) := by decide +kernel
theorem dX8_work_242 : decode cX8_work 242 = .ok (.iaload, 1) := by decide +kernel
theorem dX8_work_243 : decode cX8_work 243 = .ok (.istore 7, 2) := by decide +kernel
theorem dX8_work_245 : decode cX8_work 245 = .ok (.iload_n 3, 1) := by decide +kernel
theorem dX8_work_246 : decode cX8_work 246 = .ok (.bipush 7, 2) := by decide +kernel
theorem dX8_work_248 : decode cX8_work 248 = .ok (.if_icmp .ne 16, 3) := by decide +kernel
theorem dX8_work_251 : decode cX8_work 251 = .ok (.iload 6, 2) := by decide +kernel
theorem dX8_work_253 : decode cX8_work 253 = .ok (.iload 7, 2) := by decide +kernel
theorem dX8_work_255 : decode cX8_work 255 = .ok (.if_icmp .ne 7, 3) := by decide +kernel
theorem dX8_work_258 : decode cX8_work 258 = .ok (.iconst 0, 1) := by decide +kernel
theorem dX8_work_259 : decode cX8_work 259 = .ok (.goto 4, 3) := by decide +kernel
theorem dX8_work_262 : decode cX8_work 262 = .ok (.iconst 4, 1) := by decide +kernel
theorem dX8_work_263 : decode cX8_work 263 = .ok (.ireturn, 1) := by decide +kernel
theorem dX8_work_264 : decode cX8_work 264 = .ok (.aload_n 0, 1) := by decide +kernel
theorem dX8_work_265 : decode cX8_work 265 = .ok (.getfield 34, 3) := by decide +kernel
theorem dX8_work_268 : decode cX8_work 268 = .ok (.iload_n 1, 1) := by decide +kernel
theorem dX8_work_269 : decode cX8_work 269 = .ok (.dup2, 1) := by decide +kernel
theorem dX8_work_270 : decode cX8_work 270 = .ok (.iaload, 1) := by decide +kernel
theorem dX8_work_271 : decode cX8_work 271 = .ok (.iconst 1, 1) := by decide +kernel
theorem dX8_work_272 : decode cX8_work 272 = .ok (.isub, 1) := by decide +kernel
theorem dX8_work_273 : decode cX8_work 273 = .ok (.iastore, 1) := by decide +kernel
theorem dX8_work_274 : decode cX8_work 274 = .ok (.iload_n 3, 1) := by decide +kernel
theorem dX8_work_275 : decode cX8_work 275 = .ok (.bipush 6, 2) := by decide +kernel
theorem dX8_work_277 : decode cX8_work 277 = .ok (.if_icmp .ne 24, 3) := by decide +kernel
theorem dX8_work_280 : decode cX8_work 280 = .ok (.iload 4, 2) := by decide +kernel
theorem dX8_work_282 : decode cX8_work 282 = .ok (.ifCond .ne 7, 3) := by decide +kernel
theorem dX8_work_285 : decode cX8_work 285 = .ok (.iconst 3, 1) := by decide +kernel
theorem dX8_work_286 : decode cX8_work 286 = .ok (.goto 14, 3) := by decide +kernel
theorem dX8_work_289 : decode cX8_work 289 = .ok (.aload_n 0, 1) := by decide +kernel
theorem dX8_work_290 : decode cX8_work 290 = .ok (.iload_n 1, 1) := by decide +kernel
theorem dX8_work_291 : decode cX8_work 291 = .ok (.iload 6, 2) := by decide +kernel
theorem dX8_work_293 : decode cX8_work 293 = .ok (.iload 7, 2) := by decide +kernel
theorem dX8_work_295 : decode cX8_work 295 = .ok (.iload 4, 2) := by decide +kernel
theorem dX8_work_297 : decode cX8_work 297 = .ok (.invokevirtual 119, 3) := by decide +kernel
theorem dX8_work_300 : decode cX8_work 300 = .ok (.ireturn, 1) := by decide +kernel
theorem dX8_work_301 : decode cX8_work 301 = .ok (.iload_n 3, 1) := by decide +kernel
theorem dX8_work_302 : decode cX8_work 302 = .ok (.bipush 8, 2) := by decide +kernel
theorem dX8_work_304 : decode cX8_work 304 = .ok (.if_icmp .ne 44, 3) := by decide +kernel
theorem dX8_work_307 : decode cX8_work 307 = .ok (.iload 4, 2) := by decide +kernel
theorem dX8_work_309 : decode cX8_work 309 = .ok (.ifCond .lt 9, 3) := by decide +kernel
theorem dX8_work_312 : decode cX8_work 312 = .ok (.iload 4, 2) := by decide +kernel
theorem dX8_work_314 : decode cX8_work 314 = .ok (.iconst 2, 1) := by decide +kernel
theorem dX8_work_315 : decode cX8_work 315 = .ok (.if_icmp .le 5, 3) := by decide +kernel
theorem dX8_work_318 : decode cX8_work 318 = .ok (.iconst 2, 1) := by decide +kernel
theorem dX8_work_319 : decode cX8_work 319 = .ok (.ireturn, 1) := by decide +kernel
theorem dX8_work_320 : decode cX8_work 320 = .ok (.aload_n 0, 1) := by decide +kernel
theorem dX8_work_321 : decode cX8_work 321 = .ok (.getfield 43, 3) := by decide +kernel
theorem dX8_work_324 : decode cX8_work 324 = .ok (.iconst 3, 1) := by decide +kernel
theorem dX8_work_325 : decode cX8_work 325 = .ok (.iload_n 1, 1) := by decide +kernel
theorem dX8_work_326 : decode cX8_work 326 = .ok (.imul, 1) := by decide +kernel
theorem dX8_work_327 : decode cX8_work 327 = .ok (.iload 4, 2) := by decide +kernel
theorem dX8_work_329 : decode cX8_work 329 = .ok (.iadd, 1) := by decide +kernel
theorem dX8_work_330 : decode cX8_work 330 = .ok (.iload 6, 2) := by decide +kernel
theorem dX8_work_332 : decode cX8_work 332 = .ok (.iastore, 1) := by decide +kernel
theorem dX8_work_333 : decode cX8_work 333 = .ok (.aload_n 0, 1) := by decide +kernel
theorem dX8_work_334 : decode cX8_work 334 = .ok (.getfield 46, 3) := by decide +kernel
theorem dX8_work_337 : decode cX8_work 337 = .ok (.iconst 3, 1) := by decide +kernel
theorem dX8_work_338 : decode cX8_work 338 = .ok (.iload_n 1, 1) := by decide +kernel
theorem dX8_work_339 : decode cX8_work 339 = .ok (.imul, 1) := by decide +kernel
theorem dX8_work_340 : decode cX8_work 340 = .ok (.iload 4, 2) := by decide +kernel
theorem dX8_work_342 : decode cX8_work 342 = .ok (.iadd, 1) := by decide +kernel
theorem dX8_work_343 : decode cX8_work 343 = .ok (.iload 7, 2) := by decide +kernel
theorem dX8_work_345 : decode cX8_work 345 = .ok (.iastore, 1) := by decide +kernel
theorem dX8_work_346 : decode cX8_work 346 = .ok (.iconst 0, 1) := by decide +kernel
theorem dX8_work_347 : decode cX8_work 347 = .ok (.ireturn, 1) := by decide +kernel
theorem dX8_work_348 : decode cX8_work 348 = .ok (.aload_n 0, 1) := by decide +kernel
theorem dX8_work_349 : decode cX8_work 349 = .ok (.getfield 34, 3) := by decide +kernel
theorem dX8_work_352 : decode cX8_work 352 = .ok (.iload_n 1, 1) := by decide +kernel
theorem dX8_work_353 : decode cX8_work 353 = .ok (.iaload, 1) := by decide +kernel
theorem dX8_work_354 : decode cX8_work 354 = .ok (.ifCond .ne 7, 3) := by decide +kernel
theorem dX8_work_357 : decode cX8_work 357 = .ok (.iconst 2, 1) := by decide +kernel
theorem dX8_work_358 : decode cX8_work 358 = .ok (.goto 13, 3) := by decide +kernel
theorem dX8_work_361 : decode cX8_work 361 = .ok (.aload_n 0, 1) := by decide +kernel
theorem dX8_work_362 : decode cX8_work 362 = .ok (.iload_n 1, 1) := by decide +kernel
theorem dX8_work_363 : decode cX8_work 363 = .ok (.iload_n 3, 1) := by decide +kernel
theorem dX8_work_364 : decode cX8_work 364 = .ok (.iload 6, 2) := by decide +kernel
theorem dX8_work_366 : decode cX8_work 366 = .ok (.iload 7, 2) := by decide +kernel
theorem dX8_work_368 : decode cX8_work 368 = .ok (.invokevirtual 123, 3) := by decide +kernel
theorem dX8_work_371 : decode cX8_work 371 = .ok (.ireturn, 1) := by decide +kernel
theorem dX8_by_0 : decode cX8_by 0 = .ok (.iload_n 2, 1) := by decide +kernel
theorem dX8_by_1 : decode cX8_by 1 = .ok (.i2l, 1) := by decide +kernel
theorem dX8_by_2 : decode cX8_by 2 = .ok (.iload 4, 2) := by decide +kernel
theorem dX8_by_4 : decode cX8_by 4 = .ok (.i2l, 1) := by decide +kernel
theorem dX8_by_5 : decode cX8_by 5 = .ok (.ldiv, 1) := by decide +kernel
theorem dX8_by_6 : decode cX8_by 6 = .ok (.invokestatic 126, 3) := by decide +kernel
theorem dX8_by_9 : decode cX8_by 9 = .ok (.istore 5, 2) := by decide +kernel
theorem dX8_by_11 : decode cX8_by 11 = .ok (.iload_n 3, 1) := by decide +kernel
theorem dX8_by_12 : decode cX8_by 12 = .ok (.i2l, 1) := by decide +kernel
theorem dX8_by_13 : decode cX8_by 13 = .ok (.iload 4, 2) := by decide +kernel
theorem dX8_by_15 : decode cX8_by 15 = .ok (.i2l, 1) := by decide +kernel
theorem dX8_by_16 : decode cX8_by 16 = .ok (.ldiv, 1) := by decide +kernel
theorem dX8_by_17 : decode cX8_by 17 = .ok (.invokestatic 126, 3) := by decide +kernel
theorem dX8_by_20 : decode cX8_by 20 = .ok (.istore 6, 2) := by decide +kernel
theorem dX8_by_22 : decode cX8_by 22 = .ok (.iload 5, 2) := by decide +kernel
theorem dX8_by_24 : decode cX8_by 24 = .ok (.iload 6, 2) := by decide +kernel
theorem dX8_by_26 : decode cX8_by 26 = .ok (.if_icmp .ge 15, 3) := by decide +kernel
theorem dX8_by_29 : decode cX8_by 29 = .ok (.aload_n 0, 1) := by decide +kernel
theorem dX8_by_30 : decode cX8_by 30 = .ok (.iload_n 1, 1) := by decide +kernel
theorem dX8_by_31 : decode cX8_by 31 = .ok (.iload 5, 2) := by decide +kernel
theorem dX8_by_33 : decode cX8_by 33 = .ok (.iload 6, 2) := by decide +kernel
theorem dX8_by_35 : decode cX8_by 35 = .ok (.invokevirtual 115, 3) := by decide +kernel
theorem dX8_by_38 : decode cX8_by 38 = .ok (.goto 12, 3) := by decide +kernel
theorem dX8_by_41 : decode cX8_by 41 = .ok (.aload_n 0, 1) := by decide +kernel
theorem dX8_by_42 : decode cX8_by 42 = .ok (.iload_n 1, 1) := by decide +kernel
theorem dX8_by_43 : decode cX8_by 43 = .ok (.iload 6, 2) := by decide +kernel
theorem dX8_by_45 : decode cX8_by 45 = .ok (.iload 5, 2) := by decide +kernel
theorem dX8_by_47 : decode cX8_by 47 = .ok (.invokevirtual 115, 3) := by decide +kernel
theorem dX8_by_50 : decode cX8_by 50 = .ok (.ireturn, 1) := by decide +kernel
theorem dX8_both_0 : decode cX8_both 0 = .ok (.aload_n 0, 1) := by decide +kernel
theorem dX8_both_1 : decode cX8_both 1 = .ok (.getfield 34, 3) := by decide +kernel
theorem dX8_both_4 : decode cX8_both 4 = .ok (.iload_n 1, 1) := by decide +kernel
theorem dX8_both_5 : decode cX8_both 5 = .ok (.dup2, 1) := by decide +kernel
theorem dX8_both_6 : decode cX8_both 6 = .ok (.iaload, 1) := by decide +kernel
theorem dX8_both_7 : decode cX8_both 7 = .ok (.iconst 1, 1) := by decide +kernel
theorem dX8_both_8 : decode cX8_both 8 = .ok (.isub, 1) := by decide +kernel
theorem dX8_both_9 : decode cX8_both 9 = .ok (.iastore, 1) := by decide +kernel
theorem dX8_both_10 : decode cX8_both 10 = .ok (.aload_n 0, 1) := by decide +kernel
theorem dX8_both_11 : decode cX8_both 11 = .ok (.getfield 37, 3) := by decide +kernel
theorem dX8_both_14 : decode cX8_both 14 = .ok (.iconst 3, 1) := by decide +kernel
theorem dX8_both_15 : decode cX8_both 15 = .ok (.iload_n 1, 1) := by decide +kernel
theorem dX8_both_16 : decode cX8_both 16 = .ok (.imul, 1) := by decide +kernel
theorem dX8_both_17 : decode cX8_both 17 = .ok (.aload_n 0, 1) := by decide +kernel
theorem dX8_both_18 : decode cX8_both 18 = .ok (.getfield 34, 3) := by decide +kernel
theorem dX8_both_21 : decode cX8_both 21 = .ok (.iload_n 1, 1) := by decide +kernel
theorem dX8_both_22 : decode cX8_both 22 = .ok (.iaload, 1) := by decide +kernel
theorem dX8_both_23 : decode cX8_both 23 = .ok (.iadd, 1) := by decide +kernel
theorem dX8_both_24 : decode cX8_both 24 = .ok (.iaload, 1) := by decide +kernel
theorem dX8_both_25 : decode cX8_both 25 = .ok (.istore 5, 2) := by decide +kernel
theorem dX8_both_27 : decode cX8_both 27 = .ok (.aload_n 0, 1) := by decide +kernel
theorem dX8_both_28 : decode cX8_both 28 = .ok (.getfield 40, 3) := by decide +kernel
theorem dX8_both_31 : decode cX8_both 31 = .ok (.iconst 3, 1) := by decide +kernel
theorem dX8_both_32 : decode cX8_both 32 = .ok (.iload_n 1, 1) := by decide +kernel
theorem dX8_both_33 : decode cX8_both 33 = .ok (.imul, 1) := by decide +kernel
theorem dX8_both_34 : decode cX8_both 34 = .ok (.aload_n 0, 1) := by decide +kernel
theorem dX8_both_35 : decode cX8_both 35 = .ok (.getfield 34, 3) := by decide +kernel
theorem dX8_both_38 : decode cX8_both 38 = .ok (.iload_n 1, 1) := by decide +kernel
theorem dX8_both_39 : decode cX8_both 39 = .ok (.iaload, 1) := by decide +kernel
theorem dX8_both_40 : decode cX8_both 40 = .ok (.iadd, 1) := by decide +kernel
theorem dX8_both_41 : decode cX8_both 41 = .ok (.iaload, 1) := by decide +kernel
theorem dX8_both_42 : decode cX8_both 42 = .ok (.istore 6, 2) := by decide +kernel
theorem dX8_both_44 : decode cX8_both 44 = .ok (.iload_n 2, 1) := by decide +kernel
theorem dX8_both_45 : decode cX8_both 45 = .ok (.tableswitch 128 2 4 #[27, 52, 77], 27) := by decide +kernel
theorem dX8_both_72 : decode cX8_both 72 = .ok (.aload_n 0, 1) := by decide +kernel
theorem dX8_both_73 : decode cX8_both 73 = .ok (.iload_n 1, 1) := by decide +kernel
theorem dX8_both_74 : decode cX8_both 74 = .ok (.iload 5, 2) := by decide +kernel
theorem dX8_both_76 : decode cX8_both 76 = .ok (.i2l, 1) := by decide +kernel
theorem dX8_both_77 : decode cX8_both 77 = .ok (.iload_n 3, 1) := by decide +kernel
theorem dX8_both_78 : decode cX8_both 78 = .ok (.i2l, 1) := by decide +kernel
theorem dX8_both_79 : decode cX8_both 79 = .ok (.ladd, 1) := by decide +kernel
theorem dX8_both_80 : decode cX8_both 80 = .ok (.invokestatic 126, 3) := by decide +kernel
theorem dX8_both_83 : decode cX8_both 83 = .ok (.iload 6, 2) := by decide +kernel
theorem dX8_both_85 : decode cX8_both 85 = .ok (.i2l, 1) := by decide +kernel
theorem dX8_both_86 : decode cX8_both 86 = .ok (.iload 4, 2) := by decide +kernel
theorem dX8_both_88 : decode cX8_both 88 = .ok (.i2l, 1) := by decide +kernel
theorem dX8_both_89 : decode cX8_both 89 = .ok (.ladd, 1) := by decide +kernel
theorem dX8_both_90 : decode cX8_both 90 = .ok (.invokestatic 126, 3) := by decide +kernel
theorem dX8_both_93 : decode cX8_both 93 = .ok (.invokevirtual 115, 3) := by decide +kernel
theorem dX8_both_96 : decode cX8_both 96 = .ok (.ireturn, 1) := by decide +kernel
theorem dX8_both_97 : decode cX8_both 97 = .ok (.aload_n 0, 1) := by decide +kernel
theorem dX8_both_98 : decode cX8_both 98 = .ok (.iload_n 1, 1) := by decide +kernel
theorem dX8_both_99 : decode cX8_both 99 = .ok (.iload 5, 2) := by decide +kernel
theorem dX8_both_101 : decode cX8_both 101 = .ok (.i2l, 1) := by decide +kernel
theorem dX8_both_102 : decode cX8_both 102 = .ok (.iload 4, 2) := by decide +kernel
theorem dX8_both_104 : decode cX8_both 104 = .ok (.i2l, 1) := by decide +kernel
theorem dX8_both_105 : decode cX8_both 105 = .ok (.lsub, 1) := by decide +kernel
theorem dX8_both_106 : decode cX8_both 106 = .ok (.invokestatic 126, 3) := by decide +kernel
theorem dX8_both_109 : decode cX8_both 109 = .ok (.iload 6, 2) := by decide +kernel
theorem dX8_both_111 : decode cX8_both 111 = .ok (.i2l, 1) := by decide +kernel
theorem dX8_both_112 : decode cX8_both 112 = .ok (.iload_n 3, 1) := by decide +kernel
theorem dX8_both_113 : decode cX8_both 113 = .ok (.i2l, 1) := by decide +kernel
theorem dX8_both_114 : decode cX8_both 114 = .ok (.lsub, 1) := by decide +kernel
theorem dX8_both_115 : decode cX8_both 115 = .ok (.invokestatic 126, 3) := by decide +kernel
theorem dX8_both_118 : decode cX8_both 118 = .ok (.invokevirtual 115, 3) := by decide +kernel
theorem dX8_both_121 : decode cX8_both 121 = .ok (.ireturn, 1) := by decide +kernel
theorem dX8_both_122 : decode cX8_both 122 = .ok (.iload 5, 2) := by decide +kernel
theorem dX8_both_124 : decode cX8_both 124 = .ok (.iload_n 3, 1) := by decide +kernel
theorem dX8_both_125 : decode cX8_both 125 = .ok (.if_icmp .le 8, 3) := by decide +kernel
theorem dX8_both_128 : decode cX8_both 128 = .ok (.iload 5, 2) := by decide +kernel
theorem dX8_both_130 : decode cX8_both 130 = .ok (.goto 4, 3) := by decide +kernel
theorem dX8_both_133 : decode cX8_both 133 = .ok (.iload_n 3, 1) := by decide +kernel
theorem dX8_both_134 : decode cX8_both 134 = .ok (.istore 7, 2) := by decide +kernel
theorem dX8_both_136 : decode cX8_both 136 = .ok (.iload 6, 2) := by decide +kernel
theorem dX8_both_138 : decode cX8_both 138 = .ok (.iload 4, 2) := by decide +kernel
theorem dX8_both_140 : decode cX8_both 140 = .ok (.if_icmp .ge 8, 3) := by decide +kernel
theorem dX8_both_143 : decode cX8_both 143 = .ok (.iload 6, 2) := by decide +kernel
theorem dX8_both_145 : decode cX8_both 145 = .ok (.goto 5, 3) := by decide +kernel
theorem dX8_both_148 : decode cX8_both 148 = .ok (.iload 4, 2) := by decide +kernel
theorem dX8_both_150 : decode cX8_both 150 = .ok (.istore 8, 2) := by decide +kernel
theorem dX8_both_152 : decode cX8_both 152 = .ok (.iload 7, 2) := by decide +kernel
theorem dX8_both_154 : decode cX8_both 154 = .ok (.iload 8, 2) := by decide +kernel
theorem dX8_both_156 : decode cX8_both 156 = .ok (.if_icmp .le 7, 3) := by decide +kernel
theorem dX8_both_159 : decode cX8_both 159 = .ok (.iconst 5, 1) := by decide +kernel
theorem dX8_both_160 : decode cX8_both 160 = .ok (.goto 12, 3) := by decide +kernel
theorem dX8_both_163 : decode cX8_both 163 = .ok (.aload_n 0, 1) := by decide +kernel
theorem dX8_both_164 : decode cX8_both 164 = .ok (.iload_n 1, 1) := by decide +kernel
theorem dX8_both_165 : decode cX8_both 165 = .ok (.iload 7, 2) := by decide +kernel
theorem dX8_both_167 : decode cX8_both 167 = .ok (.iload 8, 2) := by decide +kernel
theorem dX8_both_169 : decode cX8_both 169 = .ok (.invokevirtual 115, 3) := by decide +kernel
theorem dX8_both_172 : decode cX8_both 172 = .ok (.ireturn, 1) := by decide +kernel
theorem dX8_both_173 : decode cX8_both 173 = .ok (.aload_n 0, 1) := by decide +kernel
theorem dX8_both_174 : decode cX8_both 174 = .ok (.iload_n 1, 1) := by decide +kernel
theorem dX8_both_175 : decode cX8_both 175 = .ok (.iload 5, 2) := by decide +kernel
theorem dX8_both_177 : decode cX8_both 177 = .ok (.iload_n 3, 1) := by decide +kernel
theorem dX8_both_178 : decode cX8_both 178 = .ok (.if_icmp .ge 8, 3) := by decide +kernel
theorem dX8_both_181 : decode cX8_both 181 = .ok (.iload 5, 2) := by decide +kernel
theorem dX8_both_183 : decode cX8_both 183 = .ok (.goto 4, 3) := by decide +kernel
theorem dX8_both_186 : decode cX8_both 186 = .ok (.iload_n 3, 1) := by decide +kernel
theorem dX8_both_187 : decode cX8_both 187 = .ok (.iload 6, 2) := by decide +kernel
theorem dX8_both_189 : decode cX8_both 189 = .ok (.iload 4, 2) := by decide +kernel
theorem dX8_both_191 : decode cX8_both 191 = .ok (.if_icmp .le 8, 3) := by decide +kernel
theorem dX8_both_194 : decode cX8_both 194 = .ok (.iload 6, 2) := by decide +kernel
theorem dX8_both_196 : decode cX8_both 196 = .ok (.goto 5, 3) := by decide +kernel
theorem dX8_both_199 : decode cX8_both 199 = .ok (.iload 4, 2) := by decide +kernel
theorem dX8_both_201 : decode cX8_both 201 = .ok (.invokevirtual 115, 3) := by decide +kernel
theorem dX8_both_204 : decode cX8_both 204 = .ok (.ireturn, 1) := by decide +kernel
theorem dX8_workerAt_0 : decode cX8_workerAt 0 = .ok (.iload_n 1, 1) := by decide +kernel
theorem dX8_workerAt_1 : decode cX8_workerAt 1 = .ok (.istore_n 2, 1) := by decide +kernel
theorem dX8_workerAt_2 : decode cX8_workerAt 2 = .ok (.iconst 0, 1) := by decide +kernel
theorem dX8_workerAt_3 : decode cX8_workerAt 3 = .ok (.istore_n 3, 1) := by decide +kernel
theorem dX8_workerAt_4 : decode cX8_workerAt 4 = .ok (.iload_n 3, 1) := by decide +kernel
theorem dX8_workerAt_5 : decode cX8_workerAt 5 = .ok (.iconst 4, 1) := by decide +kernel
theorem dX8_workerAt_6 : decode cX8_workerAt 6 = .ok (.if_icmp .ge 27, 3) := by decide +kernel
theorem dX8_workerAt_9 : decode cX8_workerAt 9 = .ok (.aload_n 0, 1) := by decide +kernel
theorem dX8_workerAt_10 : decode cX8_workerAt 10 = .ok (.getfield 62, 3) := by decide +kernel
theorem dX8_workerAt_13 : decode cX8_workerAt 13 = .ok (.iload_n 3, 1) := by decide +kernel
theorem dX8_workerAt_14 : decode cX8_workerAt 14 = .ok (.baload, 1) := by decide +kernel
theorem dX8_workerAt_15 : decode cX8_workerAt 15 = .ok (.ifCond .eq 12, 3) := by decide +kernel
theorem dX8_workerAt_18 : decode cX8_workerAt 18 = .ok (.iload_n 2, 1) := by decide +kernel
theorem dX8_workerAt_19 : decode cX8_workerAt 19 = .ok (.ifCond .ne 5, 3) := by decide +kernel
theorem dX8_workerAt_22 : decode cX8_workerAt 22 = .ok (.iload_n 3, 1) := by decide +kernel
theorem dX8_workerAt_23 : decode cX8_workerAt 23 = .ok (.ireturn, 1) := by decide +kernel
theorem dX8_workerAt_24 : decode cX8_workerAt 24 = .ok (.iinc 2 (-1), 3) := by decide +kernel
theorem dX8_workerAt_27 : decode cX8_workerAt 27 = .ok (.iinc 3 1, 3) := by decide +kernel
theorem dX8_workerAt_30 : decode cX8_workerAt 30 = .ok (.goto (-26), 3) := by decide +kernel
theorem dX8_workerAt_33 : decode cX8_workerAt 33 = .ok (.ldc 71, 2) := by decide +kernel
theorem dX8_workerAt_35 : decode cX8_workerAt 35 = .ok (.ireturn, 1) := by decide +kernel
theorem dX8_done_0 : decode cX8_done 0 = .ok (.aload_n 0, 1) := by decide +kernel
theorem dX8_done_1 : decode cX8_done 1 = .ok (.getfield 55, 3) := by decide +kernel
theorem dX8_done_4 : decode cX8_done 4 = .ok (.iload_n 2, 1) := by decide +kernel
theorem dX8_done_5 : decode cX8_done 5 = .ok (.iconst 1, 1) := by decide +kernel
theorem dX8_done_6 : decode cX8_done 6 = .ok (.bastore, 1) := by decide +kernel
theorem dX8_done_7 : decode cX8_done 7 = .ok (.aload_n 0, 1) := by decide +kernel
theorem dX8_done_8 : decode cX8_done 8 = .ok (.getfield 52, 3) := by decide +kernel
theorem dX8_done_11 : decode cX8_done 11 = .ok (.iload_n 2, 1) := by decide +kernel
theorem dX8_done_12 : decode cX8_done 12 = .ok (.iload_n 1, 1) := by decide +kernel
theorem dX8_done_13 : decode cX8_done 13 = .ok (.iastore, 1) := by decide +kernel
theorem dX8_done_14 : decode cX8_done 14 = .ok (.aload_n 0, 1) := by decide +kernel
theorem dX8_done_15 : decode cX8_done 15 = .ok (.getfield 68, 3) := by decide +kernel
theorem dX8_done_18 : decode cX8_done 18 = .ok (.iload_n 1, 1) := by decide +kernel
theorem dX8_done_19 : decode cX8_done 19 = .ok (.ldc 71, 2) := by decide +kernel
theorem dX8_done_21 : decode cX8_done 21 = .ok (.iastore, 1) := by decide +kernel
theorem dX8_done_22 : decode cX8_done 22 = .ok (.aload_n 0, 1) := by decide +kernel
theorem dX8_done_23 : decode cX8_done 23 = .ok (.dup, 1) := by decide +kernel
theorem dX8_done_24 : decode cX8_done 24 = .ok (.getfield 130, 3) := by decide +kernel
theorem dX8_done_27 : decode cX8_done 27 = .ok (.iconst 1, 1) := by decide +kernel
theorem dX8_done_28 : decode cX8_done 28 = .ok (.iadd, 1) := by decide +kernel
theorem dX8_done_29 : decode cX8_done 29 = .ok (.putfield 130, 3) := by decide +kernel
theorem dX8_done_32 : decode cX8_done 32 = .ok (.aload_n 0, 1) := by decide +kernel
theorem dX8_done_33 : decode cX8_done 33 = .ok (.getfield 49, 3) := by decide +kernel
theorem dX8_done_36 : decode cX8_done 36 = .ok (.iload_n 2, 1) := by decide +kernel
theorem dX8_done_37 : decode cX8_done 37 = .ok (.iaload, 1) := by decide +kernel
theorem dX8_done_38 : decode cX8_done 38 = .ok (.ifCond .ne 19, 3) := by decide +kernel
theorem dX8_done_41 : decode cX8_done 41 = .ok (.aload_n 0, 1) := by decide +kernel
theorem dX8_done_42 : decode cX8_done 42 = .ok (.getfield 34, 3) := by decide +kernel
theorem dX8_done_45 : decode cX8_done 45 = .ok (.iload_n 2, 1) := by decide +kernel
theorem dX8_done_46 : decode cX8_done 46 = .ok (.iaload, 1) := by decide +kernel
theorem dX8_done_47 : decode cX8_done 47 = .ok (.ifCond .ne 10, 3) := by decide +kernel
theorem dX8_done_50 : decode cX8_done 50 = .ok (.aload_n 0, 1) := by decide +kernel
theorem dX8_done_51 : decode cX8_done 51 = .ok (.getfield 49, 3) := by decide +kernel
theorem dX8_done_54 : decode cX8_done 54 = .ok (.iload_n 2, 1) := by decide +kernel
theorem dX8_done_55 : decode cX8_done 55 = .ok (.iconst 2, 1) := by decide +kernel
theorem dX8_done_56 : decode cX8_done 56 = .ok (.iastore, 1) := by decide +kernel
theorem dX8_done_57 : decode cX8_done 57 = .ok (.return_, 1) := by decide +kernel
theorem dX8_turn_0 : decode cX8_turn 0 = .ok (.aload_n 0, 1) := by decide +kernel
theorem dX8_turn_1 : decode cX8_turn 1 = .ok (.dup, 1) := by decide +kernel
theorem dX8_turn_2 : decode cX8_turn 2 = .ok (.getfield 133, 3) := by decide +kernel
theorem dX8_turn_5 : decode cX8_turn 5 = .ok (.iconst 1, 1) := by decide +kernel
theorem dX8_turn_6 : decode cX8_turn 6 = .ok (.iadd, 1) := by decide +kernel
theorem dX8_turn_7 : decode cX8_turn 7 = .ok (.putfield 133, 3) := by decide +kernel
theorem dX8_turn_10 : decode cX8_turn 10 = .ok (.aload_n 0, 1) := by decide +kernel
theorem dX8_turn_11 : decode cX8_turn 11 = .ok (.aload_n 0, 1) := by decide +kernel
theorem dX8_turn_12 : decode cX8_turn 12 = .ok (.getfield 108, 3) := by decide +kernel
theorem dX8_turn_15 : decode cX8_turn 15 = .ok (.ldc 136, 2) := by decide +kernel
theorem dX8_turn_17 : decode cX8_turn 17 = .ok (.imul, 1) := by decide +kernel
theorem dX8_turn_18 : decode cX8_turn 18 = .ok (.sipush 12345, 3) := by decide +kernel
theorem dX8_turn_21 : decode cX8_turn 21 = .ok (.iadd, 1) := by decide +kernel
theorem dX8_turn_22 : decode cX8_turn 22 = .ok (.putfield 108, 3) := by decide +kernel
theorem dX8_turn_25 : decode cX8_turn 25 = .ok (.aload_n 0, 1) := by decide +kernel
theorem dX8_turn_26 : decode cX8_turn 26 = .ok (.aload_n 0, 1) := by decide +kernel
theorem dX8_turn_27 : decode cX8_turn 27 = .ok (.getfield 108, 3) := by decide +kernel
theorem dX8_turn_30 : decode cX8_turn 30 = .ok (.bipush 16, 2) := by decide +kernel
theorem dX8_turn_32 : decode cX8_turn 32 = .ok (.iushr, 1) := by decide +kernel
theorem dX8_turn_33 : decode cX8_turn 33 = .ok (.aload_n 0, 1) := by decide +kernel
theorem dX8_turn_34 : decode cX8_turn 34 = .ok (.invokevirtual 103, 3) := by decide +kernel
theorem dX8_turn_37 : decode cX8_turn 37 = .ok (.irem, 1) := by decide +kernel
theorem dX8_turn_38 : decode cX8_turn 38 = .ok (.invokevirtual 137, 3) := by decide +kernel
theorem dX8_turn_41 : decode cX8_turn 41 = .ok (.istore_n 1, 1) := by decide +kernel
theorem dX8_turn_42 : decode cX8_turn 42 = .ok (.aload_n 0, 1) := by decide +kernel
theorem dX8_turn_43 : decode cX8_turn 43 = .ok (.iload_n 1, 1) := by decide +kernel
theorem dX8_turn_44 : decode cX8_turn 44 = .ok (.putfield 72, 3) := by decide +kernel
theorem dX8_turn_47 : decode cX8_turn 47 = .ok (.aload_n 0, 1) := by decide +kernel
theorem dX8_turn_48 : decode cX8_turn 48 = .ok (.getfield 65, 3) := by decide +kernel
theorem dX8_turn_51 : decode cX8_turn 51 = .ok (.iload_n 1, 1) := by decide +kernel
theorem dX8_turn_52 : decode cX8_turn 52 = .ok (.iaload, 1) := by decide +kernel
theorem dX8_turn_53 : decode cX8_turn 53 = .ok (.ifCond .le 78, 3) := by decide +kernel
theorem dX8_turn_56 : decode cX8_turn 56 = .ok (.aload_n 0, 1) := by decide +kernel
theorem dX8_turn_57 : decode cX8_turn 57 = .ok (.getfield 133, 3) := by decide +kernel
theorem dX8_turn_60 : decode cX8_turn 60 = .ok (.aload_n 0, 1) := by decide +kernel
theorem dX8_turn_61 : decode cX8_turn 61 = .ok (.getfield 65, 3) := by decide +kernel
theorem dX8_turn_64 : decode cX8_turn 64 = .ok (.iload_n 1, 1) := by decide +kernel
theorem dX8_turn_65 : decode cX8_turn 65 = .ok (.iaload, 1) := by decide +kernel
theorem dX8_turn_66 : decode cX8_turn 66 = .ok (.if_icmp .lt 65, 3) := by decide +kernel
theorem dX8_turn_69 : decode cX8_turn 69 = .ok (.aload_n 0, 1) := by decide +kernel
theorem dX8_turn_70 : decode cX8_turn 70 = .ok (.getfield 62, 3) := by decide +kernel
theorem dX8_turn_73 : decode cX8_turn 73 = .ok (.iload_n 1, 1) := by decide +kernel
theorem dX8_turn_74 : decode cX8_turn 74 = .ok (.iconst 0, 1) := by decide +kernel
theorem dX8_turn_75 : decode cX8_turn 75 = .ok (.bastore, 1) := by decide +kernel
theorem dX8_turn_76 : decode cX8_turn 76 = .ok (.aload_n 0, 1) := by decide +kernel
theorem dX8_turn_77 : decode cX8_turn 77 = .ok (.getfield 68, 3) := by decide +kernel
theorem dX8_turn_80 : decode cX8_turn 80 = .ok (.iload_n 1, 1) := by decide +kernel
theorem dX8_turn_81 : decode cX8_turn 81 = .ok (.iaload, 1) := by decide +kernel
theorem dX8_turn_82 : decode cX8_turn 82 = .ok (.ldc 71, 2) := by decide +kernel
theorem dX8_turn_84 : decode cX8_turn 84 = .ok (.if_icmp .eq 46, 3) := by decide +kernel
theorem dX8_turn_87 : decode cX8_turn 87 = .ok (.aload_n 0, 1) := by decide +kernel
theorem dX8_turn_88 : decode cX8_turn 88 = .ok (.dup, 1) := by decide +kernel
theorem dX8_turn_89 : decode cX8_turn 89 = .ok (.getfield 141, 3) := by decide +kernel
theorem dX8_turn_92 : decode cX8_turn 92 = .ok (.iconst 1, 1) := by decide +kernel
theorem dX8_turn_93 : decode cX8_turn 93 = .ok (.isub, 1) := by decide +kernel
theorem dX8_turn_94 : decode cX8_turn 94 = .ok (.putfield 141, 3) := by decide +kernel
theorem dX8_turn_97 : decode cX8_turn 97 = .ok (.aload_n 0, 1) := by decide +kernel
theorem dX8_turn_98 : decode cX8_turn 98 = .ok (.getfield 59, 3) := by decide +kernel
theorem dX8_turn_101 : decode cX8_turn 101 = .ok (.aload_n 0, 1) := by decide +kernel
theorem dX8_turn_102 : decode cX8_turn 102 = .ok (.getfield 141, 3) := by decide +kernel
theorem dX8_turn_105 : decode cX8_turn 105 = .ok (.aload_n 0, 1) := by decide +kernel
theorem dX8_turn_106 : decode cX8_turn 106 = .ok (.getfield 68, 3) := by decide +kernel
theorem dX8_turn_109 : decode cX8_turn 109 = .ok (.iload_n 1, 1) := by decide +kernel
theorem dX8_turn_110 : decode cX8_turn 110 = .ok (.iaload, 1) := by decide +kernel
theorem dX8_turn_111 : decode cX8_turn 111 = .ok (.iastore, 1) := by decide +kernel
theorem dX8_turn_112 : decode cX8_turn 112 = .ok (.aload_n 0, 1) := by decide +kernel
theorem dX8_turn_113 : decode cX8_turn 113 = .ok (.getfield 68, 3) := by decide +kernel
theorem dX8_turn_116 : decode cX8_turn 116 = .ok (.iload_n 1, 1) := by decide +kernel
theorem dX8_turn_117 : decode cX8_turn 117 = .ok (.ldc 71, 2) := by decide +kernel
theorem dX8_turn_119 : decode cX8_turn 119 = .ok (.iastore, 1) := by decide +kernel
theorem dX8_turn_120 : decode cX8_turn 120 = .ok (.aload_n 0, 1) := by decide +kernel
theorem dX8_turn_121 : decode cX8_turn 121 = .ok (.dup, 1) := by decide +kernel
theorem dX8_turn_122 : decode cX8_turn 122 = .ok (.getfield 130, 3) := by decide +kernel
theorem dX8_turn_125 : decode cX8_turn 125 = .ok (.iconst 1, 1) := by decide +kernel
theorem dX8_turn_126 : decode cX8_turn 126 = .ok (.iadd, 1) := by decide +kernel
theorem dX8_turn_127 : decode cX8_turn 127 = .ok (.putfield 130, 3) := by decide +kernel
theorem dX8_turn_130 : decode cX8_turn 130 = .ok (.return_, 1) := by decide +kernel
theorem dX8_turn_131 : decode cX8_turn 131 = .ok (.aload_n 0, 1) := by decide +kernel
theorem dX8_turn_132 : decode cX8_turn 132 = .ok (.getfield 68, 3) := by decide +kernel
theorem dX8_turn_135 : decode cX8_turn 135 = .ok (.iload_n 1, 1) := by decide +kernel
theorem dX8_turn_136 : decode cX8_turn 136 = .ok (.iaload, 1) := by decide +kernel
theorem dX8_turn_137 : decode cX8_turn 137 = .ok (.ldc 71, 2) := by decide +kernel
theorem dX8_turn_139 : decode cX8_turn 139 = .ok (.if_icmp .ne 72, 3) := by decide +kernel
theorem dX8_turn_142 : decode cX8_turn 142 = .ok (.aload_n 0, 1) := by decide +kernel
theorem dX8_turn_143 : decode cX8_turn 143 = .ok (.getfield 141, 3) := by decide +kernel
theorem dX8_turn_146 : decode cX8_turn 146 = .ok (.aload_n 0, 1) := by decide +kernel
theorem dX8_turn_147 : decode cX8_turn 147 = .ok (.getfield 144, 3) := by decide +kernel
theorem dX8_turn_150 : decode cX8_turn 150 = .ok (.if_icmp .ge 60, 3) := by decide +kernel
theorem dX8_turn_153 : decode cX8_turn 153 = .ok (.aload_n 0, 1) := by decide +kernel
theorem dX8_turn_154 : decode cX8_turn 154 = .ok (.getfield 59, 3) := by decide +kernel
theorem dX8_turn_157 : decode cX8_turn 157 = .ok (.aload_n 0, 1) := by decide +kernel
theorem dX8_turn_158 : decode cX8_turn 158 = .ok (.getfield 141, 3) := by decide +kernel
theorem dX8_turn_161 : decode cX8_turn 161 = .ok (.iaload, 1) := by decide +kernel
theorem dX8_turn_162 : decode cX8_turn 162 = .ok (.istore_n 2, 1) := by decide +kernel
theorem dX8_turn_163 : decode cX8_turn 163 = .ok (.aload_n 0, 1) := by decide +kernel
theorem dX8_turn_164 : decode cX8_turn 164 = .ok (.dup, 1) := by decide +kernel
theorem dX8_turn_165 : decode cX8_turn 165 = .ok (.getfield 141, 3) := by decide +kernel
theorem dX8_turn_168 : decode cX8_turn 168 = .ok (.iconst 1, 1) := by decide +kernel
theorem dX8_turn_169 : decode cX8_turn 169 = .ok (.iadd, 1) := by decide +kernel
theorem dX8_turn_170 : decode cX8_turn 170 = .ok (.putfield 141, 3) := by decide +kernel
theorem dX8_turn_173 : decode cX8_turn 173 = .ok (.aload_n 0, 1) := by decide +kernel
theorem dX8_turn_174 : decode cX8_turn 174 = .ok (.getfield 68, 3) := by decide +kernel
theorem dX8_turn_177 : decode cX8_turn 177 = .ok (.iload_n 1, 1) := by decide +kernel
theorem dX8_turn_178 : decode cX8_turn 178 = .ok (.iload_n 2, 1) := by decide +kernel
theorem dX8_turn_179 : decode cX8_turn 179 = .ok (.iastore, 1) := by decide +kernel
theorem dX8_turn_180 : decode cX8_turn 180 = .ok (.aload_n 0, 1) := by decide +kernel
theorem dX8_turn_181 : decode cX8_turn 181 = .ok (.dup, 1) := by decide +kernel
theorem dX8_turn_182 : decode cX8_turn 182 = .ok (.getfield 147, 3) := by decide +kernel
theorem dX8_turn_185 : decode cX8_turn 185 = .ok (.iconst 1, 1) := by decide +kernel
theorem dX8_turn_186 : decode cX8_turn 186 = .ok (.iadd, 1) := by decide +kernel
theorem dX8_turn_187 : decode cX8_turn 187 = .ok (.putfield 147, 3) := by decide +kernel
theorem dX8_turn_190 : decode cX8_turn 190 = .ok (.aload_n 0, 1) := by decide +kernel
theorem dX8_turn_191 : decode cX8_turn 191 = .ok (.iload_n 2, 1) := by decide +kernel
theorem dX8_turn_192 : decode cX8_turn 192 = .ok (.invokevirtual 150, 3) := by decide +kernel
theorem dX8_turn_195 : decode cX8_turn 195 = .ok (.aload_n 0, 1) := by decide +kernel
theorem dX8_turn_196 : decode cX8_turn 196 = .ok (.getfield 19, 3) := by decide +kernel
theorem dX8_turn_199 : decode cX8_turn 199 = .ok (.iload_n 2, 1) := by decide +kernel
theorem dX8_turn_200 : decode cX8_turn 200 = .ok (.iaload, 1) := by decide +kernel
theorem dX8_turn_201 : decode cX8_turn 201 = .ok (.ifCond .ne 9, 3) := by decide +kernel
theorem dX8_turn_204 : decode cX8_turn 204 = .ok (.aload_n 0, 1) := by decide +kernel
theorem dX8_turn_205 : decode cX8_turn 205 = .ok (.iload_n 1, 1) := by decide +kernel
theorem dX8_turn_206 : decode cX8_turn 206 = .ok (.iload_n 2, 1) := by decide +kernel
theorem dX8_turn_207 : decode cX8_turn 207 = .ok (.invokevirtual 154, 3) := by decide +kernel
theorem dX8_turn_210 : decode cX8_turn 210 = .ok (.return_, 1) := by decide +kernel
theorem dX8_turn_211 : decode cX8_turn 211 = .ok (.aload_n 0, 1) := by decide +kernel
theorem dX8_turn_212 : decode cX8_turn 212 = .ok (.getfield 68, 3) := by decide +kernel
theorem dX8_turn_215 : decode cX8_turn 215 = .ok (.iload_n 1, 1) := by decide +kernel
theorem dX8_turn_216 : decode cX8_turn 216 = .ok (.iaload, 1) := by decide +kernel
theorem dX8_turn_217 : decode cX8_turn 217 = .ok (.istore_n 2, 1) := by decide +kernel
theorem dX8_turn_218 : decode cX8_turn 218 = .ok (.aload_n 0, 1) := by decide +kernel
theorem dX8_turn_219 : decode cX8_turn 219 = .ok (.getfield 49, 3) := by decide +kernel
theorem dX8_turn_222 : decode cX8_turn 222 = .ok (.iload_n 2, 1) := by decide +kernel
theorem dX8_turn_223 : decode cX8_turn 223 = .ok (.aload_n 0, 1) := by decide +kernel
theorem dX8_turn_224 : decode cX8_turn 224 = .ok (.iload_n 2, 1) := by decide +kernel
theorem dX8_turn_225 : decode cX8_turn 225 = .ok (.aload_n 0, 1) := by decide +kernel
theorem dX8_turn_226 : decode cX8_turn 226 = .ok (.getfield 31, 3) := by decide +kernel
theorem dX8_turn_229 : decode cX8_turn 229 = .ok (.iload_n 2, 1) := by decide +kernel
theorem dX8_turn_230 : decode cX8_turn 230 = .ok (.iaload, 1) := by decide +kernel
theorem dX8_turn_231 : decode cX8_turn 231 = .ok (.invokevirtual 158, 3) := by decide +kernel
theorem dX8_turn_234 : decode cX8_turn 234 = .ok (.iastore, 1) := by decide +kernel
theorem dX8_turn_235 : decode cX8_turn 235 = .ok (.aload_n 0, 1) := by decide +kernel
theorem dX8_turn_236 : decode cX8_turn 236 = .ok (.getfield 31, 3) := by decide +kernel
theorem dX8_turn_239 : decode cX8_turn 239 = .ok (.iload_n 2, 1) := by decide +kernel
theorem dX8_turn_240 : decode cX8_turn 240 = .ok (.dup2, 1) := by decide +kernel
theorem dX8_turn_241 : decode cX8_turn 241 = .ok (.iaload, 1) := by decide +kernel
theorem dX8_turn_242 : decode cX8_turn 242 = .ok (.iconst 1, 1) := by decide +kernel
theorem dX8_turn_243 : decode cX8_turn 243 = .ok (.iadd, 1) := by decide +kernel
theorem dX8_turn_244 : decode cX8_turn 244 = .ok (.iastore, 1) := by decide +kernel
theorem dX8_turn_245 : decode cX8_turn 245 = .ok (.aload_n 0, 1) := by decide +kernel
theorem dX8_turn_246 : decode cX8_turn 246 = .ok (.getfield 49, 3) := by decide +kernel
theorem dX8_turn_249 : decode cX8_turn 249 = .ok (.iload_n 2, 1) := by decide +kernel
theorem dX8_turn_250 : decode cX8_turn 250 = .ok (.iaload, 1) := by decide +kernel
theorem dX8_turn_251 : decode cX8_turn 251 = .ok (.ifCond .gt 18, 3) := by decide +kernel
theorem dX8_turn_254 : decode cX8_turn 254 = .ok (.aload_n 0, 1) := by decide +kernel
theorem dX8_turn_255 : decode cX8_turn 255 = .ok (.getfield 31, 3) := by decide +kernel
theorem dX8_turn_258 : decode cX8_turn 258 = .ok (.iload_n 2, 1) := by decide +kernel
theorem dX8_turn_259 : decode cX8_turn 259 = .ok (.iaload, 1) := by decide +kernel
theorem dX8_turn_260 : decode cX8_turn 260 = .ok (.aload_n 0, 1) := by decide +kernel
theorem dX8_turn_261 : decode cX8_turn 261 = .ok (.getfield 19, 3) := by decide +kernel
theorem dX8_turn_264 : decode cX8_turn 264 = .ok (.iload_n 2, 1) := by decide +kernel
theorem dX8_turn_265 : decode cX8_turn 265 = .ok (.iaload, 1) := by decide +kernel
theorem dX8_turn_266 : decode cX8_turn 266 = .ok (.if_icmp .ne 9, 3) := by decide +kernel
theorem dX8_turn_269 : decode cX8_turn 269 = .ok (.aload_n 0, 1) := by decide +kernel
theorem dX8_turn_270 : decode cX8_turn 270 = .ok (.iload_n 1, 1) := by decide +kernel
theorem dX8_turn_271 : decode cX8_turn 271 = .ok (.iload_n 2, 1) := by decide +kernel
theorem dX8_turn_272 : decode cX8_turn 272 = .ok (.invokevirtual 154, 3) := by decide +kernel
theorem dX8_turn_275 : decode cX8_turn 275 = .ok (.return_, 1) := by decide +kernel
theorem dX8_round_0 : decode cX8_round 0 = .ok (.aload_n 0, 1) := by decide +kernel
theorem dX8_round_1 : decode cX8_round 1 = .ok (.sipush 200, 3) := by decide +kernel
theorem dX8_round_4 : decode cX8_round 4 = .ok (.putfield 141, 3) := by decide +kernel
theorem dX8_round_7 : decode cX8_round 7 = .ok (.aload_n 0, 1) := by decide +kernel
theorem dX8_round_8 : decode cX8_round 8 = .ok (.sipush 200, 3) := by decide +kernel
theorem dX8_round_11 : decode cX8_round 11 = .ok (.putfield 144, 3) := by decide +kernel
theorem dX8_round_14 : decode cX8_round 14 = .ok (.iconst 0, 1) := by decide +kernel
theorem dX8_round_15 : decode cX8_round 15 = .ok (.istore_n 1, 1) := by decide +kernel
theorem dX8_round_16 : decode cX8_round 16 = .ok (.iload_n 1, 1) := by decide +kernel
theorem dX8_round_17 : decode cX8_round 17 = .ok (.aload_n 0, 1) := by decide +kernel
theorem dX8_round_18 : decode cX8_round 18 = .ok (.getfield 87, 3) := by decide +kernel
theorem dX8_round_21 : decode cX8_round 21 = .ok (.if_icmp .ge 44, 3) := by decide +kernel
theorem dX8_round_24 : decode cX8_round 24 = .ok (.aload_n 0, 1) := by decide +kernel
theorem dX8_round_25 : decode cX8_round 25 = .ok (.getfield 59, 3) := by decide +kernel
theorem dX8_round_28 : decode cX8_round 28 = .ok (.aload_n 0, 1) := by decide +kernel
theorem dX8_round_29 : decode cX8_round 29 = .ok (.getfield 144, 3) := by decide +kernel
theorem dX8_round_32 : decode cX8_round 32 = .ok (.iload_n 1, 1) := by decide +kernel
theorem dX8_round_33 : decode cX8_round 33 = .ok (.iastore, 1) := by decide +kernel
theorem dX8_round_34 : decode cX8_round 34 = .ok (.aload_n 0, 1) := by decide +kernel
theorem dX8_round_35 : decode cX8_round 35 = .ok (.dup, 1) := by decide +kernel
theorem dX8_round_36 : decode cX8_round 36 = .ok (.getfield 144, 3) := by decide +kernel
theorem dX8_round_39 : decode cX8_round 39 = .ok (.iconst 1, 1) := by decide +kernel
theorem dX8_round_40 : decode cX8_round 40 = .ok (.iadd, 1) := by decide +kernel
theorem dX8_round_41 : decode cX8_round 41 = .ok (.putfield 144, 3) := by decide +kernel
theorem dX8_round_44 : decode cX8_round 44 = .ok (.aload_n 0, 1) := by decide +kernel
theorem dX8_round_45 : decode cX8_round 45 = .ok (.getfield 55, 3) := by decide +kernel
theorem dX8_round_48 : decode cX8_round 48 = .ok (.iload_n 1, 1) := by decide +kernel
theorem dX8_round_49 : decode cX8_round 49 = .ok (.iconst 0, 1) := by decide +kernel
theorem dX8_round_50 : decode cX8_round 50 = .ok (.bastore, 1) := by decide +kernel
theorem dX8_round_51 : decode cX8_round 51 = .ok (.aload_n 0, 1) := by decide +kernel
theorem dX8_round_52 : decode cX8_round 52 = .ok (.getfield 52, 3) := by decide +kernel
theorem dX8_round_55 : decode cX8_round 55 = .ok (.iload_n 1, 1) := by decide +kernel
theorem dX8_round_56 : decode cX8_round 56 = .ok (.ldc 71, 2) := by decide +kernel
theorem dX8_round_58 : decode cX8_round 58 = .ok (.iastore, 1) := by decide +kernel
theorem dX8_round_59 : decode cX8_round 59 = .ok (.iinc 1 1, 3) := by decide +kernel
theorem dX8_round_62 : decode cX8_round 62 = .ok (.goto (-46), 3) := by decide +kernel
theorem dX8_round_65 : decode cX8_round 65 = .ok (.iconst 0, 1) := by decide +kernel
theorem dX8_round_66 : decode cX8_round 66 = .ok (.istore_n 1, 1) := by decide +kernel
theorem dX8_round_67 : decode cX8_round 67 = .ok (.iload_n 1, 1) := by decide +kernel
theorem dX8_round_68 : decode cX8_round 68 = .ok (.iconst 4, 1) := by decide +kernel
theorem dX8_round_69 : decode cX8_round 69 = .ok (.if_icmp .ge 17, 3) := by decide +kernel
theorem dX8_round_72 : decode cX8_round 72 = .ok (.aload_n 0, 1) := by decide +kernel
theorem dX8_round_73 : decode cX8_round 73 = .ok (.getfield 68, 3) := by decide +kernel
theorem dX8_round_76 : decode cX8_round 76 = .ok (.iload_n 1, 1) := by decide +kernel
theorem dX8_round_77 : decode cX8_round 77 = .ok (.ldc 71, 2) := by decide +kernel
theorem dX8_round_79 : decode cX8_round 79 = .ok (.iastore, 1) := by decide +kernel
theorem dX8_round_80 : decode cX8_round 80 = .ok (.iinc 1 1, 3) := by decide +kernel
theorem dX8_round_83 : decode cX8_round 83 = .ok (.goto (-16), 3) := by decide +kernel
theorem dX8_round_86 : decode cX8_round 86 = .ok (.aload_n 0, 1) := by decide +kernel
theorem dX8_round_87 : decode cX8_round 87 = .ok (.invokevirtual 162, 3) := by decide +kernel
theorem dX8_round_90 : decode cX8_round 90 = .ok (.istore_n 1, 1) := by decide +kernel
theorem dX8_round_91 : decode cX8_round 91 = .ok (.iload_n 1, 1) := by decide +kernel
theorem dX8_round_92 : decode cX8_round 92 = .ok (.ifCond .ne 22, 3) := by decide +kernel
theorem dX8_round_95 : decode cX8_round 95 = .ok (.aload_n 0, 1) := by decide +kernel
theorem dX8_round_96 : decode cX8_round 96 = .ok (.invokevirtual 103, 3) := by decide +kernel
theorem dX8_round_99 : decode cX8_round 99 = .ok (.ifCond .le 15, 3) := by decide +kernel
theorem dX8_round_102 : decode cX8_round 102 = .ok (.aload_n 0, 1) := by decide +kernel
theorem dX8_round_103 : decode cX8_round 103 = .ok (.invokevirtual 166, 3) := by decide +kernel
theorem dX8_round_106 : decode cX8_round 106 = .ok (.aload_n 0, 1) := by decide +kernel
theorem dX8_round_107 : decode cX8_round 107 = .ok (.invokevirtual 162, 3) := by decide +kernel
theorem dX8_round_110 : decode cX8_round 110 = .ok (.istore_n 1, 1) := by decide +kernel
theorem dX8_round_111 : decode cX8_round 111 = .ok (.goto (-20), 3) := by decide +kernel
theorem dX8_round_114 : decode cX8_round 114 = .ok (.iload_n 1, 1) := by decide +kernel
theorem dX8_round_115 : decode cX8_round 115 = .ok (.ireturn, 1) := by decide +kernel
theorem dX8_areDone_0 : decode cX8_areDone 0 = .ok (.iconst 0, 1) := by decide +kernel
theorem dX8_areDone_1 : decode cX8_areDone 1 = .ok (.istore_n 1, 1) := by decide +kernel
theorem dX8_areDone_2 : decode cX8_areDone 2 = .ok (.iload_n 1, 1) := by decide +kernel
theorem dX8_areDone_3 : decode cX8_areDone 3 = .ok (.aload_n 0, 1) := by decide +kernel
theorem dX8_areDone_4 : decode cX8_areDone 4 = .ok (.getfield 87, 3) := by decide +kernel
theorem dX8_areDone_7 : decode cX8_areDone 7 = .ok (.if_icmp .ge 20, 3) := by decide +kernel
theorem dX8_areDone_10 : decode cX8_areDone 10 = .ok (.aload_n 0, 1) := by decide +kernel
theorem dX8_areDone_11 : decode cX8_areDone 11 = .ok (.getfield 55, 3) := by decide +kernel
theorem dX8_areDone_14 : decode cX8_areDone 14 = .ok (.iload_n 1, 1) := by decide +kernel
theorem dX8_areDone_15 : decode cX8_areDone 15 = .ok (.baload, 1) := by decide +kernel
theorem dX8_areDone_16 : decode cX8_areDone 16 = .ok (.ifCond .ne 5, 3) := by decide +kernel
theorem dX8_areDone_19 : decode cX8_areDone 19 = .ok (.iconst 0, 1) := by decide +kernel
theorem dX8_areDone_20 : decode cX8_areDone 20 = .ok (.ireturn, 1) := by decide +kernel
theorem dX8_areDone_21 : decode cX8_areDone 21 = .ok (.iinc 1 1, 3) := by decide +kernel
theorem dX8_areDone_24 : decode cX8_areDone 24 = .ok (.goto (-22), 3) := by decide +kernel
theorem dX8_areDone_27 : decode cX8_areDone 27 = .ok (.iconst 1, 1) := by decide +kernel
theorem dX8_areDone_28 : decode cX8_areDone 28 = .ok (.ireturn, 1) := by decide +kernel
theorem dX8_bound_0 : decode cX8_bound 0 = .ok (.iload_n 0, 1) := by decide +kernel
theorem dX8_bound_1 : decode cX8_bound 1 = .ok (.ifCond .ne 8, 3) := by decide +kernel
theorem dX8_bound_4 : decode cX8_bound 4 = .ok (.ldc 85, 2) := by decide +kernel
theorem dX8_bound_6 : decode cX8_bound 6 = .ok (.goto 78, 3) := by decide +kernel
theorem dX8_bound_9 : decode cX8_bound 9 = .ok (.iload_n 0, 1) := by decide +kernel
theorem dX8_bound_10 : decode cX8_bound 10 = .ok (.iconst 1, 1) := by decide +kernel
theorem dX8_bound_11 : decode cX8_bound 11 = .ok (.if_icmp .ne 9, 3) := by decide +kernel
theorem dX8_bound_14 : decode cX8_bound 14 = .ok (.sipush (-1000), 3) := by decide +kernel
theorem dX8_bound_17 : decode cX8_bound 17 = .ok (.goto 67, 3) := by decide +kernel
theorem dX8_bound_20 : decode cX8_bound 20 = .ok (.iload_n 0, 1) := by decide +kernel
theorem dX8_bound_21 : decode cX8_bound 21 = .ok (.iconst 2, 1) := by decide +kernel
theorem dX8_bound_22 : decode cX8_bound 22 = .ok (.if_icmp .ne 8, 3) := by decide +kernel
theorem dX8_bound_25 : decode cX8_bound 25 = .ok (.bipush (-100), 2) := by decide +kernel
theorem dX8_bound_27 : decode cX8_bound 27 = .ok (.goto 57, 3) := by decide +kernel
theorem dX8_bound_30 : decode cX8_bound 30 = .ok (.iload_n 0, 1) := by decide +kernel
theorem dX8_bound_31 : decode cX8_bound 31 = .ok (.iconst 3, 1) := by decide +kernel
theorem dX8_bound_32 : decode cX8_bound 32 = .ok (.if_icmp .ne 8, 3) := by decide +kernel
theorem dX8_bound_35 : decode cX8_bound 35 = .ok (.bipush (-10), 2) := by decide +kernel
theorem dX8_bound_37 : decode cX8_bound 37 = .ok (.goto 47, 3) := by decide +kernel
theorem dX8_bound_40 : decode cX8_bound 40 = .ok (.iload_n 0, 1) := by decide +kernel
theorem dX8_bound_41 : decode cX8_bound 41 = .ok (.iconst 4, 1) := by decide +kernel
theorem dX8_bound_42 : decode cX8_bound 42 = .ok (.if_icmp .ne 7, 3) := by decide +kernel
theorem dX8_bound_45 : decode cX8_bound 45 = .ok (.iconst 0, 1) := by decide +kernel
theorem dX8_bound_46 : decode cX8_bound 46 = .ok (.goto 38, 3) := by decide +kernel
theorem dX8_bound_49 : decode cX8_bound 49 = .ok (.iload_n 0, 1) := by decide +kernel
theorem dX8_bound_50 : decode cX8_bound 50 = .ok (.iconst 5, 1) := by decide +kernel
theorem dX8_bound_51 : decode cX8_bound 51 = .ok (.if_icmp .ne 8, 3) := by decide +kernel
theorem dX8_bound_54 : decode cX8_bound 54 = .ok (.bipush 10, 2) := by decide +kernel
theorem dX8_bound_56 : decode cX8_bound 56 = .ok (.goto 28, 3) := by decide +kernel
theorem dX8_bound_59 : decode cX8_bound 59 = .ok (.iload_n 0, 1) := by decide +kernel
theorem dX8_bound_60 : decode cX8_bound 60 = .ok (.bipush 6, 2) := by decide +kernel
theorem dX8_bound_62 : decode cX8_bound 62 = .ok (.if_icmp .ne 8, 3) := by decide +kernel
theorem dX8_bound_65 : decode cX8_bound 65 = .ok (.bipush 100, 2) := by decide +kernel
theorem dX8_bound_67 : decode cX8_bound 67 = .ok (.goto 17, 3) := by decide +kernel
theorem dX8_bound_70 : decode cX8_bound 70 = .ok (.iload_n 0, 1) := by decide +kernel
theorem dX8_bound_71 : decode cX8_bound 71 = .ok (.bipush 7, 2) := by decide +kernel
theorem dX8_bound_73 : decode cX8_bound 73 = .ok (.if_icmp .ne 9, 3) := by decide +kernel
theorem dX8_bound_76 : decode cX8_bound 76 = .ok (.sipush 1000, 3) := by decide +kernel
theorem dX8_bound_79 : decode cX8_bound 79 = .ok (.goto 5, 3) := by decide +kernel
theorem dX8_bound_82 : decode cX8_bound 82 = .ok (.ldc 86, 2) := by decide +kernel
theorem dX8_bound_84 : decode cX8_bound 84 = .ok (.ireturn, 1) := by decide +kernel
theorem dX8_join_0 : decode cX8_join 0 = .ok (.aload_n 0, 1) := by decide +kernel
theorem dX8_join_1 : decode cX8_join 1 = .ok (.getfield 16, 3) := by decide +kernel
theorem dX8_join_4 : decode cX8_join 4 = .ok (.iload_n 1, 1) := by decide +kernel
theorem dX8_join_5 : decode cX8_join 5 = .ok (.iaload, 1) := by decide +kernel
theorem dX8_join_6 : decode cX8_join 6 = .ok (.istore_n 3, 1) := by decide +kernel
theorem dX8_join_7 : decode cX8_join 7 = .ok (.aload_n 0, 1) := by decide +kernel
theorem dX8_join_8 : decode cX8_join 8 = .ok (.getfield 37, 3) := by decide +kernel
theorem dX8_join_11 : decode cX8_join 11 = .ok (.iconst 3, 1) := by decide +kernel
theorem dX8_join_12 : decode cX8_join 12 = .ok (.iload_n 1, 1) := by decide +kernel
theorem dX8_join_13 : decode cX8_join 13 = .ok (.imul, 1) := by decide +kernel
theorem dX8_join_14 : decode cX8_join 14 = .ok (.aload_n 0, 1) := by decide +kernel
theorem dX8_join_15 : decode cX8_join 15 = .ok (.getfield 34, 3) := by decide +kernel
theorem dX8_join_18 : decode cX8_join 18 = .ok (.iload_n 1, 1) := by decide +kernel
theorem dX8_join_19 : decode cX8_join 19 = .ok (.iaload, 1) := by decide +kernel
theorem dX8_join_20 : decode cX8_join 20 = .ok (.iadd, 1) := by decide +kernel
theorem dX8_join_21 : decode cX8_join 21 = .ok (.iconst 1, 1) := by decide +kernel
theorem dX8_join_22 : decode cX8_join 22 = .ok (.isub, 1) := by decide +kernel
theorem dX8_join_23 : decode cX8_join 23 = .ok (.iaload, 1) := by decide +kernel
theorem dX8_join_24 : decode cX8_join 24 = .ok (.istore 4, 2) := by decide +kernel
theorem dX8_join_26 : decode cX8_join 26 = .ok (.aload_n 0, 1) := by decide +kernel
theorem dX8_join_27 : decode cX8_join 27 = .ok (.getfield 40, 3) := by decide +kernel
theorem dX8_join_30 : decode cX8_join 30 = .ok (.iconst 3, 1) := by decide +kernel
theorem dX8_join_31 : decode cX8_join 31 = .ok (.iload_n 1, 1) := by decide +kernel
theorem dX8_join_32 : decode cX8_join 32 = .ok (.imul, 1) := by decide +kernel
theorem dX8_join_33 : decode cX8_join 33 = .ok (.aload_n 0, 1) := by decide +kernel
theorem dX8_join_34 : decode cX8_join 34 = .ok (.getfield 34, 3) := by decide +kernel
theorem dX8_join_37 : decode cX8_join 37 = .ok (.iload_n 1, 1) := by decide +kernel
theorem dX8_join_38 : decode cX8_join 38 = .ok (.iaload, 1) := by decide +kernel
theorem dX8_join_39 : decode cX8_join 39 = .ok (.iadd, 1) := by decide +kernel
theorem dX8_join_40 : decode cX8_join 40 = .ok (.iconst 1, 1) := by decide +kernel
theorem dX8_join_41 : decode cX8_join 41 = .ok (.isub, 1) := by decide +kernel
theorem dX8_join_42 : decode cX8_join 42 = .ok (.iaload, 1) := by decide +kernel
theorem dX8_join_43 : decode cX8_join 43 = .ok (.istore 5, 2) := by decide +kernel
theorem dX8_join_45 : decode cX8_join 45 = .ok (.aload_n 0, 1) := by decide +kernel
theorem dX8_join_46 : decode cX8_join 46 = .ok (.getfield 7, 3) := by decide +kernel
theorem dX8_join_49 : decode cX8_join 49 = .ok (.iload_n 3, 1) := by decide +kernel
theorem dX8_join_50 : decode cX8_join 50 = .ok (.iaload, 1) := by decide +kernel
theorem dX8_join_51 : decode cX8_join 51 = .ok (.aload_n 0, 1) := by decide +kernel
theorem dX8_join_52 : decode cX8_join 52 = .ok (.getfield 13, 3) := by decide +kernel
theorem dX8_join_55 : decode cX8_join 55 = .ok (.iload_n 3, 1) := by decide +kernel
theorem dX8_join_56 : decode cX8_join 56 = .ok (.iaload, 1) := by decide +kernel
theorem dX8_join_57 : decode cX8_join 57 = .ok (.if_icmp .le 21, 3) := by decide +kernel
theorem dX8_join_60 : decode cX8_join 60 = .ok (.aload_n 0, 1) := by decide +kernel
theorem dX8_join_61 : decode cX8_join 61 = .ok (.getfield 7, 3) := by decide +kernel
theorem dX8_join_64 : decode cX8_join 64 = .ok (.iload_n 3, 1) := by decide +kernel
theorem dX8_join_65 : decode cX8_join 65 = .ok (.iload 4, 2) := by decide +kernel
theorem dX8_join_67 : decode cX8_join 67 = .ok (.iastore, 1) := by decide +kernel
theorem dX8_join_68 : decode cX8_join 68 = .ok (.aload_n 0, 1) := by decide +kernel
theorem dX8_join_69 : decode cX8_join 69 = .ok (.getfield 13, 3) := by decide +kernel
theorem dX8_join_72 : decode cX8_join 72 = .ok (.iload_n 3, 1) := by decide +kernel
theorem dX8_join_73 : decode cX8_join 73 = .ok (.iload 5, 2) := by decide +kernel
theorem dX8_join_75 : decode cX8_join 75 = .ok (.iastore, 1) := by decide +kernel
theorem dX8_join_76 : decode cX8_join 76 = .ok (.iconst 1, 1) := by decide +kernel
theorem dX8_join_77 : decode cX8_join 77 = .ok (.ireturn, 1) := by decide +kernel
theorem dX8_join_78 : decode cX8_join 78 = .ok (.iload 4, 2) := by decide +kernel
theorem dX8_join_80 : decode cX8_join 80 = .ok (.aload_n 0, 1) := by decide +kernel
theorem dX8_join_81 : decode cX8_join 81 = .ok (.getfield 7, 3) := by decide +kernel
theorem dX8_join_84 : decode cX8_join 84 = .ok (.iload_n 3, 1) := by decide +kernel
theorem dX8_join_85 : decode cX8_join 85 = .ok (.iaload, 1) := by decide +kernel
theorem dX8_join_86 : decode cX8_join 86 = .ok (.if_icmp .lt 14, 3) := by decide +kernel
theorem dX8_join_89 : decode cX8_join 89 = .ok (.iload 5, 2) := by decide +kernel
theorem dX8_join_91 : decode cX8_join 91 = .ok (.aload_n 0, 1) := by decide +kernel
theorem dX8_join_92 : decode cX8_join 92 = .ok (.getfield 13, 3) := by decide +kernel
theorem dX8_join_95 : decode cX8_join 95 = .ok (.iload_n 3, 1) := by decide +kernel
theorem dX8_join_96 : decode cX8_join 96 = .ok (.iaload, 1) := by decide +kernel
theorem dX8_join_97 : decode cX8_join 97 = .ok (.if_icmp .le 7, 3) := by decide +kernel
theorem dX8_join_100 : decode cX8_join 100 = .ok (.iconst 1, 1) := by decide +kernel
theorem dX8_join_101 : decode cX8_join 101 = .ok (.goto 4, 3) := by decide +kernel
theorem dX8_join_104 : decode cX8_join 104 = .ok (.iconst 0, 1) := by decide +kernel
theorem dX8_join_105 : decode cX8_join 105 = .ok (.istore 6, 2) := by decide +kernel
theorem dX8_join_107 : decode cX8_join 107 = .ok (.iload 4, 2) := by decide +kernel
theorem dX8_join_109 : decode cX8_join 109 = .ok (.aload_n 0, 1) := by decide +kernel
theorem dX8_join_110 : decode cX8_join 110 = .ok (.getfield 7, 3) := by decide +kernel
theorem dX8_join_113 : decode cX8_join 113 = .ok (.iload_n 3, 1) := by decide +kernel
theorem dX8_join_114 : decode cX8_join 114 = .ok (.iaload, 1) := by decide +kernel
theorem dX8_join_115 : decode cX8_join 115 = .ok (.if_icmp .ge 47, 3) := by decide +kernel
theorem dX8_join_118 : decode cX8_join 118 = .ok (.bipush 8, 2) := by decide +kernel
theorem dX8_join_120 : decode cX8_join 120 = .ok (.istore 7, 2) := by decide +kernel
theorem dX8_join_122 : decode cX8_join 122 = .ok (.iload_n 2, 1) := by decide +kernel
theorem dX8_join_123 : decode cX8_join 123 = .ok (.ifCond .eq 19, 3) := by decide +kernel
theorem dX8_join_126 : decode cX8_join 126 = .ok (.iload 7, 2) := by decide +kernel
theorem dX8_join_128 : decode cX8_join 128 = .ok (.invokestatic 169, 3) := by decide +kernel
theorem dX8_join_131 : decode cX8_join 131 = .ok (.iload 4, 2) := by decide +kernel
theorem dX8_join_133 : decode cX8_join 133 = .ok (.if_icmp .le 9, 3) := by decide +kernel
theorem dX8_join_136 : decode cX8_join 136 = .ok (.iinc 7 (-1), 3) := by decide +kernel
theorem dX8_join_139 : decode cX8_join 139 = .ok (.goto (-17), 3) := by decide +kernel
theorem dX8_join_142 : decode cX8_join 142 = .ok (.aload_n 0, 1) := by decide +kernel
theorem dX8_join_143 : decode cX8_join 143 = .ok (.getfield 7, 3) := by decide +kernel
theorem dX8_join_146 : decode cX8_join 146 = .ok (.iload_n 3, 1) := by decide +kernel
theorem dX8_join_147 : decode cX8_join 147 = .ok (.iload_n 2, 1) := by decide +kernel
theorem dX8_join_148 : decode cX8_join 148 = .ok (.ifCond .eq 11, 3) := by decide +kernel
theorem dX8_join_151 : decode cX8_join 151 = .ok (.iload 7, 2) := by decide +kernel
theorem dX8_join_153 : decode cX8_join 153 = .ok (.invokestatic 169, 3) := by decide +kernel
theorem dX8_join_156 : decode cX8_join 156 = .ok (.goto 5, 3) := by decide +kernel
theorem dX8_join_159 : decode cX8_join 159 = .ok (.iload 4, 2) := by decide +kernel
theorem dX8_join_161 : decode cX8_join 161 = .ok (.iastore, 1) := by decide +kernel
theorem dX8_join_162 : decode cX8_join 162 = .ok (.iload 5, 2) := by decide +kernel
theorem dX8_join_164 : decode cX8_join 164 = .ok (.aload_n 0, 1) := by decide +kernel
theorem dX8_join_165 : decode cX8_join 165 = .ok (.getfield 13, 3) := by decide +kernel
theorem dX8_join_168 : decode cX8_join 168 = .ok (.iload_n 3, 1) := by decide +kernel
theorem dX8_join_169 : decode cX8_join 169 = .ok (.iaload, 1) := by decide +kernel
theorem dX8_join_170 : decode cX8_join 170 = .ok (.if_icmp .le 46, 3) := by decide +kernel
theorem dX8_join_173 : decode cX8_join 173 = .ok (.iconst 0, 1) := by decide +kernel
theorem dX8_join_174 : decode cX8_join 174 = .ok (.istore 7, 2) := by decide +kernel
theorem dX8_join_176 : decode cX8_join 176 = .ok (.iload_n 2, 1) := by decide +kernel
theorem dX8_join_177 : decode cX8_join 177 = .ok (.ifCond .eq 19, 3) := by decide +kernel
theorem dX8_join_180 : decode cX8_join 180 = .ok (.iload 7, 2) := by decide +kernel
theorem dX8_join_182 : decode cX8_join 182 = .ok (.invokestatic 169, 3) := by decide +kernel
theorem dX8_join_185 : decode cX8_join 185 = .ok (.iload 5, 2) := by decide +kernel
theorem dX8_join_187 : decode cX8_join 187 = .ok (.if_icmp .ge 9, 3) := by decide +kernel
theorem dX8_join_190 : decode cX8_join 190 = .ok (.iinc 7 1, 3) := by decide +kernel
theorem dX8_join_193 : decode cX8_join 193 = .ok (.goto (-17), 3) := by decide +kernel
theorem dX8_join_196 : decode cX8_join 196 = .ok (.aload_n 0, 1) := by decide +kernel
theorem dX8_join_197 : decode cX8_join 197 = .ok (.getfield 13, 3) := by decide +kernel
theorem dX8_join_200 : decode cX8_join 200 = .ok (.iload_n 3, 1) := by decide +kernel
theorem dX8_join_201 : decode cX8_join 201 = .ok (.iload_n 2, 1) := by decide +kernel
theorem dX8_join_202 : decode cX8_join 202 = .ok (.ifCond .eq 11, 3) := by decide +kernel
theorem dX8_join_205 : decode cX8_join 205 = .ok (.iload 7, 2) := by decide +kernel
theorem dX8_join_207 : decode cX8_join 207 = .ok (.invokestatic 169, 3) := by decide +kernel
theorem dX8_join_210 : decode cX8_join 210 = .ok (.goto 5, 3) := by decide +kernel
theorem dX8_join_213 : decode cX8_join 213 = .ok (.iload 5, 2) := by decide +kernel
theorem dX8_join_215 : decode cX8_join 215 = .ok (.iastore, 1) := by decide +kernel
theorem dX8_join_216 : decode cX8_join 216 = .ok (.iload 6, 2) := by decide +kernel
theorem dX8_join_218 : decode cX8_join 218 = .ok (.ireturn, 1) := by decide +kernel
theorem dX8_run_0 : decode cX8_run 0 = .ok (.iload_n 1, 1) := by decide +kernel
theorem dX8_run_1 : decode cX8_run 1 = .ok (.iconst 1, 1) := by decide +kernel
theorem dX8_run_2 : decode cX8_run 2 = .ok (.if_icmp .lt 9, 3) := by decide +kernel
theorem dX8_run_5 : decode cX8_run 5 = .ok (.iload_n 1, 1) := by decide +kernel
theorem dX8_run_6 : decode cX8_run 6 = .ok (.bipush 10, 2) := by decide +kernel
theorem dX8_run_8 : decode cX8_run 8 = .ok (.if_icmp .le 6, 3) := by decide +kernel
theorem dX8_run_11 : decode cX8_run 11 = .ok (.ldc 102, 2) := by decide +kernel
theorem dX8_run_13 : decode cX8_run 13 = .ok (.ireturn, 1) := by decide +kernel
theorem dX8_run_14 : decode cX8_run 14 = .ok (.aload_n 0, 1) := by decide +kernel
theorem dX8_run_15 : decode cX8_run 15 = .ok (.iconst 0, 1) := by decide +kernel
theorem dX8_run_16 : decode cX8_run 16 = .ok (.putfield 172, 3) := by decide +kernel
theorem dX8_run_19 : decode cX8_run 19 = .ok (.aload_n 0, 1) := by decide +kernel
theorem dX8_run_20 : decode cX8_run 20 = .ok (.ldc 71, 2) := by decide +kernel
theorem dX8_run_22 : decode cX8_run 22 = .ok (.putfield 82, 3) := by decide +kernel
theorem dX8_run_25 : decode cX8_run 25 = .ok (.aload_n 0, 1) := by decide +kernel
theorem dX8_run_26 : decode cX8_run 26 = .ok (.iconst 0, 1) := by decide +kernel
theorem dX8_run_27 : decode cX8_run 27 = .ok (.putfield 175, 3) := by decide +kernel
theorem dX8_run_30 : decode cX8_run 30 = .ok (.aload_n 0, 1) := by decide +kernel
theorem dX8_run_31 : decode cX8_run 31 = .ok (.iconst 0, 1) := by decide +kernel
theorem dX8_run_32 : decode cX8_run 32 = .ok (.putfield 178, 3) := by decide +kernel
theorem dX8_run_35 : decode cX8_run 35 = .ok (.aload_n 0, 1) := by decide +kernel
theorem dX8_run_36 : decode cX8_run 36 = .ok (.iconst 0, 1) := by decide +kernel
theorem dX8_run_37 : decode cX8_run 37 = .ok (.putfield 147, 3) := by decide +kernel
theorem dX8_run_40 : decode cX8_run 40 = .ok (.aload_n 0, 1) := by decide +kernel
theorem dX8_run_41 : decode cX8_run 41 = .ok (.iconst 0, 1) := by decide +kernel
theorem dX8_run_42 : decode cX8_run 42 = .ok (.putfield 130, 3) := by decide +kernel
theorem dX8_run_45 : decode cX8_run 45 = .ok (.iconst 0, 1) := by decide +kernel
theorem dX8_run_46 : decode cX8_run 46 = .ok (.istore_n 2, 1) := by decide +kernel
theorem dX8_run_47 : decode cX8_run 47 = .ok (.iconst 0, 1) := by decide +kernel
theorem dX8_run_48 : decode cX8_run 48 = .ok (.istore_n 3, 1) := by decide +kernel
theorem dX8_run_49 : decode cX8_run 49 = .ok (.iload_n 3, 1) := by decide +kernel
theorem dX8_run_50 : decode cX8_run 50 = .ok (.aload_n 0, 1) := by decide +kernel
theorem dX8_run_51 : decode cX8_run 51 = .ok (.getfield 87, 3) := by decide +kernel
theorem dX8_run_54 : decode cX8_run 54 = .ok (.if_icmp .ge 18, 3) := by decide +kernel
theorem dX8_run_57 : decode cX8_run 57 = .ok (.iload_n 2, 1) := by decide +kernel
theorem dX8_run_58 : decode cX8_run 58 = .ok (.aload_n 0, 1) := by decide +kernel
theorem dX8_run_59 : decode cX8_run 59 = .ok (.getfield 19, 3) := by decide +kernel
theorem dX8_run_62 : decode cX8_run 62 = .ok (.iload_n 3, 1) := by decide +kernel
theorem dX8_run_63 : decode cX8_run 63 = .ok (.iaload, 1) := by decide +kernel
theorem dX8_run_64 : decode cX8_run 64 = .ok (.iadd, 1) := by decide +kernel
theorem dX8_run_65 : decode cX8_run 65 = .ok (.istore_n 2, 1) := by decide +kernel
theorem dX8_run_66 : decode cX8_run 66 = .ok (.iinc 3 1, 3) := by decide +kernel
theorem dX8_run_69 : decode cX8_run 69 = .ok (.goto (-20), 3) := by decide +kernel
theorem dX8_run_72 : decode cX8_run 72 = .ok (.iconst 1, 1) := by decide +kernel
theorem dX8_run_73 : decode cX8_run 73 = .ok (.istore_n 3, 1) := by decide +kernel
theorem dX8_run_74 : decode cX8_run 74 = .ok (.iload_n 3, 1) := by decide +kernel
theorem dX8_run_75 : decode cX8_run 75 = .ok (.iload_n 1, 1) := by decide +kernel
theorem dX8_run_76 : decode cX8_run 76 = .ok (.if_icmp .gt 162, 3) := by decide +kernel
theorem dX8_run_79 : decode cX8_run 79 = .ok (.aload_n 0, 1) := by decide +kernel
theorem dX8_run_80 : decode cX8_run 80 = .ok (.invokevirtual 181, 3) := by decide +kernel
theorem dX8_run_83 : decode cX8_run 83 = .ok (.ifCond .ne 5, 3) := by decide +kernel
theorem dX8_run_86 : decode cX8_run 86 = .ok (.iconst 3, 1) := by decide +kernel
theorem dX8_run_87 : decode cX8_run 87 = .ok (.ireturn, 1) := by decide +kernel
theorem dX8_run_88 : decode cX8_run 88 = .ok (.iconst 0, 1) := by decide +kernel
theorem dX8_run_89 : decode cX8_run 89 = .ok (.istore 4, 2) := by decide +kernel
theorem dX8_run_91 : decode cX8_run 91 = .ok (.iload 4, 2) := by decide +kernel
theorem dX8_run_93 : decode cX8_run 93 = .ok (.aload_n 0, 1) := by decide +kernel
theorem dX8_run_94 : decode cX8_run 94 = .ok (.getfield 87, 3) := by decide +kernel
theorem dX8_run_97 : decode cX8_run 97 = .ok (.if_icmp .ge 38, 3) := by decide +kernel
theorem dX8_run_100 : decode cX8_run 100 = .ok (.aload_n 0, 1) := by decide +kernel
theorem dX8_run_101 : decode cX8_run 101 = .ok (.getfield 49, 3) := by decide +kernel
theorem dX8_run_104 : decode cX8_run 104 = .ok (.iload 4, 2) := by decide +kernel
theorem dX8_run_106 : decode cX8_run 106 = .ok (.iaload, 1) := by decide +kernel
theorem dX8_run_107 : decode cX8_run 107 = .ok (.ifCond .le 22, 3) := by decide +kernel
theorem dX8_run_110 : decode cX8_run 110 = .ok (.aload_n 0, 1) := by decide +kernel
theorem dX8_run_111 : decode cX8_run 111 = .ok (.iload 4, 2) := by decide +kernel
theorem dX8_run_113 : decode cX8_run 113 = .ok (.putfield 82, 3) := by decide +kernel
theorem dX8_run_116 : decode cX8_run 116 = .ok (.aload_n 0, 1) := by decide +kernel
theorem dX8_run_117 : decode cX8_run 117 = .ok (.aload_n 0, 1) := by decide +kernel
theorem dX8_run_118 : decode cX8_run 118 = .ok (.getfield 49, 3) := by decide +kernel
theorem dX8_run_121 : decode cX8_run 121 = .ok (.iload 4, 2) := by decide +kernel
theorem dX8_run_123 : decode cX8_run 123 = .ok (.iaload, 1) := by decide +kernel
theorem dX8_run_124 : decode cX8_run 124 = .ok (.putfield 175, 3) := by decide +kernel
theorem dX8_run_127 : decode cX8_run 127 = .ok (.iconst 2, 1) := by decide +kernel
theorem dX8_run_128 : decode cX8_run 128 = .ok (.ireturn, 1) := by decide +kernel
theorem dX8_run_129 : decode cX8_run 129 = .ok (.iinc 4 1, 3) := by decide +kernel
theorem dX8_run_132 : decode cX8_run 132 = .ok (.goto (-41), 3) := by decide +kernel
theorem dX8_run_135 : decode cX8_run 135 = .ok (.aload_n 0, 1) := by decide +kernel
theorem dX8_run_136 : decode cX8_run 136 = .ok (.getfield 178, 3) := by decide +kernel
theorem dX8_run_139 : decode cX8_run 139 = .ok (.iload_n 2, 1) := by decide +kernel
theorem dX8_run_140 : decode cX8_run 140 = .ok (.iadd, 1) := by decide +kernel
theorem dX8_run_141 : decode cX8_run 141 = .ok (.aload_n 0, 1) := by decide +kernel
theorem dX8_run_142 : decode cX8_run 142 = .ok (.getfield 79, 3) := by decide +kernel
theorem dX8_run_145 : decode cX8_run 145 = .ok (.if_icmp .le 5, 3) := by decide +kernel
theorem dX8_run_148 : decode cX8_run 148 = .ok (.iconst 4, 1) := by decide +kernel
theorem dX8_run_149 : decode cX8_run 149 = .ok (.ireturn, 1) := by decide +kernel
theorem dX8_run_150 : decode cX8_run 150 = .ok (.aload_n 0, 1) := by decide +kernel
theorem dX8_run_151 : decode cX8_run 151 = .ok (.dup, 1) := by decide +kernel
theorem dX8_run_152 : decode cX8_run 152 = .ok (.getfield 178, 3) := by decide +kernel
theorem dX8_run_155 : decode cX8_run 155 = .ok (.iload_n 2, 1) := by decide +kernel
theorem dX8_run_156 : decode cX8_run 156 = .ok (.iadd, 1) := by decide +kernel
theorem dX8_run_157 : decode cX8_run 157 = .ok (.putfield 178, 3) := by decide +kernel
theorem dX8_run_160 : decode cX8_run 160 = .ok (.aload_n 0, 1) := by decide +kernel
theorem dX8_run_161 : decode cX8_run 161 = .ok (.dup, 1) := by decide +kernel
theorem dX8_run_162 : decode cX8_run 162 = .ok (.getfield 172, 3) := by decide +kernel
theorem dX8_run_165 : decode cX8_run 165 = .ok (.iconst 1, 1) := by decide +kernel
theorem dX8_run_166 : decode cX8_run 166 = .ok (.iadd, 1) := by decide +kernel
theorem dX8_run_167 : decode cX8_run 167 = .ok (.putfield 172, 3) := by decide +kernel
theorem dX8_run_170 : decode cX8_run 170 = .ok (.iconst 0, 1) := by decide +kernel
theorem dX8_run_171 : decode cX8_run 171 = .ok (.istore 4, 2) := by decide +kernel
theorem dX8_run_173 : decode cX8_run 173 = .ok (.iconst 0, 1) := by decide +kernel
theorem dX8_run_174 : decode cX8_run 174 = .ok (.istore 5, 2) := by decide +kernel
theorem dX8_run_176 : decode cX8_run 176 = .ok (.iload 5, 2) := by decide +kernel
theorem dX8_run_178 : decode cX8_run 178 = .ok (.aload_n 0, 1) := by decide +kernel
theorem dX8_run_179 : decode cX8_run 179 = .ok (.getfield 87, 3) := by decide +kernel
theorem dX8_run_182 : decode cX8_run 182 = .ok (.if_icmp .ge 43, 3) := by decide +kernel
theorem dX8_run_185 : decode cX8_run 185 = .ok (.aload_n 0, 1) := by decide +kernel
theorem dX8_run_186 : decode cX8_run 186 = .ok (.iload 5, 2) := by decide +kernel
theorem dX8_run_188 : decode cX8_run 188 = .ok (.iload_n 3, 1) := by decide +kernel
theorem dX8_run_189 : decode cX8_run 189 = .ok (.aload_n 0, 1) := by decide +kernel
theorem dX8_run_190 : decode cX8_run 190 = .ok (.getfield 76, 3) := by decide +kernel
theorem dX8_run_193 : decode cX8_run 193 = .ok (.if_icmp .lt 7, 3) := by decide +kernel
theorem dX8_run_196 : decode cX8_run 196 = .ok (.iconst 1, 1) := by decide +kernel
theorem dX8_run_197 : decode cX8_run 197 = .ok (.goto 4, 3) := by decide +kernel
theorem dX8_run_200 : decode cX8_run 200 = .ok (.iconst 0, 1) := by decide +kernel
theorem dX8_run_201 : decode cX8_run 201 = .ok (.invokevirtual 184, 3) := by decide +kernel
theorem dX8_run_204 : decode cX8_run 204 = .ok (.ifCond .ne 8, 3) := by decide +kernel
theorem dX8_run_207 : decode cX8_run 207 = .ok (.iload 4, 2) := by decide +kernel
theorem dX8_run_209 : decode cX8_run 209 = .ok (.ifCond .eq 7, 3) := by decide +kernel
theorem dX8_run_212 : decode cX8_run 212 = .ok (.iconst 1, 1) := by decide +kernel
theorem dX8_run_213 : decode cX8_run 213 = .ok (.goto 4, 3) := by decide +kernel
theorem dX8_run_216 : decode cX8_run 216 = .ok (.iconst 0, 1) := by decide +kernel
theorem dX8_run_217 : decode cX8_run 217 = .ok (.istore 4, 2) := by decide +kernel
theorem dX8_run_219 : decode cX8_run 219 = .ok (.iinc 5 1, 3) := by decide +kernel
theorem dX8_run_222 : decode cX8_run 222 = .ok (.goto (-46), 3) := by decide +kernel
theorem dX8_run_225 : decode cX8_run 225 = .ok (.iload 4, 2) := by decide +kernel
theorem dX8_run_227 : decode cX8_run 227 = .ok (.ifCond .ne 5, 3) := by decide +kernel
theorem dX8_run_230 : decode cX8_run 230 = .ok (.iconst 0, 1) := by decide +kernel
theorem dX8_run_231 : decode cX8_run 231 = .ok (.ireturn, 1) := by decide +kernel
theorem dX8_run_232 : decode cX8_run 232 = .ok (.iinc 3 1, 3) := by decide +kernel
theorem dX8_run_235 : decode cX8_run 235 = .ok (.goto (-161), 3) := by decide +kernel
theorem dX8_run_238 : decode cX8_run 238 = .ok (.iconst 1, 1) := by decide +kernel
theorem dX8_run_239 : decode cX8_run 239 = .ok (.ireturn, 1) := by decide +kernel
theorem dX8_told_0 : decode cX8_told 0 = .ok (.iload_n 1, 1) := by decide +kernel
theorem dX8_told_1 : decode cX8_told 1 = .ok (.tableswitch 105 0 9 #[55, 60, 65, 70, 75, 80, 85, 90, 95, 100], 55) := by decide +kernel
theorem dX8_told_56 : decode cX8_told 56 = .ok (.aload_n 0, 1) := by decide +kernel
theorem dX8_told_57 : decode cX8_told 57 = .ok (.getfield 172, 3) := by decide +kernel
theorem dX8_told_60 : decode cX8_told 60 = .ok (.ireturn, 1) := by decide +kernel
theorem dX8_told_61 : decode cX8_told 61 = .ok (.aload_n 0, 1) := by decide +kernel
theorem dX8_told_62 : decode cX8_told 62 = .ok (.getfield 82, 3) := by decide +kernel
theorem dX8_told_65 : decode cX8_told 65 = .ok (.ireturn, 1) := by decide +kernel
theorem dX8_told_66 : decode cX8_told 66 = .ok (.aload_n 0, 1) := by decide +kernel
theorem dX8_told_67 : decode cX8_told 67 = .ok (.getfield 175, 3) := by decide +kernel
theorem dX8_told_70 : decode cX8_told 70 = .ok (.ireturn, 1) := by decide +kernel
theorem dX8_told_71 : decode cX8_told 71 = .ok (.aload_n 0, 1) := by decide +kernel
theorem dX8_told_72 : decode cX8_told 72 = .ok (.getfield 178, 3) := by decide +kernel
theorem dX8_told_75 : decode cX8_told 75 = .ok (.ireturn, 1) := by decide +kernel
theorem dX8_told_76 : decode cX8_told 76 = .ok (.aload_n 0, 1) := by decide +kernel
theorem dX8_told_77 : decode cX8_told 77 = .ok (.getfield 147, 3) := by decide +kernel
theorem dX8_told_80 : decode cX8_told 80 = .ok (.ireturn, 1) := by decide +kernel
theorem dX8_told_81 : decode cX8_told 81 = .ok (.aload_n 0, 1) := by decide +kernel
theorem dX8_told_82 : decode cX8_told 82 = .ok (.getfield 130, 3) := by decide +kernel
theorem dX8_told_85 : decode cX8_told 85 = .ok (.ireturn, 1) := by decide +kernel
theorem dX8_told_86 : decode cX8_told 86 = .ok (.aload_n 0, 1) := by decide +kernel
theorem dX8_told_87 : decode cX8_told 87 = .ok (.getfield 133, 3) := by decide +kernel
theorem dX8_told_90 : decode cX8_told 90 = .ok (.ireturn, 1) := by decide +kernel
theorem dX8_told_91 : decode cX8_told 91 = .ok (.aload_n 0, 1) := by decide +kernel
theorem dX8_told_92 : decode cX8_told 92 = .ok (.invokevirtual 103, 3) := by decide +kernel
theorem dX8_told_95 : decode cX8_told 95 = .ok (.ireturn, 1) := by decide +kernel
theorem dX8_told_96 : decode cX8_told 96 = .ok (.aload_n 0, 1) := by decide +kernel
theorem dX8_told_97 : decode cX8_told 97 = .ok (.getfield 87, 3) := by decide +kernel
theorem dX8_told_100 : decode cX8_told 100 = .ok (.ireturn, 1) := by decide +kernel
theorem dX8_told_101 : decode cX8_told 101 = .ok (.aload_n 0, 1) := by decide +kernel
theorem dX8_told_102 : decode cX8_told 102 = .ok (.getfield 72, 3) := by decide +kernel
theorem dX8_told_105 : decode cX8_told 105 = .ok (.ireturn, 1) := by decide +kernel
theorem dX8_told_106 : decode cX8_told 106 = .ok (.ldc 102, 2) := by decide +kernel
theorem dX8_told_108 : decode cX8_told 108 = .ok (.ireturn, 1) := by decide +kernel
theorem dX8_doer_0 : decode cX8_doer 0 = .ok (.aload_n 0, 1) := by decide +kernel
theorem dX8_doer_1 : decode cX8_doer 1 = .ok (.iload_n 1, 1) := by decide +kernel
theorem dX8_doer_2 : decode cX8_doer 2 = .ok (.invokevirtual 96, 3) := by decide +kernel
theorem dX8_doer_5 : decode cX8_doer 5 = .ok (.ifCond .eq 12, 3) := by decide +kernel
theorem dX8_doer_8 : decode cX8_doer 8 = .ok (.aload_n 0, 1) := by decide +kernel
theorem dX8_doer_9 : decode cX8_doer 9 = .ok (.getfield 52, 3) := by decide +kernel
theorem dX8_doer_12 : decode cX8_doer 12 = .ok (.iload_n 1, 1) := by decide +kernel
theorem dX8_doer_13 : decode cX8_doer 13 = .ok (.iaload, 1) := by decide +kernel
theorem dX8_doer_14 : decode cX8_doer 14 = .ok (.goto 5, 3) := by decide +kernel
theorem dX8_doer_17 : decode cX8_doer 17 = .ok (.ldc 94, 2) := by decide +kernel
theorem dX8_doer_19 : decode cX8_doer 19 = .ok (.ireturn, 1) := by decide +kernel
theorem dX8_clear_0 : decode cX8_clear 0 = .ok (.iconst 0, 1) := by decide +kernel
theorem dX8_clear_1 : decode cX8_clear 1 = .ok (.istore_n 1, 1) := by decide +kernel
theorem dX8_clear_2 : decode cX8_clear 2 = .ok (.iconst 0, 1) := by decide +kernel
theorem dX8_clear_3 : decode cX8_clear 3 = .ok (.istore_n 2, 1) := by decide +kernel
theorem dX8_clear_4 : decode cX8_clear 4 = .ok (.iload_n 2, 1) := by decide +kernel
theorem dX8_clear_5 : decode cX8_clear 5 = .ok (.bipush 10, 2) := by decide +kernel
theorem dX8_clear_7 : decode cX8_clear 7 = .ok (.if_icmp .ge 46, 3) := by decide +kernel
theorem dX8_clear_10 : decode cX8_clear 10 = .ok (.iload_n 1, 1) := by decide +kernel
theorem dX8_clear_11 : decode cX8_clear 11 = .ok (.aload_n 0, 1) := by decide +kernel
theorem dX8_clear_12 : decode cX8_clear 12 = .ok (.getfield 7, 3) := by decide +kernel
theorem dX8_clear_15 : decode cX8_clear 15 = .ok (.iload_n 2, 1) := by decide +kernel
theorem dX8_clear_16 : decode cX8_clear 16 = .ok (.iaload, 1) := by decide +kernel
theorem dX8_clear_17 : decode cX8_clear 17 = .ok (.aload_n 0, 1) := by decide +kernel
theorem dX8_clear_18 : decode cX8_clear 18 = .ok (.getfield 13, 3) := by decide +kernel
theorem dX8_clear_21 : decode cX8_clear 21 = .ok (.iload_n 2, 1) := by decide +kernel
theorem dX8_clear_22 : decode cX8_clear 22 = .ok (.iaload, 1) := by decide +kernel
theorem dX8_clear_23 : decode cX8_clear 23 = .ok (.if_icmp .gt 7, 3) := by decide +kernel
theorem dX8_clear_26 : decode cX8_clear 26 = .ok (.iconst 1, 1) := by decide +kernel
theorem dX8_clear_27 : decode cX8_clear 27 = .ok (.goto 4, 3) := by decide +kernel
theorem dX8_clear_30 : decode cX8_clear 30 = .ok (.iconst 0, 1) := by decide +kernel
theorem dX8_clear_31 : decode cX8_clear 31 = .ok (.iadd, 1) := by decide +kernel
theorem dX8_clear_32 : decode cX8_clear 32 = .ok (.istore_n 1, 1) := by decide +kernel
theorem dX8_clear_33 : decode cX8_clear 33 = .ok (.aload_n 0, 1) := by decide +kernel
theorem dX8_clear_34 : decode cX8_clear 34 = .ok (.getfield 7, 3) := by decide +kernel
theorem dX8_clear_37 : decode cX8_clear 37 = .ok (.iload_n 2, 1) := by decide +kernel
theorem dX8_clear_38 : decode cX8_clear 38 = .ok (.iconst 1, 1) := by decide +kernel
theorem dX8_clear_39 : decode cX8_clear 39 = .ok (.iastore, 1) := by decide +kernel
theorem dX8_clear_40 : decode cX8_clear 40 = .ok (.aload_n 0, 1) := by decide +kernel
theorem dX8_clear_41 : decode cX8_clear 41 = .ok (.getfield 13, 3) := by decide +kernel
theorem dX8_clear_44 : decode cX8_clear 44 = .ok (.iload_n 2, 1) := by decide +kernel
theorem dX8_clear_45 : decode cX8_clear 45 = .ok (.iconst 0, 1) := by decide +kernel
theorem dX8_clear_46 : decode cX8_clear 46 = .ok (.iastore, 1) := by decide +kernel
theorem dX8_clear_47 : decode cX8_clear 47 = .ok (.iinc 2 1, 3) := by decide +kernel
theorem dX8_clear_50 : decode cX8_clear 50 = .ok (.goto (-46), 3) := by decide +kernel
theorem dX8_clear_53 : decode cX8_clear 53 = .ok (.aload_n 0, 1) := by decide +kernel
theorem dX8_clear_54 : decode cX8_clear 54 = .ok (.iconst 0, 1) := by decide +kernel
theorem dX8_clear_55 : decode cX8_clear 55 = .ok (.putfield 133, 3) := by decide +kernel
theorem dX8_clear_58 : decode cX8_clear 58 = .ok (.aload_n 0, 1) := by decide +kernel
theorem dX8_clear_59 : decode cX8_clear 59 = .ok (.iconst 0, 1) := by decide +kernel
theorem dX8_clear_60 : decode cX8_clear 60 = .ok (.putfield 108, 3) := by decide +kernel
theorem dX8_clear_63 : decode cX8_clear 63 = .ok (.iload_n 1, 1) := by decide +kernel
theorem dX8_clear_64 : decode cX8_clear 64 = .ok (.ireturn, 1) := by decide +kernel
