theorem dX5_init_0 : decode cX5_init 0 = .ok (.aload_n 0, 1) := by decide +kernel
theorem dX5_init_1 : decode cX5_init 1 = .ok (.invokespecial 1, 3) := by decide +kernel
theorem dX5_init_4 : decode cX5_init 4 = .ok (.aload_n 0, 1) := by decide +kernel
theorem dX5_init_5 : decode cX5_init 5 = .ok (.bipush 25, 2) := by decide +kernel
theorem dX5_init_7 : decode cX5_init 7 = .ok (.newarray .int, 2) := by decide +kernel
theorem dX5_init_9 : decode cX5_init 9 = .ok (.putfield 7, 3) := by decide +kernel
theorem dX5_init_12 : decode cX5_init 12 = .ok (.aload_n 0, 1) := by decide +kernel
theorem dX5_init_13 : decode cX5_init 13 = .ok (.bipush 25, 2) := by decide +kernel
theorem dX5_init_15 : decode cX5_init 15 = .ok (.newarray .int, 2) := by decide +kernel
theorem dX5_init_17 : decode cX5_init 17 = .ok (.putfield 13, 3) := by decide +kernel
theorem dX5_init_20 : decode cX5_init 20 = .ok (.aload_n 0, 1) := by decide +kernel
theorem dX5_init_21 : decode cX5_init 21 = .ok (.bipush 25, 2) := by decide +kernel
theorem dX5_init_23 : decode cX5_init 23 = .ok (.newarray .int, 2) := by decide +kernel
theorem dX5_init_25 : decode cX5_init 25 = .ok (.putfield 16, 3) := by decide +kernel
theorem dX5_init_28 : decode cX5_init 28 = .ok (.aload_n 0, 1) := by decide +kernel
theorem dX5_init_29 : decode cX5_init 29 = .ok (.bipush 120, 2) := by decide +kernel
theorem dX5_init_31 : decode cX5_init 31 = .ok (.newarray .int, 2) := by decide +kernel
theorem dX5_init_33 : decode cX5_init 33 = .ok (.putfield 19, 3) := by decide +kernel
theorem dX5_init_36 : decode cX5_init 36 = .ok (.aload_n 0, 1) := by decide +kernel
theorem dX5_init_37 : decode cX5_init 37 = .ok (.bipush 120, 2) := by decide +kernel
theorem dX5_init_39 : decode cX5_init 39 = .ok (.newarray .int, 2) := by decide +kernel
theorem dX5_init_41 : decode cX5_init 41 = .ok (.putfield 22, 3) := by decide +kernel
theorem dX5_init_44 : decode cX5_init 44 = .ok (.aload_n 0, 1) := by decide +kernel
theorem dX5_init_45 : decode cX5_init 45 = .ok (.bipush 120, 2) := by decide +kernel
theorem dX5_init_47 : decode cX5_init 47 = .ok (.newarray .int, 2) := by decide +kernel
theorem dX5_init_49 : decode cX5_init 49 = .ok (.putfield 25, 3) := by decide +kernel
theorem dX5_init_52 : decode cX5_init 52 = .ok (.aload_n 0, 1) := by decide +kernel
theorem dX5_init_53 : decode cX5_init 53 = .ok (.sipush 240, 3) := by decide +kernel
theorem dX5_init_56 : decode cX5_init 56 = .ok (.newarray .int, 2) := by decide +kernel
theorem dX5_init_58 : decode cX5_init 58 = .ok (.putfield 28, 3) := by decide +kernel
theorem dX5_init_61 : decode cX5_init 61 = .ok (.aload_n 0, 1) := by decide +kernel
theorem dX5_init_62 : decode cX5_init 62 = .ok (.iconst (-1), 1) := by decide +kernel
theorem dX5_init_63 : decode cX5_init 63 = .ok (.putfield 31, 3) := by decide +kernel
theorem dX5_init_66 : decode cX5_init 66 = .ok (.aload_n 0, 1) := by decide +kernel
theorem dX5_init_67 : decode cX5_init 67 = .ok (.bipush 24, 2) := by decide +kernel
theorem dX5_init_69 : decode cX5_init 69 = .ok (.newarray .int, 2) := by decide +kernel
theorem dX5_init_71 : decode cX5_init 71 = .ok (.putfield 35, 3) := by decide +kernel
theorem dX5_init_74 : decode cX5_init 74 = .ok (.aload_n 0, 1) := by decide +kernel
theorem dX5_init_75 : decode cX5_init 75 = .ok (.bipush 24, 2) := by decide +kernel
theorem dX5_init_77 : decode cX5_init 77 = .ok (.newarray .int, 2) := by decide +kernel
theorem dX5_init_79 : decode cX5_init 79 = .ok (.putfield 38, 3) := by decide +kernel
theorem dX5_init_82 : decode cX5_init 82 = .ok (.aload_n 0, 1) := by decide +kernel
theorem dX5_init_83 : decode cX5_init 83 = .ok (.bipush 24, 2) := by decide +kernel
theorem dX5_init_85 : decode cX5_init 85 = .ok (.newarray .int, 2) := by decide +kernel
theorem dX5_init_87 : decode cX5_init 87 = .ok (.putfield 41, 3) := by decide +kernel
theorem dX5_init_90 : decode cX5_init 90 = .ok (.aload_n 0, 1) := by decide +kernel
theorem dX5_init_91 : decode cX5_init 91 = .ok (.bipush 120, 2) := by decide +kernel
theorem dX5_init_93 : decode cX5_init 93 = .ok (.newarray .int, 2) := by decide +kernel
theorem dX5_init_95 : decode cX5_init 95 = .ok (.putfield 44, 3) := by decide +kernel
theorem dX5_init_98 : decode cX5_init 98 = .ok (.aload_n 0, 1) := by decide +kernel
theorem dX5_init_99 : decode cX5_init 99 = .ok (.bipush 120, 2) := by decide +kernel
theorem dX5_init_101 : decode cX5_init 101 = .ok (.newarray .int, 2) := by decide +kernel
theorem dX5_init_103 : decode cX5_init 103 = .ok (.putfield 47, 3) := by decide +kernel
theorem dX5_init_106 : decode cX5_init 106 = .ok (.aload_n 0, 1) := by decide +kernel
theorem dX5_init_107 : decode cX5_init 107 = .ok (.bipush 120, 2) := by decide +kernel
theorem dX5_init_109 : decode cX5_init 109 = .ok (.newarray .int, 2) := by decide +kernel
theorem dX5_init_111 : decode cX5_init 111 = .ok (.putfield 50, 3) := by decide +kernel
theorem dX5_init_114 : decode cX5_init 114 = .ok (.aload_n 0, 1) := by decide +kernel
theorem dX5_init_115 : decode cX5_init 115 = .ok (.sipush 240, 3) := by decide +kernel
theorem dX5_init_118 : decode cX5_init 118 = .ok (.newarray .int, 2) := by decide +kernel
theorem dX5_init_120 : decode cX5_init 120 = .ok (.putfield 53, 3) := by decide +kernel
theorem dX5_init_123 : decode cX5_init 123 = .ok (.aload_n 0, 1) := by decide +kernel
theorem dX5_init_124 : decode cX5_init 124 = .ok (.sipush 240, 3) := by decide +kernel
theorem dX5_init_127 : decode cX5_init 127 = .ok (.newarray .boolean, 2) := by decide +kernel
theorem dX5_init_129 : decode cX5_init 129 = .ok (.putfield 56, 3) := by decide +kernel
theorem dX5_init_132 : decode cX5_init 132 = .ok (.aload_n 0, 1) := by decide +kernel
theorem dX5_init_133 : decode cX5_init 133 = .ok (.bipush 25, 2) := by decide +kernel
theorem dX5_init_135 : decode cX5_init 135 = .ok (.newarray .int, 2) := by decide +kernel
theorem dX5_init_137 : decode cX5_init 137 = .ok (.putfield 60, 3) := by decide +kernel
theorem dX5_init_140 : decode cX5_init 140 = .ok (.aload_n 0, 1) := by decide +kernel
theorem dX5_init_141 : decode cX5_init 141 = .ok (.bipush 120, 2) := by decide +kernel
theorem dX5_init_143 : decode cX5_init 143 = .ok (.newarray .int, 2) := by decide +kernel
theorem dX5_init_145 : decode cX5_init 145 = .ok (.putfield 63, 3) := by decide +kernel
theorem dX5_init_148 : decode cX5_init 148 = .ok (.aload_n 0, 1) := by decide +kernel
theorem dX5_init_149 : decode cX5_init 149 = .ok (.bipush 120, 2) := by decide +kernel
theorem dX5_init_151 : decode cX5_init 151 = .ok (.newarray .int, 2) := by decide +kernel
theorem dX5_init_153 : decode cX5_init 153 = .ok (.putfield 66, 3) := by decide +kernel
theorem dX5_init_156 : decode cX5_init 156 = .ok (.aload_n 0, 1) := by decide +kernel
theorem dX5_init_157 : decode cX5_init 157 = .ok (.bipush 120, 2) := by decide +kernel
theorem dX5_init_159 : decode cX5_init 159 = .ok (.newarray .int, 2) := by decide +kernel
theorem dX5_init_161 : decode cX5_init 161 = .ok (.putfield 69, 3) := by decide +kernel
theorem dX5_init_164 : decode cX5_init 164 = .ok (.aload_n 0, 1) := by decide +kernel
theorem dX5_init_165 : decode cX5_init 165 = .ok (.iconst 4, 1) := by decide +kernel
theorem dX5_init_166 : decode cX5_init 166 = .ok (.newarray .boolean, 2) := by decide +kernel
theorem dX5_init_168 : decode cX5_init 168 = .ok (.putfield 72, 3) := by decide +kernel
theorem dX5_init_171 : decode cX5_init 171 = .ok (.aload_n 0, 1) := by decide +kernel
theorem dX5_init_172 : decode cX5_init 172 = .ok (.iconst 4, 1) := by decide +kernel
theorem dX5_init_173 : decode cX5_init 173 = .ok (.newarray .int, 2) := by decide +kernel
theorem dX5_init_175 : decode cX5_init 175 = .ok (.putfield 75, 3) := by decide +kernel
theorem dX5_init_178 : decode cX5_init 178 = .ok (.aload_n 0, 1) := by decide +kernel
theorem dX5_init_179 : decode cX5_init 179 = .ok (.sipush 160, 3) := by decide +kernel
theorem dX5_init_182 : decode cX5_init 182 = .ok (.newarray .long, 2) := by decide +kernel
theorem dX5_init_184 : decode cX5_init 184 = .ok (.putfield 78, 3) := by decide +kernel
theorem dX5_init_187 : decode cX5_init 187 = .ok (.aload_n 0, 1) := by decide +kernel
theorem dX5_init_188 : decode cX5_init 188 = .ok (.iconst 2, 1) := by decide +kernel
theorem dX5_init_189 : decode cX5_init 189 = .ok (.newarray .int, 2) := by decide +kernel
theorem dX5_init_191 : decode cX5_init 191 = .ok (.dup, 1) := by decide +kernel
theorem dX5_init_192 : decode cX5_init 192 = .ok (.iconst 0, 1) := by decide +kernel
theorem dX5_init_193 : decode cX5_init 193 = .ok (.iconst (-1), 1) := by decide +kernel
theorem dX5_init_194 : decode cX5_init 194 = .ok (.iastore, 1) := by decide +kernel
theorem dX5_init_195 : decode cX5_init 195 = .ok (.dup, 1) := by decide +kernel
theorem dX5_init_196 : decode cX5_init 196 = .ok (.iconst 1, 1) := by decide +kernel
theorem dX5_init_197 : decode cX5_init 197 = .ok (.iconst (-1), 1) := by decide +kernel
theorem dX5_init_198 : decode cX5_init 198 = .ok (.iastore, 1) := by decide +kernel
theorem dX5_init_199 : decode cX5_init 199 = .ok (.putfield 82, 3) := by decide +kernel
theorem dX5_init_202 : decode cX5_init 202 = .ok (.aload_n 0, 1) := by decide +kernel
theorem dX5_init_203 : decode cX5_init 203 = .ok (.iconst 2, 1) := by decide +kernel
theorem dX5_init_204 : decode cX5_init 204 = .ok (.newarray .int, 2) := by decide +kernel
theorem dX5_init_206 : decode cX5_init 206 = .ok (.putfield 85, 3) := by decide +kernel
theorem dX5_init_209 : decode cX5_init 209 = .ok (.aload_n 0, 1) := by decide +kernel
theorem dX5_init_210 : decode cX5_init 210 = .ok (.sipush 864, 3) := by decide +kernel
theorem dX5_init_213 : decode cX5_init 213 = .ok (.newarray .int, 2) := by decide +kernel
theorem dX5_init_215 : decode cX5_init 215 = .ok (.putfield 88, 3) := by decide +kernel
theorem dX5_init_218 : decode cX5_init 218 = .ok (.aload_n 0, 1) := by decide +kernel
theorem dX5_init_219 : decode cX5_init 219 = .ok (.iconst 0, 1) := by decide +kernel
theorem dX5_init_220 : decode cX5_init 220 = .ok (.putfield 91, 3) := by decide +kernel
theorem dX5_init_223 : decode cX5_init 223 = .ok (.return_, 1) := by decide +kernel
theorem dX5_in_0 : decode cX5_in 0 = .ok (.lload_n 0, 1) := by decide +kernel
theorem dX5_in_1 : decode cX5_in 1 = .ok (.lload_n 2, 1) := by decide +kernel
theorem dX5_in_2 : decode cX5_in 2 = .ok (.lcmp, 1) := by decide +kernel
theorem dX5_in_3 : decode cX5_in 3 = .ok (.ifCond .lt 14, 3) := by decide +kernel
theorem dX5_in_6 : decode cX5_in 6 = .ok (.lload_n 0, 1) := by decide +kernel
theorem dX5_in_7 : decode cX5_in 7 = .ok (.lload 4, 2) := by decide +kernel
theorem dX5_in_9 : decode cX5_in 9 = .ok (.lcmp, 1) := by decide +kernel
theorem dX5_in_10 : decode cX5_in 10 = .ok (.ifCond .gt 7, 3) := by decide +kernel
theorem dX5_in_13 : decode cX5_in 13 = .ok (.iconst 1, 1) := by decide +kernel
theorem dX5_in_14 : decode cX5_in 14 = .ok (.goto 4, 3) := by decide +kernel
theorem dX5_in_17 : decode cX5_in 17 = .ok (.iconst 0, 1) := by decide +kernel
theorem dX5_in_18 : decode cX5_in 18 = .ok (.ireturn, 1) := by decide +kernel
theorem dX5_has_0 : decode cX5_has 0 = .ok (.iload_n 0, 1) := by decide +kernel
theorem dX5_has_1 : decode cX5_has 1 = .ok (.iload_n 1, 1) := by decide +kernel
theorem dX5_has_2 : decode cX5_has 2 = .ok (.ishr, 1) := by decide +kernel
theorem dX5_has_3 : decode cX5_has 3 = .ok (.iconst 1, 1) := by decide +kernel
theorem dX5_has_4 : decode cX5_has 4 = .ok (.iand, 1) := by decide +kernel
theorem dX5_has_5 : decode cX5_has 5 = .ok (.iconst 1, 1) := by decide +kernel
theorem dX5_has_6 : decode cX5_has 6 = .ok (.if_icmp .ne 7, 3) := by decide +kernel
theorem dX5_has_9 : decode cX5_has 9 = .ok (.iconst 1, 1) := by decide +kernel
theorem dX5_has_10 : decode cX5_has 10 = .ok (.goto 4, 3) := by decide +kernel
theorem dX5_has_13 : decode cX5_has 13 = .ok (.iconst 0, 1) := by decide +kernel
theorem dX5_has_14 : decode cX5_has 14 = .ok (.ireturn, 1) := by decide +kernel
set_option maxRecDepth 20000 in
theorem ggX5_isVersion_X5_in : GoodIn wsX5_isVersion wsX5_in := goodIn_r _ [5] rfl (by decide +kernel)
set_option maxRecDepth 20000 in
theorem gX5_isVersion_X5_in : GoodIn wsX5_isVersion (va_wsS RX5 94 yX5_in wsX5_in) := goodIn_app (goodIn_r _ [2, 3, 4] rfl (by decide +kernel)) ggX5_isVersion_X5_in
theorem dX5_isVersion_0 : decode cX5_isVersion 0 = .ok (.iload_n 1, 1) := by decide +kernel
theorem dX5_isVersion_1 : decode cX5_isVersion 1 = .ok (.i2l, 1) := by decide +kernel
theorem dX5_isVersion_2 : decode cX5_isVersion 2 = .ok (.lconst 0, 1) := by decide +kernel
theorem dX5_isVersion_3 : decode cX5_isVersion 3 = .ok (.aload_n 0, 1) := by decide +kernel
theorem dX5_isVersion_4 : decode cX5_isVersion 4 = .ok (.getfield 91, 3) := by decide +kernel
theorem dX5_isVersion_7 : decode cX5_isVersion 7 = .ok (.iconst 1, 1) := by decide +kernel
theorem dX5_isVersion_8 : decode cX5_isVersion 8 = .ok (.isub, 1) := by decide +kernel
theorem dX5_isVersion_9 : decode cX5_isVersion 9 = .ok (.i2l, 1) := by decide +kernel
theorem dX5_isVersion_10 : decode cX5_isVersion 10 = .ok (.invokestatic 94, 3) := by decide +kernel
theorem dX5_isVersion_13 : decode cX5_isVersion 13 = .ok (.ireturn, 1) := by decide +kernel
set_option maxRecDepth 20000 in
theorem ggX5_feed_X5_in : GoodIn wsX5_feed wsX5_in := goodIn_r _ [9] rfl (by decide +kernel)
set_option maxRecDepth 20000 in
theorem gX5_feed_X5_in : GoodIn wsX5_feed (va_wsS RX5 94 yX5_in wsX5_in) := goodIn_app (goodIn_r _ [6, 7, 8] rfl (by decide +kernel)) ggX5_feed_X5_in
theorem dX5_feed_0 : decode cX5_feed 0 = .ok (.iload_n 1, 1) := by decide +kernel
theorem dX5_feed_1 : decode cX5_feed 1 = .ok (.i2l, 1) := by decide +kernel
theorem dX5_feed_2 : decode cX5_feed 2 = .ok (.lconst 0, 1) := by decide +kernel
theorem dX5_feed_3 : decode cX5_feed 3 = .ok (.ldc2_w 98, 3) := by decide +kernel
theorem dX5_feed_6 : decode cX5_feed 6 = .ok (.invokestatic 94, 3) := by decide +kernel
theorem dX5_feed_9 : decode cX5_feed 9 = .ok (.ifCond .ne 6, 3) := by decide +kernel
theorem dX5_feed_12 : decode cX5_feed 12 = .ok (.ldc 100, 2) := by decide +kernel
theorem dX5_feed_14 : decode cX5_feed 14 = .ok (.ireturn, 1) := by decide +kernel
theorem dX5_feed_15 : decode cX5_feed 15 = .ok (.aload_n 0, 1) := by decide +kernel
theorem dX5_feed_16 : decode cX5_feed 16 = .ok (.getfield 101, 3) := by decide +kernel
theorem dX5_feed_19 : decode cX5_feed 19 = .ok (.sipush 240, 3) := by decide +kernel
theorem dX5_feed_22 : decode cX5_feed 22 = .ok (.if_icmp .ne 6, 3) := by decide +kernel
theorem dX5_feed_25 : decode cX5_feed 25 = .ok (.ldc 104, 2) := by decide +kernel
theorem dX5_feed_27 : decode cX5_feed 27 = .ok (.ireturn, 1) := by decide +kernel
theorem dX5_feed_28 : decode cX5_feed 28 = .ok (.aload_n 0, 1) := by decide +kernel
theorem dX5_feed_29 : decode cX5_feed 29 = .ok (.getfield 28, 3) := by decide +kernel
theorem dX5_feed_32 : decode cX5_feed 32 = .ok (.aload_n 0, 1) := by decide +kernel
theorem dX5_feed_33 : decode cX5_feed 33 = .ok (.getfield 101, 3) := by decide +kernel
theorem dX5_feed_36 : decode cX5_feed 36 = .ok (.iload_n 1, 1) := by decide +kernel
theorem dX5_feed_37 : decode cX5_feed 37 = .ok (.iastore, 1) := by decide +kernel
theorem dX5_feed_38 : decode cX5_feed 38 = .ok (.aload_n 0, 1) := by decide +kernel
theorem dX5_feed_39 : decode cX5_feed 39 = .ok (.dup, 1) := by decide +kernel
theorem dX5_feed_40 : decode cX5_feed 40 = .ok (.getfield 101, 3) := by decide +kernel
theorem dX5_feed_43 : decode cX5_feed 43 = .ok (.iconst 1, 1) := by decide +kernel
theorem dX5_feed_44 : decode cX5_feed 44 = .ok (.iadd, 1) := by decide +kernel
theorem dX5_feed_45 : decode cX5_feed 45 = .ok (.putfield 101, 3) := by decide +kernel
theorem dX5_feed_48 : decode cX5_feed 48 = .ok (.aload_n 0, 1) := by decide +kernel
theorem dX5_feed_49 : decode cX5_feed 49 = .ok (.getfield 101, 3) := by decide +kernel
theorem dX5_feed_52 : decode cX5_feed 52 = .ok (.ireturn, 1) := by decide +kernel
theorem dX5_here_0 : decode cX5_here 0 = .ok (.aload_n 0, 1) := by decide +kernel
theorem dX5_here_1 : decode cX5_here 1 = .ok (.getfield 105, 3) := by decide +kernel
theorem dX5_here_4 : decode cX5_here 4 = .ok (.aload_n 0, 1) := by decide +kernel
theorem dX5_here_5 : decode cX5_here 5 = .ok (.getfield 101, 3) := by decide +kernel
theorem dX5_here_8 : decode cX5_here 8 = .ok (.if_icmp .ge 30, 3) := by decide +kernel
theorem dX5_here_11 : decode cX5_here 11 = .ok (.aload_n 0, 1) := by decide +kernel
theorem dX5_here_12 : decode cX5_here 12 = .ok (.getfield 28, 3) := by decide +kernel
theorem dX5_here_15 : decode cX5_here 15 = .ok (.aload_n 0, 1) := by decide +kernel
theorem dX5_here_16 : decode cX5_here 16 = .ok (.getfield 105, 3) := by decide +kernel
theorem dX5_here_19 : decode cX5_here 19 = .ok (.iaload, 1) := by decide +kernel
theorem dX5_here_20 : decode cX5_here 20 = .ok (.bipush 32, 2) := by decide +kernel
theorem dX5_here_22 : decode cX5_here 22 = .ok (.if_icmp .ne 16, 3) := by decide +kernel
theorem dX5_here_25 : decode cX5_here 25 = .ok (.aload_n 0, 1) := by decide +kernel
theorem dX5_here_26 : decode cX5_here 26 = .ok (.dup, 1) := by decide +kernel
theorem dX5_here_27 : decode cX5_here 27 = .ok (.getfield 105, 3) := by decide +kernel
theorem dX5_here_30 : decode cX5_here 30 = .ok (.iconst 1, 1) := by decide +kernel
theorem dX5_here_31 : decode cX5_here 31 = .ok (.iadd, 1) := by decide +kernel
theorem dX5_here_32 : decode cX5_here 32 = .ok (.putfield 105, 3) := by decide +kernel
theorem dX5_here_35 : decode cX5_here 35 = .ok (.goto (-35), 3) := by decide +kernel
theorem dX5_here_38 : decode cX5_here 38 = .ok (.aload_n 0, 1) := by decide +kernel
theorem dX5_here_39 : decode cX5_here 39 = .ok (.getfield 105, 3) := by decide +kernel
theorem dX5_here_42 : decode cX5_here 42 = .ok (.aload_n 0, 1) := by decide +kernel
theorem dX5_here_43 : decode cX5_here 43 = .ok (.getfield 101, 3) := by decide +kernel
theorem dX5_here_46 : decode cX5_here 46 = .ok (.if_icmp .ge 15, 3) := by decide +kernel
theorem dX5_here_49 : decode cX5_here 49 = .ok (.aload_n 0, 1) := by decide +kernel
theorem dX5_here_50 : decode cX5_here 50 = .ok (.getfield 28, 3) := by decide +kernel
theorem dX5_here_53 : decode cX5_here 53 = .ok (.aload_n 0, 1) := by decide +kernel
theorem dX5_here_54 : decode cX5_here 54 = .ok (.getfield 105, 3) := by decide +kernel
theorem dX5_here_57 : decode cX5_here 57 = .ok (.iaload, 1) := by decide +kernel
theorem dX5_here_58 : decode cX5_here 58 = .ok (.goto 4, 3) := by decide +kernel
theorem dX5_here_61 : decode cX5_here 61 = .ok (.iconst (-1), 1) := by decide +kernel
theorem dX5_here_62 : decode cX5_here 62 = .ok (.ireturn, 1) := by decide +kernel
theorem dX5_fails_0 : decode cX5_fails 0 = .ok (.aload_n 0, 1) := by decide +kernel
theorem dX5_fails_1 : decode cX5_fails 1 = .ok (.iload_n 2, 1) := by decide +kernel
theorem dX5_fails_2 : decode cX5_fails 2 = .ok (.putfield 31, 3) := by decide +kernel
theorem dX5_fails_5 : decode cX5_fails 5 = .ok (.iload_n 1, 1) := by decide +kernel
theorem dX5_fails_6 : decode cX5_fails 6 = .ok (.ireturn, 1) := by decide +kernel
set_option maxRecDepth 20000 in
theorem ggX5_takeNumber_X5_here : GoodIn wsX5_takeNumber wsX5_here := goodIn_r _ [12, 3, 6, 7, 21, 22, 23, 24, 25, 26, 27, 28, 29, 30, 31, 32, 33, 34, 35, 36, 37, 38, 39, 40, 41, 42, 43, 44, 45, 46, 47, 48, 49, 50, 51, 52, 53, 54, 55, 56, 57, 58] rfl (by decide +kernel)
set_option maxRecDepth 20000 in
theorem gX5_takeNumber_X5_here : GoodIn wsX5_takeNumber (wsV RX5 108 RX5 yX5_here wsX5_here) := goodIn_app (goodIn_r _ [8, 9, 10, 11] rfl (by decide +kernel)) ggX5_takeNumber_X5_here
set_option maxRecDepth 20000 in
theorem ggX5_takeNumber_X5_in : GoodIn wsX5_takeNumber wsX5_in := goodIn_r _ [15] rfl (by decide +kernel)
set_option maxRecDepth 20000 in
theorem gX5_takeNumber_X5_in : GoodIn wsX5_takeNumber (va_wsS RX5 94 yX5_in wsX5_in) := goodIn_app (goodIn_r _ [13, 14, 11] rfl (by decide +kernel)) ggX5_takeNumber_X5_in
set_option maxRecDepth 20000 in
theorem ggX5_takeNumber_X5_fails : GoodIn wsX5_takeNumber wsX5_fails := goodIn_r _ [19, 20, 21, 22, 23, 24, 25, 26, 27, 28, 29, 30, 31, 32, 33, 34, 35, 36, 37, 38, 39, 40, 41, 42, 43, 44, 45, 46, 47, 48, 49, 50, 51, 52, 53, 54, 55, 56, 57, 58] rfl (by decide +kernel)
set_option maxRecDepth 20000 in
theorem gX5_takeNumber_X5_fails : GoodIn wsX5_takeNumber (wsV RX5 116 RX5 yX5_fails wsX5_fails) := goodIn_app (goodIn_r _ [16, 17, 18, 11] rfl (by decide +kernel)) ggX5_takeNumber_X5_fails
theorem dX5_takeNumber_0 : decode cX5_takeNumber 0 = .ok (.aload_n 0, 1) := by decide +kernel
theorem dX5_takeNumber_1 : decode cX5_takeNumber 1 = .ok (.invokevirtual 108, 3) := by decide +kernel
theorem dX5_takeNumber_4 : decode cX5_takeNumber 4 = .ok (.istore_n 1, 1) := by decide +kernel
theorem dX5_takeNumber_5 : decode cX5_takeNumber 5 = .ok (.iload_n 1, 1) := by decide +kernel
theorem dX5_takeNumber_6 : decode cX5_takeNumber 6 = .ok (.i2l, 1) := by decide +kernel
theorem dX5_takeNumber_7 : decode cX5_takeNumber 7 = .ok (.ldc2_w 112, 3) := by decide +kernel
theorem dX5_takeNumber_10 : decode cX5_takeNumber 10 = .ok (.ldc2_w 114, 3) := by decide +kernel
theorem dX5_takeNumber_13 : decode cX5_takeNumber 13 = .ok (.invokestatic 94, 3) := by decide +kernel
theorem dX5_takeNumber_16 : decode cX5_takeNumber 16 = .ok (.ifCond .ne 13, 3) := by decide +kernel
theorem dX5_takeNumber_19 : decode cX5_takeNumber 19 = .ok (.aload_n 0, 1) := by decide +kernel
theorem dX5_takeNumber_20 : decode cX5_takeNumber 20 = .ok (.iconst 1, 1) := by decide +kernel
theorem dX5_takeNumber_21 : decode cX5_takeNumber 21 = .ok (.aload_n 0, 1) := by decide +kernel
theorem dX5_takeNumber_22 : decode cX5_takeNumber 22 = .ok (.getfield 105, 3) := by decide +kernel
theorem dX5_takeNumber_25 : decode cX5_takeNumber 25 = .ok (.invokevirtual 116, 3) := by decide +kernel
theorem dX5_takeNumber_28 : decode cX5_takeNumber 28 = .ok (.ireturn, 1) := by decide +kernel
theorem dX5_takeNumber_29 : decode cX5_takeNumber 29 = .ok (.aload_n 0, 1) := by decide +kernel
theorem dX5_takeNumber_30 : decode cX5_takeNumber 30 = .ok (.aload_n 0, 1) := by decide +kernel
theorem dX5_takeNumber_31 : decode cX5_takeNumber 31 = .ok (.getfield 105, 3) := by decide +kernel
theorem dX5_takeNumber_34 : decode cX5_takeNumber 34 = .ok (.putfield 120, 3) := by decide +kernel
theorem dX5_takeNumber_37 : decode cX5_takeNumber 37 = .ok (.aload_n 0, 1) := by decide +kernel
theorem dX5_takeNumber_38 : decode cX5_takeNumber 38 = .ok (.iconst 0, 1) := by decide +kernel
theorem dX5_takeNumber_39 : decode cX5_takeNumber 39 = .ok (.putfield 123, 3) := by decide +kernel
theorem dX5_takeNumber_42 : decode cX5_takeNumber 42 = .ok (.aload_n 0, 1) := by decide +kernel
theorem dX5_takeNumber_43 : decode cX5_takeNumber 43 = .ok (.getfield 105, 3) := by decide +kernel
theorem dX5_takeNumber_46 : decode cX5_takeNumber 46 = .ok (.aload_n 0, 1) := by decide +kernel
theorem dX5_takeNumber_47 : decode cX5_takeNumber 47 = .ok (.getfield 101, 3) := by decide +kernel
theorem dX5_takeNumber_50 : decode cX5_takeNumber 50 = .ok (.if_icmp .ge 79, 3) := by decide +kernel
theorem dX5_takeNumber_53 : decode cX5_takeNumber 53 = .ok (.aload_n 0, 1) := by decide +kernel
theorem dX5_takeNumber_54 : decode cX5_takeNumber 54 = .ok (.getfield 28, 3) := by decide +kernel
theorem dX5_takeNumber_57 : decode cX5_takeNumber 57 = .ok (.aload_n 0, 1) := by decide +kernel
theorem dX5_takeNumber_58 : decode cX5_takeNumber 58 = .ok (.getfield 105, 3) := by decide +kernel
theorem dX5_takeNumber_61 : decode cX5_takeNumber 61 = .ok (.iaload, 1) := by decide +kernel
theorem dX5_takeNumber_62 : decode cX5_takeNumber 62 = .ok (.i2l, 1) := by decide +kernel
theorem dX5_takeNumber_63 : decode cX5_takeNumber 63 = .ok (.ldc2_w 112, 3) := by decide +kernel
theorem dX5_takeNumber_66 : decode cX5_takeNumber 66 = .ok (.ldc2_w 114, 3) := by decide +kernel
theorem dX5_takeNumber_69 : decode cX5_takeNumber 69 = .ok (.invokestatic 94, 3) := by decide +kernel
theorem dX5_takeNumber_72 : decode cX5_takeNumber 72 = .ok (.ifCond .eq 57, 3) := by decide +kernel
theorem dX5_takeNumber_75 : decode cX5_takeNumber 75 = .ok (.aload_n 0, 1) := by decide +kernel
theorem dX5_takeNumber_76 : decode cX5_takeNumber 76 = .ok (.aload_n 0, 1) := by decide +kernel
theorem dX5_takeNumber_77 : decode cX5_takeNumber 77 = .ok (.getfield 123, 3) := by decide +kernel
theorem dX5_takeNumber_80 : decode cX5_takeNumber 80 = .ok (.sipush 1000, 3) := by decide +kernel
theorem dX5_takeNumber_83 : decode cX5_takeNumber 83 = .ok (.if_icmp .le 10, 3) := by decide +kernel
theorem dX5_takeNumber_86 : decode cX5_takeNumber 86 = .ok (.aload_n 0, 1) := by decide +kernel
theorem dX5_takeNumber_87 : decode cX5_takeNumber 87 = .ok (.getfield 123, 3) := by decide +kernel
theorem dX5_takeNumber_90 : decode cX5_takeNumber 90 = .ok (.goto 23, 3) := by decide +kernel
theorem dX5_takeNumber_93 : decode cX5_takeNumber 93 = .ok (.bipush 10, 2) := by decide +kernel
theorem dX5_takeNumber_95 : decode cX5_takeNumber 95 = .ok (.aload_n 0, 1) := by decide +kernel
theorem dX5_takeNumber_96 : decode cX5_takeNumber 96 = .ok (.getfield 123, 3) := by decide +kernel
theorem dX5_takeNumber_99 : decode cX5_takeNumber 99 = .ok (.imul, 1) := by decide +kernel
theorem dX5_takeNumber_100 : decode cX5_takeNumber 100 = .ok (.aload_n 0, 1) := by decide +kernel
theorem dX5_takeNumber_101 : decode cX5_takeNumber 101 = .ok (.getfield 28, 3) := by decide +kernel
theorem dX5_takeNumber_104 : decode cX5_takeNumber 104 = .ok (.aload_n 0, 1) := by decide +kernel
theorem dX5_takeNumber_105 : decode cX5_takeNumber 105 = .ok (.getfield 105, 3) := by decide +kernel
theorem dX5_takeNumber_108 : decode cX5_takeNumber 108 = .ok (.iaload, 1) := by decide +kernel
theorem dX5_takeNumber_109 : decode cX5_takeNumber 109 = .ok (.iadd, 1) := by decide +kernel
theorem dX5_takeNumber_110 : decode cX5_takeNumber 110 = .ok (.bipush 48, 2) := by decide +kernel
theorem dX5_takeNumber_112 : decode cX5_takeNumber 112 = .ok (.isub, 1) := by decide +kernel
theorem dX5_takeNumber_113 : decode cX5_takeNumber 113 = .ok (.putfield 123, 3) := by decide +kernel
theorem dX5_takeNumber_116 : decode cX5_takeNumber 116 = .ok (.aload_n 0, 1) := by decide +kernel
theorem dX5_takeNumber_117 : decode cX5_takeNumber 117 = .ok (.dup, 1) := by decide +kernel
theorem dX5_takeNumber_118 : decode cX5_takeNumber 118 = .ok (.getfield 105, 3) := by decide +kernel
theorem dX5_takeNumber_121 : decode cX5_takeNumber 121 = .ok (.iconst 1, 1) := by decide +kernel
theorem dX5_takeNumber_122 : decode cX5_takeNumber 122 = .ok (.iadd, 1) := by decide +kernel
theorem dX5_takeNumber_123 : decode cX5_takeNumber 123 = .ok (.putfield 105, 3) := by decide +kernel
theorem dX5_takeNumber_126 : decode cX5_takeNumber 126 = .ok (.goto (-84), 3) := by decide +kernel
theorem dX5_takeNumber_129 : decode cX5_takeNumber 129 = .ok (.aload_n 0, 1) := by decide +kernel
theorem dX5_takeNumber_130 : decode cX5_takeNumber 130 = .ok (.getfield 105, 3) := by decide +kernel
theorem dX5_takeNumber_133 : decode cX5_takeNumber 133 = .ok (.aload_n 0, 1) := by decide +kernel
theorem dX5_takeNumber_134 : decode cX5_takeNumber 134 = .ok (.getfield 120, 3) := by decide +kernel
theorem dX5_takeNumber_137 : decode cX5_takeNumber 137 = .ok (.isub, 1) := by decide +kernel
theorem dX5_takeNumber_138 : decode cX5_takeNumber 138 = .ok (.iconst 2, 1) := by decide +kernel
theorem dX5_takeNumber_139 : decode cX5_takeNumber 139 = .ok (.if_icmp .le 15, 3) := by decide +kernel
theorem dX5_takeNumber_142 : decode cX5_takeNumber 142 = .ok (.aload_n 0, 1) := by decide +kernel
theorem dX5_takeNumber_143 : decode cX5_takeNumber 143 = .ok (.iconst 2, 1) := by decide +kernel
theorem dX5_takeNumber_144 : decode cX5_takeNumber 144 = .ok (.aload_n 0, 1) := by decide +kernel
theorem dX5_takeNumber_145 : decode cX5_takeNumber 145 = .ok (.getfield 120, 3) := by decide +kernel
theorem dX5_takeNumber_148 : decode cX5_takeNumber 148 = .ok (.invokevirtual 116, 3) := by decide +kernel
theorem dX5_takeNumber_151 : decode cX5_takeNumber 151 = .ok (.goto 4, 3) := by decide +kernel
theorem dX5_takeNumber_154 : decode cX5_takeNumber 154 = .ok (.iconst 0, 1) := by decide +kernel
theorem dX5_takeNumber_155 : decode cX5_takeNumber 155 = .ok (.ireturn, 1) := by decide +kernel
set_option maxRecDepth 20000 in
theorem ggX5_takeVersionNumber_X5_takeNumber : GoodIn wsX5_takeVersionNumber wsX5_takeNumber := goodIn_r _ [8, 9, 10, 11, 3, 1, 12, 13, 14, 15, 16, 7, 17, 18, 19, 20, 21, 22, 23, 24, 25, 26, 27, 28, 29, 30, 31, 32, 33, 34, 35, 36, 37, 38, 39, 40, 41, 42, 43, 44, 45, 46, 47, 48, 49, 50, 51, 52, 53, 54, 55, 56, 57, 58, 59, 60, 61, 62, 63] rfl (by decide +kernel)
set_option maxRecDepth 20000 in
theorem gX5_takeVersionNumber_X5_takeNumber : GoodIn wsX5_takeVersionNumber (wsV RX5 126 RX5 yX5_takeNumber wsX5_takeNumber) := goodIn_app (goodIn_r _ [4, 5, 6, 7] rfl (by decide +kernel)) ggX5_takeVersionNumber_X5_takeNumber
set_option maxRecDepth 20000 in
theorem ggX5_takeVersionNumber_X5_fails : GoodIn wsX5_takeVersionNumber wsX5_fails := goodIn_r _ [24, 25, 26, 27, 28, 29, 30, 31, 32, 33, 34, 35, 36, 37, 38, 39, 40, 41, 42, 43, 44, 45, 46, 47, 48, 49, 50, 51, 52, 53, 54, 55, 56, 57, 58, 59, 60, 61, 62, 63] rfl (by decide +kernel)
set_option maxRecDepth 20000 in
theorem gX5_takeVersionNumber_X5_fails : GoodIn wsX5_takeVersionNumber (wsV RX5 116 RX5 yX5_fails wsX5_fails) := goodIn_app (goodIn_r _ [21, 22, 23, 7] rfl (by decide +kernel)) ggX5_takeVersionNumber_X5_fails
theorem dX5_takeVersionNumber_0 : decode cX5_takeVersionNumber 0 = .ok (.aload_n 0, 1) := by decide +kernel
theorem dX5_takeVersionNumber_1 : decode cX5_takeVersionNumber 1 = .ok (.invokevirtual 126, 3) := by decide +kernel
theorem dX5_takeVersionNumber_4 : decode cX5_takeVersionNumber 4 = .ok (.istore_n 1, 1) := by decide +kernel
theorem dX5_takeVersionNumber_5 : decode cX5_takeVersionNumber 5 = .ok (.iload_n 1, 1) := by decide +kernel
theorem dX5_takeVersionNumber_6 : decode cX5_takeVersionNumber 6 = .ok (.ifCond .ne 26, 3) := by decide +kernel
theorem dX5_takeVersionNumber_9 : decode cX5_takeVersionNumber 9 = .ok (.aload_n 0, 1) := by decide +kernel
theorem dX5_takeVersionNumber_10 : decode cX5_takeVersionNumber 10 = .ok (.getfield 123, 3) := by decide +kernel
theorem dX5_takeVersionNumber_13 : decode cX5_takeVersionNumber 13 = .ok (.aload_n 0, 1) := by decide +kernel
theorem dX5_takeVersionNumber_14 : decode cX5_takeVersionNumber 14 = .ok (.getfield 129, 3) := by decide +kernel
theorem dX5_takeVersionNumber_17 : decode cX5_takeVersionNumber 17 = .ok (.if_icmp .lt 15, 3) := by decide +kernel
theorem dX5_takeVersionNumber_20 : decode cX5_takeVersionNumber 20 = .ok (.aload_n 0, 1) := by decide +kernel
theorem dX5_takeVersionNumber_21 : decode cX5_takeVersionNumber 21 = .ok (.iconst 2, 1) := by decide +kernel
theorem dX5_takeVersionNumber_22 : decode cX5_takeVersionNumber 22 = .ok (.aload_n 0, 1) := by decide +kernel
theorem dX5_takeVersionNumber_23 : decode cX5_takeVersionNumber 23 = .ok (.getfield 120, 3) := by decide +kernel
theorem dX5_takeVersionNumber_26 : decode cX5_takeVersionNumber 26 = .ok (.invokevirtual 116, 3) := by decide +kernel
theorem dX5_takeVersionNumber_29 : decode cX5_takeVersionNumber 29 = .ok (.goto 4, 3) := by decide +kernel
theorem dX5_takeVersionNumber_32 : decode cX5_takeVersionNumber 32 = .ok (.iload_n 1, 1) := by decide +kernel
theorem dX5_takeVersionNumber_33 : decode cX5_takeVersionNumber 33 = .ok (.ireturn, 1) := by decide +kernel
set_option maxRecDepth 20000 in
theorem ggX5_takeOthers_X5_here : GoodIn wsX5_takeOthers wsX5_here := goodIn_r _ [11, 1, 12, 13, 35, 36, 37, 38, 39, 40, 41, 42, 43, 44, 45, 46, 47, 48, 49, 50, 51, 52, 53, 54, 55, 56, 57, 58, 59, 60, 61, 62, 63, 64, 65, 66, 67, 68, 69, 70, 71, 72] rfl (by decide +kernel)
set_option maxRecDepth 20000 in
theorem gX5_takeOthers_X5_here : GoodIn wsX5_takeOthers (wsV RX5 108 RX5 yX5_here wsX5_here) := goodIn_app (goodIn_r _ [7, 8, 9, 10] rfl (by decide +kernel)) ggX5_takeOthers_X5_here
set_option maxRecDepth 20000 in
theorem ggX5_takeOthers_X5_takeVersionNumber : GoodIn wsX5_takeOthers wsX5_takeVersionNumber := goodIn_r _ [17, 5, 3, 6, 18, 19, 20, 10, 21, 22, 23, 1, 12, 13, 7, 8, 9, 11, 24, 25, 26, 27, 28, 29, 30, 31, 35, 36, 37, 38, 39, 40, 41, 42, 43, 44, 45, 46, 47, 48, 49, 50, 51, 52, 53, 54, 55, 56, 57, 58, 59, 60, 61, 62, 63, 64, 65, 66, 67, 68, 69, 70, 71, 72] rfl (by decide +kernel)
set_option maxRecDepth 20000 in
theorem gX5_takeOthers_X5_takeVersionNumber : GoodIn wsX5_takeOthers (wsV RX5 132 RX5 yX5_takeVersionNumber wsX5_takeVersionNumber) := goodIn_app (goodIn_r _ [14, 15, 16, 10] rfl (by decide +kernel)) ggX5_takeOthers_X5_takeVersionNumber
set_option maxRecDepth 20000 in
theorem ggX5_takeOthers_X5_has : GoodIn wsX5_takeOthers wsX5_has := goodIn_r _ [34] rfl (by decide +kernel)
set_option maxRecDepth 20000 in
theorem gX5_takeOthers_X5_has : GoodIn wsX5_takeOthers (va_wsS RX5 135 yX5_has wsX5_has) := goodIn_app (goodIn_r _ [32, 33, 10] rfl (by decide +kernel)) ggX5_takeOthers_X5_has
set_option maxRecDepth 20000 in
theorem ggX5_takeOthers_X5_fails : GoodIn wsX5_takeOthers wsX5_fails := goodIn_r _ [30, 31, 35, 36, 37, 38, 39, 40, 41, 42, 43, 44, 45, 46, 47, 48, 49, 50, 51, 52, 53, 54, 55, 56, 57, 58, 59, 60, 61, 62, 63, 64, 65, 66, 67, 68, 69, 70, 71, 72] rfl (by decide +kernel)
set_option maxRecDepth 20000 in
theorem gX5_takeOthers_X5_fails : GoodIn wsX5_takeOthers (wsV RX5 116 RX5 yX5_fails wsX5_fails) := goodIn_app (goodIn_r _ [27, 28, 29, 10] rfl (by decide +kernel)) ggX5_takeOthers_X5_fails
theorem dX5_takeOthers_0 : decode cX5_takeOthers 0 = .ok (.iconst 0, 1) := by decide +kernel
theorem dX5_takeOthers_1 : decode cX5_takeOthers 1 = .ok (.istore_n 3, 1) := by decide +kernel
theorem dX5_takeOthers_2 : decode cX5_takeOthers 2 = .ok (.iload_n 3, 1) := by decide +kernel
theorem dX5_takeOthers_3 : decode cX5_takeOthers 3 = .ok (.ifCond .ne 103, 3) := by decide +kernel
theorem dX5_takeOthers_6 : decode cX5_takeOthers 6 = .ok (.aload_n 0, 1) := by decide +kernel
theorem dX5_takeOthers_7 : decode cX5_takeOthers 7 = .ok (.invokevirtual 108, 3) := by decide +kernel
theorem dX5_takeOthers_10 : decode cX5_takeOthers 10 = .ok (.iload_n 1, 1) := by decide +kernel
theorem dX5_takeOthers_11 : decode cX5_takeOthers 11 = .ok (.if_icmp .ne 95, 3) := by decide +kernel
theorem dX5_takeOthers_14 : decode cX5_takeOthers 14 = .ok (.aload_n 0, 1) := by decide +kernel
theorem dX5_takeOthers_15 : decode cX5_takeOthers 15 = .ok (.dup, 1) := by decide +kernel
theorem dX5_takeOthers_16 : decode cX5_takeOthers 16 = .ok (.getfield 105, 3) := by decide +kernel
theorem dX5_takeOthers_19 : decode cX5_takeOthers 19 = .ok (.iconst 1, 1) := by decide +kernel
theorem dX5_takeOthers_20 : decode cX5_takeOthers 20 = .ok (.iadd, 1) := by decide +kernel
theorem dX5_takeOthers_21 : decode cX5_takeOthers 21 = .ok (.putfield 105, 3) := by decide +kernel
theorem dX5_takeOthers_24 : decode cX5_takeOthers 24 = .ok (.aload_n 0, 1) := by decide +kernel
theorem dX5_takeOthers_25 : decode cX5_takeOthers 25 = .ok (.invokevirtual 132, 3) := by decide +kernel
theorem dX5_takeOthers_28 : decode cX5_takeOthers 28 = .ok (.istore_n 3, 1) := by decide +kernel
theorem dX5_takeOthers_29 : decode cX5_takeOthers 29 = .ok (.aload_n 0, 1) := by decide +kernel
theorem dX5_takeOthers_30 : decode cX5_takeOthers 30 = .ok (.getfield 38, 3) := by decide +kernel
theorem dX5_takeOthers_33 : decode cX5_takeOthers 33 = .ok (.aload_n 0, 1) := by decide +kernel
theorem dX5_takeOthers_34 : decode cX5_takeOthers 34 = .ok (.getfield 129, 3) := by decide +kernel
theorem dX5_takeOthers_37 : decode cX5_takeOthers 37 = .ok (.iaload, 1) := by decide +kernel
theorem dX5_takeOthers_38 : decode cX5_takeOthers 38 = .ok (.aload_n 0, 1) := by decide +kernel
theorem dX5_takeOthers_39 : decode cX5_takeOthers 39 = .ok (.getfield 41, 3) := by decide +kernel
theorem dX5_takeOthers_42 : decode cX5_takeOthers 42 = .ok (.aload_n 0, 1) := by decide +kernel
theorem dX5_takeOthers_43 : decode cX5_takeOthers 43 = .ok (.getfield 129, 3) := by decide +kernel
theorem dX5_takeOthers_46 : decode cX5_takeOthers 46 = .ok (.iaload, 1) := by decide +kernel
theorem dX5_takeOthers_47 : decode cX5_takeOthers 47 = .ok (.ior, 1) := by decide +kernel
theorem dX5_takeOthers_48 : decode cX5_takeOthers 48 = .ok (.istore 4, 2) := by decide +kernel
theorem dX5_takeOthers_50 : decode cX5_takeOthers 50 = .ok (.iload_n 3, 1) := by decide +kernel
theorem dX5_takeOthers_51 : decode cX5_takeOthers 51 = .ok (.ifCond .ne 27, 3) := by decide +kernel
theorem dX5_takeOthers_54 : decode cX5_takeOthers 54 = .ok (.iload 4, 2) := by decide +kernel
theorem dX5_takeOthers_56 : decode cX5_takeOthers 56 = .ok (.aload_n 0, 1) := by decide +kernel
theorem dX5_takeOthers_57 : decode cX5_takeOthers 57 = .ok (.getfield 123, 3) := by decide +kernel
theorem dX5_takeOthers_60 : decode cX5_takeOthers 60 = .ok (.invokestatic 135, 3) := by decide +kernel
theorem dX5_takeOthers_63 : decode cX5_takeOthers 63 = .ok (.ifCond .eq 15, 3) := by decide +kernel
theorem dX5_takeOthers_66 : decode cX5_takeOthers 66 = .ok (.aload_n 0, 1) := by decide +kernel
theorem dX5_takeOthers_67 : decode cX5_takeOthers 67 = .ok (.iconst 4, 1) := by decide +kernel
theorem dX5_takeOthers_68 : decode cX5_takeOthers 68 = .ok (.aload_n 0, 1) := by decide +kernel
theorem dX5_takeOthers_69 : decode cX5_takeOthers 69 = .ok (.getfield 120, 3) := by decide +kernel
theorem dX5_takeOthers_72 : decode cX5_takeOthers 72 = .ok (.invokevirtual 116, 3) := by decide +kernel
theorem dX5_takeOthers_75 : decode cX5_takeOthers 75 = .ok (.goto 4, 3) := by decide +kernel
theorem dX5_takeOthers_78 : decode cX5_takeOthers 78 = .ok (.iload_n 3, 1) := by decide +kernel
theorem dX5_takeOthers_79 : decode cX5_takeOthers 79 = .ok (.istore_n 3, 1) := by decide +kernel
theorem dX5_takeOthers_80 : decode cX5_takeOthers 80 = .ok (.aload_n 2, 1) := by decide +kernel
theorem dX5_takeOthers_81 : decode cX5_takeOthers 81 = .ok (.aload_n 0, 1) := by decide +kernel
theorem dX5_takeOthers_82 : decode cX5_takeOthers 82 = .ok (.getfield 129, 3) := by decide +kernel
theorem dX5_takeOthers_85 : decode cX5_takeOthers 85 = .ok (.dup2, 1) := by decide +kernel
theorem dX5_takeOthers_86 : decode cX5_takeOthers 86 = .ok (.iaload, 1) := by decide +kernel
theorem dX5_takeOthers_87 : decode cX5_takeOthers 87 = .ok (.iload_n 3, 1) := by decide +kernel
theorem dX5_takeOthers_88 : decode cX5_takeOthers 88 = .ok (.ifCond .ne 12, 3) := by decide +kernel
theorem dX5_takeOthers_91 : decode cX5_takeOthers 91 = .ok (.iconst 1, 1) := by decide +kernel
theorem dX5_takeOthers_92 : decode cX5_takeOthers 92 = .ok (.aload_n 0, 1) := by decide +kernel
theorem dX5_takeOthers_93 : decode cX5_takeOthers 93 = .ok (.getfield 123, 3) := by decide +kernel
theorem dX5_takeOthers_96 : decode cX5_takeOthers 96 = .ok (.ishl, 1) := by decide +kernel
theorem dX5_takeOthers_97 : decode cX5_takeOthers 97 = .ok (.goto 4, 3) := by decide +kernel
theorem dX5_takeOthers_100 : decode cX5_takeOthers 100 = .ok (.iconst 0, 1) := by decide +kernel
theorem dX5_takeOthers_101 : decode cX5_takeOthers 101 = .ok (.ior, 1) := by decide +kernel
theorem dX5_takeOthers_102 : decode cX5_takeOthers 102 = .ok (.iastore, 1) := by decide +kernel
theorem dX5_takeOthers_103 : decode cX5_takeOthers 103 = .ok (.goto (-101), 3) := by decide +kernel
theorem dX5_takeOthers_106 : decode cX5_takeOthers 106 = .ok (.iload_n 3, 1) := by decide +kernel
theorem dX5_takeOthers_107 : decode cX5_takeOthers 107 = .ok (.ireturn, 1) := by decide +kernel
set_option maxRecDepth 20000 in
theorem ggX5_takeVersion_X5_fails : GoodIn wsX5_takeVersion wsX5_fails := goodIn_r _ [12, 13, 40, 41, 42, 43, 44, 45, 46, 47, 48, 49, 50, 51, 52, 53, 54, 55, 56, 57, 58, 59, 60, 61, 62, 63, 64, 65, 66, 67, 68, 69, 70, 71, 72, 73, 74, 75, 76, 77] rfl (by decide +kernel)
set_option maxRecDepth 20000 in
theorem gX5_takeVersion_X5_fails : GoodIn wsX5_takeVersion (wsV RX5 116 RX5 yX5_fails wsX5_fails) := goodIn_app (goodIn_r _ [8, 9, 10, 11] rfl (by decide +kernel)) ggX5_takeVersion_X5_fails
set_option maxRecDepth 20000 in
theorem ggX5_takeVersion_X5_takeNumber : GoodIn wsX5_takeVersion wsX5_takeNumber := goodIn_r _ [17, 18, 19, 2, 4, 3, 20, 21, 22, 23, 24, 11, 25, 26, 27, 28, 8, 9, 10, 12, 13, 40, 41, 42, 43, 44, 45, 46, 47, 48, 49, 50, 51, 52, 53, 54, 55, 56, 57, 58, 59, 60, 61, 62, 63, 64, 65, 66, 67, 68, 69, 70, 71, 72, 73, 74, 75, 76, 77] rfl (by decide +kernel)
set_option maxRecDepth 20000 in
theorem gX5_takeVersion_X5_takeNumber : GoodIn wsX5_takeVersion (wsV RX5 126 RX5 yX5_takeNumber wsX5_takeNumber) := goodIn_app (goodIn_r _ [14, 15, 16, 11] rfl (by decide +kernel)) ggX5_takeVersion_X5_takeNumber
set_option maxRecDepth 20000 in
theorem ggX5_takeVersion_X5_takeOthers : GoodIn wsX5_takeVersion wsX5_takeOthers := goodIn_r _ [32, 2, 6, 1, 7, 3, 4, 22, 23, 24, 11, 25, 20, 21, 33, 34, 35, 36, 14, 15, 16, 17, 18, 19, 26, 27, 28, 8, 9, 10, 12, 13, 37, 38, 39, 40, 41, 42, 43, 44, 45, 46, 47, 48, 49, 50, 51, 52, 53, 54, 55, 56, 57, 58, 59, 60, 61, 62, 63, 64, 65, 66, 67, 68, 69, 70, 71, 72, 73, 74, 75, 76, 77] rfl (by decide +kernel)
set_option maxRecDepth 20000 in
theorem gX5_takeVersion_X5_takeOthers : GoodIn wsX5_takeVersion (wsV RX5 139 RX5 yX5_takeOthers wsX5_takeOthers) := goodIn_app (goodIn_r _ [29, 30, 31, 11] rfl (by decide +kernel)) ggX5_takeVersion_X5_takeOthers
set_option maxRecDepth 20000 in
theorem ggX5_takeVersion_X5_here : GoodIn wsX5_takeVersion wsX5_here := goodIn_r _ [25, 2, 20, 21, 40, 41, 42, 43, 44, 45, 46, 47, 48, 49, 50, 51, 52, 53, 54, 55, 56, 57, 58, 59, 60, 61, 62, 63, 64, 65, 66, 67, 68, 69, 70, 71, 72, 73, 74, 75, 76, 77] rfl (by decide +kernel)
set_option maxRecDepth 20000 in
theorem gX5_takeVersion_X5_here : GoodIn wsX5_takeVersion (wsV RX5 108 RX5 yX5_here wsX5_here) := goodIn_app (goodIn_r _ [22, 23, 24, 11] rfl (by decide +kernel)) ggX5_takeVersion_X5_here
theorem dX5_takeVersion_0 : decode cX5_takeVersion 0 = .ok (.aload_n 0, 1) := by decide +kernel
theorem dX5_takeVersion_1 : decode cX5_takeVersion 1 = .ok (.getfield 129, 3) := by decide +kernel
theorem dX5_takeVersion_4 : decode cX5_takeVersion 4 = .ok (.bipush 24, 2) := by decide +kernel
theorem dX5_takeVersion_6 : decode cX5_takeVersion 6 = .ok (.if_icmp .ne 13, 3) := by decide +kernel
theorem dX5_takeVersion_9 : decode cX5_takeVersion 9 = .ok (.aload_n 0, 1) := by decide +kernel
theorem dX5_takeVersion_10 : decode cX5_takeVersion 10 = .ok (.iconst 3, 1) := by decide +kernel
theorem dX5_takeVersion_11 : decode cX5_takeVersion 11 = .ok (.aload_n 0, 1) := by decide +kernel
theorem dX5_takeVersion_12 : decode cX5_takeVersion 12 = .ok (.getfield 105, 3) := by decide +kernel
theorem dX5_takeVersion_15 : decode cX5_takeVersion 15 = .ok (.invokevirtual 116, 3) := by decide +kernel
theorem dX5_takeVersion_18 : decode cX5_takeVersion 18 = .ok (.ireturn, 1) := by decide +kernel
theorem dX5_takeVersion_19 : decode cX5_takeVersion 19 = .ok (.aload_n 0, 1) := by decide +kernel
theorem dX5_takeVersion_20 : decode cX5_takeVersion 20 = .ok (.dup, 1) := by decide +kernel
theorem dX5_takeVersion_21 : decode cX5_takeVersion 21 = .ok (.getfield 105, 3) := by decide +kernel
theorem dX5_takeVersion_24 : decode cX5_takeVersion 24 = .ok (.iconst 1, 1) := by decide +kernel
theorem dX5_takeVersion_25 : decode cX5_takeVersion 25 = .ok (.iadd, 1) := by decide +kernel
theorem dX5_takeVersion_26 : decode cX5_takeVersion 26 = .ok (.putfield 105, 3) := by decide +kernel
theorem dX5_takeVersion_29 : decode cX5_takeVersion 29 = .ok (.aload_n 0, 1) := by decide +kernel
theorem dX5_takeVersion_30 : decode cX5_takeVersion 30 = .ok (.invokevirtual 126, 3) := by decide +kernel
theorem dX5_takeVersion_33 : decode cX5_takeVersion 33 = .ok (.istore_n 1, 1) := by decide +kernel
theorem dX5_takeVersion_34 : decode cX5_takeVersion 34 = .ok (.iload_n 1, 1) := by decide +kernel
theorem dX5_takeVersion_35 : decode cX5_takeVersion 35 = .ok (.ifCond .ne 33, 3) := by decide +kernel
theorem dX5_takeVersion_38 : decode cX5_takeVersion 38 = .ok (.aload_n 0, 1) := by decide +kernel
theorem dX5_takeVersion_39 : decode cX5_takeVersion 39 = .ok (.getfield 123, 3) := by decide +kernel
theorem dX5_takeVersion_42 : decode cX5_takeVersion 42 = .ok (.bipush 99, 2) := by decide +kernel
theorem dX5_takeVersion_44 : decode cX5_takeVersion 44 = .ok (.if_icmp .eq 24, 3) := by decide +kernel
theorem dX5_takeVersion_47 : decode cX5_takeVersion 47 = .ok (.aload_n 0, 1) := by decide +kernel
theorem dX5_takeVersion_48 : decode cX5_takeVersion 48 = .ok (.getfield 123, 3) := by decide +kernel
theorem dX5_takeVersion_51 : decode cX5_takeVersion 51 = .ok (.aload_n 0, 1) := by decide +kernel
theorem dX5_takeVersion_52 : decode cX5_takeVersion 52 = .ok (.getfield 129, 3) := by decide +kernel
theorem dX5_takeVersion_55 : decode cX5_takeVersion 55 = .ok (.if_icmp .lt 13, 3) := by decide +kernel
theorem dX5_takeVersion_58 : decode cX5_takeVersion 58 = .ok (.aload_n 0, 1) := by decide +kernel
theorem dX5_takeVersion_59 : decode cX5_takeVersion 59 = .ok (.iconst 2, 1) := by decide +kernel
theorem dX5_takeVersion_60 : decode cX5_takeVersion 60 = .ok (.aload_n 0, 1) := by decide +kernel
theorem dX5_takeVersion_61 : decode cX5_takeVersion 61 = .ok (.getfield 120, 3) := by decide +kernel
theorem dX5_takeVersion_64 : decode cX5_takeVersion 64 = .ok (.invokevirtual 116, 3) := by decide +kernel
theorem dX5_takeVersion_67 : decode cX5_takeVersion 67 = .ok (.ireturn, 1) := by decide +kernel
theorem dX5_takeVersion_68 : decode cX5_takeVersion 68 = .ok (.iload_n 1, 1) := by decide +kernel
theorem dX5_takeVersion_69 : decode cX5_takeVersion 69 = .ok (.ifCond .le 5, 3) := by decide +kernel
theorem dX5_takeVersion_72 : decode cX5_takeVersion 72 = .ok (.iload_n 1, 1) := by decide +kernel
theorem dX5_takeVersion_73 : decode cX5_takeVersion 73 = .ok (.ireturn, 1) := by decide +kernel
theorem dX5_takeVersion_74 : decode cX5_takeVersion 74 = .ok (.aload_n 0, 1) := by decide +kernel
theorem dX5_takeVersion_75 : decode cX5_takeVersion 75 = .ok (.getfield 35, 3) := by decide +kernel
theorem dX5_takeVersion_78 : decode cX5_takeVersion 78 = .ok (.aload_n 0, 1) := by decide +kernel
theorem dX5_takeVersion_79 : decode cX5_takeVersion 79 = .ok (.getfield 129, 3) := by decide +kernel
theorem dX5_takeVersion_82 : decode cX5_takeVersion 82 = .ok (.aload_n 0, 1) := by decide +kernel
theorem dX5_takeVersion_83 : decode cX5_takeVersion 83 = .ok (.getfield 123, 3) := by decide +kernel
theorem dX5_takeVersion_86 : decode cX5_takeVersion 86 = .ok (.bipush 99, 2) := by decide +kernel
theorem dX5_takeVersion_88 : decode cX5_takeVersion 88 = .ok (.if_icmp .ne 7, 3) := by decide +kernel
theorem dX5_takeVersion_91 : decode cX5_takeVersion 91 = .ok (.iconst (-1), 1) := by decide +kernel
theorem dX5_takeVersion_92 : decode cX5_takeVersion 92 = .ok (.goto 7, 3) := by decide +kernel
theorem dX5_takeVersion_95 : decode cX5_takeVersion 95 = .ok (.aload_n 0, 1) := by decide +kernel
theorem dX5_takeVersion_96 : decode cX5_takeVersion 96 = .ok (.getfield 123, 3) := by decide +kernel
theorem dX5_takeVersion_99 : decode cX5_takeVersion 99 = .ok (.iastore, 1) := by decide +kernel
theorem dX5_takeVersion_100 : decode cX5_takeVersion 100 = .ok (.aload_n 0, 1) := by decide +kernel
theorem dX5_takeVersion_101 : decode cX5_takeVersion 101 = .ok (.getfield 38, 3) := by decide +kernel
theorem dX5_takeVersion_104 : decode cX5_takeVersion 104 = .ok (.aload_n 0, 1) := by decide +kernel
theorem dX5_takeVersion_105 : decode cX5_takeVersion 105 = .ok (.getfield 129, 3) := by decide +kernel
theorem dX5_takeVersion_108 : decode cX5_takeVersion 108 = .ok (.iconst 0, 1) := by decide +kernel
theorem dX5_takeVersion_109 : decode cX5_takeVersion 109 = .ok (.iastore, 1) := by decide +kernel
theorem dX5_takeVersion_110 : decode cX5_takeVersion 110 = .ok (.aload_n 0, 1) := by decide +kernel
theorem dX5_takeVersion_111 : decode cX5_takeVersion 111 = .ok (.getfield 41, 3) := by decide +kernel
theorem dX5_takeVersion_114 : decode cX5_takeVersion 114 = .ok (.aload_n 0, 1) := by decide +kernel
theorem dX5_takeVersion_115 : decode cX5_takeVersion 115 = .ok (.getfield 129, 3) := by decide +kernel
theorem dX5_takeVersion_118 : decode cX5_takeVersion 118 = .ok (.iconst 0, 1) := by decide +kernel
theorem dX5_takeVersion_119 : decode cX5_takeVersion 119 = .ok (.iastore, 1) := by decide +kernel
theorem dX5_takeVersion_120 : decode cX5_takeVersion 120 = .ok (.aload_n 0, 1) := by decide +kernel
theorem dX5_takeVersion_121 : decode cX5_takeVersion 121 = .ok (.bipush 43, 2) := by decide +kernel
theorem dX5_takeVersion_123 : decode cX5_takeVersion 123 = .ok (.aload_n 0, 1) := by decide +kernel
theorem dX5_takeVersion_124 : decode cX5_takeVersion 124 = .ok (.getfield 38, 3) := by decide +kernel
theorem dX5_takeVersion_127 : decode cX5_takeVersion 127 = .ok (.invokevirtual 139, 3) := by decide +kernel
theorem dX5_takeVersion_130 : decode cX5_takeVersion 130 = .ok (.istore_n 1, 1) := by decide +kernel
theorem dX5_takeVersion_131 : decode cX5_takeVersion 131 = .ok (.iload_n 1, 1) := by decide +kernel
theorem dX5_takeVersion_132 : decode cX5_takeVersion 132 = .ok (.ifCond .le 7, 3) := by decide +kernel
theorem dX5_takeVersion_135 : decode cX5_takeVersion 135 = .ok (.iload_n 1, 1) := by decide +kernel
theorem dX5_takeVersion_136 : decode cX5_takeVersion 136 = .ok (.goto 13, 3) := by decide +kernel
theorem dX5_takeVersion_139 : decode cX5_takeVersion 139 = .ok (.aload_n 0, 1) := by decide +kernel
theorem dX5_takeVersion_140 : decode cX5_takeVersion 140 = .ok (.bipush 45, 2) := by decide +kernel
theorem dX5_takeVersion_142 : decode cX5_takeVersion 142 = .ok (.aload_n 0, 1) := by decide +kernel
theorem dX5_takeVersion_143 : decode cX5_takeVersion 143 = .ok (.getfield 41, 3) := by decide +kernel
theorem dX5_takeVersion_146 : decode cX5_takeVersion 146 = .ok (.invokevirtual 139, 3) := by decide +kernel
theorem dX5_takeVersion_149 : decode cX5_takeVersion 149 = .ok (.istore_n 1, 1) := by decide +kernel
theorem dX5_takeVersion_150 : decode cX5_takeVersion 150 = .ok (.iload_n 1, 1) := by decide +kernel
theorem dX5_takeVersion_151 : decode cX5_takeVersion 151 = .ok (.ifCond .ne 22, 3) := by decide +kernel
theorem dX5_takeVersion_154 : decode cX5_takeVersion 154 = .ok (.aload_n 0, 1) := by decide +kernel
theorem dX5_takeVersion_155 : decode cX5_takeVersion 155 = .ok (.invokevirtual 108, 3) := by decide +kernel
theorem dX5_takeVersion_158 : decode cX5_takeVersion 158 = .ok (.bipush 59, 2) := by decide +kernel
theorem dX5_takeVersion_160 : decode cX5_takeVersion 160 = .ok (.if_icmp .eq 13, 3) := by decide +kernel
theorem dX5_takeVersion_163 : decode cX5_takeVersion 163 = .ok (.aload_n 0, 1) := by decide +kernel
theorem dX5_takeVersion_164 : decode cX5_takeVersion 164 = .ok (.iconst 1, 1) := by decide +kernel
theorem dX5_takeVersion_165 : decode cX5_takeVersion 165 = .ok (.aload_n 0, 1) := by decide +kernel
theorem dX5_takeVersion_166 : decode cX5_takeVersion 166 = .ok (.getfield 105, 3) := by decide +kernel
theorem dX5_takeVersion_169 : decode cX5_takeVersion 169 = .ok (.invokevirtual 116, 3) := by decide +kernel
theorem dX5_takeVersion_172 : decode cX5_takeVersion 172 = .ok (.ireturn, 1) := by decide +kernel
theorem dX5_takeVersion_173 : decode cX5_takeVersion 173 = .ok (.aload_n 0, 1) := by decide +kernel
theorem dX5_takeVersion_174 : decode cX5_takeVersion 174 = .ok (.dup, 1) := by decide +kernel
theorem dX5_takeVersion_175 : decode cX5_takeVersion 175 = .ok (.getfield 105, 3) := by decide +kernel
theorem dX5_takeVersion_178 : decode cX5_takeVersion 178 = .ok (.iconst 1, 1) := by decide +kernel
theorem dX5_takeVersion_179 : decode cX5_takeVersion 179 = .ok (.iadd, 1) := by decide +kernel
theorem dX5_takeVersion_180 : decode cX5_takeVersion 180 = .ok (.putfield 105, 3) := by decide +kernel
theorem dX5_takeVersion_183 : decode cX5_takeVersion 183 = .ok (.aload_n 0, 1) := by decide +kernel
theorem dX5_takeVersion_184 : decode cX5_takeVersion 184 = .ok (.dup, 1) := by decide +kernel
theorem dX5_takeVersion_185 : decode cX5_takeVersion 185 = .ok (.getfield 129, 3) := by decide +kernel
theorem dX5_takeVersion_188 : decode cX5_takeVersion 188 = .ok (.iconst 1, 1) := by decide +kernel
theorem dX5_takeVersion_189 : decode cX5_takeVersion 189 = .ok (.iadd, 1) := by decide +kernel
theorem dX5_takeVersion_190 : decode cX5_takeVersion 190 = .ok (.putfield 129, 3) := by decide +kernel
theorem dX5_takeVersion_193 : decode cX5_takeVersion 193 = .ok (.iload_n 1, 1) := by decide +kernel
theorem dX5_takeVersion_194 : decode cX5_takeVersion 194 = .ok (.ireturn, 1) := by decide +kernel
theorem dX5_mayBlock_0 : decode cX5_mayBlock 0 = .ok (.iconst 1, 1) := by decide +kernel
theorem dX5_mayBlock_1 : decode cX5_mayBlock 1 = .ok (.istore_n 3, 1) := by decide +kernel
theorem dX5_mayBlock_2 : decode cX5_mayBlock 2 = .ok (.iconst 0, 1) := by decide +kernel
theorem dX5_mayBlock_3 : decode cX5_mayBlock 3 = .ok (.istore 4, 2) := by decide +kernel
theorem dX5_mayBlock_5 : decode cX5_mayBlock 5 = .ok (.iload 4, 2) := by decide +kernel
theorem dX5_mayBlock_7 : decode cX5_mayBlock 7 = .ok (.aload_n 0, 1) := by decide +kernel
theorem dX5_mayBlock_8 : decode cX5_mayBlock 8 = .ok (.getfield 143, 3) := by decide +kernel
theorem dX5_mayBlock_11 : decode cX5_mayBlock 11 = .ok (.if_icmp .ge 58, 3) := by decide +kernel
theorem dX5_mayBlock_14 : decode cX5_mayBlock 14 = .ok (.iload_n 3, 1) := by decide +kernel
theorem dX5_mayBlock_15 : decode cX5_mayBlock 15 = .ok (.ifCond .eq 46, 3) := by decide +kernel
theorem dX5_mayBlock_18 : decode cX5_mayBlock 18 = .ok (.aload_n 0, 1) := by decide +kernel
theorem dX5_mayBlock_19 : decode cX5_mayBlock 19 = .ok (.getfield 56, 3) := by decide +kernel
theorem dX5_mayBlock_22 : decode cX5_mayBlock 22 = .ok (.iload 4, 2) := by decide +kernel
theorem dX5_mayBlock_24 : decode cX5_mayBlock 24 = .ok (.baload, 1) := by decide +kernel
theorem dX5_mayBlock_25 : decode cX5_mayBlock 25 = .ok (.ifCond .eq 17, 3) := by decide +kernel
theorem dX5_mayBlock_28 : decode cX5_mayBlock 28 = .ok (.iload_n 1, 1) := by decide +kernel
theorem dX5_mayBlock_29 : decode cX5_mayBlock 29 = .ok (.aload_n 0, 1) := by decide +kernel
theorem dX5_mayBlock_30 : decode cX5_mayBlock 30 = .ok (.getfield 53, 3) := by decide +kernel
theorem dX5_mayBlock_33 : decode cX5_mayBlock 33 = .ok (.iload 4, 2) := by decide +kernel
theorem dX5_mayBlock_35 : decode cX5_mayBlock 35 = .ok (.iaload, 1) := by decide +kernel
theorem dX5_mayBlock_36 : decode cX5_mayBlock 36 = .ok (.if_icmp .le 25, 3) := by decide +kernel
theorem dX5_mayBlock_39 : decode cX5_mayBlock 39 = .ok (.goto 18, 3) := by decide +kernel
theorem dX5_mayBlock_42 : decode cX5_mayBlock 42 = .ok (.iload_n 2, 1) := by decide +kernel
theorem dX5_mayBlock_43 : decode cX5_mayBlock 43 = .ok (.ifCond .ne 14, 3) := by decide +kernel
theorem dX5_mayBlock_46 : decode cX5_mayBlock 46 = .ok (.iload_n 1, 1) := by decide +kernel
theorem dX5_mayBlock_47 : decode cX5_mayBlock 47 = .ok (.aload_n 0, 1) := by decide +kernel
theorem dX5_mayBlock_48 : decode cX5_mayBlock 48 = .ok (.getfield 53, 3) := by decide +kernel
theorem dX5_mayBlock_51 : decode cX5_mayBlock 51 = .ok (.iload 4, 2) := by decide +kernel
theorem dX5_mayBlock_53 : decode cX5_mayBlock 53 = .ok (.iaload, 1) := by decide +kernel
theorem dX5_mayBlock_54 : decode cX5_mayBlock 54 = .ok (.if_icmp .eq 7, 3) := by decide +kernel
theorem dX5_mayBlock_57 : decode cX5_mayBlock 57 = .ok (.iconst 1, 1) := by decide +kernel
theorem dX5_mayBlock_58 : decode cX5_mayBlock 58 = .ok (.goto 4, 3) := by decide +kernel
theorem dX5_mayBlock_61 : decode cX5_mayBlock 61 = .ok (.iconst 0, 1) := by decide +kernel
theorem dX5_mayBlock_62 : decode cX5_mayBlock 62 = .ok (.istore_n 3, 1) := by decide +kernel
theorem dX5_mayBlock_63 : decode cX5_mayBlock 63 = .ok (.iinc 4 1, 3) := by decide +kernel
theorem dX5_mayBlock_66 : decode cX5_mayBlock 66 = .ok (.goto (-61), 3) := by decide +kernel
theorem dX5_mayBlock_69 : decode cX5_mayBlock 69 = .ok (.iload_n 3, 1) := by decide +kernel
theorem dX5_mayBlock_70 : decode cX5_mayBlock 70 = .ok (.ireturn, 1) := by decide +kernel
set_option maxRecDepth 20000 in
theorem ggX5_takeBlock_X5_takeVersionNumber : GoodIn wsX5_takeBlock wsX5_takeVersionNumber := goodIn_r _ [11, 2, 12, 3, 13, 14, 15, 10, 16, 17, 18, 1, 19, 20, 21, 22, 23, 24, 25, 26, 27, 28, 29, 30, 31, 32, 37, 38, 39, 40, 41, 42, 43, 44, 45, 46, 47, 48, 49, 50, 51, 52, 53, 54, 55, 56, 57, 58, 59, 60, 61, 62, 63, 64, 65, 66, 67, 68, 69, 70, 71, 72, 73, 74] rfl (by decide +kernel)
set_option maxRecDepth 20000 in
theorem gX5_takeBlock_X5_takeVersionNumber : GoodIn wsX5_takeBlock (wsV RX5 132 RX5 yX5_takeVersionNumber wsX5_takeVersionNumber) := goodIn_app (goodIn_r _ [7, 8, 9, 10] rfl (by decide +kernel)) ggX5_takeBlock_X5_takeVersionNumber
set_option maxRecDepth 20000 in
theorem ggX5_takeBlock_X5_mayBlock : GoodIn wsX5_takeBlock wsX5_mayBlock := goodIn_r _ [36, 5, 6, 4, 37, 38, 39, 40, 41, 42, 43, 44, 45, 46, 47, 48, 49, 50, 51, 52, 53, 54, 55, 56, 57, 58, 59, 60, 61, 62, 63, 64, 65, 66, 67, 68, 69, 70, 71, 72, 73, 74] rfl (by decide +kernel)
set_option maxRecDepth 20000 in
theorem gX5_takeBlock_X5_mayBlock : GoodIn wsX5_takeBlock (wsV RX5 146 RX5 yX5_mayBlock wsX5_mayBlock) := goodIn_app (goodIn_r _ [33, 34, 35, 10] rfl (by decide +kernel)) ggX5_takeBlock_X5_mayBlock
set_option maxRecDepth 20000 in
theorem ggX5_takeBlock_X5_fails : GoodIn wsX5_takeBlock wsX5_fails := goodIn_r _ [31, 32, 37, 38, 39, 40, 41, 42, 43, 44, 45, 46, 47, 48, 49, 50, 51, 52, 53, 54, 55, 56, 57, 58, 59, 60, 61, 62, 63, 64, 65, 66, 67, 68, 69, 70, 71, 72, 73, 74] rfl (by decide +kernel)
set_option maxRecDepth 20000 in
theorem gX5_takeBlock_X5_fails : GoodIn wsX5_takeBlock (wsV RX5 116 RX5 yX5_fails wsX5_fails) := goodIn_app (goodIn_r _ [28, 29, 30, 10] rfl (by decide +kernel)) ggX5_takeBlock_X5_fails
set_option maxRecDepth 20000 in
theorem ggX5_takeBlock_X5_here : GoodIn wsX5_takeBlock wsX5_here := goodIn_r _ [24, 1, 19, 20, 37, 38, 39, 40, 41, 42, 43, 44, 45, 46, 47, 48, 49, 50, 51, 52, 53, 54, 55, 56, 57, 58, 59, 60, 61, 62, 63, 64, 65, 66, 67, 68, 69, 70, 71, 72, 73, 74] rfl (by decide +kernel)
set_option maxRecDepth 20000 in
theorem gX5_takeBlock_X5_here : GoodIn wsX5_takeBlock (wsV RX5 108 RX5 yX5_here wsX5_here) := goodIn_app (goodIn_r _ [21, 22, 23, 10] rfl (by decide +kernel)) ggX5_takeBlock_X5_here
theorem dX5_takeBlock_0 : decode cX5_takeBlock 0 = .ok (.aload_n 0, 1) := by decide +kernel
theorem dX5_takeBlock_1 : decode cX5_takeBlock 1 = .ok (.dup, 1) := by decide +kernel
theorem dX5_takeBlock_2 : decode cX5_takeBlock 2 = .ok (.getfield 105, 3) := by decide +kernel
theorem dX5_takeBlock_5 : decode cX5_takeBlock 5 = .ok (.iconst 1, 1) := by decide +kernel
theorem dX5_takeBlock_6 : decode cX5_takeBlock 6 = .ok (.iadd, 1) := by decide +kernel
theorem dX5_takeBlock_7 : decode cX5_takeBlock 7 = .ok (.putfield 105, 3) := by decide +kernel
theorem dX5_takeBlock_10 : decode cX5_takeBlock 10 = .ok (.aload_n 0, 1) := by decide +kernel
theorem dX5_takeBlock_11 : decode cX5_takeBlock 11 = .ok (.invokevirtual 132, 3) := by decide +kernel
theorem dX5_takeBlock_14 : decode cX5_takeBlock 14 = .ok (.istore_n 2, 1) := by decide +kernel
theorem dX5_takeBlock_15 : decode cX5_takeBlock 15 = .ok (.iload_n 2, 1) := by decide +kernel
theorem dX5_takeBlock_16 : decode cX5_takeBlock 16 = .ok (.ifCond .ne 25, 3) := by decide +kernel
theorem dX5_takeBlock_19 : decode cX5_takeBlock 19 = .ok (.aload_n 0, 1) := by decide +kernel
theorem dX5_takeBlock_20 : decode cX5_takeBlock 20 = .ok (.aload_n 0, 1) := by decide +kernel
theorem dX5_takeBlock_21 : decode cX5_takeBlock 21 = .ok (.getfield 123, 3) := by decide +kernel
theorem dX5_takeBlock_24 : decode cX5_takeBlock 24 = .ok (.iload_n 1, 1) := by decide +kernel
theorem dX5_takeBlock_25 : decode cX5_takeBlock 25 = .ok (.invokevirtual 146, 3) := by decide +kernel
theorem dX5_takeBlock_28 : decode cX5_takeBlock 28 = .ok (.ifCond .ne 13, 3) := by decide +kernel
theorem dX5_takeBlock_31 : decode cX5_takeBlock 31 = .ok (.aload_n 0, 1) := by decide +kernel
theorem dX5_takeBlock_32 : decode cX5_takeBlock 32 = .ok (.iconst 4, 1) := by decide +kernel
theorem dX5_takeBlock_33 : decode cX5_takeBlock 33 = .ok (.aload_n 0, 1) := by decide +kernel
theorem dX5_takeBlock_34 : decode cX5_takeBlock 34 = .ok (.getfield 120, 3) := by decide +kernel
theorem dX5_takeBlock_37 : decode cX5_takeBlock 37 = .ok (.invokevirtual 116, 3) := by decide +kernel
theorem dX5_takeBlock_40 : decode cX5_takeBlock 40 = .ok (.ireturn, 1) := by decide +kernel
theorem dX5_takeBlock_41 : decode cX5_takeBlock 41 = .ok (.iload_n 2, 1) := by decide +kernel
theorem dX5_takeBlock_42 : decode cX5_takeBlock 42 = .ok (.ifCond .le 5, 3) := by decide +kernel
theorem dX5_takeBlock_45 : decode cX5_takeBlock 45 = .ok (.iload_n 2, 1) := by decide +kernel
theorem dX5_takeBlock_46 : decode cX5_takeBlock 46 = .ok (.ireturn, 1) := by decide +kernel
theorem dX5_takeBlock_47 : decode cX5_takeBlock 47 = .ok (.aload_n 0, 1) := by decide +kernel
theorem dX5_takeBlock_48 : decode cX5_takeBlock 48 = .ok (.getfield 53, 3) := by decide +kernel
theorem dX5_takeBlock_51 : decode cX5_takeBlock 51 = .ok (.aload_n 0, 1) := by decide +kernel
theorem dX5_takeBlock_52 : decode cX5_takeBlock 52 = .ok (.getfield 143, 3) := by decide +kernel
theorem dX5_takeBlock_55 : decode cX5_takeBlock 55 = .ok (.aload_n 0, 1) := by decide +kernel
theorem dX5_takeBlock_56 : decode cX5_takeBlock 56 = .ok (.getfield 123, 3) := by decide +kernel
theorem dX5_takeBlock_59 : decode cX5_takeBlock 59 = .ok (.iastore, 1) := by decide +kernel
theorem dX5_takeBlock_60 : decode cX5_takeBlock 60 = .ok (.aload_n 0, 1) := by decide +kernel
theorem dX5_takeBlock_61 : decode cX5_takeBlock 61 = .ok (.getfield 56, 3) := by decide +kernel
theorem dX5_takeBlock_64 : decode cX5_takeBlock 64 = .ok (.aload_n 0, 1) := by decide +kernel
theorem dX5_takeBlock_65 : decode cX5_takeBlock 65 = .ok (.getfield 143, 3) := by decide +kernel
theorem dX5_takeBlock_68 : decode cX5_takeBlock 68 = .ok (.iload_n 1, 1) := by decide +kernel
theorem dX5_takeBlock_69 : decode cX5_takeBlock 69 = .ok (.bastore, 1) := by decide +kernel
theorem dX5_takeBlock_70 : decode cX5_takeBlock 70 = .ok (.aload_n 0, 1) := by decide +kernel
theorem dX5_takeBlock_71 : decode cX5_takeBlock 71 = .ok (.invokevirtual 108, 3) := by decide +kernel
theorem dX5_takeBlock_74 : decode cX5_takeBlock 74 = .ok (.bipush 40, 2) := by decide +kernel
theorem dX5_takeBlock_76 : decode cX5_takeBlock 76 = .ok (.if_icmp .eq 13, 3) := by decide +kernel
theorem dX5_takeBlock_79 : decode cX5_takeBlock 79 = .ok (.aload_n 0, 1) := by decide +kernel
theorem dX5_takeBlock_80 : decode cX5_takeBlock 80 = .ok (.iconst 1, 1) := by decide +kernel
theorem dX5_takeBlock_81 : decode cX5_takeBlock 81 = .ok (.aload_n 0, 1) := by decide +kernel
theorem dX5_takeBlock_82 : decode cX5_takeBlock 82 = .ok (.getfield 105, 3) := by decide +kernel
theorem dX5_takeBlock_85 : decode cX5_takeBlock 85 = .ok (.invokevirtual 116, 3) := by decide +kernel
theorem dX5_takeBlock_88 : decode cX5_takeBlock 88 = .ok (.ireturn, 1) := by decide +kernel
theorem dX5_takeBlock_89 : decode cX5_takeBlock 89 = .ok (.aload_n 0, 1) := by decide +kernel
theorem dX5_takeBlock_90 : decode cX5_takeBlock 90 = .ok (.dup, 1) := by decide +kernel
theorem dX5_takeBlock_91 : decode cX5_takeBlock 91 = .ok (.getfield 105, 3) := by decide +kernel
theorem dX5_takeBlock_94 : decode cX5_takeBlock 94 = .ok (.iconst 1, 1) := by decide +kernel
theorem dX5_takeBlock_95 : decode cX5_takeBlock 95 = .ok (.iadd, 1) := by decide +kernel
theorem dX5_takeBlock_96 : decode cX5_takeBlock 96 = .ok (.putfield 105, 3) := by decide +kernel
theorem dX5_takeBlock_99 : decode cX5_takeBlock 99 = .ok (.aload_n 0, 1) := by decide +kernel
theorem dX5_takeBlock_100 : decode cX5_takeBlock 100 = .ok (.dup, 1) := by decide +kernel
theorem dX5_takeBlock_101 : decode cX5_takeBlock 101 = .ok (.getfield 143, 3) := by decide +kernel
theorem dX5_takeBlock_104 : decode cX5_takeBlock 104 = .ok (.iconst 1, 1) := by decide +kernel
theorem dX5_takeBlock_105 : decode cX5_takeBlock 105 = .ok (.iadd, 1) := by decide +kernel
theorem dX5_takeBlock_106 : decode cX5_takeBlock 106 = .ok (.putfield 143, 3) := by decide +kernel
theorem dX5_takeBlock_109 : decode cX5_takeBlock 109 = .ok (.iconst 0, 1) := by decide +kernel
theorem dX5_takeBlock_110 : decode cX5_takeBlock 110 = .ok (.ireturn, 1) := by decide +kernel
set_option maxRecDepth 20000 in
theorem ggX5_takeLine_X5_fails : GoodIn wsX5_takeLine wsX5_fails := goodIn_r _ [13, 14, 15, 16, 17, 18, 19, 20, 21, 22, 23, 24, 25, 26, 27, 28, 29, 30, 31, 32, 33, 34, 35, 36, 37, 38, 39, 40, 41, 42, 43, 44, 45, 46, 47, 48, 49, 50, 51, 52] rfl (by decide +kernel)
set_option maxRecDepth 20000 in
theorem gX5_takeLine_X5_fails : GoodIn wsX5_takeLine (wsV RX5 116 RX5 yX5_fails wsX5_fails) := goodIn_app (goodIn_r _ [9, 10, 11, 12] rfl (by decide +kernel)) ggX5_takeLine_X5_fails
theorem dX5_takeLine_0 : decode cX5_takeLine 0 = .ok (.iconst (-1), 1) := by decide +kernel
theorem dX5_takeLine_1 : decode cX5_takeLine 1 = .ok (.istore_n 2, 1) := by decide +kernel
theorem dX5_takeLine_2 : decode cX5_takeLine 2 = .ok (.iconst 0, 1) := by decide +kernel
theorem dX5_takeLine_3 : decode cX5_takeLine 3 = .ok (.istore_n 3, 1) := by decide +kernel
theorem dX5_takeLine_4 : decode cX5_takeLine 4 = .ok (.iconst 0, 1) := by decide +kernel
theorem dX5_takeLine_5 : decode cX5_takeLine 5 = .ok (.istore 4, 2) := by decide +kernel
theorem dX5_takeLine_7 : decode cX5_takeLine 7 = .ok (.iload 4, 2) := by decide +kernel
theorem dX5_takeLine_9 : decode cX5_takeLine 9 = .ok (.aload_n 0, 1) := by decide +kernel
theorem dX5_takeLine_10 : decode cX5_takeLine 10 = .ok (.getfield 143, 3) := by decide +kernel
theorem dX5_takeLine_13 : decode cX5_takeLine 13 = .ok (.if_icmp .ge 57, 3) := by decide +kernel
theorem dX5_takeLine_16 : decode cX5_takeLine 16 = .ok (.aload_n 0, 1) := by decide +kernel
theorem dX5_takeLine_17 : decode cX5_takeLine 17 = .ok (.getfield 56, 3) := by decide +kernel
theorem dX5_takeLine_20 : decode cX5_takeLine 20 = .ok (.iload 4, 2) := by decide +kernel
theorem dX5_takeLine_22 : decode cX5_takeLine 22 = .ok (.baload, 1) := by decide +kernel
theorem dX5_takeLine_23 : decode cX5_takeLine 23 = .ok (.ifCond .eq 13, 3) := by decide +kernel
theorem dX5_takeLine_26 : decode cX5_takeLine 26 = .ok (.aload_n 0, 1) := by decide +kernel
theorem dX5_takeLine_27 : decode cX5_takeLine 27 = .ok (.getfield 53, 3) := by decide +kernel
theorem dX5_takeLine_30 : decode cX5_takeLine 30 = .ok (.iload 4, 2) := by decide +kernel
theorem dX5_takeLine_32 : decode cX5_takeLine 32 = .ok (.iaload, 1) := by decide +kernel
theorem dX5_takeLine_33 : decode cX5_takeLine 33 = .ok (.goto 4, 3) := by decide +kernel
theorem dX5_takeLine_36 : decode cX5_takeLine 36 = .ok (.iload_n 2, 1) := by decide +kernel
theorem dX5_takeLine_37 : decode cX5_takeLine 37 = .ok (.istore_n 2, 1) := by decide +kernel
theorem dX5_takeLine_38 : decode cX5_takeLine 38 = .ok (.iload_n 3, 1) := by decide +kernel
theorem dX5_takeLine_39 : decode cX5_takeLine 39 = .ok (.aload_n 0, 1) := by decide +kernel
theorem dX5_takeLine_40 : decode cX5_takeLine 40 = .ok (.getfield 56, 3) := by decide +kernel
theorem dX5_takeLine_43 : decode cX5_takeLine 43 = .ok (.iload 4, 2) := by decide +kernel
theorem dX5_takeLine_45 : decode cX5_takeLine 45 = .ok (.baload, 1) := by decide +kernel
theorem dX5_takeLine_46 : decode cX5_takeLine 46 = .ok (.ifCond .eq 7, 3) := by decide +kernel
theorem dX5_takeLine_49 : decode cX5_takeLine 49 = .ok (.iconst 0, 1) := by decide +kernel
theorem dX5_takeLine_50 : decode cX5_takeLine 50 = .ok (.goto 12, 3) := by decide +kernel
theorem dX5_takeLine_53 : decode cX5_takeLine 53 = .ok (.iconst 1, 1) := by decide +kernel
theorem dX5_takeLine_54 : decode cX5_takeLine 54 = .ok (.aload_n 0, 1) := by decide +kernel
theorem dX5_takeLine_55 : decode cX5_takeLine 55 = .ok (.getfield 53, 3) := by decide +kernel
theorem dX5_takeLine_58 : decode cX5_takeLine 58 = .ok (.iload 4, 2) := by decide +kernel
theorem dX5_takeLine_60 : decode cX5_takeLine 60 = .ok (.iaload, 1) := by decide +kernel
theorem dX5_takeLine_61 : decode cX5_takeLine 61 = .ok (.ishl, 1) := by decide +kernel
theorem dX5_takeLine_62 : decode cX5_takeLine 62 = .ok (.ior, 1) := by decide +kernel
theorem dX5_takeLine_63 : decode cX5_takeLine 63 = .ok (.istore_n 3, 1) := by decide +kernel
theorem dX5_takeLine_64 : decode cX5_takeLine 64 = .ok (.iinc 4 1, 3) := by decide +kernel
theorem dX5_takeLine_67 : decode cX5_takeLine 67 = .ok (.goto (-60), 3) := by decide +kernel
theorem dX5_takeLine_70 : decode cX5_takeLine 70 = .ok (.iload_n 2, 1) := by decide +kernel
theorem dX5_takeLine_71 : decode cX5_takeLine 71 = .ok (.ifCond .ge 13, 3) := by decide +kernel
theorem dX5_takeLine_74 : decode cX5_takeLine 74 = .ok (.aload_n 0, 1) := by decide +kernel
theorem dX5_takeLine_75 : decode cX5_takeLine 75 = .ok (.iconst 1, 1) := by decide +kernel
theorem dX5_takeLine_76 : decode cX5_takeLine 76 = .ok (.aload_n 0, 1) := by decide +kernel
theorem dX5_takeLine_77 : decode cX5_takeLine 77 = .ok (.getfield 105, 3) := by decide +kernel
theorem dX5_takeLine_80 : decode cX5_takeLine 80 = .ok (.invokevirtual 116, 3) := by decide +kernel
theorem dX5_takeLine_83 : decode cX5_takeLine 83 = .ok (.ireturn, 1) := by decide +kernel
theorem dX5_takeLine_84 : decode cX5_takeLine 84 = .ok (.aload_n 0, 1) := by decide +kernel
theorem dX5_takeLine_85 : decode cX5_takeLine 85 = .ok (.getfield 150, 3) := by decide +kernel
theorem dX5_takeLine_88 : decode cX5_takeLine 88 = .ok (.bipush 120, 2) := by decide +kernel
theorem dX5_takeLine_90 : decode cX5_takeLine 90 = .ok (.if_icmp .ne 13, 3) := by decide +kernel
theorem dX5_takeLine_93 : decode cX5_takeLine 93 = .ok (.aload_n 0, 1) := by decide +kernel
theorem dX5_takeLine_94 : decode cX5_takeLine 94 = .ok (.iconst 3, 1) := by decide +kernel
theorem dX5_takeLine_95 : decode cX5_takeLine 95 = .ok (.aload_n 0, 1) := by decide +kernel
theorem dX5_takeLine_96 : decode cX5_takeLine 96 = .ok (.getfield 105, 3) := by decide +kernel
theorem dX5_takeLine_99 : decode cX5_takeLine 99 = .ok (.invokevirtual 116, 3) := by decide +kernel
theorem dX5_takeLine_102 : decode cX5_takeLine 102 = .ok (.ireturn, 1) := by decide +kernel
theorem dX5_takeLine_103 : decode cX5_takeLine 103 = .ok (.iload_n 3, 1) := by decide +kernel
theorem dX5_takeLine_104 : decode cX5_takeLine 104 = .ok (.iconst 2, 1) := by decide +kernel
theorem dX5_takeLine_105 : decode cX5_takeLine 105 = .ok (.iload_n 2, 1) := by decide +kernel
theorem dX5_takeLine_106 : decode cX5_takeLine 106 = .ok (.ishl, 1) := by decide +kernel
theorem dX5_takeLine_107 : decode cX5_takeLine 107 = .ok (.iconst 1, 1) := by decide +kernel
theorem dX5_takeLine_108 : decode cX5_takeLine 108 = .ok (.isub, 1) := by decide +kernel
theorem dX5_takeLine_109 : decode cX5_takeLine 109 = .ok (.iand, 1) := by decide +kernel
theorem dX5_takeLine_110 : decode cX5_takeLine 110 = .ok (.ifCond .eq 13, 3) := by decide +kernel
theorem dX5_takeLine_113 : decode cX5_takeLine 113 = .ok (.aload_n 0, 1) := by decide +kernel
theorem dX5_takeLine_114 : decode cX5_takeLine 114 = .ok (.iconst 4, 1) := by decide +kernel
theorem dX5_takeLine_115 : decode cX5_takeLine 115 = .ok (.aload_n 0, 1) := by decide +kernel
theorem dX5_takeLine_116 : decode cX5_takeLine 116 = .ok (.getfield 105, 3) := by decide +kernel
theorem dX5_takeLine_119 : decode cX5_takeLine 119 = .ok (.invokevirtual 116, 3) := by decide +kernel
theorem dX5_takeLine_122 : decode cX5_takeLine 122 = .ok (.ireturn, 1) := by decide +kernel
theorem dX5_takeLine_123 : decode cX5_takeLine 123 = .ok (.aload_n 0, 1) := by decide +kernel
theorem dX5_takeLine_124 : decode cX5_takeLine 124 = .ok (.getfield 44, 3) := by decide +kernel
theorem dX5_takeLine_127 : decode cX5_takeLine 127 = .ok (.aload_n 0, 1) := by decide +kernel
theorem dX5_takeLine_128 : decode cX5_takeLine 128 = .ok (.getfield 150, 3) := by decide +kernel
theorem dX5_takeLine_131 : decode cX5_takeLine 131 = .ok (.iload_n 1, 1) := by decide +kernel
theorem dX5_takeLine_132 : decode cX5_takeLine 132 = .ok (.iastore, 1) := by decide +kernel
theorem dX5_takeLine_133 : decode cX5_takeLine 133 = .ok (.aload_n 0, 1) := by decide +kernel
theorem dX5_takeLine_134 : decode cX5_takeLine 134 = .ok (.getfield 47, 3) := by decide +kernel
theorem dX5_takeLine_137 : decode cX5_takeLine 137 = .ok (.aload_n 0, 1) := by decide +kernel
theorem dX5_takeLine_138 : decode cX5_takeLine 138 = .ok (.getfield 150, 3) := by decide +kernel
theorem dX5_takeLine_141 : decode cX5_takeLine 141 = .ok (.iload_n 2, 1) := by decide +kernel
theorem dX5_takeLine_142 : decode cX5_takeLine 142 = .ok (.iastore, 1) := by decide +kernel
theorem dX5_takeLine_143 : decode cX5_takeLine 143 = .ok (.aload_n 0, 1) := by decide +kernel
theorem dX5_takeLine_144 : decode cX5_takeLine 144 = .ok (.getfield 50, 3) := by decide +kernel
theorem dX5_takeLine_147 : decode cX5_takeLine 147 = .ok (.aload_n 0, 1) := by decide +kernel
theorem dX5_takeLine_148 : decode cX5_takeLine 148 = .ok (.getfield 150, 3) := by decide +kernel
theorem dX5_takeLine_151 : decode cX5_takeLine 151 = .ok (.iload_n 3, 1) := by decide +kernel
theorem dX5_takeLine_152 : decode cX5_takeLine 152 = .ok (.iastore, 1) := by decide +kernel
theorem dX5_takeLine_153 : decode cX5_takeLine 153 = .ok (.aload_n 0, 1) := by decide +kernel
theorem dX5_takeLine_154 : decode cX5_takeLine 154 = .ok (.dup, 1) := by decide +kernel
theorem dX5_takeLine_155 : decode cX5_takeLine 155 = .ok (.getfield 150, 3) := by decide +kernel
theorem dX5_takeLine_158 : decode cX5_takeLine 158 = .ok (.iconst 1, 1) := by decide +kernel
theorem dX5_takeLine_159 : decode cX5_takeLine 159 = .ok (.iadd, 1) := by decide +kernel
theorem dX5_takeLine_160 : decode cX5_takeLine 160 = .ok (.putfield 150, 3) := by decide +kernel
theorem dX5_takeLine_163 : decode cX5_takeLine 163 = .ok (.aload_n 0, 1) := by decide +kernel
theorem dX5_takeLine_164 : decode cX5_takeLine 164 = .ok (.dup, 1) := by decide +kernel
theorem dX5_takeLine_165 : decode cX5_takeLine 165 = .ok (.getfield 105, 3) := by decide +kernel
theorem dX5_takeLine_168 : decode cX5_takeLine 168 = .ok (.iconst 1, 1) := by decide +kernel
theorem dX5_takeLine_169 : decode cX5_takeLine 169 = .ok (.iadd, 1) := by decide +kernel
theorem dX5_takeLine_170 : decode cX5_takeLine 170 = .ok (.putfield 105, 3) := by decide +kernel
theorem dX5_takeLine_173 : decode cX5_takeLine 173 = .ok (.iconst 0, 1) := by decide +kernel
theorem dX5_takeLine_174 : decode cX5_takeLine 174 = .ok (.ireturn, 1) := by decide +kernel
set_option maxRecDepth 20000 in
theorem ggX5_takeItem_X5_here : GoodIn wsX5_takeItem wsX5_here := goodIn_r _ [9, 4, 10, 11, 65, 66, 67, 68, 69, 70, 71, 72, 73, 74, 75, 76, 77, 78, 79, 80, 81, 82, 83, 84, 85, 86, 87, 88, 89, 90, 91, 92, 93, 94, 95, 96, 97, 98, 99, 100, 101, 102] rfl (by decide +kernel)
set_option maxRecDepth 20000 in
theorem gX5_takeItem_X5_here : GoodIn wsX5_takeItem (wsV RX5 108 RX5 yX5_here wsX5_here) := goodIn_app (goodIn_r _ [5, 6, 7, 8] rfl (by decide +kernel)) ggX5_takeItem_X5_here
set_option maxRecDepth 20000 in
theorem ggX5_takeItem_X5_takeVersion : GoodIn wsX5_takeItem wsX5_takeVersion := goodIn_r _ [15, 16, 4, 17, 18, 19, 20, 21, 22, 23, 24, 8, 25, 26, 27, 28, 29, 30, 31, 32, 10, 11, 5, 6, 7, 9, 33, 34, 35, 36, 37, 38, 39, 40, 41, 42, 43, 44, 45, 46, 65, 66, 67, 68, 69, 70, 71, 72, 73, 74, 75, 76, 77, 78, 79, 80, 81, 82, 83, 84, 85, 86, 87, 88, 89, 90, 91, 92, 93, 94, 95, 96, 97, 98, 99, 100, 101, 102] rfl (by decide +kernel)
set_option maxRecDepth 20000 in
theorem gX5_takeItem_X5_takeVersion : GoodIn wsX5_takeItem (wsV RX5 153 RX5 yX5_takeVersion wsX5_takeVersion) := goodIn_app (goodIn_r _ [12, 13, 14, 8] rfl (by decide +kernel)) ggX5_takeItem_X5_takeVersion
set_option maxRecDepth 20000 in
theorem ggX5_takeItem_X5_takeBlock : GoodIn wsX5_takeItem wsX5_takeBlock := goodIn_r _ [50, 4, 17, 18, 51, 3, 52, 40, 41, 42, 8, 43, 16, 27, 28, 29, 30, 31, 32, 10, 11, 5, 6, 7, 9, 33, 34, 35, 22, 23, 24, 25, 26, 53, 54, 55, 56, 65, 66, 67, 68, 69, 70, 71, 72, 73, 74, 75, 76, 77, 78, 79, 80, 81, 82, 83, 84, 85, 86, 87, 88, 89, 90, 91, 92, 93, 94, 95, 96, 97, 98, 99, 100, 101, 102] rfl (by decide +kernel)
set_option maxRecDepth 20000 in
theorem gX5_takeItem_X5_takeBlock : GoodIn wsX5_takeItem (wsV RX5 156 RX5 yX5_takeBlock wsX5_takeBlock) := goodIn_app (goodIn_r _ [47, 48, 49, 8] rfl (by decide +kernel)) ggX5_takeItem_X5_takeBlock
set_option maxRecDepth 20000 in
theorem ggX5_takeItem_X5_in : GoodIn wsX5_takeItem wsX5_in := goodIn_r _ [35] rfl (by decide +kernel)
set_option maxRecDepth 20000 in
theorem gX5_takeItem_X5_in : GoodIn wsX5_takeItem (va_wsS RX5 94 yX5_in wsX5_in) := goodIn_app (goodIn_r _ [33, 34, 8] rfl (by decide +kernel)) ggX5_takeItem_X5_in
set_option maxRecDepth 20000 in
theorem ggX5_takeItem_X5_takeLine : GoodIn wsX5_takeItem wsX5_takeLine := goodIn_r _ [60, 3, 52, 51, 4, 61, 62, 63, 64, 22, 23, 24, 8, 25, 26, 65, 66, 67, 68, 69, 70, 71, 72, 73, 74, 75, 76, 77, 78, 79, 80, 81, 82, 83, 84, 85, 86, 87, 88, 89, 90, 91, 92, 93, 94, 95, 96, 97, 98, 99, 100, 101, 102] rfl (by decide +kernel)
set_option maxRecDepth 20000 in
theorem gX5_takeItem_X5_takeLine : GoodIn wsX5_takeItem (wsV RX5 164 RX5 yX5_takeLine wsX5_takeLine) := goodIn_app (goodIn_r _ [57, 58, 59, 8] rfl (by decide +kernel)) ggX5_takeItem_X5_takeLine
set_option maxRecDepth 20000 in
theorem ggX5_takeItem_X5_fails : GoodIn wsX5_takeItem wsX5_fails := goodIn_r _ [25, 26, 65, 66, 67, 68, 69, 70, 71, 72, 73, 74, 75, 76, 77, 78, 79, 80, 81, 82, 83, 84, 85, 86, 87, 88, 89, 90, 91, 92, 93, 94, 95, 96, 97, 98, 99, 100, 101, 102] rfl (by decide +kernel)
set_option maxRecDepth 20000 in
theorem gX5_takeItem_X5_fails : GoodIn wsX5_takeItem (wsV RX5 116 RX5 yX5_fails wsX5_fails) := goodIn_app (goodIn_r _ [22, 23, 24, 8] rfl (by decide +kernel)) ggX5_takeItem_X5_fails
theorem dX5_takeItem_0 : decode cX5_takeItem 0 = .ok (.aload_n 0, 1) := by decide +kernel
theorem dX5_takeItem_1 : decode cX5_takeItem 1 = .ok (.invokevirtual 108, 3) := by decide +kernel
theorem dX5_takeItem_4 : decode cX5_takeItem 4 = .ok (.istore_n 2, 1) := by decide +kernel
theorem dX5_takeItem_5 : decode cX5_takeItem 5 = .ok (.iload_n 2, 1) := by decide +kernel
theorem dX5_takeItem_6 : decode cX5_takeItem 6 = .ok (.bipush 118, 2) := by decide +kernel
theorem dX5_takeItem_8 : decode cX5_takeItem 8 = .ok (.if_icmp .ne 12, 3) := by decide +kernel
theorem dX5_takeItem_11 : decode cX5_takeItem 11 = .ok (.iload_n 1, 1) := by decide +kernel
theorem dX5_takeItem_12 : decode cX5_takeItem 12 = .ok (.ifCond .eq 8, 3) := by decide +kernel
theorem dX5_takeItem_15 : decode cX5_takeItem 15 = .ok (.aload_n 0, 1) := by decide +kernel
theorem dX5_takeItem_16 : decode cX5_takeItem 16 = .ok (.invokevirtual 153, 3) := by decide +kernel
theorem dX5_takeItem_19 : decode cX5_takeItem 19 = .ok (.ireturn, 1) := by decide +kernel
theorem dX5_takeItem_20 : decode cX5_takeItem 20 = .ok (.iload_n 2, 1) := by decide +kernel
theorem dX5_takeItem_21 : decode cX5_takeItem 21 = .ok (.bipush 105, 2) := by decide +kernel
theorem dX5_takeItem_23 : decode cX5_takeItem 23 = .ok (.if_icmp .eq 9, 3) := by decide +kernel
theorem dX5_takeItem_26 : decode cX5_takeItem 26 = .ok (.iload_n 2, 1) := by decide +kernel
theorem dX5_takeItem_27 : decode cX5_takeItem 27 = .ok (.bipush 100, 2) := by decide +kernel
theorem dX5_takeItem_29 : decode cX5_takeItem 29 = .ok (.if_icmp .ne 19, 3) := by decide +kernel
theorem dX5_takeItem_32 : decode cX5_takeItem 32 = .ok (.aload_n 0, 1) := by decide +kernel
theorem dX5_takeItem_33 : decode cX5_takeItem 33 = .ok (.iload_n 2, 1) := by decide +kernel
theorem dX5_takeItem_34 : decode cX5_takeItem 34 = .ok (.bipush 105, 2) := by decide +kernel
theorem dX5_takeItem_36 : decode cX5_takeItem 36 = .ok (.if_icmp .ne 7, 3) := by decide +kernel
theorem dX5_takeItem_39 : decode cX5_takeItem 39 = .ok (.iconst 1, 1) := by decide +kernel
theorem dX5_takeItem_40 : decode cX5_takeItem 40 = .ok (.goto 4, 3) := by decide +kernel
theorem dX5_takeItem_43 : decode cX5_takeItem 43 = .ok (.iconst 0, 1) := by decide +kernel
theorem dX5_takeItem_44 : decode cX5_takeItem 44 = .ok (.invokevirtual 156, 3) := by decide +kernel
theorem dX5_takeItem_47 : decode cX5_takeItem 47 = .ok (.ireturn, 1) := by decide +kernel
theorem dX5_takeItem_48 : decode cX5_takeItem 48 = .ok (.iload_n 2, 1) := by decide +kernel
theorem dX5_takeItem_49 : decode cX5_takeItem 49 = .ok (.i2l, 1) := by decide +kernel
theorem dX5_takeItem_50 : decode cX5_takeItem 50 = .ok (.ldc2_w 160, 3) := by decide +kernel
theorem dX5_takeItem_53 : decode cX5_takeItem 53 = .ok (.ldc2_w 162, 3) := by decide +kernel
theorem dX5_takeItem_56 : decode cX5_takeItem 56 = .ok (.invokestatic 94, 3) := by decide +kernel
theorem dX5_takeItem_59 : decode cX5_takeItem 59 = .ok (.ifCond .eq 9, 3) := by decide +kernel
theorem dX5_takeItem_62 : decode cX5_takeItem 62 = .ok (.aload_n 0, 1) := by decide +kernel
theorem dX5_takeItem_63 : decode cX5_takeItem 63 = .ok (.iload_n 2, 1) := by decide +kernel
theorem dX5_takeItem_64 : decode cX5_takeItem 64 = .ok (.invokevirtual 164, 3) := by decide +kernel
theorem dX5_takeItem_67 : decode cX5_takeItem 67 = .ok (.ireturn, 1) := by decide +kernel
theorem dX5_takeItem_68 : decode cX5_takeItem 68 = .ok (.iload_n 2, 1) := by decide +kernel
theorem dX5_takeItem_69 : decode cX5_takeItem 69 = .ok (.bipush 41, 2) := by decide +kernel
theorem dX5_takeItem_71 : decode cX5_takeItem 71 = .ok (.if_icmp .ne 32, 3) := by decide +kernel
theorem dX5_takeItem_74 : decode cX5_takeItem 74 = .ok (.aload_n 0, 1) := by decide +kernel
theorem dX5_takeItem_75 : decode cX5_takeItem 75 = .ok (.getfield 143, 3) := by decide +kernel
theorem dX5_takeItem_78 : decode cX5_takeItem 78 = .ok (.ifCond .le 25, 3) := by decide +kernel
theorem dX5_takeItem_81 : decode cX5_takeItem 81 = .ok (.aload_n 0, 1) := by decide +kernel
theorem dX5_takeItem_82 : decode cX5_takeItem 82 = .ok (.dup, 1) := by decide +kernel
theorem dX5_takeItem_83 : decode cX5_takeItem 83 = .ok (.getfield 143, 3) := by decide +kernel
theorem dX5_takeItem_86 : decode cX5_takeItem 86 = .ok (.iconst 1, 1) := by decide +kernel
theorem dX5_takeItem_87 : decode cX5_takeItem 87 = .ok (.isub, 1) := by decide +kernel
theorem dX5_takeItem_88 : decode cX5_takeItem 88 = .ok (.putfield 143, 3) := by decide +kernel
theorem dX5_takeItem_91 : decode cX5_takeItem 91 = .ok (.aload_n 0, 1) := by decide +kernel
theorem dX5_takeItem_92 : decode cX5_takeItem 92 = .ok (.dup, 1) := by decide +kernel
theorem dX5_takeItem_93 : decode cX5_takeItem 93 = .ok (.getfield 105, 3) := by decide +kernel
theorem dX5_takeItem_96 : decode cX5_takeItem 96 = .ok (.iconst 1, 1) := by decide +kernel
theorem dX5_takeItem_97 : decode cX5_takeItem 97 = .ok (.iadd, 1) := by decide +kernel
theorem dX5_takeItem_98 : decode cX5_takeItem 98 = .ok (.putfield 105, 3) := by decide +kernel
theorem dX5_takeItem_101 : decode cX5_takeItem 101 = .ok (.iconst 0, 1) := by decide +kernel
theorem dX5_takeItem_102 : decode cX5_takeItem 102 = .ok (.ireturn, 1) := by decide +kernel
theorem dX5_takeItem_103 : decode cX5_takeItem 103 = .ok (.aload_n 0, 1) := by decide +kernel
theorem dX5_takeItem_104 : decode cX5_takeItem 104 = .ok (.iconst 1, 1) := by decide +kernel
theorem dX5_takeItem_105 : decode cX5_takeItem 105 = .ok (.aload_n 0, 1) := by decide +kernel
theorem dX5_takeItem_106 : decode cX5_takeItem 106 = .ok (.getfield 105, 3) := by decide +kernel
theorem dX5_takeItem_109 : decode cX5_takeItem 109 = .ok (.invokevirtual 116, 3) := by decide +kernel
theorem dX5_takeItem_112 : decode cX5_takeItem 112 = .ok (.ireturn, 1) := by decide +kernel
theorem dX5_copyRow_0 : decode cX5_copyRow 0 = .ok (.iconst 0, 1) := by decide +kernel
theorem dX5_copyRow_1 : decode cX5_copyRow 1 = .ok (.istore_n 3, 1) := by decide +kernel
theorem dX5_copyRow_2 : decode cX5_copyRow 2 = .ok (.iload_n 3, 1) := by decide +kernel
theorem dX5_copyRow_3 : decode cX5_copyRow 3 = .ok (.iload_n 2, 1) := by decide +kernel
theorem dX5_copyRow_4 : decode cX5_copyRow 4 = .ok (.if_icmp .ge 15, 3) := by decide +kernel
theorem dX5_copyRow_7 : decode cX5_copyRow 7 = .ok (.aload_n 1, 1) := by decide +kernel
theorem dX5_copyRow_8 : decode cX5_copyRow 8 = .ok (.iload_n 3, 1) := by decide +kernel
theorem dX5_copyRow_9 : decode cX5_copyRow 9 = .ok (.aload_n 0, 1) := by decide +kernel
theorem dX5_copyRow_10 : decode cX5_copyRow 10 = .ok (.iload_n 3, 1) := by decide +kernel
theorem dX5_copyRow_11 : decode cX5_copyRow 11 = .ok (.iaload, 1) := by decide +kernel
theorem dX5_copyRow_12 : decode cX5_copyRow 12 = .ok (.iastore, 1) := by decide +kernel
theorem dX5_copyRow_13 : decode cX5_copyRow 13 = .ok (.iinc 3 1, 3) := by decide +kernel
theorem dX5_copyRow_16 : decode cX5_copyRow 16 = .ok (.goto (-14), 3) := by decide +kernel
theorem dX5_copyRow_19 : decode cX5_copyRow 19 = .ok (.return_, 1) := by decide +kernel
set_option maxRecDepth 20000 in
theorem ggX5_weave_X5_here : GoodIn wsX5_weave wsX5_here := goodIn_r _ [27, 2, 6, 28, 82, 83, 84, 85, 86, 87, 88, 89, 90, 91, 92, 93, 94, 95, 96, 97, 98, 99, 100, 101, 102, 103, 104, 105, 106, 107, 108, 109, 110, 111, 112, 113, 114, 115, 116, 117, 118, 119] rfl (by decide +kernel)
set_option maxRecDepth 20000 in
theorem gX5_weave_X5_here : GoodIn wsX5_weave (wsV RX5 108 RX5 yX5_here wsX5_here) := goodIn_app (goodIn_r _ [23, 24, 25, 26] rfl (by decide +kernel)) ggX5_weave_X5_here
set_option maxRecDepth 20000 in
theorem ggX5_weave_X5_takeItem : GoodIn wsX5_weave wsX5_takeItem := goodIn_r _ [32, 33, 34, 5, 2, 23, 24, 25, 26, 27, 6, 28, 35, 36, 37, 38, 3, 39, 40, 8, 10, 12, 41, 42, 43, 44, 1, 45, 46, 47, 48, 49, 50, 51, 52, 53, 54, 55, 56, 57, 58, 59, 60, 61, 62, 63, 64, 65, 66, 67, 68, 69, 70, 71, 72, 73, 74, 75, 76, 77, 78, 4, 15, 17, 19, 82, 83, 84, 85, 86, 87, 88, 89, 90, 91, 92, 93, 94, 95, 96, 97, 98, 99, 100, 101, 102, 103, 104, 105, 106, 107, 108, 109, 110, 111, 112, 113, 114, 115, 116, 117, 118, 119] rfl (by decide +kernel)
set_option maxRecDepth 20000 in
theorem gX5_weave_X5_takeItem : GoodIn wsX5_weave (wsV RX5 168 RX5 yX5_takeItem wsX5_takeItem) := goodIn_app (goodIn_r _ [29, 30, 31, 26] rfl (by decide +kernel)) ggX5_weave_X5_takeItem
set_option maxRecDepth 20000 in
theorem ggX5_weave_X5_fails : GoodIn wsX5_weave wsX5_fails := goodIn_r _ [44, 1, 82, 83, 84, 85, 86, 87, 88, 89, 90, 91, 92, 93, 94, 95, 96, 97, 98, 99, 100, 101, 102, 103, 104, 105, 106, 107, 108, 109, 110, 111, 112, 113, 114, 115, 116, 117, 118, 119] rfl (by decide +kernel)
set_option maxRecDepth 20000 in
theorem gX5_weave_X5_fails : GoodIn wsX5_weave (wsV RX5 116 RX5 yX5_fails wsX5_fails) := goodIn_app (goodIn_r _ [41, 42, 43, 26] rfl (by decide +kernel)) ggX5_weave_X5_fails
set_option maxRecDepth 20000 in
theorem ggX5_weave_X5_copyRow : GoodIn wsX5_weave wsX5_copyRow := goodIn_r _ [81] rfl (by decide +kernel)
set_option maxRecDepth 20000 in
theorem gX5_weave_X5_copyRow : GoodIn wsX5_weave (va_wsS RX5 171 yX5_copyRow wsX5_copyRow) := goodIn_app (goodIn_r _ [79, 80, 26] rfl (by decide +kernel)) ggX5_weave_X5_copyRow
theorem dX5_weave_0 : decode cX5_weave 0 = .ok (.aload_n 0, 1) := by decide +kernel
theorem dX5_weave_1 : decode cX5_weave 1 = .ok (.iconst (-1), 1) := by decide +kernel
theorem dX5_weave_2 : decode cX5_weave 2 = .ok (.putfield 31, 3) := by decide +kernel
theorem dX5_weave_5 : decode cX5_weave 5 = .ok (.aload_n 0, 1) := by decide +kernel
theorem dX5_weave_6 : decode cX5_weave 6 = .ok (.iconst 0, 1) := by decide +kernel
theorem dX5_weave_7 : decode cX5_weave 7 = .ok (.putfield 105, 3) := by decide +kernel
theorem dX5_weave_10 : decode cX5_weave 10 = .ok (.aload_n 0, 1) := by decide +kernel
theorem dX5_weave_11 : decode cX5_weave 11 = .ok (.iconst 0, 1) := by decide +kernel
theorem dX5_weave_12 : decode cX5_weave 12 = .ok (.putfield 129, 3) := by decide +kernel
theorem dX5_weave_15 : decode cX5_weave 15 = .ok (.aload_n 0, 1) := by decide +kernel
theorem dX5_weave_16 : decode cX5_weave 16 = .ok (.iconst 0, 1) := by decide +kernel
theorem dX5_weave_17 : decode cX5_weave 17 = .ok (.putfield 150, 3) := by decide +kernel
theorem dX5_weave_20 : decode cX5_weave 20 = .ok (.aload_n 0, 1) := by decide +kernel
theorem dX5_weave_21 : decode cX5_weave 21 = .ok (.iconst 0, 1) := by decide +kernel
theorem dX5_weave_22 : decode cX5_weave 22 = .ok (.putfield 143, 3) := by decide +kernel
theorem dX5_weave_25 : decode cX5_weave 25 = .ok (.iconst 0, 1) := by decide +kernel
theorem dX5_weave_26 : decode cX5_weave 26 = .ok (.istore_n 1, 1) := by decide +kernel
theorem dX5_weave_27 : decode cX5_weave 27 = .ok (.iconst 1, 1) := by decide +kernel
theorem dX5_weave_28 : decode cX5_weave 28 = .ok (.istore_n 2, 1) := by decide +kernel
theorem dX5_weave_29 : decode cX5_weave 29 = .ok (.iload_n 1, 1) := by decide +kernel
theorem dX5_weave_30 : decode cX5_weave 30 = .ok (.ifCond .ne 38, 3) := by decide +kernel
theorem dX5_weave_33 : decode cX5_weave 33 = .ok (.aload_n 0, 1) := by decide +kernel
theorem dX5_weave_34 : decode cX5_weave 34 = .ok (.invokevirtual 108, 3) := by decide +kernel
theorem dX5_weave_37 : decode cX5_weave 37 = .ok (.ifCond .lt 31, 3) := by decide +kernel
theorem dX5_weave_40 : decode cX5_weave 40 = .ok (.iload_n 2, 1) := by decide +kernel
theorem dX5_weave_41 : decode cX5_weave 41 = .ok (.ifCond .eq 16, 3) := by decide +kernel
theorem dX5_weave_44 : decode cX5_weave 44 = .ok (.aload_n 0, 1) := by decide +kernel
theorem dX5_weave_45 : decode cX5_weave 45 = .ok (.invokevirtual 108, 3) := by decide +kernel
theorem dX5_weave_48 : decode cX5_weave 48 = .ok (.bipush 118, 2) := by decide +kernel
theorem dX5_weave_50 : decode cX5_weave 50 = .ok (.if_icmp .ne 7, 3) := by decide +kernel
theorem dX5_weave_53 : decode cX5_weave 53 = .ok (.iconst 1, 1) := by decide +kernel
theorem dX5_weave_54 : decode cX5_weave 54 = .ok (.goto 4, 3) := by decide +kernel
theorem dX5_weave_57 : decode cX5_weave 57 = .ok (.iconst 0, 1) := by decide +kernel
theorem dX5_weave_58 : decode cX5_weave 58 = .ok (.istore_n 2, 1) := by decide +kernel
theorem dX5_weave_59 : decode cX5_weave 59 = .ok (.aload_n 0, 1) := by decide +kernel
theorem dX5_weave_60 : decode cX5_weave 60 = .ok (.iload_n 2, 1) := by decide +kernel
theorem dX5_weave_61 : decode cX5_weave 61 = .ok (.invokevirtual 168, 3) := by decide +kernel
theorem dX5_weave_64 : decode cX5_weave 64 = .ok (.istore_n 1, 1) := by decide +kernel
theorem dX5_weave_65 : decode cX5_weave 65 = .ok (.goto (-36), 3) := by decide +kernel
theorem dX5_weave_68 : decode cX5_weave 68 = .ok (.iload_n 1, 1) := by decide +kernel
theorem dX5_weave_69 : decode cX5_weave 69 = .ok (.ifCond .ne 22, 3) := by decide +kernel
theorem dX5_weave_72 : decode cX5_weave 72 = .ok (.aload_n 0, 1) := by decide +kernel
theorem dX5_weave_73 : decode cX5_weave 73 = .ok (.getfield 143, 3) := by decide +kernel
theorem dX5_weave_76 : decode cX5_weave 76 = .ok (.ifCond .le 15, 3) := by decide +kernel
theorem dX5_weave_79 : decode cX5_weave 79 = .ok (.aload_n 0, 1) := by decide +kernel
theorem dX5_weave_80 : decode cX5_weave 80 = .ok (.iconst 1, 1) := by decide +kernel
theorem dX5_weave_81 : decode cX5_weave 81 = .ok (.aload_n 0, 1) := by decide +kernel
theorem dX5_weave_82 : decode cX5_weave 82 = .ok (.getfield 101, 3) := by decide +kernel
theorem dX5_weave_85 : decode cX5_weave 85 = .ok (.invokevirtual 116, 3) := by decide +kernel
theorem dX5_weave_88 : decode cX5_weave 88 = .ok (.goto 4, 3) := by decide +kernel
theorem dX5_weave_91 : decode cX5_weave 91 = .ok (.iload_n 1, 1) := by decide +kernel
theorem dX5_weave_92 : decode cX5_weave 92 = .ok (.istore_n 1, 1) := by decide +kernel
theorem dX5_weave_93 : decode cX5_weave 93 = .ok (.aload_n 0, 1) := by decide +kernel
theorem dX5_weave_94 : decode cX5_weave 94 = .ok (.iconst 0, 1) := by decide +kernel
theorem dX5_weave_95 : decode cX5_weave 95 = .ok (.putfield 101, 3) := by decide +kernel
theorem dX5_weave_98 : decode cX5_weave 98 = .ok (.iload_n 1, 1) := by decide +kernel
theorem dX5_weave_99 : decode cX5_weave 99 = .ok (.ifCond .le 8, 3) := by decide +kernel
theorem dX5_weave_102 : decode cX5_weave 102 = .ok (.bipush (-10), 2) := by decide +kernel
theorem dX5_weave_104 : decode cX5_weave 104 = .ok (.iload_n 1, 1) := by decide +kernel
theorem dX5_weave_105 : decode cX5_weave 105 = .ok (.isub, 1) := by decide +kernel
theorem dX5_weave_106 : decode cX5_weave 106 = .ok (.ireturn, 1) := by decide +kernel
theorem dX5_weave_107 : decode cX5_weave 107 = .ok (.aload_n 0, 1) := by decide +kernel
theorem dX5_weave_108 : decode cX5_weave 108 = .ok (.aload_n 0, 1) := by decide +kernel
theorem dX5_weave_109 : decode cX5_weave 109 = .ok (.getfield 129, 3) := by decide +kernel
theorem dX5_weave_112 : decode cX5_weave 112 = .ok (.putfield 91, 3) := by decide +kernel
theorem dX5_weave_115 : decode cX5_weave 115 = .ok (.aload_n 0, 1) := by decide +kernel
theorem dX5_weave_116 : decode cX5_weave 116 = .ok (.getfield 35, 3) := by decide +kernel
theorem dX5_weave_119 : decode cX5_weave 119 = .ok (.aload_n 0, 1) := by decide +kernel
theorem dX5_weave_120 : decode cX5_weave 120 = .ok (.getfield 7, 3) := by decide +kernel
theorem dX5_weave_123 : decode cX5_weave 123 = .ok (.aload_n 0, 1) := by decide +kernel
theorem dX5_weave_124 : decode cX5_weave 124 = .ok (.getfield 91, 3) := by decide +kernel
theorem dX5_weave_127 : decode cX5_weave 127 = .ok (.invokestatic 171, 3) := by decide +kernel
theorem dX5_weave_130 : decode cX5_weave 130 = .ok (.aload_n 0, 1) := by decide +kernel
theorem dX5_weave_131 : decode cX5_weave 131 = .ok (.getfield 38, 3) := by decide +kernel
theorem dX5_weave_134 : decode cX5_weave 134 = .ok (.aload_n 0, 1) := by decide +kernel
theorem dX5_weave_135 : decode cX5_weave 135 = .ok (.getfield 13, 3) := by decide +kernel
theorem dX5_weave_138 : decode cX5_weave 138 = .ok (.aload_n 0, 1) := by decide +kernel
theorem dX5_weave_139 : decode cX5_weave 139 = .ok (.getfield 91, 3) := by decide +kernel
theorem dX5_weave_142 : decode cX5_weave 142 = .ok (.invokestatic 171, 3) := by decide +kernel
theorem dX5_weave_145 : decode cX5_weave 145 = .ok (.aload_n 0, 1) := by decide +kernel
theorem dX5_weave_146 : decode cX5_weave 146 = .ok (.getfield 41, 3) := by decide +kernel
theorem dX5_weave_149 : decode cX5_weave 149 = .ok (.aload_n 0, 1) := by decide +kernel
theorem dX5_weave_150 : decode cX5_weave 150 = .ok (.getfield 16, 3) := by decide +kernel
theorem dX5_weave_153 : decode cX5_weave 153 = .ok (.aload_n 0, 1) := by decide +kernel
theorem dX5_weave_154 : decode cX5_weave 154 = .ok (.getfield 91, 3) := by decide +kernel
theorem dX5_weave_157 : decode cX5_weave 157 = .ok (.invokestatic 171, 3) := by decide +kernel
theorem dX5_weave_160 : decode cX5_weave 160 = .ok (.aload_n 0, 1) := by decide +kernel
theorem dX5_weave_161 : decode cX5_weave 161 = .ok (.aload_n 0, 1) := by decide +kernel
theorem dX5_weave_162 : decode cX5_weave 162 = .ok (.getfield 150, 3) := by decide +kernel
theorem dX5_weave_165 : decode cX5_weave 165 = .ok (.putfield 175, 3) := by decide +kernel
theorem dX5_weave_168 : decode cX5_weave 168 = .ok (.aload_n 0, 1) := by decide +kernel
theorem dX5_weave_169 : decode cX5_weave 169 = .ok (.getfield 44, 3) := by decide +kernel
theorem dX5_weave_172 : decode cX5_weave 172 = .ok (.aload_n 0, 1) := by decide +kernel
theorem dX5_weave_173 : decode cX5_weave 173 = .ok (.getfield 19, 3) := by decide +kernel
theorem dX5_weave_176 : decode cX5_weave 176 = .ok (.aload_n 0, 1) := by decide +kernel
theorem dX5_weave_177 : decode cX5_weave 177 = .ok (.getfield 175, 3) := by decide +kernel
theorem dX5_weave_180 : decode cX5_weave 180 = .ok (.invokestatic 171, 3) := by decide +kernel
theorem dX5_weave_183 : decode cX5_weave 183 = .ok (.aload_n 0, 1) := by decide +kernel
theorem dX5_weave_184 : decode cX5_weave 184 = .ok (.getfield 47, 3) := by decide +kernel
theorem dX5_weave_187 : decode cX5_weave 187 = .ok (.aload_n 0, 1) := by decide +kernel
theorem dX5_weave_188 : decode cX5_weave 188 = .ok (.getfield 22, 3) := by decide +kernel
theorem dX5_weave_191 : decode cX5_weave 191 = .ok (.aload_n 0, 1) := by decide +kernel
theorem dX5_weave_192 : decode cX5_weave 192 = .ok (.getfield 175, 3) := by decide +kernel
theorem dX5_weave_195 : decode cX5_weave 195 = .ok (.invokestatic 171, 3) := by decide +kernel
theorem dX5_weave_198 : decode cX5_weave 198 = .ok (.aload_n 0, 1) := by decide +kernel
theorem dX5_weave_199 : decode cX5_weave 199 = .ok (.getfield 50, 3) := by decide +kernel
theorem dX5_weave_202 : decode cX5_weave 202 = .ok (.aload_n 0, 1) := by decide +kernel
theorem dX5_weave_203 : decode cX5_weave 203 = .ok (.getfield 25, 3) := by decide +kernel
theorem dX5_weave_206 : decode cX5_weave 206 = .ok (.aload_n 0, 1) := by decide +kernel
theorem dX5_weave_207 : decode cX5_weave 207 = .ok (.getfield 175, 3) := by decide +kernel
theorem dX5_weave_210 : decode cX5_weave 210 = .ok (.invokestatic 171, 3) := by decide +kernel
theorem dX5_weave_213 : decode cX5_weave 213 = .ok (.aload_n 0, 1) := by decide +kernel
theorem dX5_weave_214 : decode cX5_weave 214 = .ok (.iconst 0, 1) := by decide +kernel
theorem dX5_weave_215 : decode cX5_weave 215 = .ok (.putfield 178, 3) := by decide +kernel
theorem dX5_weave_218 : decode cX5_weave 218 = .ok (.aload_n 0, 1) := by decide +kernel
theorem dX5_weave_219 : decode cX5_weave 219 = .ok (.getfield 82, 3) := by decide +kernel
theorem dX5_weave_222 : decode cX5_weave 222 = .ok (.iconst 0, 1) := by decide +kernel
theorem dX5_weave_223 : decode cX5_weave 223 = .ok (.iconst (-1), 1) := by decide +kernel
theorem dX5_weave_224 : decode cX5_weave 224 = .ok (.iastore, 1) := by decide +kernel
theorem dX5_weave_225 : decode cX5_weave 225 = .ok (.aload_n 0, 1) := by decide +kernel
theorem dX5_weave_226 : decode cX5_weave 226 = .ok (.getfield 82, 3) := by decide +kernel
theorem dX5_weave_229 : decode cX5_weave 229 = .ok (.iconst 1, 1) := by decide +kernel
theorem dX5_weave_230 : decode cX5_weave 230 = .ok (.iconst (-1), 1) := by decide +kernel
theorem dX5_weave_231 : decode cX5_weave 231 = .ok (.iastore, 1) := by decide +kernel
theorem dX5_weave_232 : decode cX5_weave 232 = .ok (.aload_n 0, 1) := by decide +kernel
theorem dX5_weave_233 : decode cX5_weave 233 = .ok (.getfield 91, 3) := by decide +kernel
theorem dX5_weave_236 : decode cX5_weave 236 = .ok (.ireturn, 1) := by decide +kernel
theorem dX5_fault_0 : decode cX5_fault 0 = .ok (.aload_n 0, 1) := by decide +kernel
theorem dX5_fault_1 : decode cX5_fault 1 = .ok (.getfield 31, 3) := by decide +kernel
theorem dX5_fault_4 : decode cX5_fault 4 = .ok (.ireturn, 1) := by decide +kernel
theorem dX5_changesOf_0 : decode cX5_changesOf 0 = .ok (.iconst 0, 1) := by decide +kernel
theorem dX5_changesOf_1 : decode cX5_changesOf 1 = .ok (.istore_n 2, 1) := by decide +kernel
theorem dX5_changesOf_2 : decode cX5_changesOf 2 = .ok (.iconst 0, 1) := by decide +kernel
theorem dX5_changesOf_3 : decode cX5_changesOf 3 = .ok (.istore_n 3, 1) := by decide +kernel
theorem dX5_changesOf_4 : decode cX5_changesOf 4 = .ok (.iload_n 1, 1) := by decide +kernel
theorem dX5_changesOf_5 : decode cX5_changesOf 5 = .ok (.istore 4, 2) := by decide +kernel
theorem dX5_changesOf_7 : decode cX5_changesOf 7 = .ok (.iload 4, 2) := by decide +kernel
theorem dX5_changesOf_9 : decode cX5_changesOf 9 = .ok (.ifCond .lt 26, 3) := by decide +kernel
theorem dX5_changesOf_12 : decode cX5_changesOf 12 = .ok (.aload_n 0, 1) := by decide +kernel
theorem dX5_changesOf_13 : decode cX5_changesOf 13 = .ok (.getfield 60, 3) := by decide +kernel
theorem dX5_changesOf_16 : decode cX5_changesOf 16 = .ok (.iload_n 3, 1) := by decide +kernel
theorem dX5_changesOf_17 : decode cX5_changesOf 17 = .ok (.iload 4, 2) := by decide +kernel
theorem dX5_changesOf_19 : decode cX5_changesOf 19 = .ok (.iastore, 1) := by decide +kernel
theorem dX5_changesOf_20 : decode cX5_changesOf 20 = .ok (.iinc 3 1, 3) := by decide +kernel
theorem dX5_changesOf_23 : decode cX5_changesOf 23 = .ok (.aload_n 0, 1) := by decide +kernel
theorem dX5_changesOf_24 : decode cX5_changesOf 24 = .ok (.getfield 7, 3) := by decide +kernel
theorem dX5_changesOf_27 : decode cX5_changesOf 27 = .ok (.iload 4, 2) := by decide +kernel
theorem dX5_changesOf_29 : decode cX5_changesOf 29 = .ok (.iaload, 1) := by decide +kernel
theorem dX5_changesOf_30 : decode cX5_changesOf 30 = .ok (.istore 4, 2) := by decide +kernel
theorem dX5_changesOf_32 : decode cX5_changesOf 32 = .ok (.goto (-25), 3) := by decide +kernel
theorem dX5_changesOf_35 : decode cX5_changesOf 35 = .ok (.iload_n 3, 1) := by decide +kernel
theorem dX5_changesOf_36 : decode cX5_changesOf 36 = .ok (.iconst 1, 1) := by decide +kernel
theorem dX5_changesOf_37 : decode cX5_changesOf 37 = .ok (.isub, 1) := by decide +kernel
theorem dX5_changesOf_38 : decode cX5_changesOf 38 = .ok (.istore 4, 2) := by decide +kernel
theorem dX5_changesOf_40 : decode cX5_changesOf 40 = .ok (.iload 4, 2) := by decide +kernel
theorem dX5_changesOf_42 : decode cX5_changesOf 42 = .ok (.ifCond .lt 43, 3) := by decide +kernel
theorem dX5_changesOf_45 : decode cX5_changesOf 45 = .ok (.aload_n 0, 1) := by decide +kernel
theorem dX5_changesOf_46 : decode cX5_changesOf 46 = .ok (.getfield 60, 3) := by decide +kernel
theorem dX5_changesOf_49 : decode cX5_changesOf 49 = .ok (.iload 4, 2) := by decide +kernel
theorem dX5_changesOf_51 : decode cX5_changesOf 51 = .ok (.iaload, 1) := by decide +kernel
theorem dX5_changesOf_52 : decode cX5_changesOf 52 = .ok (.istore 5, 2) := by decide +kernel
theorem dX5_changesOf_54 : decode cX5_changesOf 54 = .ok (.iload_n 2, 1) := by decide +kernel
theorem dX5_changesOf_55 : decode cX5_changesOf 55 = .ok (.aload_n 0, 1) := by decide +kernel
theorem dX5_changesOf_56 : decode cX5_changesOf 56 = .ok (.getfield 13, 3) := by decide +kernel
theorem dX5_changesOf_59 : decode cX5_changesOf 59 = .ok (.iload 5, 2) := by decide +kernel
theorem dX5_changesOf_61 : decode cX5_changesOf 61 = .ok (.iaload, 1) := by decide +kernel
theorem dX5_changesOf_62 : decode cX5_changesOf 62 = .ok (.ior, 1) := by decide +kernel
theorem dX5_changesOf_63 : decode cX5_changesOf 63 = .ok (.aload_n 0, 1) := by decide +kernel
theorem dX5_changesOf_64 : decode cX5_changesOf 64 = .ok (.getfield 16, 3) := by decide +kernel
theorem dX5_changesOf_67 : decode cX5_changesOf 67 = .ok (.iload 5, 2) := by decide +kernel
theorem dX5_changesOf_69 : decode cX5_changesOf 69 = .ok (.iaload, 1) := by decide +kernel
theorem dX5_changesOf_70 : decode cX5_changesOf 70 = .ok (.iconst (-1), 1) := by decide +kernel
theorem dX5_changesOf_71 : decode cX5_changesOf 71 = .ok (.ixor, 1) := by decide +kernel
theorem dX5_changesOf_72 : decode cX5_changesOf 72 = .ok (.iand, 1) := by decide +kernel
theorem dX5_changesOf_73 : decode cX5_changesOf 73 = .ok (.iconst 1, 1) := by decide +kernel
theorem dX5_changesOf_74 : decode cX5_changesOf 74 = .ok (.iload 5, 2) := by decide +kernel
theorem dX5_changesOf_76 : decode cX5_changesOf 76 = .ok (.ishl, 1) := by decide +kernel
theorem dX5_changesOf_77 : decode cX5_changesOf 77 = .ok (.ior, 1) := by decide +kernel
theorem dX5_changesOf_78 : decode cX5_changesOf 78 = .ok (.istore_n 2, 1) := by decide +kernel
theorem dX5_changesOf_79 : decode cX5_changesOf 79 = .ok (.iinc 4 (-1), 3) := by decide +kernel
theorem dX5_changesOf_82 : decode cX5_changesOf 82 = .ok (.goto (-42), 3) := by decide +kernel
theorem dX5_changesOf_85 : decode cX5_changesOf 85 = .ok (.iload_n 2, 1) := by decide +kernel
theorem dX5_changesOf_86 : decode cX5_changesOf 86 = .ok (.ireturn, 1) := by decide +kernel
set_option maxRecDepth 20000 in
theorem ggX5_stands_X5_has : GoodIn wsX5_stands wsX5_has := goodIn_r _ [6] rfl (by decide +kernel)
set_option maxRecDepth 20000 in
theorem gX5_stands_X5_has : GoodIn wsX5_stands (va_wsS RX5 135 yX5_has wsX5_has) := goodIn_app (goodIn_r _ [3, 4, 5] rfl (by decide +kernel)) ggX5_stands_X5_has
theorem dX5_stands_0 : decode cX5_stands 0 = .ok (.iload_n 2, 1) := by decide +kernel
theorem dX5_stands_1 : decode cX5_stands 1 = .ok (.aload_n 0, 1) := by decide +kernel
theorem dX5_stands_2 : decode cX5_stands 2 = .ok (.getfield 22, 3) := by decide +kernel
theorem dX5_stands_5 : decode cX5_stands 5 = .ok (.iload_n 1, 1) := by decide +kernel
theorem dX5_stands_6 : decode cX5_stands 6 = .ok (.iaload, 1) := by decide +kernel
theorem dX5_stands_7 : decode cX5_stands 7 = .ok (.invokestatic 135, 3) := by decide +kernel
theorem dX5_stands_10 : decode cX5_stands 10 = .ok (.ifCond .eq 18, 3) := by decide +kernel
theorem dX5_stands_13 : decode cX5_stands 13 = .ok (.aload_n 0, 1) := by decide +kernel
theorem dX5_stands_14 : decode cX5_stands 14 = .ok (.getfield 25, 3) := by decide +kernel
theorem dX5_stands_17 : decode cX5_stands 17 = .ok (.iload_n 1, 1) := by decide +kernel
theorem dX5_stands_18 : decode cX5_stands 18 = .ok (.iaload, 1) := by decide +kernel
theorem dX5_stands_19 : decode cX5_stands 19 = .ok (.iload_n 2, 1) := by decide +kernel
theorem dX5_stands_20 : decode cX5_stands 20 = .ok (.iand, 1) := by decide +kernel
theorem dX5_stands_21 : decode cX5_stands 21 = .ok (.ifCond .ne 7, 3) := by decide +kernel
theorem dX5_stands_24 : decode cX5_stands 24 = .ok (.iconst 1, 1) := by decide +kernel
theorem dX5_stands_25 : decode cX5_stands 25 = .ok (.goto 4, 3) := by decide +kernel
theorem dX5_stands_28 : decode cX5_stands 28 = .ok (.iconst 0, 1) := by decide +kernel
theorem dX5_stands_29 : decode cX5_stands 29 = .ok (.ireturn, 1) := by decide +kernel
set_option maxRecDepth 20000 in
theorem ggX5_manyOf_X5_stands : GoodIn wsX5_manyOf wsX5_stands := goodIn_r _ [6, 7, 8, 9, 10, 5, 11, 12, 13, 14, 15, 16, 17, 18, 19, 20, 21, 22, 23, 24, 25, 26, 27, 28, 29, 30, 31, 32, 33, 34, 35, 36, 37, 38, 39, 40, 41, 42, 43, 44, 45, 46, 47, 48, 49] rfl (by decide +kernel)
set_option maxRecDepth 20000 in
theorem gX5_manyOf_X5_stands : GoodIn wsX5_manyOf (wsV RX5 182 RX5 yX5_stands wsX5_stands) := goodIn_app (goodIn_r _ [2, 3, 4, 5] rfl (by decide +kernel)) ggX5_manyOf_X5_stands
theorem dX5_manyOf_0 : decode cX5_manyOf 0 = .ok (.iconst 0, 1) := by decide +kernel
theorem dX5_manyOf_1 : decode cX5_manyOf 1 = .ok (.istore_n 2, 1) := by decide +kernel
theorem dX5_manyOf_2 : decode cX5_manyOf 2 = .ok (.iconst 0, 1) := by decide +kernel
theorem dX5_manyOf_3 : decode cX5_manyOf 3 = .ok (.istore_n 3, 1) := by decide +kernel
theorem dX5_manyOf_4 : decode cX5_manyOf 4 = .ok (.iload_n 3, 1) := by decide +kernel
theorem dX5_manyOf_5 : decode cX5_manyOf 5 = .ok (.aload_n 0, 1) := by decide +kernel
theorem dX5_manyOf_6 : decode cX5_manyOf 6 = .ok (.getfield 175, 3) := by decide +kernel
theorem dX5_manyOf_9 : decode cX5_manyOf 9 = .ok (.if_icmp .ge 26, 3) := by decide +kernel
theorem dX5_manyOf_12 : decode cX5_manyOf 12 = .ok (.iload_n 2, 1) := by decide +kernel
theorem dX5_manyOf_13 : decode cX5_manyOf 13 = .ok (.aload_n 0, 1) := by decide +kernel
theorem dX5_manyOf_14 : decode cX5_manyOf 14 = .ok (.iload_n 3, 1) := by decide +kernel
theorem dX5_manyOf_15 : decode cX5_manyOf 15 = .ok (.iload_n 1, 1) := by decide +kernel
theorem dX5_manyOf_16 : decode cX5_manyOf 16 = .ok (.invokevirtual 182, 3) := by decide +kernel
theorem dX5_manyOf_19 : decode cX5_manyOf 19 = .ok (.ifCond .eq 7, 3) := by decide +kernel
theorem dX5_manyOf_22 : decode cX5_manyOf 22 = .ok (.iconst 1, 1) := by decide +kernel
theorem dX5_manyOf_23 : decode cX5_manyOf 23 = .ok (.goto 4, 3) := by decide +kernel
theorem dX5_manyOf_26 : decode cX5_manyOf 26 = .ok (.iconst 0, 1) := by decide +kernel
theorem dX5_manyOf_27 : decode cX5_manyOf 27 = .ok (.iadd, 1) := by decide +kernel
theorem dX5_manyOf_28 : decode cX5_manyOf 28 = .ok (.istore_n 2, 1) := by decide +kernel
theorem dX5_manyOf_29 : decode cX5_manyOf 29 = .ok (.iinc 3 1, 3) := by decide +kernel
theorem dX5_manyOf_32 : decode cX5_manyOf 32 = .ok (.goto (-28), 3) := by decide +kernel
theorem dX5_manyOf_35 : decode cX5_manyOf 35 = .ok (.iload_n 2, 1) := by decide +kernel
theorem dX5_manyOf_36 : decode cX5_manyOf 36 = .ok (.ireturn, 1) := by decide +kernel
set_option maxRecDepth 20000 in
theorem ggX5_lineAt_X5_stands : GoodIn wsX5_lineAt wsX5_stands := goodIn_r _ [6, 7, 8, 9, 10, 5, 11, 12, 13, 14, 15, 16, 17, 18, 19, 20, 21, 22, 23, 24, 25, 26, 27, 28, 29, 30, 31, 32, 33, 34, 35, 36, 37, 38, 39, 40, 41, 42, 43, 44, 45, 46, 47, 48, 49] rfl (by decide +kernel)
set_option maxRecDepth 20000 in
theorem gX5_lineAt_X5_stands : GoodIn wsX5_lineAt (wsV RX5 182 RX5 yX5_stands wsX5_stands) := goodIn_app (goodIn_r _ [2, 3, 4, 5] rfl (by decide +kernel)) ggX5_lineAt_X5_stands
theorem dX5_lineAt_0 : decode cX5_lineAt 0 = .ok (.iload_n 2, 1) := by decide +kernel
theorem dX5_lineAt_1 : decode cX5_lineAt 1 = .ok (.istore_n 3, 1) := by decide +kernel
theorem dX5_lineAt_2 : decode cX5_lineAt 2 = .ok (.iconst 0, 1) := by decide +kernel
theorem dX5_lineAt_3 : decode cX5_lineAt 3 = .ok (.istore 4, 2) := by decide +kernel
theorem dX5_lineAt_5 : decode cX5_lineAt 5 = .ok (.iload 4, 2) := by decide +kernel
theorem dX5_lineAt_7 : decode cX5_lineAt 7 = .ok (.aload_n 0, 1) := by decide +kernel
theorem dX5_lineAt_8 : decode cX5_lineAt 8 = .ok (.getfield 175, 3) := by decide +kernel
theorem dX5_lineAt_11 : decode cX5_lineAt 11 = .ok (.if_icmp .ge 29, 3) := by decide +kernel
theorem dX5_lineAt_14 : decode cX5_lineAt 14 = .ok (.aload_n 0, 1) := by decide +kernel
theorem dX5_lineAt_15 : decode cX5_lineAt 15 = .ok (.iload 4, 2) := by decide +kernel
theorem dX5_lineAt_17 : decode cX5_lineAt 17 = .ok (.iload_n 1, 1) := by decide +kernel
theorem dX5_lineAt_18 : decode cX5_lineAt 18 = .ok (.invokevirtual 182, 3) := by decide +kernel
theorem dX5_lineAt_21 : decode cX5_lineAt 21 = .ok (.ifCond .eq 13, 3) := by decide +kernel
theorem dX5_lineAt_24 : decode cX5_lineAt 24 = .ok (.iload_n 3, 1) := by decide +kernel
theorem dX5_lineAt_25 : decode cX5_lineAt 25 = .ok (.ifCond .ne 6, 3) := by decide +kernel
theorem dX5_lineAt_28 : decode cX5_lineAt 28 = .ok (.iload 4, 2) := by decide +kernel
theorem dX5_lineAt_30 : decode cX5_lineAt 30 = .ok (.ireturn, 1) := by decide +kernel
theorem dX5_lineAt_31 : decode cX5_lineAt 31 = .ok (.iinc 3 (-1), 3) := by decide +kernel
theorem dX5_lineAt_34 : decode cX5_lineAt 34 = .ok (.iinc 4 1, 3) := by decide +kernel
theorem dX5_lineAt_37 : decode cX5_lineAt 37 = .ok (.goto (-32), 3) := by decide +kernel
theorem dX5_lineAt_40 : decode cX5_lineAt 40 = .ok (.iconst (-1), 1) := by decide +kernel
theorem dX5_lineAt_41 : decode cX5_lineAt 41 = .ok (.ireturn, 1) := by decide +kernel
set_option maxRecDepth 20000 in
theorem ggX5_lifeOf_X5_changesOf : GoodIn wsX5_lifeOf wsX5_changesOf := goodIn_r _ [6, 7, 8, 9, 10, 20, 21, 22, 23, 24, 25, 26, 27, 28, 29, 30, 31, 32, 33, 34, 35, 36, 37, 38, 39, 40, 41, 42, 43, 44, 45, 46, 47, 48, 49, 50, 51, 52, 53, 54, 55, 56, 57] rfl (by decide +kernel)
set_option maxRecDepth 20000 in
theorem gX5_lifeOf_X5_changesOf : GoodIn wsX5_lifeOf (wsV RX5 185 RX5 yX5_changesOf wsX5_changesOf) := goodIn_app (goodIn_r _ [2, 3, 4, 5] rfl (by decide +kernel)) ggX5_lifeOf_X5_changesOf
set_option maxRecDepth 20000 in
theorem ggX5_lifeOf_X5_stands : GoodIn wsX5_lifeOf wsX5_stands := goodIn_r _ [14, 15, 16, 17, 18, 5, 19, 20, 21, 22, 23, 24, 25, 26, 27, 28, 29, 30, 31, 32, 33, 34, 35, 36, 37, 38, 39, 40, 41, 42, 43, 44, 45, 46, 47, 48, 49, 50, 51, 52, 53, 54, 55, 56, 57] rfl (by decide +kernel)
set_option maxRecDepth 20000 in
theorem gX5_lifeOf_X5_stands : GoodIn wsX5_lifeOf (wsV RX5 182 RX5 yX5_stands wsX5_stands) := goodIn_app (goodIn_r _ [11, 12, 13, 5] rfl (by decide +kernel)) ggX5_lifeOf_X5_stands
theorem dX5_lifeOf_0 : decode cX5_lifeOf 0 = .ok (.iconst 0, 1) := by decide +kernel
theorem dX5_lifeOf_1 : decode cX5_lifeOf 1 = .ok (.istore_n 2, 1) := by decide +kernel
theorem dX5_lifeOf_2 : decode cX5_lifeOf 2 = .ok (.iconst 0, 1) := by decide +kernel
theorem dX5_lifeOf_3 : decode cX5_lifeOf 3 = .ok (.istore_n 3, 1) := by decide +kernel
theorem dX5_lifeOf_4 : decode cX5_lifeOf 4 = .ok (.iload_n 3, 1) := by decide +kernel
theorem dX5_lifeOf_5 : decode cX5_lifeOf 5 = .ok (.aload_n 0, 1) := by decide +kernel
theorem dX5_lifeOf_6 : decode cX5_lifeOf 6 = .ok (.getfield 91, 3) := by decide +kernel
theorem dX5_lifeOf_9 : decode cX5_lifeOf 9 = .ok (.if_icmp .ge 32, 3) := by decide +kernel
theorem dX5_lifeOf_12 : decode cX5_lifeOf 12 = .ok (.iload_n 2, 1) := by decide +kernel
theorem dX5_lifeOf_13 : decode cX5_lifeOf 13 = .ok (.aload_n 0, 1) := by decide +kernel
theorem dX5_lifeOf_14 : decode cX5_lifeOf 14 = .ok (.iload_n 1, 1) := by decide +kernel
theorem dX5_lifeOf_15 : decode cX5_lifeOf 15 = .ok (.aload_n 0, 1) := by decide +kernel
theorem dX5_lifeOf_16 : decode cX5_lifeOf 16 = .ok (.iload_n 3, 1) := by decide +kernel
theorem dX5_lifeOf_17 : decode cX5_lifeOf 17 = .ok (.invokevirtual 185, 3) := by decide +kernel
theorem dX5_lifeOf_20 : decode cX5_lifeOf 20 = .ok (.invokevirtual 182, 3) := by decide +kernel
theorem dX5_lifeOf_23 : decode cX5_lifeOf 23 = .ok (.ifCond .eq 9, 3) := by decide +kernel
theorem dX5_lifeOf_26 : decode cX5_lifeOf 26 = .ok (.iconst 1, 1) := by decide +kernel
theorem dX5_lifeOf_27 : decode cX5_lifeOf 27 = .ok (.iload_n 3, 1) := by decide +kernel
theorem dX5_lifeOf_28 : decode cX5_lifeOf 28 = .ok (.ishl, 1) := by decide +kernel
theorem dX5_lifeOf_29 : decode cX5_lifeOf 29 = .ok (.goto 4, 3) := by decide +kernel
theorem dX5_lifeOf_32 : decode cX5_lifeOf 32 = .ok (.iconst 0, 1) := by decide +kernel
theorem dX5_lifeOf_33 : decode cX5_lifeOf 33 = .ok (.ior, 1) := by decide +kernel
theorem dX5_lifeOf_34 : decode cX5_lifeOf 34 = .ok (.istore_n 2, 1) := by decide +kernel
theorem dX5_lifeOf_35 : decode cX5_lifeOf 35 = .ok (.iinc 3 1, 3) := by decide +kernel
theorem dX5_lifeOf_38 : decode cX5_lifeOf 38 = .ok (.goto (-34), 3) := by decide +kernel
theorem dX5_lifeOf_41 : decode cX5_lifeOf 41 = .ok (.iload_n 2, 1) := by decide +kernel
theorem dX5_lifeOf_42 : decode cX5_lifeOf 42 = .ok (.ireturn, 1) := by decide +kernel
theorem dX5_bits_0 : decode cX5_bits 0 = .ok (.iconst 0, 1) := by decide +kernel
theorem dX5_bits_1 : decode cX5_bits 1 = .ok (.istore_n 1, 1) := by decide +kernel
theorem dX5_bits_2 : decode cX5_bits 2 = .ok (.iconst 0, 1) := by decide +kernel
theorem dX5_bits_3 : decode cX5_bits 3 = .ok (.istore_n 2, 1) := by decide +kernel
theorem dX5_bits_4 : decode cX5_bits 4 = .ok (.iload_n 2, 1) := by decide +kernel
theorem dX5_bits_5 : decode cX5_bits 5 = .ok (.bipush 24, 2) := by decide +kernel
theorem dX5_bits_7 : decode cX5_bits 7 = .ok (.if_icmp .ge 17, 3) := by decide +kernel
theorem dX5_bits_10 : decode cX5_bits 10 = .ok (.iload_n 1, 1) := by decide +kernel
theorem dX5_bits_11 : decode cX5_bits 11 = .ok (.iload_n 0, 1) := by decide +kernel
theorem dX5_bits_12 : decode cX5_bits 12 = .ok (.iload_n 2, 1) := by decide +kernel
theorem dX5_bits_13 : decode cX5_bits 13 = .ok (.ishr, 1) := by decide +kernel
theorem dX5_bits_14 : decode cX5_bits 14 = .ok (.iconst 1, 1) := by decide +kernel
theorem dX5_bits_15 : decode cX5_bits 15 = .ok (.iand, 1) := by decide +kernel
theorem dX5_bits_16 : decode cX5_bits 16 = .ok (.iadd, 1) := by decide +kernel
theorem dX5_bits_17 : decode cX5_bits 17 = .ok (.istore_n 1, 1) := by decide +kernel
theorem dX5_bits_18 : decode cX5_bits 18 = .ok (.iinc 2 1, 3) := by decide +kernel
theorem dX5_bits_21 : decode cX5_bits 21 = .ok (.goto (-17), 3) := by decide +kernel
theorem dX5_bits_24 : decode cX5_bits 24 = .ok (.iload_n 1, 1) := by decide +kernel
theorem dX5_bits_25 : decode cX5_bits 25 = .ok (.ireturn, 1) := by decide +kernel
theorem dX5_isNewBlock_0 : decode cX5_isNewBlock 0 = .ok (.iload_n 1, 1) := by decide +kernel
theorem dX5_isNewBlock_1 : decode cX5_isNewBlock 1 = .ok (.ifCond .eq 37, 3) := by decide +kernel
theorem dX5_isNewBlock_4 : decode cX5_isNewBlock 4 = .ok (.aload_n 0, 1) := by decide +kernel
theorem dX5_isNewBlock_5 : decode cX5_isNewBlock 5 = .ok (.getfield 22, 3) := by decide +kernel
theorem dX5_isNewBlock_8 : decode cX5_isNewBlock 8 = .ok (.iload_n 1, 1) := by decide +kernel
theorem dX5_isNewBlock_9 : decode cX5_isNewBlock 9 = .ok (.iaload, 1) := by decide +kernel
theorem dX5_isNewBlock_10 : decode cX5_isNewBlock 10 = .ok (.aload_n 0, 1) := by decide +kernel
theorem dX5_isNewBlock_11 : decode cX5_isNewBlock 11 = .ok (.getfield 22, 3) := by decide +kernel
theorem dX5_isNewBlock_14 : decode cX5_isNewBlock 14 = .ok (.iload_n 1, 1) := by decide +kernel
theorem dX5_isNewBlock_15 : decode cX5_isNewBlock 15 = .ok (.iconst 1, 1) := by decide +kernel
theorem dX5_isNewBlock_16 : decode cX5_isNewBlock 16 = .ok (.isub, 1) := by decide +kernel
theorem dX5_isNewBlock_17 : decode cX5_isNewBlock 17 = .ok (.iaload, 1) := by decide +kernel
theorem dX5_isNewBlock_18 : decode cX5_isNewBlock 18 = .ok (.if_icmp .ne 20, 3) := by decide +kernel
theorem dX5_isNewBlock_21 : decode cX5_isNewBlock 21 = .ok (.aload_n 0, 1) := by decide +kernel
theorem dX5_isNewBlock_22 : decode cX5_isNewBlock 22 = .ok (.getfield 25, 3) := by decide +kernel
theorem dX5_isNewBlock_25 : decode cX5_isNewBlock 25 = .ok (.iload_n 1, 1) := by decide +kernel
theorem dX5_isNewBlock_26 : decode cX5_isNewBlock 26 = .ok (.iaload, 1) := by decide +kernel
theorem dX5_isNewBlock_27 : decode cX5_isNewBlock 27 = .ok (.aload_n 0, 1) := by decide +kernel
theorem dX5_isNewBlock_28 : decode cX5_isNewBlock 28 = .ok (.getfield 25, 3) := by decide +kernel
theorem dX5_isNewBlock_31 : decode cX5_isNewBlock 31 = .ok (.iload_n 1, 1) := by decide +kernel
theorem dX5_isNewBlock_32 : decode cX5_isNewBlock 32 = .ok (.iconst 1, 1) := by decide +kernel
theorem dX5_isNewBlock_33 : decode cX5_isNewBlock 33 = .ok (.isub, 1) := by decide +kernel
theorem dX5_isNewBlock_34 : decode cX5_isNewBlock 34 = .ok (.iaload, 1) := by decide +kernel
theorem dX5_isNewBlock_35 : decode cX5_isNewBlock 35 = .ok (.if_icmp .eq 7, 3) := by decide +kernel
theorem dX5_isNewBlock_38 : decode cX5_isNewBlock 38 = .ok (.iconst 1, 1) := by decide +kernel
theorem dX5_isNewBlock_39 : decode cX5_isNewBlock 39 = .ok (.goto 4, 3) := by decide +kernel
theorem dX5_isNewBlock_42 : decode cX5_isNewBlock 42 = .ok (.iconst 0, 1) := by decide +kernel
theorem dX5_isNewBlock_43 : decode cX5_isNewBlock 43 = .ok (.ireturn, 1) := by decide +kernel
set_option maxRecDepth 20000 in
theorem ggX5_blocks_X5_isNewBlock : GoodIn wsX5_blocks wsX5_isNewBlock := goodIn_r _ [6, 7, 8, 9, 10, 11, 12, 13, 14, 15, 16, 17, 18, 19, 20, 21, 22, 23, 24, 25, 26, 27, 28, 29, 30, 31, 32, 33, 34, 35, 36, 37, 38, 39, 40, 41, 42, 43, 44, 45, 46] rfl (by decide +kernel)
set_option maxRecDepth 20000 in
theorem gX5_blocks_X5_isNewBlock : GoodIn wsX5_blocks (wsV RX5 188 RX5 yX5_isNewBlock wsX5_isNewBlock) := goodIn_app (goodIn_r _ [2, 3, 4, 5] rfl (by decide +kernel)) ggX5_blocks_X5_isNewBlock
theorem dX5_blocks_0 : decode cX5_blocks 0 = .ok (.iconst 0, 1) := by decide +kernel
theorem dX5_blocks_1 : decode cX5_blocks 1 = .ok (.istore_n 1, 1) := by decide +kernel
theorem dX5_blocks_2 : decode cX5_blocks 2 = .ok (.iconst 0, 1) := by decide +kernel
theorem dX5_blocks_3 : decode cX5_blocks 3 = .ok (.istore_n 2, 1) := by decide +kernel
theorem dX5_blocks_4 : decode cX5_blocks 4 = .ok (.iload_n 2, 1) := by decide +kernel
theorem dX5_blocks_5 : decode cX5_blocks 5 = .ok (.aload_n 0, 1) := by decide +kernel
theorem dX5_blocks_6 : decode cX5_blocks 6 = .ok (.getfield 175, 3) := by decide +kernel
theorem dX5_blocks_9 : decode cX5_blocks 9 = .ok (.if_icmp .ge 25, 3) := by decide +kernel
theorem dX5_blocks_12 : decode cX5_blocks 12 = .ok (.iload_n 1, 1) := by decide +kernel
theorem dX5_blocks_13 : decode cX5_blocks 13 = .ok (.aload_n 0, 1) := by decide +kernel
theorem dX5_blocks_14 : decode cX5_blocks 14 = .ok (.iload_n 2, 1) := by decide +kernel
theorem dX5_blocks_15 : decode cX5_blocks 15 = .ok (.invokevirtual 188, 3) := by decide +kernel
theorem dX5_blocks_18 : decode cX5_blocks 18 = .ok (.ifCond .eq 7, 3) := by decide +kernel
theorem dX5_blocks_21 : decode cX5_blocks 21 = .ok (.iconst 1, 1) := by decide +kernel
theorem dX5_blocks_22 : decode cX5_blocks 22 = .ok (.goto 4, 3) := by decide +kernel
theorem dX5_blocks_25 : decode cX5_blocks 25 = .ok (.iconst 0, 1) := by decide +kernel
theorem dX5_blocks_26 : decode cX5_blocks 26 = .ok (.iadd, 1) := by decide +kernel
theorem dX5_blocks_27 : decode cX5_blocks 27 = .ok (.istore_n 1, 1) := by decide +kernel
theorem dX5_blocks_28 : decode cX5_blocks 28 = .ok (.iinc 2 1, 3) := by decide +kernel
theorem dX5_blocks_31 : decode cX5_blocks 31 = .ok (.goto (-27), 3) := by decide +kernel
theorem dX5_blocks_34 : decode cX5_blocks 34 = .ok (.iload_n 1, 1) := by decide +kernel
theorem dX5_blocks_35 : decode cX5_blocks 35 = .ok (.ireturn, 1) := by decide +kernel
set_option maxRecDepth 20000 in
theorem ggX5_nest_X5_bits : GoodIn wsX5_nest wsX5_bits := goodIn_r _ [6] rfl (by decide +kernel)
set_option maxRecDepth 20000 in
theorem gX5_nest_X5_bits : GoodIn wsX5_nest (va_wsS RX5 192 yX5_bits wsX5_bits) := goodIn_app (goodIn_r _ [3, 4, 5] rfl (by decide +kernel)) ggX5_nest_X5_bits
theorem dX5_nest_0 : decode cX5_nest 0 = .ok (.iconst 0, 1) := by decide +kernel
theorem dX5_nest_1 : decode cX5_nest 1 = .ok (.istore_n 1, 1) := by decide +kernel
theorem dX5_nest_2 : decode cX5_nest 2 = .ok (.iconst 0, 1) := by decide +kernel
theorem dX5_nest_3 : decode cX5_nest 3 = .ok (.istore_n 2, 1) := by decide +kernel
theorem dX5_nest_4 : decode cX5_nest 4 = .ok (.iload_n 2, 1) := by decide +kernel
theorem dX5_nest_5 : decode cX5_nest 5 = .ok (.aload_n 0, 1) := by decide +kernel
theorem dX5_nest_6 : decode cX5_nest 6 = .ok (.getfield 175, 3) := by decide +kernel
theorem dX5_nest_9 : decode cX5_nest 9 = .ok (.if_icmp .ge 32, 3) := by decide +kernel
theorem dX5_nest_12 : decode cX5_nest 12 = .ok (.iconst 1, 1) := by decide +kernel
theorem dX5_nest_13 : decode cX5_nest 13 = .ok (.aload_n 0, 1) := by decide +kernel
theorem dX5_nest_14 : decode cX5_nest 14 = .ok (.getfield 25, 3) := by decide +kernel
theorem dX5_nest_17 : decode cX5_nest 17 = .ok (.iload_n 2, 1) := by decide +kernel
theorem dX5_nest_18 : decode cX5_nest 18 = .ok (.iaload, 1) := by decide +kernel
theorem dX5_nest_19 : decode cX5_nest 19 = .ok (.invokestatic 192, 3) := by decide +kernel
theorem dX5_nest_22 : decode cX5_nest 22 = .ok (.iadd, 1) := by decide +kernel
theorem dX5_nest_23 : decode cX5_nest 23 = .ok (.istore_n 3, 1) := by decide +kernel
theorem dX5_nest_24 : decode cX5_nest 24 = .ok (.iload_n 3, 1) := by decide +kernel
theorem dX5_nest_25 : decode cX5_nest 25 = .ok (.iload_n 1, 1) := by decide +kernel
theorem dX5_nest_26 : decode cX5_nest 26 = .ok (.if_icmp .le 7, 3) := by decide +kernel
theorem dX5_nest_29 : decode cX5_nest 29 = .ok (.iload_n 3, 1) := by decide +kernel
theorem dX5_nest_30 : decode cX5_nest 30 = .ok (.goto 4, 3) := by decide +kernel
theorem dX5_nest_33 : decode cX5_nest 33 = .ok (.iload_n 1, 1) := by decide +kernel
theorem dX5_nest_34 : decode cX5_nest 34 = .ok (.istore_n 1, 1) := by decide +kernel
theorem dX5_nest_35 : decode cX5_nest 35 = .ok (.iinc 2 1, 3) := by decide +kernel
theorem dX5_nest_38 : decode cX5_nest 38 = .ok (.goto (-34), 3) := by decide +kernel
theorem dX5_nest_41 : decode cX5_nest 41 = .ok (.iload_n 1, 1) := by decide +kernel
theorem dX5_nest_42 : decode cX5_nest 42 = .ok (.ireturn, 1) := by decide +kernel
set_option maxRecDepth 20000 in
theorem ggX5_gone_X5_lifeOf : GoodIn wsX5_gone wsX5_lifeOf := goodIn_r _ [6, 7, 8, 9, 10, 5, 11, 12, 13, 14, 15, 16, 17, 18, 19, 20, 21, 22, 23, 24, 25, 26, 27, 28, 29, 30, 31, 32, 33, 34, 35, 36, 37, 38, 39, 40, 41, 42, 43, 44, 45, 46, 47, 48, 49, 50, 51, 52, 53, 54, 55, 56, 57, 58, 59, 60, 61, 62] rfl (by decide +kernel)
set_option maxRecDepth 20000 in
theorem gX5_gone_X5_lifeOf : GoodIn wsX5_gone (wsV RX5 195 RX5 yX5_lifeOf wsX5_lifeOf) := goodIn_app (goodIn_r _ [2, 3, 4, 5] rfl (by decide +kernel)) ggX5_gone_X5_lifeOf
theorem dX5_gone_0 : decode cX5_gone 0 = .ok (.iconst 0, 1) := by decide +kernel
theorem dX5_gone_1 : decode cX5_gone 1 = .ok (.istore_n 1, 1) := by decide +kernel
theorem dX5_gone_2 : decode cX5_gone 2 = .ok (.iconst 0, 1) := by decide +kernel
theorem dX5_gone_3 : decode cX5_gone 3 = .ok (.istore_n 2, 1) := by decide +kernel
theorem dX5_gone_4 : decode cX5_gone 4 = .ok (.iload_n 2, 1) := by decide +kernel
theorem dX5_gone_5 : decode cX5_gone 5 = .ok (.aload_n 0, 1) := by decide +kernel
theorem dX5_gone_6 : decode cX5_gone 6 = .ok (.getfield 175, 3) := by decide +kernel
theorem dX5_gone_9 : decode cX5_gone 9 = .ok (.if_icmp .ge 25, 3) := by decide +kernel
theorem dX5_gone_12 : decode cX5_gone 12 = .ok (.iload_n 1, 1) := by decide +kernel
theorem dX5_gone_13 : decode cX5_gone 13 = .ok (.aload_n 0, 1) := by decide +kernel
theorem dX5_gone_14 : decode cX5_gone 14 = .ok (.iload_n 2, 1) := by decide +kernel
theorem dX5_gone_15 : decode cX5_gone 15 = .ok (.invokevirtual 195, 3) := by decide +kernel
theorem dX5_gone_18 : decode cX5_gone 18 = .ok (.ifCond .ne 7, 3) := by decide +kernel
theorem dX5_gone_21 : decode cX5_gone 21 = .ok (.iconst 1, 1) := by decide +kernel
theorem dX5_gone_22 : decode cX5_gone 22 = .ok (.goto 4, 3) := by decide +kernel
theorem dX5_gone_25 : decode cX5_gone 25 = .ok (.iconst 0, 1) := by decide +kernel
theorem dX5_gone_26 : decode cX5_gone 26 = .ok (.iadd, 1) := by decide +kernel
theorem dX5_gone_27 : decode cX5_gone 27 = .ok (.istore_n 1, 1) := by decide +kernel
theorem dX5_gone_28 : decode cX5_gone 28 = .ok (.iinc 2 1, 3) := by decide +kernel
theorem dX5_gone_31 : decode cX5_gone 31 = .ok (.goto (-27), 3) := by decide +kernel
theorem dX5_gone_34 : decode cX5_gone 34 = .ok (.iload_n 1, 1) := by decide +kernel
theorem dX5_gone_35 : decode cX5_gone 35 = .ok (.ireturn, 1) := by decide +kernel
theorem dX5_sheetsThere_0 : decode cX5_sheetsThere 0 = .ok (.iconst 0, 1) := by decide +kernel
theorem dX5_sheetsThere_1 : decode cX5_sheetsThere 1 = .ok (.istore_n 1, 1) := by decide +kernel
theorem dX5_sheetsThere_2 : decode cX5_sheetsThere 2 = .ok (.iconst 0, 1) := by decide +kernel
theorem dX5_sheetsThere_3 : decode cX5_sheetsThere 3 = .ok (.istore_n 2, 1) := by decide +kernel
theorem dX5_sheetsThere_4 : decode cX5_sheetsThere 4 = .ok (.iload_n 2, 1) := by decide +kernel
theorem dX5_sheetsThere_5 : decode cX5_sheetsThere 5 = .ok (.iconst 4, 1) := by decide +kernel
theorem dX5_sheetsThere_6 : decode cX5_sheetsThere 6 = .ok (.if_icmp .ge 26, 3) := by decide +kernel
theorem dX5_sheetsThere_9 : decode cX5_sheetsThere 9 = .ok (.iload_n 1, 1) := by decide +kernel
theorem dX5_sheetsThere_10 : decode cX5_sheetsThere 10 = .ok (.aload_n 0, 1) := by decide +kernel
theorem dX5_sheetsThere_11 : decode cX5_sheetsThere 11 = .ok (.getfield 72, 3) := by decide +kernel
theorem dX5_sheetsThere_14 : decode cX5_sheetsThere 14 = .ok (.iload_n 2, 1) := by decide +kernel
theorem dX5_sheetsThere_15 : decode cX5_sheetsThere 15 = .ok (.baload, 1) := by decide +kernel
theorem dX5_sheetsThere_16 : decode cX5_sheetsThere 16 = .ok (.ifCond .eq 7, 3) := by decide +kernel
theorem dX5_sheetsThere_19 : decode cX5_sheetsThere 19 = .ok (.iconst 1, 1) := by decide +kernel
theorem dX5_sheetsThere_20 : decode cX5_sheetsThere 20 = .ok (.goto 4, 3) := by decide +kernel
theorem dX5_sheetsThere_23 : decode cX5_sheetsThere 23 = .ok (.iconst 0, 1) := by decide +kernel
theorem dX5_sheetsThere_24 : decode cX5_sheetsThere 24 = .ok (.iadd, 1) := by decide +kernel
theorem dX5_sheetsThere_25 : decode cX5_sheetsThere 25 = .ok (.istore_n 1, 1) := by decide +kernel
theorem dX5_sheetsThere_26 : decode cX5_sheetsThere 26 = .ok (.iinc 2 1, 3) := by decide +kernel
theorem dX5_sheetsThere_29 : decode cX5_sheetsThere 29 = .ok (.goto (-25), 3) := by decide +kernel
theorem dX5_sheetsThere_32 : decode cX5_sheetsThere 32 = .ok (.iload_n 1, 1) := by decide +kernel
theorem dX5_sheetsThere_33 : decode cX5_sheetsThere 33 = .ok (.ireturn, 1) := by decide +kernel
set_option maxRecDepth 20000 in
theorem ggX5_told_X5_changesOf : GoodIn wsX5_told wsX5_changesOf := goodIn_r _ [11, 12, 4, 13, 14, 56, 57, 58, 59, 60, 61, 62, 63, 64, 65, 66, 67, 68, 69, 70, 71, 72, 73, 74, 75, 76, 77, 78, 79, 80, 81, 82, 83, 84, 85, 86, 87, 88, 89, 90, 91, 92, 93] rfl (by decide +kernel)
set_option maxRecDepth 20000 in
theorem gX5_told_X5_changesOf : GoodIn wsX5_told (wsV RX5 185 RX5 yX5_changesOf wsX5_changesOf) := goodIn_app (goodIn_r _ [7, 8, 9, 10] rfl (by decide +kernel)) ggX5_told_X5_changesOf
set_option maxRecDepth 20000 in
theorem ggX5_told_X5_manyOf : GoodIn wsX5_told wsX5_manyOf := goodIn_r _ [18, 2, 19, 20, 21, 10, 22, 23, 24, 25, 26, 27, 56, 57, 58, 59, 60, 61, 62, 63, 64, 65, 66, 67, 68, 69, 70, 71, 72, 73, 74, 75, 76, 77, 78, 79, 80, 81, 82, 83, 84, 85, 86, 87, 88, 89, 90, 91, 92, 93] rfl (by decide +kernel)
set_option maxRecDepth 20000 in
theorem gX5_told_X5_manyOf : GoodIn wsX5_told (wsV RX5 198 RX5 yX5_manyOf wsX5_manyOf) := goodIn_app (goodIn_r _ [15, 16, 17, 10] rfl (by decide +kernel)) ggX5_told_X5_manyOf
set_option maxRecDepth 20000 in
theorem ggX5_told_X5_blocks : GoodIn wsX5_told wsX5_blocks := goodIn_r _ [31, 2, 32, 33, 34, 10, 35, 23, 24, 56, 57, 58, 59, 60, 61, 62, 63, 64, 65, 66, 67, 68, 69, 70, 71, 72, 73, 74, 75, 76, 77, 78, 79, 80, 81, 82, 83, 84, 85, 86, 87, 88, 89, 90, 91, 92, 93] rfl (by decide +kernel)
set_option maxRecDepth 20000 in
theorem gX5_told_X5_blocks : GoodIn wsX5_told (wsV RX5 201 RX5 yX5_blocks wsX5_blocks) := goodIn_app (goodIn_r _ [28, 29, 30, 10] rfl (by decide +kernel)) ggX5_told_X5_blocks
set_option maxRecDepth 20000 in
theorem ggX5_told_X5_nest : GoodIn wsX5_told wsX5_nest := goodIn_r _ [39, 2, 24, 40, 41, 10, 42, 56, 57, 58, 59, 60, 61, 62, 63, 64, 65, 66, 67, 68, 69, 70, 71, 72, 73, 74, 75, 76, 77, 78, 79, 80, 81, 82, 83, 84, 85, 86, 87, 88, 89, 90, 91, 92, 93] rfl (by decide +kernel)
set_option maxRecDepth 20000 in
theorem gX5_told_X5_nest : GoodIn wsX5_told (wsV RX5 204 RX5 yX5_nest wsX5_nest) := goodIn_app (goodIn_r _ [36, 37, 38, 10] rfl (by decide +kernel)) ggX5_told_X5_nest
set_option maxRecDepth 20000 in
theorem ggX5_told_X5_gone : GoodIn wsX5_told wsX5_gone := goodIn_r _ [46, 2, 47, 48, 49, 10, 50, 1, 7, 8, 9, 11, 12, 4, 13, 14, 19, 20, 21, 22, 23, 24, 25, 26, 27, 56, 57, 58, 59, 60, 61, 62, 63, 64, 65, 66, 67, 68, 69, 70, 71, 72, 73, 74, 75, 76, 77, 78, 79, 80, 81, 82, 83, 84, 85, 86, 87, 88, 89, 90, 91, 92, 93] rfl (by decide +kernel)
set_option maxRecDepth 20000 in
theorem gX5_told_X5_gone : GoodIn wsX5_told (wsV RX5 207 RX5 yX5_gone wsX5_gone) := goodIn_app (goodIn_r _ [43, 44, 45, 10] rfl (by decide +kernel)) ggX5_told_X5_gone
set_option maxRecDepth 20000 in
theorem ggX5_told_X5_sheetsThere : GoodIn wsX5_told wsX5_sheetsThere := goodIn_r _ [54, 55, 56, 57, 58, 59, 60, 61, 62, 63, 64, 65, 66, 67, 68, 69, 70, 71, 72, 73, 74, 75, 76, 77, 78, 79, 80, 81, 82, 83, 84, 85, 86, 87, 88, 89, 90, 91, 92, 93] rfl (by decide +kernel)
set_option maxRecDepth 20000 in
theorem gX5_told_X5_sheetsThere : GoodIn wsX5_told (wsV RX5 210 RX5 yX5_sheetsThere wsX5_sheetsThere) := goodIn_app (goodIn_r _ [51, 52, 53, 10] rfl (by decide +kernel)) ggX5_told_X5_sheetsThere
theorem dX5_told_0 : decode cX5_told 0 = .ok (.iload_n 1, 1) := by decide +kernel
theorem dX5_told_1 : decode cX5_told 1 = .ok (.tableswitch 148 0 9 #[55, 60, 65, 86, 99, 123, 128, 133, 138, 143], 55) := by decide +kernel
theorem dX5_told_56 : decode cX5_told 56 = .ok (.aload_n 0, 1) := by decide +kernel
theorem dX5_told_57 : decode cX5_told 57 = .ok (.getfield 91, 3) := by decide +kernel
theorem dX5_told_60 : decode cX5_told 60 = .ok (.ireturn, 1) := by decide +kernel
theorem dX5_told_61 : decode cX5_told 61 = .ok (.aload_n 0, 1) := by decide +kernel
theorem dX5_told_62 : decode cX5_told 62 = .ok (.getfield 175, 3) := by decide +kernel
theorem dX5_told_65 : decode cX5_told 65 = .ok (.ireturn, 1) := by decide +kernel
theorem dX5_told_66 : decode cX5_told 66 = .ok (.aload_n 0, 1) := by decide +kernel
theorem dX5_told_67 : decode cX5_told 67 = .ok (.getfield 178, 3) := by decide +kernel
theorem dX5_told_70 : decode cX5_told 70 = .ok (.ifCond .eq 15, 3) := by decide +kernel
theorem dX5_told_73 : decode cX5_told 73 = .ok (.aload_n 0, 1) := by decide +kernel
theorem dX5_told_74 : decode cX5_told 74 = .ok (.getfield 7, 3) := by decide +kernel
theorem dX5_told_77 : decode cX5_told 77 = .ok (.aload_n 0, 1) := by decide +kernel
theorem dX5_told_78 : decode cX5_told 78 = .ok (.getfield 91, 3) := by decide +kernel
theorem dX5_told_81 : decode cX5_told 81 = .ok (.iaload, 1) := by decide +kernel
theorem dX5_told_82 : decode cX5_told 82 = .ok (.goto 4, 3) := by decide +kernel
theorem dX5_told_85 : decode cX5_told 85 = .ok (.iconst (-1), 1) := by decide +kernel
theorem dX5_told_86 : decode cX5_told 86 = .ok (.ireturn, 1) := by decide +kernel
theorem dX5_told_87 : decode cX5_told 87 = .ok (.aload_n 0, 1) := by decide +kernel
theorem dX5_told_88 : decode cX5_told 88 = .ok (.getfield 178, 3) := by decide +kernel
theorem dX5_told_91 : decode cX5_told 91 = .ok (.ifCond .eq 7, 3) := by decide +kernel
theorem dX5_told_94 : decode cX5_told 94 = .ok (.iconst 1, 1) := by decide +kernel
theorem dX5_told_95 : decode cX5_told 95 = .ok (.goto 4, 3) := by decide +kernel
theorem dX5_told_98 : decode cX5_told 98 = .ok (.iconst 0, 1) := by decide +kernel
theorem dX5_told_99 : decode cX5_told 99 = .ok (.ireturn, 1) := by decide +kernel
theorem dX5_told_100 : decode cX5_told 100 = .ok (.aload_n 0, 1) := by decide +kernel
theorem dX5_told_101 : decode cX5_told 101 = .ok (.getfield 178, 3) := by decide +kernel
theorem dX5_told_104 : decode cX5_told 104 = .ok (.ifCond .eq 18, 3) := by decide +kernel
theorem dX5_told_107 : decode cX5_told 107 = .ok (.aload_n 0, 1) := by decide +kernel
theorem dX5_told_108 : decode cX5_told 108 = .ok (.aload_n 0, 1) := by decide +kernel
theorem dX5_told_109 : decode cX5_told 109 = .ok (.aload_n 0, 1) := by decide +kernel
theorem dX5_told_110 : decode cX5_told 110 = .ok (.getfield 91, 3) := by decide +kernel
theorem dX5_told_113 : decode cX5_told 113 = .ok (.invokevirtual 185, 3) := by decide +kernel
theorem dX5_told_116 : decode cX5_told 116 = .ok (.invokevirtual 198, 3) := by decide +kernel
theorem dX5_told_119 : decode cX5_told 119 = .ok (.goto 4, 3) := by decide +kernel
theorem dX5_told_122 : decode cX5_told 122 = .ok (.iconst 0, 1) := by decide +kernel
theorem dX5_told_123 : decode cX5_told 123 = .ok (.ireturn, 1) := by decide +kernel
theorem dX5_told_124 : decode cX5_told 124 = .ok (.aload_n 0, 1) := by decide +kernel
theorem dX5_told_125 : decode cX5_told 125 = .ok (.invokevirtual 201, 3) := by decide +kernel
theorem dX5_told_128 : decode cX5_told 128 = .ok (.ireturn, 1) := by decide +kernel
theorem dX5_told_129 : decode cX5_told 129 = .ok (.aload_n 0, 1) := by decide +kernel
theorem dX5_told_130 : decode cX5_told 130 = .ok (.invokevirtual 204, 3) := by decide +kernel
theorem dX5_told_133 : decode cX5_told 133 = .ok (.ireturn, 1) := by decide +kernel
theorem dX5_told_134 : decode cX5_told 134 = .ok (.aload_n 0, 1) := by decide +kernel
theorem dX5_told_135 : decode cX5_told 135 = .ok (.invokevirtual 207, 3) := by decide +kernel
theorem dX5_told_138 : decode cX5_told 138 = .ok (.ireturn, 1) := by decide +kernel
theorem dX5_told_139 : decode cX5_told 139 = .ok (.aload_n 0, 1) := by decide +kernel
theorem dX5_told_140 : decode cX5_told 140 = .ok (.getfield 101, 3) := by decide +kernel
theorem dX5_told_143 : decode cX5_told 143 = .ok (.ireturn, 1) := by decide +kernel
theorem dX5_told_144 : decode cX5_told 144 = .ok (.aload_n 0, 1) := by decide +kernel
theorem dX5_told_145 : decode cX5_told 145 = .ok (.invokevirtual 210, 3) := by decide +kernel
theorem dX5_told_148 : decode cX5_told 148 = .ok (.ireturn, 1) := by decide +kernel
theorem dX5_told_149 : decode cX5_told 149 = .ok (.ldc 100, 2) := by decide +kernel
theorem dX5_told_151 : decode cX5_told 151 = .ok (.ireturn, 1) := by decide +kernel
theorem dX5_broughtBy_0 : decode cX5_broughtBy 0 = .ok (.iconst 0, 1) := by decide +kernel
theorem dX5_broughtBy_1 : decode cX5_broughtBy 1 = .ok (.istore_n 2, 1) := by decide +kernel
theorem dX5_broughtBy_2 : decode cX5_broughtBy 2 = .ok (.iconst 0, 1) := by decide +kernel
theorem dX5_broughtBy_3 : decode cX5_broughtBy 3 = .ok (.istore_n 3, 1) := by decide +kernel
theorem dX5_broughtBy_4 : decode cX5_broughtBy 4 = .ok (.iload_n 3, 1) := by decide +kernel
theorem dX5_broughtBy_5 : decode cX5_broughtBy 5 = .ok (.aload_n 0, 1) := by decide +kernel
theorem dX5_broughtBy_6 : decode cX5_broughtBy 6 = .ok (.getfield 175, 3) := by decide +kernel
theorem dX5_broughtBy_9 : decode cX5_broughtBy 9 = .ok (.if_icmp .ge 27, 3) := by decide +kernel
theorem dX5_broughtBy_12 : decode cX5_broughtBy 12 = .ok (.iload_n 2, 1) := by decide +kernel
theorem dX5_broughtBy_13 : decode cX5_broughtBy 13 = .ok (.aload_n 0, 1) := by decide +kernel
theorem dX5_broughtBy_14 : decode cX5_broughtBy 14 = .ok (.getfield 22, 3) := by decide +kernel
theorem dX5_broughtBy_17 : decode cX5_broughtBy 17 = .ok (.iload_n 3, 1) := by decide +kernel
theorem dX5_broughtBy_18 : decode cX5_broughtBy 18 = .ok (.iaload, 1) := by decide +kernel
theorem dX5_broughtBy_19 : decode cX5_broughtBy 19 = .ok (.iload_n 1, 1) := by decide +kernel
theorem dX5_broughtBy_20 : decode cX5_broughtBy 20 = .ok (.if_icmp .ne 7, 3) := by decide +kernel
theorem dX5_broughtBy_23 : decode cX5_broughtBy 23 = .ok (.iconst 1, 1) := by decide +kernel
theorem dX5_broughtBy_24 : decode cX5_broughtBy 24 = .ok (.goto 4, 3) := by decide +kernel
theorem dX5_broughtBy_27 : decode cX5_broughtBy 27 = .ok (.iconst 0, 1) := by decide +kernel
theorem dX5_broughtBy_28 : decode cX5_broughtBy 28 = .ok (.iadd, 1) := by decide +kernel
theorem dX5_broughtBy_29 : decode cX5_broughtBy 29 = .ok (.istore_n 2, 1) := by decide +kernel
theorem dX5_broughtBy_30 : decode cX5_broughtBy 30 = .ok (.iinc 3 1, 3) := by decide +kernel
theorem dX5_broughtBy_33 : decode cX5_broughtBy 33 = .ok (.goto (-29), 3) := by decide +kernel
theorem dX5_broughtBy_36 : decode cX5_broughtBy 36 = .ok (.iload_n 2, 1) := by decide +kernel
theorem dX5_broughtBy_37 : decode cX5_broughtBy 37 = .ok (.ireturn, 1) := by decide +kernel
set_option maxRecDepth 20000 in
theorem ggX5_tookBy_X5_has : GoodIn wsX5_tookBy wsX5_has := goodIn_r _ [6] rfl (by decide +kernel)
set_option maxRecDepth 20000 in
theorem gX5_tookBy_X5_has : GoodIn wsX5_tookBy (va_wsS RX5 135 yX5_has wsX5_has) := goodIn_app (goodIn_r _ [3, 4, 5] rfl (by decide +kernel)) ggX5_tookBy_X5_has
theorem dX5_tookBy_0 : decode cX5_tookBy 0 = .ok (.iconst 0, 1) := by decide +kernel
theorem dX5_tookBy_1 : decode cX5_tookBy 1 = .ok (.istore_n 2, 1) := by decide +kernel
theorem dX5_tookBy_2 : decode cX5_tookBy 2 = .ok (.iconst 0, 1) := by decide +kernel
theorem dX5_tookBy_3 : decode cX5_tookBy 3 = .ok (.istore_n 3, 1) := by decide +kernel
theorem dX5_tookBy_4 : decode cX5_tookBy 4 = .ok (.iload_n 3, 1) := by decide +kernel
theorem dX5_tookBy_5 : decode cX5_tookBy 5 = .ok (.aload_n 0, 1) := by decide +kernel
theorem dX5_tookBy_6 : decode cX5_tookBy 6 = .ok (.getfield 175, 3) := by decide +kernel
theorem dX5_tookBy_9 : decode cX5_tookBy 9 = .ok (.if_icmp .ge 30, 3) := by decide +kernel
theorem dX5_tookBy_12 : decode cX5_tookBy 12 = .ok (.iload_n 2, 1) := by decide +kernel
theorem dX5_tookBy_13 : decode cX5_tookBy 13 = .ok (.aload_n 0, 1) := by decide +kernel
theorem dX5_tookBy_14 : decode cX5_tookBy 14 = .ok (.getfield 25, 3) := by decide +kernel
theorem dX5_tookBy_17 : decode cX5_tookBy 17 = .ok (.iload_n 3, 1) := by decide +kernel
theorem dX5_tookBy_18 : decode cX5_tookBy 18 = .ok (.iaload, 1) := by decide +kernel
theorem dX5_tookBy_19 : decode cX5_tookBy 19 = .ok (.iload_n 1, 1) := by decide +kernel
theorem dX5_tookBy_20 : decode cX5_tookBy 20 = .ok (.invokestatic 135, 3) := by decide +kernel
theorem dX5_tookBy_23 : decode cX5_tookBy 23 = .ok (.ifCond .eq 7, 3) := by decide +kernel
theorem dX5_tookBy_26 : decode cX5_tookBy 26 = .ok (.iconst 1, 1) := by decide +kernel
theorem dX5_tookBy_27 : decode cX5_tookBy 27 = .ok (.goto 4, 3) := by decide +kernel
theorem dX5_tookBy_30 : decode cX5_tookBy 30 = .ok (.iconst 0, 1) := by decide +kernel
theorem dX5_tookBy_31 : decode cX5_tookBy 31 = .ok (.iadd, 1) := by decide +kernel
theorem dX5_tookBy_32 : decode cX5_tookBy 32 = .ok (.istore_n 2, 1) := by decide +kernel
theorem dX5_tookBy_33 : decode cX5_tookBy 33 = .ok (.iinc 3 1, 3) := by decide +kernel
theorem dX5_tookBy_36 : decode cX5_tookBy 36 = .ok (.goto (-32), 3) := by decide +kernel
theorem dX5_tookBy_39 : decode cX5_tookBy 39 = .ok (.iload_n 2, 1) := by decide +kernel
theorem dX5_tookBy_40 : decode cX5_tookBy 40 = .ok (.ireturn, 1) := by decide +kernel
set_option maxRecDepth 20000 in
theorem ggX5_version_X5_isVersion : GoodIn wsX5_version wsX5_isVersion := goodIn_r _ [10, 11, 12, 13, 9, 14, 42, 43, 44, 45, 46, 47, 48, 49, 50, 51, 52, 53, 54, 55, 56, 57, 58, 59, 60, 61, 62, 63, 64, 65, 66, 67, 68, 69, 70, 71, 72, 73, 74, 75, 76, 77, 78, 79] rfl (by decide +kernel)
set_option maxRecDepth 20000 in
theorem gX5_version_X5_isVersion : GoodIn wsX5_version (wsV RX5 213 RX5 yX5_isVersion wsX5_isVersion) := goodIn_app (goodIn_r _ [6, 7, 8, 9] rfl (by decide +kernel)) ggX5_version_X5_isVersion
set_option maxRecDepth 20000 in
theorem ggX5_version_X5_changesOf : GoodIn wsX5_version wsX5_changesOf := goodIn_r _ [18, 19, 2, 3, 4, 42, 43, 44, 45, 46, 47, 48, 49, 50, 51, 52, 53, 54, 55, 56, 57, 58, 59, 60, 61, 62, 63, 64, 65, 66, 67, 68, 69, 70, 71, 72, 73, 74, 75, 76, 77, 78, 79] rfl (by decide +kernel)
set_option maxRecDepth 20000 in
theorem gX5_version_X5_changesOf : GoodIn wsX5_version (wsV RX5 185 RX5 yX5_changesOf wsX5_changesOf) := goodIn_app (goodIn_r _ [15, 16, 17, 9] rfl (by decide +kernel)) ggX5_version_X5_changesOf
set_option maxRecDepth 20000 in
theorem ggX5_version_X5_manyOf : GoodIn wsX5_version wsX5_manyOf := goodIn_r _ [23, 24, 25, 26, 27, 9, 28, 29, 30, 31, 32, 33, 42, 43, 44, 45, 46, 47, 48, 49, 50, 51, 52, 53, 54, 55, 56, 57, 58, 59, 60, 61, 62, 63, 64, 65, 66, 67, 68, 69, 70, 71, 72, 73, 74, 75, 76, 77, 78, 79] rfl (by decide +kernel)
set_option maxRecDepth 20000 in
theorem gX5_version_X5_manyOf : GoodIn wsX5_version (wsV RX5 198 RX5 yX5_manyOf wsX5_manyOf) := goodIn_app (goodIn_r _ [20, 21, 22, 9] rfl (by decide +kernel)) ggX5_version_X5_manyOf
set_option maxRecDepth 20000 in
theorem ggX5_version_X5_broughtBy : GoodIn wsX5_version wsX5_broughtBy := goodIn_r _ [37, 24, 29, 42, 43, 44, 45, 46, 47, 48, 49, 50, 51, 52, 53, 54, 55, 56, 57, 58, 59, 60, 61, 62, 63, 64, 65, 66, 67, 68, 69, 70, 71, 72, 73, 74, 75, 76, 77, 78, 79] rfl (by decide +kernel)
set_option maxRecDepth 20000 in
theorem gX5_version_X5_broughtBy : GoodIn wsX5_version (wsV RX5 217 RX5 yX5_broughtBy wsX5_broughtBy) := goodIn_app (goodIn_r _ [34, 35, 36, 9] rfl (by decide +kernel)) ggX5_version_X5_broughtBy
set_option maxRecDepth 20000 in
theorem ggX5_version_X5_tookBy : GoodIn wsX5_version wsX5_tookBy := goodIn_r _ [41, 24, 30, 31, 32, 9, 33, 42, 43, 44, 45, 46, 47, 48, 49, 50, 51, 52, 53, 54, 55, 56, 57, 58, 59, 60, 61, 62, 63, 64, 65, 66, 67, 68, 69, 70, 71, 72, 73, 74, 75, 76, 77, 78, 79] rfl (by decide +kernel)
set_option maxRecDepth 20000 in
theorem gX5_version_X5_tookBy : GoodIn wsX5_version (wsV RX5 220 RX5 yX5_tookBy wsX5_tookBy) := goodIn_app (goodIn_r _ [38, 39, 40, 9] rfl (by decide +kernel)) ggX5_version_X5_tookBy
theorem dX5_version_0 : decode cX5_version 0 = .ok (.aload_n 0, 1) := by decide +kernel
theorem dX5_version_1 : decode cX5_version 1 = .ok (.iload_n 1, 1) := by decide +kernel
theorem dX5_version_2 : decode cX5_version 2 = .ok (.invokevirtual 213, 3) := by decide +kernel
theorem dX5_version_5 : decode cX5_version 5 = .ok (.ifCond .ne 6, 3) := by decide +kernel
theorem dX5_version_8 : decode cX5_version 8 = .ok (.ldc 216, 2) := by decide +kernel
theorem dX5_version_10 : decode cX5_version 10 = .ok (.ireturn, 1) := by decide +kernel
theorem dX5_version_11 : decode cX5_version 11 = .ok (.iload_n 2, 1) := by decide +kernel
theorem dX5_version_12 : decode cX5_version 12 = .ok (.tableswitch 93 0 6 #[44, 51, 57, 64, 71, 81, 87], 44) := by decide +kernel
theorem dX5_version_56 : decode cX5_version 56 = .ok (.aload_n 0, 1) := by decide +kernel
theorem dX5_version_57 : decode cX5_version 57 = .ok (.getfield 7, 3) := by decide +kernel
theorem dX5_version_60 : decode cX5_version 60 = .ok (.iload_n 1, 1) := by decide +kernel
theorem dX5_version_61 : decode cX5_version 61 = .ok (.iaload, 1) := by decide +kernel
theorem dX5_version_62 : decode cX5_version 62 = .ok (.ireturn, 1) := by decide +kernel
theorem dX5_version_63 : decode cX5_version 63 = .ok (.aload_n 0, 1) := by decide +kernel
theorem dX5_version_64 : decode cX5_version 64 = .ok (.iload_n 1, 1) := by decide +kernel
theorem dX5_version_65 : decode cX5_version 65 = .ok (.invokevirtual 185, 3) := by decide +kernel
theorem dX5_version_68 : decode cX5_version 68 = .ok (.ireturn, 1) := by decide +kernel
theorem dX5_version_69 : decode cX5_version 69 = .ok (.aload_n 0, 1) := by decide +kernel
theorem dX5_version_70 : decode cX5_version 70 = .ok (.getfield 13, 3) := by decide +kernel
theorem dX5_version_73 : decode cX5_version 73 = .ok (.iload_n 1, 1) := by decide +kernel
theorem dX5_version_74 : decode cX5_version 74 = .ok (.iaload, 1) := by decide +kernel
theorem dX5_version_75 : decode cX5_version 75 = .ok (.ireturn, 1) := by decide +kernel
theorem dX5_version_76 : decode cX5_version 76 = .ok (.aload_n 0, 1) := by decide +kernel
theorem dX5_version_77 : decode cX5_version 77 = .ok (.getfield 16, 3) := by decide +kernel
theorem dX5_version_80 : decode cX5_version 80 = .ok (.iload_n 1, 1) := by decide +kernel
theorem dX5_version_81 : decode cX5_version 81 = .ok (.iaload, 1) := by decide +kernel
theorem dX5_version_82 : decode cX5_version 82 = .ok (.ireturn, 1) := by decide +kernel
theorem dX5_version_83 : decode cX5_version 83 = .ok (.aload_n 0, 1) := by decide +kernel
theorem dX5_version_84 : decode cX5_version 84 = .ok (.aload_n 0, 1) := by decide +kernel
theorem dX5_version_85 : decode cX5_version 85 = .ok (.iload_n 1, 1) := by decide +kernel
theorem dX5_version_86 : decode cX5_version 86 = .ok (.invokevirtual 185, 3) := by decide +kernel
theorem dX5_version_89 : decode cX5_version 89 = .ok (.invokevirtual 198, 3) := by decide +kernel
theorem dX5_version_92 : decode cX5_version 92 = .ok (.ireturn, 1) := by decide +kernel
theorem dX5_version_93 : decode cX5_version 93 = .ok (.aload_n 0, 1) := by decide +kernel
theorem dX5_version_94 : decode cX5_version 94 = .ok (.iload_n 1, 1) := by decide +kernel
theorem dX5_version_95 : decode cX5_version 95 = .ok (.invokevirtual 217, 3) := by decide +kernel
theorem dX5_version_98 : decode cX5_version 98 = .ok (.ireturn, 1) := by decide +kernel
theorem dX5_version_99 : decode cX5_version 99 = .ok (.aload_n 0, 1) := by decide +kernel
theorem dX5_version_100 : decode cX5_version 100 = .ok (.iload_n 1, 1) := by decide +kernel
theorem dX5_version_101 : decode cX5_version 101 = .ok (.invokevirtual 220, 3) := by decide +kernel
theorem dX5_version_104 : decode cX5_version 104 = .ok (.ireturn, 1) := by decide +kernel
theorem dX5_version_105 : decode cX5_version 105 = .ok (.ldc 100, 2) := by decide +kernel
theorem dX5_version_107 : decode cX5_version 107 = .ok (.ireturn, 1) := by decide +kernel
set_option maxRecDepth 20000 in
theorem ggX5_line_X5_in : GoodIn wsX5_line wsX5_in := goodIn_r _ [10] rfl (by decide +kernel)
set_option maxRecDepth 20000 in
theorem gX5_line_X5_in : GoodIn wsX5_line (va_wsS RX5 94 yX5_in wsX5_in) := goodIn_app (goodIn_r _ [7, 8, 9] rfl (by decide +kernel)) ggX5_line_X5_in
set_option maxRecDepth 20000 in
theorem ggX5_line_X5_lifeOf : GoodIn wsX5_line wsX5_lifeOf := goodIn_r _ [14, 15, 16, 17, 18, 9, 19, 20, 21, 22, 23, 24, 25, 26, 27, 4, 5, 28, 29, 30, 31, 32, 33, 34, 35, 36, 37, 38, 39, 40, 41, 42, 43, 44, 45, 46, 47, 48, 49, 50, 51, 52, 53, 54, 55, 56, 57, 58, 59, 60, 61, 62, 63, 64, 65, 66, 67, 68] rfl (by decide +kernel)
set_option maxRecDepth 20000 in
theorem gX5_line_X5_lifeOf : GoodIn wsX5_line (wsV RX5 195 RX5 yX5_lifeOf wsX5_lifeOf) := goodIn_app (goodIn_r _ [11, 12, 13, 9] rfl (by decide +kernel)) ggX5_line_X5_lifeOf
theorem dX5_line_0 : decode cX5_line 0 = .ok (.iload_n 1, 1) := by decide +kernel
theorem dX5_line_1 : decode cX5_line 1 = .ok (.i2l, 1) := by decide +kernel
theorem dX5_line_2 : decode cX5_line 2 = .ok (.lconst 0, 1) := by decide +kernel
theorem dX5_line_3 : decode cX5_line 3 = .ok (.aload_n 0, 1) := by decide +kernel
theorem dX5_line_4 : decode cX5_line 4 = .ok (.getfield 175, 3) := by decide +kernel
theorem dX5_line_7 : decode cX5_line 7 = .ok (.iconst 1, 1) := by decide +kernel
theorem dX5_line_8 : decode cX5_line 8 = .ok (.isub, 1) := by decide +kernel
theorem dX5_line_9 : decode cX5_line 9 = .ok (.i2l, 1) := by decide +kernel
theorem dX5_line_10 : decode cX5_line 10 = .ok (.invokestatic 94, 3) := by decide +kernel
theorem dX5_line_13 : decode cX5_line 13 = .ok (.ifCond .ne 6, 3) := by decide +kernel
theorem dX5_line_16 : decode cX5_line 16 = .ok (.ldc 216, 2) := by decide +kernel
theorem dX5_line_18 : decode cX5_line 18 = .ok (.ireturn, 1) := by decide +kernel
theorem dX5_line_19 : decode cX5_line 19 = .ok (.iload_n 2, 1) := by decide +kernel
theorem dX5_line_20 : decode cX5_line 20 = .ok (.tableswitch 59 0 3 #[32, 39, 46, 53], 32) := by decide +kernel
theorem dX5_line_52 : decode cX5_line 52 = .ok (.aload_n 0, 1) := by decide +kernel
theorem dX5_line_53 : decode cX5_line 53 = .ok (.getfield 19, 3) := by decide +kernel
theorem dX5_line_56 : decode cX5_line 56 = .ok (.iload_n 1, 1) := by decide +kernel
theorem dX5_line_57 : decode cX5_line 57 = .ok (.iaload, 1) := by decide +kernel
theorem dX5_line_58 : decode cX5_line 58 = .ok (.ireturn, 1) := by decide +kernel
theorem dX5_line_59 : decode cX5_line 59 = .ok (.aload_n 0, 1) := by decide +kernel
theorem dX5_line_60 : decode cX5_line 60 = .ok (.getfield 22, 3) := by decide +kernel
theorem dX5_line_63 : decode cX5_line 63 = .ok (.iload_n 1, 1) := by decide +kernel
theorem dX5_line_64 : decode cX5_line 64 = .ok (.iaload, 1) := by decide +kernel
theorem dX5_line_65 : decode cX5_line 65 = .ok (.ireturn, 1) := by decide +kernel
theorem dX5_line_66 : decode cX5_line 66 = .ok (.aload_n 0, 1) := by decide +kernel
theorem dX5_line_67 : decode cX5_line 67 = .ok (.getfield 25, 3) := by decide +kernel
theorem dX5_line_70 : decode cX5_line 70 = .ok (.iload_n 1, 1) := by decide +kernel
theorem dX5_line_71 : decode cX5_line 71 = .ok (.iaload, 1) := by decide +kernel
theorem dX5_line_72 : decode cX5_line 72 = .ok (.ireturn, 1) := by decide +kernel
theorem dX5_line_73 : decode cX5_line 73 = .ok (.aload_n 0, 1) := by decide +kernel
theorem dX5_line_74 : decode cX5_line 74 = .ok (.iload_n 1, 1) := by decide +kernel
theorem dX5_line_75 : decode cX5_line 75 = .ok (.invokevirtual 195, 3) := by decide +kernel
theorem dX5_line_78 : decode cX5_line 78 = .ok (.ireturn, 1) := by decide +kernel
theorem dX5_line_79 : decode cX5_line 79 = .ok (.ldc 100, 2) := by decide +kernel
theorem dX5_line_81 : decode cX5_line 81 = .ok (.ireturn, 1) := by decide +kernel
set_option maxRecDepth 20000 in
theorem ggX5_text_X5_isVersion : GoodIn wsX5_text wsX5_isVersion := goodIn_r _ [13, 6, 14, 15, 12, 16, 38, 39, 40, 41, 42, 43, 44, 45, 46, 47, 48, 49, 50, 51, 52, 53, 54, 55, 56, 57, 58, 59, 60, 61, 62, 63, 64, 65, 66, 67, 68, 69, 70, 71, 72, 73, 74, 75] rfl (by decide +kernel)
set_option maxRecDepth 20000 in
theorem gX5_text_X5_isVersion : GoodIn wsX5_text (wsV RX5 213 RX5 yX5_isVersion wsX5_isVersion) := goodIn_app (goodIn_r _ [9, 10, 11, 12] rfl (by decide +kernel)) ggX5_text_X5_isVersion
set_option maxRecDepth 20000 in
theorem ggX5_text_X5_in : GoodIn wsX5_text wsX5_in := goodIn_r _ [16] rfl (by decide +kernel)
set_option maxRecDepth 20000 in
theorem gX5_text_X5_in : GoodIn wsX5_text (va_wsS RX5 94 yX5_in wsX5_in) := goodIn_app (goodIn_r _ [14, 15, 12] rfl (by decide +kernel)) ggX5_text_X5_in
set_option maxRecDepth 20000 in
theorem ggX5_text_X5_changesOf : GoodIn wsX5_text wsX5_changesOf := goodIn_r _ [20, 21, 22, 23, 24, 38, 39, 40, 41, 42, 43, 44, 45, 46, 47, 48, 49, 50, 51, 52, 53, 54, 55, 56, 57, 58, 59, 60, 61, 62, 63, 64, 65, 66, 67, 68, 69, 70, 71, 72, 73, 74, 75] rfl (by decide +kernel)
set_option maxRecDepth 20000 in
theorem gX5_text_X5_changesOf : GoodIn wsX5_text (wsV RX5 185 RX5 yX5_changesOf wsX5_changesOf) := goodIn_app (goodIn_r _ [17, 18, 19, 12] rfl (by decide +kernel)) ggX5_text_X5_changesOf
set_option maxRecDepth 20000 in
theorem ggX5_text_X5_lineAt : GoodIn wsX5_text wsX5_lineAt := goodIn_r _ [28, 29, 30, 31, 32, 12, 33, 8, 34, 35, 36, 37, 38, 39, 40, 41, 42, 43, 44, 45, 46, 47, 48, 49, 50, 51, 52, 53, 54, 55, 56, 57, 58, 59, 60, 61, 62, 63, 64, 65, 66, 67, 68, 69, 70, 71, 72, 73, 74, 75] rfl (by decide +kernel)
set_option maxRecDepth 20000 in
theorem gX5_text_X5_lineAt : GoodIn wsX5_text (wsV RX5 226 RX5 yX5_lineAt wsX5_lineAt) := goodIn_app (goodIn_r _ [25, 26, 27, 12] rfl (by decide +kernel)) ggX5_text_X5_lineAt
theorem dX5_text_0 : decode cX5_text 0 = .ok (.iload_n 1, 1) := by decide +kernel
theorem dX5_text_1 : decode cX5_text 1 = .ok (.iconst (-1), 1) := by decide +kernel
theorem dX5_text_2 : decode cX5_text 2 = .ok (.if_icmp .eq 14, 3) := by decide +kernel
theorem dX5_text_5 : decode cX5_text 5 = .ok (.aload_n 0, 1) := by decide +kernel
theorem dX5_text_6 : decode cX5_text 6 = .ok (.iload_n 1, 1) := by decide +kernel
theorem dX5_text_7 : decode cX5_text 7 = .ok (.invokevirtual 213, 3) := by decide +kernel
theorem dX5_text_10 : decode cX5_text 10 = .ok (.ifCond .ne 6, 3) := by decide +kernel
theorem dX5_text_13 : decode cX5_text 13 = .ok (.ldc 216, 2) := by decide +kernel
theorem dX5_text_15 : decode cX5_text 15 = .ok (.ireturn, 1) := by decide +kernel
theorem dX5_text_16 : decode cX5_text 16 = .ok (.iload_n 2, 1) := by decide +kernel
theorem dX5_text_17 : decode cX5_text 17 = .ok (.ifCond .lt 15, 3) := by decide +kernel
theorem dX5_text_20 : decode cX5_text 20 = .ok (.iload_n 3, 1) := by decide +kernel
theorem dX5_text_21 : decode cX5_text 21 = .ok (.i2l, 1) := by decide +kernel
theorem dX5_text_22 : decode cX5_text 22 = .ok (.lconst 0, 1) := by decide +kernel
theorem dX5_text_23 : decode cX5_text 23 = .ok (.ldc2_w 223, 3) := by decide +kernel
theorem dX5_text_26 : decode cX5_text 26 = .ok (.invokestatic 94, 3) := by decide +kernel
theorem dX5_text_29 : decode cX5_text 29 = .ok (.ifCond .ne 6, 3) := by decide +kernel
theorem dX5_text_32 : decode cX5_text 32 = .ok (.ldc 100, 2) := by decide +kernel
theorem dX5_text_34 : decode cX5_text 34 = .ok (.ireturn, 1) := by decide +kernel
theorem dX5_text_35 : decode cX5_text 35 = .ok (.iload_n 1, 1) := by decide +kernel
theorem dX5_text_36 : decode cX5_text 36 = .ok (.iconst (-1), 1) := by decide +kernel
theorem dX5_text_37 : decode cX5_text 37 = .ok (.if_icmp .ne 13, 3) := by decide +kernel
theorem dX5_text_40 : decode cX5_text 40 = .ok (.aload_n 0, 1) := by decide +kernel
theorem dX5_text_41 : decode cX5_text 41 = .ok (.getfield 178, 3) := by decide +kernel
theorem dX5_text_44 : decode cX5_text 44 = .ok (.ifCond .ne 6, 3) := by decide +kernel
theorem dX5_text_47 : decode cX5_text 47 = .ok (.ldc 225, 2) := by decide +kernel
theorem dX5_text_49 : decode cX5_text 49 = .ok (.ireturn, 1) := by decide +kernel
theorem dX5_text_50 : decode cX5_text 50 = .ok (.aload_n 0, 1) := by decide +kernel
theorem dX5_text_51 : decode cX5_text 51 = .ok (.aload_n 0, 1) := by decide +kernel
theorem dX5_text_52 : decode cX5_text 52 = .ok (.iload_n 1, 1) := by decide +kernel
theorem dX5_text_53 : decode cX5_text 53 = .ok (.iconst (-1), 1) := by decide +kernel
theorem dX5_text_54 : decode cX5_text 54 = .ok (.if_icmp .ne 10, 3) := by decide +kernel
theorem dX5_text_57 : decode cX5_text 57 = .ok (.aload_n 0, 1) := by decide +kernel
theorem dX5_text_58 : decode cX5_text 58 = .ok (.getfield 91, 3) := by decide +kernel
theorem dX5_text_61 : decode cX5_text 61 = .ok (.goto 4, 3) := by decide +kernel
theorem dX5_text_64 : decode cX5_text 64 = .ok (.iload_n 1, 1) := by decide +kernel
theorem dX5_text_65 : decode cX5_text 65 = .ok (.invokevirtual 185, 3) := by decide +kernel
theorem dX5_text_68 : decode cX5_text 68 = .ok (.iload_n 2, 1) := by decide +kernel
theorem dX5_text_69 : decode cX5_text 69 = .ok (.invokevirtual 226, 3) := by decide +kernel
theorem dX5_text_72 : decode cX5_text 72 = .ok (.istore 4, 2) := by decide +kernel
theorem dX5_text_74 : decode cX5_text 74 = .ok (.iload 4, 2) := by decide +kernel
theorem dX5_text_76 : decode cX5_text 76 = .ok (.ifCond .ge 5, 3) := by decide +kernel
theorem dX5_text_79 : decode cX5_text 79 = .ok (.iconst (-1), 1) := by decide +kernel
theorem dX5_text_80 : decode cX5_text 80 = .ok (.ireturn, 1) := by decide +kernel
theorem dX5_text_81 : decode cX5_text 81 = .ok (.iload_n 3, 1) := by decide +kernel
theorem dX5_text_82 : decode cX5_text 82 = .ok (.ifCond .ne 13, 3) := by decide +kernel
theorem dX5_text_85 : decode cX5_text 85 = .ok (.aload_n 0, 1) := by decide +kernel
theorem dX5_text_86 : decode cX5_text 86 = .ok (.getfield 19, 3) := by decide +kernel
theorem dX5_text_89 : decode cX5_text 89 = .ok (.iload 4, 2) := by decide +kernel
theorem dX5_text_91 : decode cX5_text 91 = .ok (.iaload, 1) := by decide +kernel
theorem dX5_text_92 : decode cX5_text 92 = .ok (.goto 20, 3) := by decide +kernel
theorem dX5_text_95 : decode cX5_text 95 = .ok (.iload_n 3, 1) := by decide +kernel
theorem dX5_text_96 : decode cX5_text 96 = .ok (.iconst 1, 1) := by decide +kernel
theorem dX5_text_97 : decode cX5_text 97 = .ok (.if_icmp .ne 13, 3) := by decide +kernel
theorem dX5_text_100 : decode cX5_text 100 = .ok (.aload_n 0, 1) := by decide +kernel
theorem dX5_text_101 : decode cX5_text 101 = .ok (.getfield 22, 3) := by decide +kernel
theorem dX5_text_104 : decode cX5_text 104 = .ok (.iload 4, 2) := by decide +kernel
theorem dX5_text_106 : decode cX5_text 106 = .ok (.iaload, 1) := by decide +kernel
theorem dX5_text_107 : decode cX5_text 107 = .ok (.goto 5, 3) := by decide +kernel
theorem dX5_text_110 : decode cX5_text 110 = .ok (.iload 4, 2) := by decide +kernel
theorem dX5_text_112 : decode cX5_text 112 = .ok (.ireturn, 1) := by decide +kernel
set_option maxRecDepth 20000 in
theorem ggX5_openNow_X5_copyRow : GoodIn wsX5_openNow wsX5_copyRow := goodIn_r _ [17] rfl (by decide +kernel)
set_option maxRecDepth 20000 in
theorem gX5_openNow_X5_copyRow : GoodIn wsX5_openNow (va_wsS RX5 171 yX5_copyRow wsX5_copyRow) := goodIn_app (goodIn_r _ [14, 15, 16] rfl (by decide +kernel)) ggX5_openNow_X5_copyRow
theorem dX5_openNow_0 : decode cX5_openNow 0 = .ok (.aload_n 0, 1) := by decide +kernel
theorem dX5_openNow_1 : decode cX5_openNow 1 = .ok (.aload_n 0, 1) := by decide +kernel
theorem dX5_openNow_2 : decode cX5_openNow 2 = .ok (.getfield 175, 3) := by decide +kernel
theorem dX5_openNow_5 : decode cX5_openNow 5 = .ok (.putfield 229, 3) := by decide +kernel
theorem dX5_openNow_8 : decode cX5_openNow 8 = .ok (.aload_n 0, 1) := by decide +kernel
theorem dX5_openNow_9 : decode cX5_openNow 9 = .ok (.getfield 19, 3) := by decide +kernel
theorem dX5_openNow_12 : decode cX5_openNow 12 = .ok (.aload_n 0, 1) := by decide +kernel
theorem dX5_openNow_13 : decode cX5_openNow 13 = .ok (.getfield 63, 3) := by decide +kernel
theorem dX5_openNow_16 : decode cX5_openNow 16 = .ok (.aload_n 0, 1) := by decide +kernel
theorem dX5_openNow_17 : decode cX5_openNow 17 = .ok (.getfield 175, 3) := by decide +kernel
theorem dX5_openNow_20 : decode cX5_openNow 20 = .ok (.invokestatic 171, 3) := by decide +kernel
theorem dX5_openNow_23 : decode cX5_openNow 23 = .ok (.aload_n 0, 1) := by decide +kernel
theorem dX5_openNow_24 : decode cX5_openNow 24 = .ok (.getfield 22, 3) := by decide +kernel
theorem dX5_openNow_27 : decode cX5_openNow 27 = .ok (.aload_n 0, 1) := by decide +kernel
theorem dX5_openNow_28 : decode cX5_openNow 28 = .ok (.getfield 66, 3) := by decide +kernel
theorem dX5_openNow_31 : decode cX5_openNow 31 = .ok (.aload_n 0, 1) := by decide +kernel
theorem dX5_openNow_32 : decode cX5_openNow 32 = .ok (.getfield 175, 3) := by decide +kernel
theorem dX5_openNow_35 : decode cX5_openNow 35 = .ok (.invokestatic 171, 3) := by decide +kernel
theorem dX5_openNow_38 : decode cX5_openNow 38 = .ok (.aload_n 0, 1) := by decide +kernel
theorem dX5_openNow_39 : decode cX5_openNow 39 = .ok (.getfield 25, 3) := by decide +kernel
theorem dX5_openNow_42 : decode cX5_openNow 42 = .ok (.aload_n 0, 1) := by decide +kernel
theorem dX5_openNow_43 : decode cX5_openNow 43 = .ok (.getfield 69, 3) := by decide +kernel
theorem dX5_openNow_46 : decode cX5_openNow 46 = .ok (.aload_n 0, 1) := by decide +kernel
theorem dX5_openNow_47 : decode cX5_openNow 47 = .ok (.getfield 175, 3) := by decide +kernel
theorem dX5_openNow_50 : decode cX5_openNow 50 = .ok (.invokestatic 171, 3) := by decide +kernel
theorem dX5_openNow_53 : decode cX5_openNow 53 = .ok (.aload_n 0, 1) := by decide +kernel
theorem dX5_openNow_54 : decode cX5_openNow 54 = .ok (.iconst 1, 1) := by decide +kernel
theorem dX5_openNow_55 : decode cX5_openNow 55 = .ok (.putfield 178, 3) := by decide +kernel
theorem dX5_openNow_58 : decode cX5_openNow 58 = .ok (.aload_n 0, 1) := by decide +kernel
theorem dX5_openNow_59 : decode cX5_openNow 59 = .ok (.getfield 7, 3) := by decide +kernel
theorem dX5_openNow_62 : decode cX5_openNow 62 = .ok (.aload_n 0, 1) := by decide +kernel
theorem dX5_openNow_63 : decode cX5_openNow 63 = .ok (.getfield 91, 3) := by decide +kernel
theorem dX5_openNow_66 : decode cX5_openNow 66 = .ok (.iload_n 1, 1) := by decide +kernel
theorem dX5_openNow_67 : decode cX5_openNow 67 = .ok (.iastore, 1) := by decide +kernel
theorem dX5_openNow_68 : decode cX5_openNow 68 = .ok (.aload_n 0, 1) := by decide +kernel
theorem dX5_openNow_69 : decode cX5_openNow 69 = .ok (.getfield 13, 3) := by decide +kernel
theorem dX5_openNow_72 : decode cX5_openNow 72 = .ok (.aload_n 0, 1) := by decide +kernel
theorem dX5_openNow_73 : decode cX5_openNow 73 = .ok (.getfield 91, 3) := by decide +kernel
theorem dX5_openNow_76 : decode cX5_openNow 76 = .ok (.iconst 0, 1) := by decide +kernel
theorem dX5_openNow_77 : decode cX5_openNow 77 = .ok (.iastore, 1) := by decide +kernel
theorem dX5_openNow_78 : decode cX5_openNow 78 = .ok (.aload_n 0, 1) := by decide +kernel
theorem dX5_openNow_79 : decode cX5_openNow 79 = .ok (.getfield 16, 3) := by decide +kernel
theorem dX5_openNow_82 : decode cX5_openNow 82 = .ok (.aload_n 0, 1) := by decide +kernel
theorem dX5_openNow_83 : decode cX5_openNow 83 = .ok (.getfield 91, 3) := by decide +kernel
theorem dX5_openNow_86 : decode cX5_openNow 86 = .ok (.iconst 0, 1) := by decide +kernel
theorem dX5_openNow_87 : decode cX5_openNow 87 = .ok (.iastore, 1) := by decide +kernel
theorem dX5_openNow_88 : decode cX5_openNow 88 = .ok (.return_, 1) := by decide +kernel
set_option maxRecDepth 20000 in
theorem ggX5_open_X5_isVersion : GoodIn wsX5_open wsX5_isVersion := goodIn_r _ [10, 4, 11, 12, 9, 13, 32, 33, 34, 35, 36, 37, 38, 39, 40, 41, 42, 43, 44, 45, 46, 47, 48, 49, 50, 51, 52, 53, 54, 55, 56, 57, 58, 59, 60, 61, 62, 63, 64, 65, 66, 67, 68, 69] rfl (by decide +kernel)
set_option maxRecDepth 20000 in
theorem gX5_open_X5_isVersion : GoodIn wsX5_open (wsV RX5 213 RX5 yX5_isVersion wsX5_isVersion) := goodIn_app (goodIn_r _ [6, 7, 8, 9] rfl (by decide +kernel)) ggX5_open_X5_isVersion
set_option maxRecDepth 20000 in
theorem ggX5_open_X5_openNow : GoodIn wsX5_open wsX5_openNow := goodIn_r _ [17, 18, 19, 20, 21, 22, 23, 24, 25, 2, 26, 4, 27, 28, 29, 30, 9, 31, 32, 33, 34, 35, 36, 37, 38, 39, 40, 41, 42, 43, 44, 45, 46, 47, 48, 49, 50, 51, 52, 53, 54, 55, 56, 57, 58, 59, 60, 61, 62, 63, 64, 65, 66, 67, 68, 69] rfl (by decide +kernel)
set_option maxRecDepth 20000 in
theorem gX5_open_X5_openNow : GoodIn wsX5_open (wsV RX5 232 RX5 yX5_openNow wsX5_openNow) := goodIn_app (goodIn_r _ [14, 15, 16, 9] rfl (by decide +kernel)) ggX5_open_X5_openNow
theorem dX5_open_0 : decode cX5_open 0 = .ok (.iload_n 1, 1) := by decide +kernel
theorem dX5_open_1 : decode cX5_open 1 = .ok (.iconst (-1), 1) := by decide +kernel
theorem dX5_open_2 : decode cX5_open 2 = .ok (.if_icmp .eq 14, 3) := by decide +kernel
theorem dX5_open_5 : decode cX5_open 5 = .ok (.aload_n 0, 1) := by decide +kernel
theorem dX5_open_6 : decode cX5_open 6 = .ok (.iload_n 1, 1) := by decide +kernel
theorem dX5_open_7 : decode cX5_open 7 = .ok (.invokevirtual 213, 3) := by decide +kernel
theorem dX5_open_10 : decode cX5_open 10 = .ok (.ifCond .ne 6, 3) := by decide +kernel
theorem dX5_open_13 : decode cX5_open 13 = .ok (.ldc 216, 2) := by decide +kernel
theorem dX5_open_15 : decode cX5_open 15 = .ok (.ireturn, 1) := by decide +kernel
theorem dX5_open_16 : decode cX5_open 16 = .ok (.aload_n 0, 1) := by decide +kernel
theorem dX5_open_17 : decode cX5_open 17 = .ok (.getfield 178, 3) := by decide +kernel
theorem dX5_open_20 : decode cX5_open 20 = .ok (.ifCond .eq 6, 3) := by decide +kernel
theorem dX5_open_23 : decode cX5_open 23 = .ok (.ldc 225, 2) := by decide +kernel
theorem dX5_open_25 : decode cX5_open 25 = .ok (.ireturn, 1) := by decide +kernel
theorem dX5_open_26 : decode cX5_open 26 = .ok (.aload_n 0, 1) := by decide +kernel
theorem dX5_open_27 : decode cX5_open 27 = .ok (.getfield 91, 3) := by decide +kernel
theorem dX5_open_30 : decode cX5_open 30 = .ok (.bipush 24, 2) := by decide +kernel
theorem dX5_open_32 : decode cX5_open 32 = .ok (.if_icmp .ne 6, 3) := by decide +kernel
theorem dX5_open_35 : decode cX5_open 35 = .ok (.ldc 104, 2) := by decide +kernel
theorem dX5_open_37 : decode cX5_open 37 = .ok (.ireturn, 1) := by decide +kernel
theorem dX5_open_38 : decode cX5_open 38 = .ok (.aload_n 0, 1) := by decide +kernel
theorem dX5_open_39 : decode cX5_open 39 = .ok (.iload_n 1, 1) := by decide +kernel
theorem dX5_open_40 : decode cX5_open 40 = .ok (.invokevirtual 232, 3) := by decide +kernel
theorem dX5_open_43 : decode cX5_open 43 = .ok (.aload_n 0, 1) := by decide +kernel
theorem dX5_open_44 : decode cX5_open 44 = .ok (.getfield 91, 3) := by decide +kernel
theorem dX5_open_47 : decode cX5_open 47 = .ok (.ireturn, 1) := by decide +kernel
set_option maxRecDepth 20000 in
theorem ggX5_isChange_X5_changesOf : GoodIn wsX5_isChange wsX5_changesOf := goodIn_r _ [6, 7, 8, 9, 10, 14, 15, 16, 17, 18, 19, 20, 21, 22, 23, 24, 25, 26, 27, 28, 29, 30, 31, 32, 33, 34, 35, 36, 37, 38, 39, 40, 41, 42, 43, 44, 45, 46, 47, 48, 49, 50, 51] rfl (by decide +kernel)
set_option maxRecDepth 20000 in
theorem gX5_isChange_X5_changesOf : GoodIn wsX5_isChange (wsV RX5 185 RX5 yX5_changesOf wsX5_changesOf) := goodIn_app (goodIn_r _ [2, 3, 4, 5] rfl (by decide +kernel)) ggX5_isChange_X5_changesOf
set_option maxRecDepth 20000 in
theorem ggX5_isChange_X5_has : GoodIn wsX5_isChange wsX5_has := goodIn_r _ [13] rfl (by decide +kernel)
set_option maxRecDepth 20000 in
theorem gX5_isChange_X5_has : GoodIn wsX5_isChange (va_wsS RX5 135 yX5_has wsX5_has) := goodIn_app (goodIn_r _ [11, 12, 5] rfl (by decide +kernel)) ggX5_isChange_X5_has
theorem dX5_isChange_0 : decode cX5_isChange 0 = .ok (.aload_n 0, 1) := by decide +kernel
theorem dX5_isChange_1 : decode cX5_isChange 1 = .ok (.aload_n 0, 1) := by decide +kernel
theorem dX5_isChange_2 : decode cX5_isChange 2 = .ok (.getfield 91, 3) := by decide +kernel
theorem dX5_isChange_5 : decode cX5_isChange 5 = .ok (.invokevirtual 185, 3) := by decide +kernel
theorem dX5_isChange_8 : decode cX5_isChange 8 = .ok (.iload_n 1, 1) := by decide +kernel
theorem dX5_isChange_9 : decode cX5_isChange 9 = .ok (.invokestatic 135, 3) := by decide +kernel
theorem dX5_isChange_12 : decode cX5_isChange 12 = .ok (.ireturn, 1) := by decide +kernel
set_option maxRecDepth 20000 in
theorem ggX5_openLines_X5_changesOf : GoodIn wsX5_openLines wsX5_changesOf := goodIn_r _ [6, 7, 8, 9, 10, 25, 26, 27, 28, 29, 30, 31, 32, 33, 34, 35, 36, 37, 38, 39, 40, 41, 42, 43, 44, 45, 46, 47, 48, 49, 50, 51, 52, 53, 54, 55, 56, 57, 58, 59, 60, 61, 62] rfl (by decide +kernel)
set_option maxRecDepth 20000 in
theorem gX5_openLines_X5_changesOf : GoodIn wsX5_openLines (wsV RX5 185 RX5 yX5_changesOf wsX5_changesOf) := goodIn_app (goodIn_r _ [2, 3, 4, 5] rfl (by decide +kernel)) ggX5_openLines_X5_changesOf
set_option maxRecDepth 20000 in
theorem ggX5_openLines_X5_manyOf : GoodIn wsX5_openLines wsX5_manyOf := goodIn_r _ [14, 15, 16, 17, 18, 5, 19, 20, 21, 22, 23, 24, 25, 26, 27, 28, 29, 30, 31, 32, 33, 34, 35, 36, 37, 38, 39, 40, 41, 42, 43, 44, 45, 46, 47, 48, 49, 50, 51, 52, 53, 54, 55, 56, 57, 58, 59, 60, 61, 62] rfl (by decide +kernel)
set_option maxRecDepth 20000 in
theorem gX5_openLines_X5_manyOf : GoodIn wsX5_openLines (wsV RX5 198 RX5 yX5_manyOf wsX5_manyOf) := goodIn_app (goodIn_r _ [11, 12, 13, 5] rfl (by decide +kernel)) ggX5_openLines_X5_manyOf
theorem dX5_openLines_0 : decode cX5_openLines 0 = .ok (.aload_n 0, 1) := by decide +kernel
theorem dX5_openLines_1 : decode cX5_openLines 1 = .ok (.aload_n 0, 1) := by decide +kernel
theorem dX5_openLines_2 : decode cX5_openLines 2 = .ok (.aload_n 0, 1) := by decide +kernel
theorem dX5_openLines_3 : decode cX5_openLines 3 = .ok (.getfield 91, 3) := by decide +kernel
theorem dX5_openLines_6 : decode cX5_openLines 6 = .ok (.invokevirtual 185, 3) := by decide +kernel
theorem dX5_openLines_9 : decode cX5_openLines 9 = .ok (.invokevirtual 198, 3) := by decide +kernel
theorem dX5_openLines_12 : decode cX5_openLines 12 = .ok (.ireturn, 1) := by decide +kernel
set_option maxRecDepth 20000 in
theorem ggX5_include_X5_isVersion : GoodIn wsX5_include wsX5_isVersion := goodIn_r _ [11, 5, 12, 13, 10, 14, 43, 44, 45, 46, 47, 48, 49, 50, 51, 52, 53, 54, 55, 56, 57, 58, 59, 60, 61, 62, 63, 64, 65, 66, 67, 68, 69, 70, 71, 72, 73, 74, 75, 76, 77, 78, 79, 80] rfl (by decide +kernel)
set_option maxRecDepth 20000 in
theorem gX5_include_X5_isVersion : GoodIn wsX5_include (wsV RX5 213 RX5 yX5_isVersion wsX5_isVersion) := goodIn_app (goodIn_r _ [7, 8, 9, 10] rfl (by decide +kernel)) ggX5_include_X5_isVersion
set_option maxRecDepth 20000 in
theorem ggX5_include_X5_isChange : GoodIn wsX5_include wsX5_isChange := goodIn_r _ [18, 5, 19, 20, 21, 10, 22, 23, 24, 6, 4, 25, 26, 27, 43, 44, 45, 46, 47, 48, 49, 50, 51, 52, 53, 54, 55, 56, 57, 58, 59, 60, 61, 62, 63, 64, 65, 66, 67, 68, 69, 70, 71, 72, 73, 74, 75, 76, 77, 78, 79, 80] rfl (by decide +kernel)
set_option maxRecDepth 20000 in
theorem gX5_include_X5_isChange : GoodIn wsX5_include (wsV RX5 236 RX5 yX5_isChange wsX5_isChange) := goodIn_app (goodIn_r _ [15, 16, 17, 10] rfl (by decide +kernel)) ggX5_include_X5_isChange
set_option maxRecDepth 20000 in
theorem ggX5_include_X5_openLines : GoodIn wsX5_include wsX5_openLines := goodIn_r _ [31, 5, 19, 20, 21, 10, 22, 23, 24, 6, 4, 32, 33, 34, 35, 36, 37, 38, 39, 40, 41, 42, 25, 26, 27, 43, 44, 45, 46, 47, 48, 49, 50, 51, 52, 53, 54, 55, 56, 57, 58, 59, 60, 61, 62, 63, 64, 65, 66, 67, 68, 69, 70, 71, 72, 73, 74, 75, 76, 77, 78, 79, 80] rfl (by decide +kernel)
set_option maxRecDepth 20000 in
theorem gX5_include_X5_openLines : GoodIn wsX5_include (wsV RX5 239 RX5 yX5_openLines wsX5_openLines) := goodIn_app (goodIn_r _ [28, 29, 30, 10] rfl (by decide +kernel)) ggX5_include_X5_openLines
theorem dX5_include_0 : decode cX5_include 0 = .ok (.aload_n 0, 1) := by decide +kernel
theorem dX5_include_1 : decode cX5_include 1 = .ok (.iload_n 1, 1) := by decide +kernel
theorem dX5_include_2 : decode cX5_include 2 = .ok (.invokevirtual 213, 3) := by decide +kernel
theorem dX5_include_5 : decode cX5_include 5 = .ok (.ifCond .ne 6, 3) := by decide +kernel
theorem dX5_include_8 : decode cX5_include 8 = .ok (.ldc 216, 2) := by decide +kernel
theorem dX5_include_10 : decode cX5_include 10 = .ok (.ireturn, 1) := by decide +kernel
theorem dX5_include_11 : decode cX5_include 11 = .ok (.aload_n 0, 1) := by decide +kernel
theorem dX5_include_12 : decode cX5_include 12 = .ok (.getfield 178, 3) := by decide +kernel
theorem dX5_include_15 : decode cX5_include 15 = .ok (.ifCond .eq 11, 3) := by decide +kernel
theorem dX5_include_18 : decode cX5_include 18 = .ok (.aload_n 0, 1) := by decide +kernel
theorem dX5_include_19 : decode cX5_include 19 = .ok (.iload_n 1, 1) := by decide +kernel
theorem dX5_include_20 : decode cX5_include 20 = .ok (.invokevirtual 236, 3) := by decide +kernel
theorem dX5_include_23 : decode cX5_include 23 = .ok (.ifCond .eq 6, 3) := by decide +kernel
theorem dX5_include_26 : decode cX5_include 26 = .ok (.ldc 225, 2) := by decide +kernel
theorem dX5_include_28 : decode cX5_include 28 = .ok (.ireturn, 1) := by decide +kernel
theorem dX5_include_29 : decode cX5_include 29 = .ok (.aload_n 0, 1) := by decide +kernel
theorem dX5_include_30 : decode cX5_include 30 = .ok (.getfield 16, 3) := by decide +kernel
theorem dX5_include_33 : decode cX5_include 33 = .ok (.aload_n 0, 1) := by decide +kernel
theorem dX5_include_34 : decode cX5_include 34 = .ok (.getfield 91, 3) := by decide +kernel
theorem dX5_include_37 : decode cX5_include 37 = .ok (.dup2, 1) := by decide +kernel
theorem dX5_include_38 : decode cX5_include 38 = .ok (.iaload, 1) := by decide +kernel
theorem dX5_include_39 : decode cX5_include 39 = .ok (.iconst 1, 1) := by decide +kernel
theorem dX5_include_40 : decode cX5_include 40 = .ok (.iload_n 1, 1) := by decide +kernel
theorem dX5_include_41 : decode cX5_include 41 = .ok (.ishl, 1) := by decide +kernel
theorem dX5_include_42 : decode cX5_include 42 = .ok (.iconst (-1), 1) := by decide +kernel
theorem dX5_include_43 : decode cX5_include 43 = .ok (.ixor, 1) := by decide +kernel
theorem dX5_include_44 : decode cX5_include 44 = .ok (.iand, 1) := by decide +kernel
theorem dX5_include_45 : decode cX5_include 45 = .ok (.iastore, 1) := by decide +kernel
theorem dX5_include_46 : decode cX5_include 46 = .ok (.aload_n 0, 1) := by decide +kernel
theorem dX5_include_47 : decode cX5_include 47 = .ok (.getfield 13, 3) := by decide +kernel
theorem dX5_include_50 : decode cX5_include 50 = .ok (.aload_n 0, 1) := by decide +kernel
theorem dX5_include_51 : decode cX5_include 51 = .ok (.getfield 91, 3) := by decide +kernel
theorem dX5_include_54 : decode cX5_include 54 = .ok (.dup2, 1) := by decide +kernel
theorem dX5_include_55 : decode cX5_include 55 = .ok (.iaload, 1) := by decide +kernel
theorem dX5_include_56 : decode cX5_include 56 = .ok (.iconst 1, 1) := by decide +kernel
theorem dX5_include_57 : decode cX5_include 57 = .ok (.iload_n 1, 1) := by decide +kernel
theorem dX5_include_58 : decode cX5_include 58 = .ok (.ishl, 1) := by decide +kernel
theorem dX5_include_59 : decode cX5_include 59 = .ok (.ior, 1) := by decide +kernel
theorem dX5_include_60 : decode cX5_include 60 = .ok (.iastore, 1) := by decide +kernel
theorem dX5_include_61 : decode cX5_include 61 = .ok (.aload_n 0, 1) := by decide +kernel
theorem dX5_include_62 : decode cX5_include 62 = .ok (.invokevirtual 239, 3) := by decide +kernel
theorem dX5_include_65 : decode cX5_include 65 = .ok (.ireturn, 1) := by decide +kernel
set_option maxRecDepth 20000 in
theorem ggX5_exclude_X5_isVersion : GoodIn wsX5_exclude wsX5_isVersion := goodIn_r _ [11, 5, 12, 13, 10, 14, 43, 44, 45, 46, 47, 48, 49, 50, 51, 52, 53, 54, 55, 56, 57, 58, 59, 60, 61, 62, 63, 64, 65, 66, 67, 68, 69, 70, 71, 72, 73, 74, 75, 76, 77, 78, 79, 80] rfl (by decide +kernel)
set_option maxRecDepth 20000 in
theorem gX5_exclude_X5_isVersion : GoodIn wsX5_exclude (wsV RX5 213 RX5 yX5_isVersion wsX5_isVersion) := goodIn_app (goodIn_r _ [7, 8, 9, 10] rfl (by decide +kernel)) ggX5_exclude_X5_isVersion
set_option maxRecDepth 20000 in
theorem ggX5_exclude_X5_isChange : GoodIn wsX5_exclude wsX5_isChange := goodIn_r _ [18, 5, 19, 20, 21, 10, 22, 23, 24, 4, 6, 25, 26, 27, 43, 44, 45, 46, 47, 48, 49, 50, 51, 52, 53, 54, 55, 56, 57, 58, 59, 60, 61, 62, 63, 64, 65, 66, 67, 68, 69, 70, 71, 72, 73, 74, 75, 76, 77, 78, 79, 80] rfl (by decide +kernel)
set_option maxRecDepth 20000 in
theorem gX5_exclude_X5_isChange : GoodIn wsX5_exclude (wsV RX5 236 RX5 yX5_isChange wsX5_isChange) := goodIn_app (goodIn_r _ [15, 16, 17, 10] rfl (by decide +kernel)) ggX5_exclude_X5_isChange
set_option maxRecDepth 20000 in
theorem ggX5_exclude_X5_openLines : GoodIn wsX5_exclude wsX5_openLines := goodIn_r _ [31, 5, 19, 20, 21, 10, 22, 23, 24, 4, 6, 32, 33, 34, 35, 36, 37, 38, 39, 40, 41, 42, 25, 26, 27, 43, 44, 45, 46, 47, 48, 49, 50, 51, 52, 53, 54, 55, 56, 57, 58, 59, 60, 61, 62, 63, 64, 65, 66, 67, 68, 69, 70, 71, 72, 73, 74, 75, 76, 77, 78, 79, 80] rfl (by decide +kernel)
set_option maxRecDepth 20000 in
theorem gX5_exclude_X5_openLines : GoodIn wsX5_exclude (wsV RX5 239 RX5 yX5_openLines wsX5_openLines) := goodIn_app (goodIn_r _ [28, 29, 30, 10] rfl (by decide +kernel)) ggX5_exclude_X5_openLines
theorem dX5_exclude_0 : decode cX5_exclude 0 = .ok (.aload_n 0, 1) := by decide +kernel
theorem dX5_exclude_1 : decode cX5_exclude 1 = .ok (.iload_n 1, 1) := by decide +kernel
theorem dX5_exclude_2 : decode cX5_exclude 2 = .ok (.invokevirtual 213, 3) := by decide +kernel
theorem dX5_exclude_5 : decode cX5_exclude 5 = .ok (.ifCond .ne 6, 3) := by decide +kernel
theorem dX5_exclude_8 : decode cX5_exclude 8 = .ok (.ldc 216, 2) := by decide +kernel
theorem dX5_exclude_10 : decode cX5_exclude 10 = .ok (.ireturn, 1) := by decide +kernel
theorem dX5_exclude_11 : decode cX5_exclude 11 = .ok (.aload_n 0, 1) := by decide +kernel
theorem dX5_exclude_12 : decode cX5_exclude 12 = .ok (.getfield 178, 3) := by decide +kernel
theorem dX5_exclude_15 : decode cX5_exclude 15 = .ok (.ifCond .eq 11, 3) := by decide +kernel
theorem dX5_exclude_18 : decode cX5_exclude 18 = .ok (.aload_n 0, 1) := by decide +kernel
theorem dX5_exclude_19 : decode cX5_exclude 19 = .ok (.iload_n 1, 1) := by decide +kernel
theorem dX5_exclude_20 : decode cX5_exclude 20 = .ok (.invokevirtual 236, 3) := by decide +kernel
theorem dX5_exclude_23 : decode cX5_exclude 23 = .ok (.ifCond .ne 6, 3) := by decide +kernel
theorem dX5_exclude_26 : decode cX5_exclude 26 = .ok (.ldc 225, 2) := by decide +kernel
theorem dX5_exclude_28 : decode cX5_exclude 28 = .ok (.ireturn, 1) := by decide +kernel
theorem dX5_exclude_29 : decode cX5_exclude 29 = .ok (.aload_n 0, 1) := by decide +kernel
theorem dX5_exclude_30 : decode cX5_exclude 30 = .ok (.getfield 13, 3) := by decide +kernel
theorem dX5_exclude_33 : decode cX5_exclude 33 = .ok (.aload_n 0, 1) := by decide +kernel
theorem dX5_exclude_34 : decode cX5_exclude 34 = .ok (.getfield 91, 3) := by decide +kernel
theorem dX5_exclude_37 : decode cX5_exclude 37 = .ok (.dup2, 1) := by decide +kernel
theorem dX5_exclude_38 : decode cX5_exclude 38 = .ok (.iaload, 1) := by decide +kernel
theorem dX5_exclude_39 : decode cX5_exclude 39 = .ok (.iconst 1, 1) := by decide +kernel
theorem dX5_exclude_40 : decode cX5_exclude 40 = .ok (.iload_n 1, 1) := by decide +kernel
theorem dX5_exclude_41 : decode cX5_exclude 41 = .ok (.ishl, 1) := by decide +kernel
theorem dX5_exclude_42 : decode cX5_exclude 42 = .ok (.iconst (-1), 1) := by decide +kernel
theorem dX5_exclude_43 : decode cX5_exclude 43 = .ok (.ixor, 1) := by decide +kernel
theorem dX5_exclude_44 : decode cX5_exclude 44 = .ok (.iand, 1) := by decide +kernel
theorem dX5_exclude_45 : decode cX5_exclude 45 = .ok (.iastore, 1) := by decide +kernel
theorem dX5_exclude_46 : decode cX5_exclude 46 = .ok (.aload_n 0, 1) := by decide +kernel
theorem dX5_exclude_47 : decode cX5_exclude 47 = .ok (.getfield 16, 3) := by decide +kernel
theorem dX5_exclude_50 : decode cX5_exclude 50 = .ok (.aload_n 0, 1) := by decide +kernel
theorem dX5_exclude_51 : decode cX5_exclude 51 = .ok (.getfield 91, 3) := by decide +kernel
theorem dX5_exclude_54 : decode cX5_exclude 54 = .ok (.dup2, 1) := by decide +kernel
theorem dX5_exclude_55 : decode cX5_exclude 55 = .ok (.iaload, 1) := by decide +kernel
theorem dX5_exclude_56 : decode cX5_exclude 56 = .ok (.iconst 1, 1) := by decide +kernel
theorem dX5_exclude_57 : decode cX5_exclude 57 = .ok (.iload_n 1, 1) := by decide +kernel
theorem dX5_exclude_58 : decode cX5_exclude 58 = .ok (.ishl, 1) := by decide +kernel
theorem dX5_exclude_59 : decode cX5_exclude 59 = .ok (.ior, 1) := by decide +kernel
theorem dX5_exclude_60 : decode cX5_exclude 60 = .ok (.iastore, 1) := by decide +kernel
theorem dX5_exclude_61 : decode cX5_exclude 61 = .ok (.aload_n 0, 1) := by decide +kernel
theorem dX5_exclude_62 : decode cX5_exclude 62 = .ok (.invokevirtual 239, 3) := by decide +kernel
theorem dX5_exclude_65 : decode cX5_exclude 65 = .ok (.ireturn, 1) := by decide +kernel
set_option maxRecDepth 20000 in
theorem ggX5_putNow_X5_changesOf : GoodIn wsX5_putNow wsX5_changesOf := goodIn_r _ [10, 11, 12, 13, 14, 26, 27, 28, 29, 30, 31, 32, 33, 34, 35, 36, 37, 38, 39, 40, 41, 42, 43, 44, 45, 46, 47, 48, 49, 50, 51, 52, 53, 54, 55, 56, 57, 58, 59, 60, 61, 62, 63] rfl (by decide +kernel)
set_option maxRecDepth 20000 in
theorem gX5_putNow_X5_changesOf : GoodIn wsX5_putNow (wsV RX5 185 RX5 yX5_changesOf wsX5_changesOf) := goodIn_app (goodIn_r _ [6, 7, 8, 9] rfl (by decide +kernel)) ggX5_putNow_X5_changesOf
set_option maxRecDepth 20000 in
theorem ggX5_putNow_X5_lineAt : GoodIn wsX5_putNow wsX5_lineAt := goodIn_r _ [18, 2, 19, 20, 21, 9, 22, 4, 5, 23, 24, 25, 26, 27, 28, 29, 30, 31, 32, 33, 34, 35, 36, 37, 38, 39, 40, 41, 42, 43, 44, 45, 46, 47, 48, 49, 50, 51, 52, 53, 54, 55, 56, 57, 58, 59, 60, 61, 62, 63] rfl (by decide +kernel)
set_option maxRecDepth 20000 in
theorem gX5_putNow_X5_lineAt : GoodIn wsX5_putNow (wsV RX5 226 RX5 yX5_lineAt wsX5_lineAt) := goodIn_app (goodIn_r _ [15, 16, 17, 9] rfl (by decide +kernel)) ggX5_putNow_X5_lineAt
theorem dX5_putNow_0 : decode cX5_putNow 0 = .ok (.iload_n 1, 1) := by decide +kernel
theorem dX5_putNow_1 : decode cX5_putNow 1 = .ok (.ifCond .ne 7, 3) := by decide +kernel
theorem dX5_putNow_4 : decode cX5_putNow 4 = .ok (.iconst 0, 1) := by decide +kernel
theorem dX5_putNow_5 : decode cX5_putNow 5 = .ok (.goto 20, 3) := by decide +kernel
theorem dX5_putNow_8 : decode cX5_putNow 8 = .ok (.aload_n 0, 1) := by decide +kernel
theorem dX5_putNow_9 : decode cX5_putNow 9 = .ok (.aload_n 0, 1) := by decide +kernel
theorem dX5_putNow_10 : decode cX5_putNow 10 = .ok (.aload_n 0, 1) := by decide +kernel
theorem dX5_putNow_11 : decode cX5_putNow 11 = .ok (.getfield 91, 3) := by decide +kernel
theorem dX5_putNow_14 : decode cX5_putNow 14 = .ok (.invokevirtual 185, 3) := by decide +kernel
theorem dX5_putNow_17 : decode cX5_putNow 17 = .ok (.iload_n 1, 1) := by decide +kernel
theorem dX5_putNow_18 : decode cX5_putNow 18 = .ok (.iconst 1, 1) := by decide +kernel
theorem dX5_putNow_19 : decode cX5_putNow 19 = .ok (.isub, 1) := by decide +kernel
theorem dX5_putNow_20 : decode cX5_putNow 20 = .ok (.invokevirtual 226, 3) := by decide +kernel
theorem dX5_putNow_23 : decode cX5_putNow 23 = .ok (.iconst 1, 1) := by decide +kernel
theorem dX5_putNow_24 : decode cX5_putNow 24 = .ok (.iadd, 1) := by decide +kernel
theorem dX5_putNow_25 : decode cX5_putNow 25 = .ok (.istore_n 3, 1) := by decide +kernel
theorem dX5_putNow_26 : decode cX5_putNow 26 = .ok (.aload_n 0, 1) := by decide +kernel
theorem dX5_putNow_27 : decode cX5_putNow 27 = .ok (.getfield 175, 3) := by decide +kernel
theorem dX5_putNow_30 : decode cX5_putNow 30 = .ok (.istore 4, 2) := by decide +kernel
theorem dX5_putNow_32 : decode cX5_putNow 32 = .ok (.iload 4, 2) := by decide +kernel
theorem dX5_putNow_34 : decode cX5_putNow 34 = .ok (.iload_n 3, 1) := by decide +kernel
theorem dX5_putNow_35 : decode cX5_putNow 35 = .ok (.if_icmp .le 57, 3) := by decide +kernel
theorem dX5_putNow_38 : decode cX5_putNow 38 = .ok (.aload_n 0, 1) := by decide +kernel
theorem dX5_putNow_39 : decode cX5_putNow 39 = .ok (.getfield 19, 3) := by decide +kernel
theorem dX5_putNow_42 : decode cX5_putNow 42 = .ok (.iload 4, 2) := by decide +kernel
theorem dX5_putNow_44 : decode cX5_putNow 44 = .ok (.aload_n 0, 1) := by decide +kernel
theorem dX5_putNow_45 : decode cX5_putNow 45 = .ok (.getfield 19, 3) := by decide +kernel
theorem dX5_putNow_48 : decode cX5_putNow 48 = .ok (.iload 4, 2) := by decide +kernel
theorem dX5_putNow_50 : decode cX5_putNow 50 = .ok (.iconst 1, 1) := by decide +kernel
theorem dX5_putNow_51 : decode cX5_putNow 51 = .ok (.isub, 1) := by decide +kernel
theorem dX5_putNow_52 : decode cX5_putNow 52 = .ok (.iaload, 1) := by decide +kernel
theorem dX5_putNow_53 : decode cX5_putNow 53 = .ok (.iastore, 1) := by decide +kernel
theorem dX5_putNow_54 : decode cX5_putNow 54 = .ok (.aload_n 0, 1) := by decide +kernel
theorem dX5_putNow_55 : decode cX5_putNow 55 = .ok (.getfield 22, 3) := by decide +kernel
theorem dX5_putNow_58 : decode cX5_putNow 58 = .ok (.iload 4, 2) := by decide +kernel
theorem dX5_putNow_60 : decode cX5_putNow 60 = .ok (.aload_n 0, 1) := by decide +kernel
theorem dX5_putNow_61 : decode cX5_putNow 61 = .ok (.getfield 22, 3) := by decide +kernel
theorem dX5_putNow_64 : decode cX5_putNow 64 = .ok (.iload 4, 2) := by decide +kernel
theorem dX5_putNow_66 : decode cX5_putNow 66 = .ok (.iconst 1, 1) := by decide +kernel
theorem dX5_putNow_67 : decode cX5_putNow 67 = .ok (.isub, 1) := by decide +kernel
theorem dX5_putNow_68 : decode cX5_putNow 68 = .ok (.iaload, 1) := by decide +kernel
theorem dX5_putNow_69 : decode cX5_putNow 69 = .ok (.iastore, 1) := by decide +kernel
theorem dX5_putNow_70 : decode cX5_putNow 70 = .ok (.aload_n 0, 1) := by decide +kernel
theorem dX5_putNow_71 : decode cX5_putNow 71 = .ok (.getfield 25, 3) := by decide +kernel
theorem dX5_putNow_74 : decode cX5_putNow 74 = .ok (.iload 4, 2) := by decide +kernel
theorem dX5_putNow_76 : decode cX5_putNow 76 = .ok (.aload_n 0, 1) := by decide +kernel
theorem dX5_putNow_77 : decode cX5_putNow 77 = .ok (.getfield 25, 3) := by decide +kernel
theorem dX5_putNow_80 : decode cX5_putNow 80 = .ok (.iload 4, 2) := by decide +kernel
theorem dX5_putNow_82 : decode cX5_putNow 82 = .ok (.iconst 1, 1) := by decide +kernel
theorem dX5_putNow_83 : decode cX5_putNow 83 = .ok (.isub, 1) := by decide +kernel
theorem dX5_putNow_84 : decode cX5_putNow 84 = .ok (.iaload, 1) := by decide +kernel
theorem dX5_putNow_85 : decode cX5_putNow 85 = .ok (.iastore, 1) := by decide +kernel
theorem dX5_putNow_86 : decode cX5_putNow 86 = .ok (.iinc 4 (-1), 3) := by decide +kernel
theorem dX5_putNow_89 : decode cX5_putNow 89 = .ok (.goto (-57), 3) := by decide +kernel
theorem dX5_putNow_92 : decode cX5_putNow 92 = .ok (.aload_n 0, 1) := by decide +kernel
theorem dX5_putNow_93 : decode cX5_putNow 93 = .ok (.getfield 19, 3) := by decide +kernel
theorem dX5_putNow_96 : decode cX5_putNow 96 = .ok (.iload_n 3, 1) := by decide +kernel
theorem dX5_putNow_97 : decode cX5_putNow 97 = .ok (.iload_n 2, 1) := by decide +kernel
theorem dX5_putNow_98 : decode cX5_putNow 98 = .ok (.iastore, 1) := by decide +kernel
theorem dX5_putNow_99 : decode cX5_putNow 99 = .ok (.aload_n 0, 1) := by decide +kernel
theorem dX5_putNow_100 : decode cX5_putNow 100 = .ok (.getfield 22, 3) := by decide +kernel
theorem dX5_putNow_103 : decode cX5_putNow 103 = .ok (.iload_n 3, 1) := by decide +kernel
theorem dX5_putNow_104 : decode cX5_putNow 104 = .ok (.aload_n 0, 1) := by decide +kernel
theorem dX5_putNow_105 : decode cX5_putNow 105 = .ok (.getfield 91, 3) := by decide +kernel
theorem dX5_putNow_108 : decode cX5_putNow 108 = .ok (.iastore, 1) := by decide +kernel
theorem dX5_putNow_109 : decode cX5_putNow 109 = .ok (.aload_n 0, 1) := by decide +kernel
theorem dX5_putNow_110 : decode cX5_putNow 110 = .ok (.getfield 25, 3) := by decide +kernel
theorem dX5_putNow_113 : decode cX5_putNow 113 = .ok (.iload_n 3, 1) := by decide +kernel
theorem dX5_putNow_114 : decode cX5_putNow 114 = .ok (.iconst 0, 1) := by decide +kernel
theorem dX5_putNow_115 : decode cX5_putNow 115 = .ok (.iastore, 1) := by decide +kernel
theorem dX5_putNow_116 : decode cX5_putNow 116 = .ok (.aload_n 0, 1) := by decide +kernel
theorem dX5_putNow_117 : decode cX5_putNow 117 = .ok (.dup, 1) := by decide +kernel
theorem dX5_putNow_118 : decode cX5_putNow 118 = .ok (.getfield 175, 3) := by decide +kernel
theorem dX5_putNow_121 : decode cX5_putNow 121 = .ok (.iconst 1, 1) := by decide +kernel
theorem dX5_putNow_122 : decode cX5_putNow 122 = .ok (.iadd, 1) := by decide +kernel
theorem dX5_putNow_123 : decode cX5_putNow 123 = .ok (.putfield 175, 3) := by decide +kernel
theorem dX5_putNow_126 : decode cX5_putNow 126 = .ok (.iload_n 3, 1) := by decide +kernel
theorem dX5_putNow_127 : decode cX5_putNow 127 = .ok (.ireturn, 1) := by decide +kernel
set_option maxRecDepth 20000 in
theorem ggX5_put_X5_in : GoodIn wsX5_put wsX5_in := goodIn_r _ [11] rfl (by decide +kernel)
set_option maxRecDepth 20000 in
theorem gX5_put_X5_in : GoodIn wsX5_put (va_wsS RX5 94 yX5_in wsX5_in) := goodIn_app (goodIn_r _ [8, 9, 10] rfl (by decide +kernel)) ggX5_put_X5_in
set_option maxRecDepth 20000 in
theorem ggX5_put_X5_openLines : GoodIn wsX5_put wsX5_openLines := goodIn_r _ [15, 16, 17, 18, 19, 10, 20, 21, 22, 23, 24, 25, 26, 27, 28, 6, 29, 30, 31, 32, 33, 34, 35, 36, 37, 47, 48, 49, 50, 51, 52, 53, 54, 55, 56, 57, 58, 59, 60, 61, 62, 63, 64, 65, 66, 67, 68, 69, 70, 71, 72, 73, 74, 75, 76, 77, 78, 79, 80, 81, 82, 83, 84] rfl (by decide +kernel)
set_option maxRecDepth 20000 in
theorem gX5_put_X5_openLines : GoodIn wsX5_put (wsV RX5 239 RX5 yX5_openLines wsX5_openLines) := goodIn_app (goodIn_r _ [12, 13, 14, 10] rfl (by decide +kernel)) ggX5_put_X5_openLines
set_option maxRecDepth 20000 in
theorem ggX5_put_X5_putNow : GoodIn wsX5_put wsX5_putNow := goodIn_r _ [41, 16, 6, 42, 33, 34, 17, 18, 19, 10, 20, 21, 22, 23, 24, 43, 44, 45, 46, 29, 30, 31, 32, 35, 36, 37, 47, 48, 49, 50, 51, 52, 53, 54, 55, 56, 57, 58, 59, 60, 61, 62, 63, 64, 65, 66, 67, 68, 69, 70, 71, 72, 73, 74, 75, 76, 77, 78, 79, 80, 81, 82, 83, 84] rfl (by decide +kernel)
set_option maxRecDepth 20000 in
theorem gX5_put_X5_putNow : GoodIn wsX5_put (wsV RX5 242 RX5 yX5_putNow wsX5_putNow) := goodIn_app (goodIn_r _ [38, 39, 40, 10] rfl (by decide +kernel)) ggX5_put_X5_putNow
theorem dX5_put_0 : decode cX5_put 0 = .ok (.iload_n 1, 1) := by decide +kernel
theorem dX5_put_1 : decode cX5_put 1 = .ok (.ifCond .lt 17, 3) := by decide +kernel
theorem dX5_put_4 : decode cX5_put 4 = .ok (.iload_n 2, 1) := by decide +kernel
theorem dX5_put_5 : decode cX5_put 5 = .ok (.i2l, 1) := by decide +kernel
theorem dX5_put_6 : decode cX5_put 6 = .ok (.ldc2_w 160, 3) := by decide +kernel
theorem dX5_put_9 : decode cX5_put 9 = .ok (.ldc2_w 162, 3) := by decide +kernel
theorem dX5_put_12 : decode cX5_put 12 = .ok (.invokestatic 94, 3) := by decide +kernel
theorem dX5_put_15 : decode cX5_put 15 = .ok (.ifCond .ne 6, 3) := by decide +kernel
theorem dX5_put_18 : decode cX5_put 18 = .ok (.ldc 100, 2) := by decide +kernel
theorem dX5_put_20 : decode cX5_put 20 = .ok (.ireturn, 1) := by decide +kernel
theorem dX5_put_21 : decode cX5_put 21 = .ok (.aload_n 0, 1) := by decide +kernel
theorem dX5_put_22 : decode cX5_put 22 = .ok (.getfield 178, 3) := by decide +kernel
theorem dX5_put_25 : decode cX5_put 25 = .ok (.ifCond .eq 11, 3) := by decide +kernel
theorem dX5_put_28 : decode cX5_put 28 = .ok (.iload_n 1, 1) := by decide +kernel
theorem dX5_put_29 : decode cX5_put 29 = .ok (.aload_n 0, 1) := by decide +kernel
theorem dX5_put_30 : decode cX5_put 30 = .ok (.invokevirtual 239, 3) := by decide +kernel
theorem dX5_put_33 : decode cX5_put 33 = .ok (.if_icmp .le 6, 3) := by decide +kernel
theorem dX5_put_36 : decode cX5_put 36 = .ok (.ldc 225, 2) := by decide +kernel
theorem dX5_put_38 : decode cX5_put 38 = .ok (.ireturn, 1) := by decide +kernel
theorem dX5_put_39 : decode cX5_put 39 = .ok (.aload_n 0, 1) := by decide +kernel
theorem dX5_put_40 : decode cX5_put 40 = .ok (.getfield 175, 3) := by decide +kernel
theorem dX5_put_43 : decode cX5_put 43 = .ok (.bipush 120, 2) := by decide +kernel
theorem dX5_put_45 : decode cX5_put 45 = .ok (.if_icmp .ne 6, 3) := by decide +kernel
theorem dX5_put_48 : decode cX5_put 48 = .ok (.ldc 104, 2) := by decide +kernel
theorem dX5_put_50 : decode cX5_put 50 = .ok (.ireturn, 1) := by decide +kernel
theorem dX5_put_51 : decode cX5_put 51 = .ok (.aload_n 0, 1) := by decide +kernel
theorem dX5_put_52 : decode cX5_put 52 = .ok (.iload_n 1, 1) := by decide +kernel
theorem dX5_put_53 : decode cX5_put 53 = .ok (.iload_n 2, 1) := by decide +kernel
theorem dX5_put_54 : decode cX5_put 54 = .ok (.invokevirtual 242, 3) := by decide +kernel
theorem dX5_put_57 : decode cX5_put 57 = .ok (.ireturn, 1) := by decide +kernel
theorem dX5_takeNow_0 : decode cX5_takeNow 0 = .ok (.aload_n 0, 1) := by decide +kernel
theorem dX5_takeNow_1 : decode cX5_takeNow 1 = .ok (.getfield 19, 3) := by decide +kernel
theorem dX5_takeNow_4 : decode cX5_takeNow 4 = .ok (.iload_n 1, 1) := by decide +kernel
theorem dX5_takeNow_5 : decode cX5_takeNow 5 = .ok (.iaload, 1) := by decide +kernel
theorem dX5_takeNow_6 : decode cX5_takeNow 6 = .ok (.istore_n 2, 1) := by decide +kernel
theorem dX5_takeNow_7 : decode cX5_takeNow 7 = .ok (.aload_n 0, 1) := by decide +kernel
theorem dX5_takeNow_8 : decode cX5_takeNow 8 = .ok (.getfield 22, 3) := by decide +kernel
theorem dX5_takeNow_11 : decode cX5_takeNow 11 = .ok (.iload_n 1, 1) := by decide +kernel
theorem dX5_takeNow_12 : decode cX5_takeNow 12 = .ok (.iaload, 1) := by decide +kernel
theorem dX5_takeNow_13 : decode cX5_takeNow 13 = .ok (.aload_n 0, 1) := by decide +kernel
theorem dX5_takeNow_14 : decode cX5_takeNow 14 = .ok (.getfield 91, 3) := by decide +kernel
theorem dX5_takeNow_17 : decode cX5_takeNow 17 = .ok (.if_icmp .eq 20, 3) := by decide +kernel
theorem dX5_takeNow_20 : decode cX5_takeNow 20 = .ok (.aload_n 0, 1) := by decide +kernel
theorem dX5_takeNow_21 : decode cX5_takeNow 21 = .ok (.getfield 25, 3) := by decide +kernel
theorem dX5_takeNow_24 : decode cX5_takeNow 24 = .ok (.iload_n 1, 1) := by decide +kernel
theorem dX5_takeNow_25 : decode cX5_takeNow 25 = .ok (.dup2, 1) := by decide +kernel
theorem dX5_takeNow_26 : decode cX5_takeNow 26 = .ok (.iaload, 1) := by decide +kernel
theorem dX5_takeNow_27 : decode cX5_takeNow 27 = .ok (.iconst 1, 1) := by decide +kernel
theorem dX5_takeNow_28 : decode cX5_takeNow 28 = .ok (.aload_n 0, 1) := by decide +kernel
theorem dX5_takeNow_29 : decode cX5_takeNow 29 = .ok (.getfield 91, 3) := by decide +kernel
theorem dX5_takeNow_32 : decode cX5_takeNow 32 = .ok (.ishl, 1) := by decide +kernel
theorem dX5_takeNow_33 : decode cX5_takeNow 33 = .ok (.ior, 1) := by decide +kernel
theorem dX5_takeNow_34 : decode cX5_takeNow 34 = .ok (.iastore, 1) := by decide +kernel
theorem dX5_takeNow_35 : decode cX5_takeNow 35 = .ok (.iload_n 2, 1) := by decide +kernel
theorem dX5_takeNow_36 : decode cX5_takeNow 36 = .ok (.ireturn, 1) := by decide +kernel
theorem dX5_takeNow_37 : decode cX5_takeNow 37 = .ok (.iload_n 1, 1) := by decide +kernel
theorem dX5_takeNow_38 : decode cX5_takeNow 38 = .ok (.iconst 1, 1) := by decide +kernel
theorem dX5_takeNow_39 : decode cX5_takeNow 39 = .ok (.iadd, 1) := by decide +kernel
theorem dX5_takeNow_40 : decode cX5_takeNow 40 = .ok (.istore_n 3, 1) := by decide +kernel
theorem dX5_takeNow_41 : decode cX5_takeNow 41 = .ok (.iload_n 3, 1) := by decide +kernel
theorem dX5_takeNow_42 : decode cX5_takeNow 42 = .ok (.aload_n 0, 1) := by decide +kernel
theorem dX5_takeNow_43 : decode cX5_takeNow 43 = .ok (.getfield 175, 3) := by decide +kernel
theorem dX5_takeNow_46 : decode cX5_takeNow 46 = .ok (.if_icmp .ge 51, 3) := by decide +kernel
theorem dX5_takeNow_49 : decode cX5_takeNow 49 = .ok (.aload_n 0, 1) := by decide +kernel
theorem dX5_takeNow_50 : decode cX5_takeNow 50 = .ok (.getfield 19, 3) := by decide +kernel
theorem dX5_takeNow_53 : decode cX5_takeNow 53 = .ok (.iload_n 3, 1) := by decide +kernel
theorem dX5_takeNow_54 : decode cX5_takeNow 54 = .ok (.iconst 1, 1) := by decide +kernel
theorem dX5_takeNow_55 : decode cX5_takeNow 55 = .ok (.isub, 1) := by decide +kernel
theorem dX5_takeNow_56 : decode cX5_takeNow 56 = .ok (.aload_n 0, 1) := by decide +kernel
theorem dX5_takeNow_57 : decode cX5_takeNow 57 = .ok (.getfield 19, 3) := by decide +kernel
theorem dX5_takeNow_60 : decode cX5_takeNow 60 = .ok (.iload_n 3, 1) := by decide +kernel
theorem dX5_takeNow_61 : decode cX5_takeNow 61 = .ok (.iaload, 1) := by decide +kernel
theorem dX5_takeNow_62 : decode cX5_takeNow 62 = .ok (.iastore, 1) := by decide +kernel
theorem dX5_takeNow_63 : decode cX5_takeNow 63 = .ok (.aload_n 0, 1) := by decide +kernel
theorem dX5_takeNow_64 : decode cX5_takeNow 64 = .ok (.getfield 22, 3) := by decide +kernel
theorem dX5_takeNow_67 : decode cX5_takeNow 67 = .ok (.iload_n 3, 1) := by decide +kernel
theorem dX5_takeNow_68 : decode cX5_takeNow 68 = .ok (.iconst 1, 1) := by decide +kernel
theorem dX5_takeNow_69 : decode cX5_takeNow 69 = .ok (.isub, 1) := by decide +kernel
theorem dX5_takeNow_70 : decode cX5_takeNow 70 = .ok (.aload_n 0, 1) := by decide +kernel
theorem dX5_takeNow_71 : decode cX5_takeNow 71 = .ok (.getfield 22, 3) := by decide +kernel
theorem dX5_takeNow_74 : decode cX5_takeNow 74 = .ok (.iload_n 3, 1) := by decide +kernel
theorem dX5_takeNow_75 : decode cX5_takeNow 75 = .ok (.iaload, 1) := by decide +kernel
theorem dX5_takeNow_76 : decode cX5_takeNow 76 = .ok (.iastore, 1) := by decide +kernel
theorem dX5_takeNow_77 : decode cX5_takeNow 77 = .ok (.aload_n 0, 1) := by decide +kernel
theorem dX5_takeNow_78 : decode cX5_takeNow 78 = .ok (.getfield 25, 3) := by decide +kernel
theorem dX5_takeNow_81 : decode cX5_takeNow 81 = .ok (.iload_n 3, 1) := by decide +kernel
theorem dX5_takeNow_82 : decode cX5_takeNow 82 = .ok (.iconst 1, 1) := by decide +kernel
theorem dX5_takeNow_83 : decode cX5_takeNow 83 = .ok (.isub, 1) := by decide +kernel
theorem dX5_takeNow_84 : decode cX5_takeNow 84 = .ok (.aload_n 0, 1) := by decide +kernel
theorem dX5_takeNow_85 : decode cX5_takeNow 85 = .ok (.getfield 25, 3) := by decide +kernel
theorem dX5_takeNow_88 : decode cX5_takeNow 88 = .ok (.iload_n 3, 1) := by decide +kernel
theorem dX5_takeNow_89 : decode cX5_takeNow 89 = .ok (.iaload, 1) := by decide +kernel
theorem dX5_takeNow_90 : decode cX5_takeNow 90 = .ok (.iastore, 1) := by decide +kernel
theorem dX5_takeNow_91 : decode cX5_takeNow 91 = .ok (.iinc 3 1, 3) := by decide +kernel
theorem dX5_takeNow_94 : decode cX5_takeNow 94 = .ok (.goto (-53), 3) := by decide +kernel
theorem dX5_takeNow_97 : decode cX5_takeNow 97 = .ok (.aload_n 0, 1) := by decide +kernel
theorem dX5_takeNow_98 : decode cX5_takeNow 98 = .ok (.dup, 1) := by decide +kernel
theorem dX5_takeNow_99 : decode cX5_takeNow 99 = .ok (.getfield 175, 3) := by decide +kernel
theorem dX5_takeNow_102 : decode cX5_takeNow 102 = .ok (.iconst 1, 1) := by decide +kernel
theorem dX5_takeNow_103 : decode cX5_takeNow 103 = .ok (.isub, 1) := by decide +kernel
theorem dX5_takeNow_104 : decode cX5_takeNow 104 = .ok (.putfield 175, 3) := by decide +kernel
theorem dX5_takeNow_107 : decode cX5_takeNow 107 = .ok (.iload_n 2, 1) := by decide +kernel
theorem dX5_takeNow_108 : decode cX5_takeNow 108 = .ok (.ireturn, 1) := by decide +kernel
set_option maxRecDepth 20000 in
theorem ggX5_take_X5_changesOf : GoodIn wsX5_take wsX5_changesOf := goodIn_r _ [9, 10, 11, 12, 13, 33, 34, 35, 36, 37, 38, 39, 40, 41, 42, 43, 44, 45, 46, 47, 48, 49, 50, 51, 52, 53, 54, 55, 56, 57, 58, 59, 60, 61, 62, 63, 64, 65, 66, 67, 68, 69, 70] rfl (by decide +kernel)
set_option maxRecDepth 20000 in
theorem gX5_take_X5_changesOf : GoodIn wsX5_take (wsV RX5 185 RX5 yX5_changesOf wsX5_changesOf) := goodIn_app (goodIn_r _ [5, 6, 7, 8] rfl (by decide +kernel)) ggX5_take_X5_changesOf
set_option maxRecDepth 20000 in
theorem ggX5_take_X5_lineAt : GoodIn wsX5_take wsX5_lineAt := goodIn_r _ [17, 18, 19, 20, 21, 8, 22, 23, 24, 25, 26, 27, 33, 34, 35, 36, 37, 38, 39, 40, 41, 42, 43, 44, 45, 46, 47, 48, 49, 50, 51, 52, 53, 54, 55, 56, 57, 58, 59, 60, 61, 62, 63, 64, 65, 66, 67, 68, 69, 70] rfl (by decide +kernel)
set_option maxRecDepth 20000 in
theorem gX5_take_X5_lineAt : GoodIn wsX5_take (wsV RX5 226 RX5 yX5_lineAt wsX5_lineAt) := goodIn_app (goodIn_r _ [14, 15, 16, 8] rfl (by decide +kernel)) ggX5_take_X5_lineAt
set_option maxRecDepth 20000 in
theorem ggX5_take_X5_takeNow : GoodIn wsX5_take wsX5_takeNow := goodIn_r _ [31, 32, 23, 3, 24, 18, 33, 34, 35, 36, 37, 38, 39, 40, 41, 42, 43, 44, 45, 46, 47, 48, 49, 50, 51, 52, 53, 54, 55, 56, 57, 58, 59, 60, 61, 62, 63, 64, 65, 66, 67, 68, 69, 70] rfl (by decide +kernel)
set_option maxRecDepth 20000 in
theorem gX5_take_X5_takeNow : GoodIn wsX5_take (wsV RX5 245 RX5 yX5_takeNow wsX5_takeNow) := goodIn_app (goodIn_r _ [28, 29, 30, 8] rfl (by decide +kernel)) ggX5_take_X5_takeNow
theorem dX5_take_0 : decode cX5_take 0 = .ok (.iload_n 1, 1) := by decide +kernel
theorem dX5_take_1 : decode cX5_take 1 = .ok (.ifCond .ge 6, 3) := by decide +kernel
theorem dX5_take_4 : decode cX5_take 4 = .ok (.ldc 100, 2) := by decide +kernel
theorem dX5_take_6 : decode cX5_take 6 = .ok (.ireturn, 1) := by decide +kernel
theorem dX5_take_7 : decode cX5_take 7 = .ok (.aload_n 0, 1) := by decide +kernel
theorem dX5_take_8 : decode cX5_take 8 = .ok (.getfield 178, 3) := by decide +kernel
theorem dX5_take_11 : decode cX5_take 11 = .ok (.ifCond .eq 19, 3) := by decide +kernel
theorem dX5_take_14 : decode cX5_take 14 = .ok (.aload_n 0, 1) := by decide +kernel
theorem dX5_take_15 : decode cX5_take 15 = .ok (.aload_n 0, 1) := by decide +kernel
theorem dX5_take_16 : decode cX5_take 16 = .ok (.aload_n 0, 1) := by decide +kernel
theorem dX5_take_17 : decode cX5_take 17 = .ok (.getfield 91, 3) := by decide +kernel
theorem dX5_take_20 : decode cX5_take 20 = .ok (.invokevirtual 185, 3) := by decide +kernel
theorem dX5_take_23 : decode cX5_take 23 = .ok (.iload_n 1, 1) := by decide +kernel
theorem dX5_take_24 : decode cX5_take 24 = .ok (.invokevirtual 226, 3) := by decide +kernel
theorem dX5_take_27 : decode cX5_take 27 = .ok (.goto 4, 3) := by decide +kernel
theorem dX5_take_30 : decode cX5_take 30 = .ok (.iconst (-1), 1) := by decide +kernel
theorem dX5_take_31 : decode cX5_take 31 = .ok (.istore_n 2, 1) := by decide +kernel
theorem dX5_take_32 : decode cX5_take 32 = .ok (.iload_n 2, 1) := by decide +kernel
theorem dX5_take_33 : decode cX5_take 33 = .ok (.ifCond .ge 8, 3) := by decide +kernel
theorem dX5_take_36 : decode cX5_take 36 = .ok (.ldc 225, 2) := by decide +kernel
theorem dX5_take_38 : decode cX5_take 38 = .ok (.goto 8, 3) := by decide +kernel
theorem dX5_take_41 : decode cX5_take 41 = .ok (.aload_n 0, 1) := by decide +kernel
theorem dX5_take_42 : decode cX5_take 42 = .ok (.iload_n 2, 1) := by decide +kernel
theorem dX5_take_43 : decode cX5_take 43 = .ok (.invokevirtual 245, 3) := by decide +kernel
theorem dX5_take_46 : decode cX5_take 46 = .ok (.ireturn, 1) := by decide +kernel
theorem dX5_close_0 : decode cX5_close 0 = .ok (.aload_n 0, 1) := by decide +kernel
theorem dX5_close_1 : decode cX5_close 1 = .ok (.getfield 178, 3) := by decide +kernel
theorem dX5_close_4 : decode cX5_close 4 = .ok (.ifCond .ne 6, 3) := by decide +kernel
theorem dX5_close_7 : decode cX5_close 7 = .ok (.ldc 225, 2) := by decide +kernel
theorem dX5_close_9 : decode cX5_close 9 = .ok (.ireturn, 1) := by decide +kernel
theorem dX5_close_10 : decode cX5_close 10 = .ok (.aload_n 0, 1) := by decide +kernel
theorem dX5_close_11 : decode cX5_close 11 = .ok (.iconst 0, 1) := by decide +kernel
theorem dX5_close_12 : decode cX5_close 12 = .ok (.putfield 178, 3) := by decide +kernel
theorem dX5_close_15 : decode cX5_close 15 = .ok (.aload_n 0, 1) := by decide +kernel
theorem dX5_close_16 : decode cX5_close 16 = .ok (.dup, 1) := by decide +kernel
theorem dX5_close_17 : decode cX5_close 17 = .ok (.getfield 91, 3) := by decide +kernel
theorem dX5_close_20 : decode cX5_close 20 = .ok (.iconst 1, 1) := by decide +kernel
theorem dX5_close_21 : decode cX5_close 21 = .ok (.iadd, 1) := by decide +kernel
theorem dX5_close_22 : decode cX5_close 22 = .ok (.putfield 91, 3) := by decide +kernel
theorem dX5_close_25 : decode cX5_close 25 = .ok (.aload_n 0, 1) := by decide +kernel
theorem dX5_close_26 : decode cX5_close 26 = .ok (.getfield 91, 3) := by decide +kernel
theorem dX5_close_29 : decode cX5_close 29 = .ok (.iconst 1, 1) := by decide +kernel
theorem dX5_close_30 : decode cX5_close 30 = .ok (.isub, 1) := by decide +kernel
theorem dX5_close_31 : decode cX5_close 31 = .ok (.ireturn, 1) := by decide +kernel
set_option maxRecDepth 20000 in
theorem ggX5_leave_X5_openLines : GoodIn wsX5_leave wsX5_openLines := goodIn_r _ [15, 16, 17, 18, 19, 14, 20, 21, 22, 23, 24, 25, 26, 27, 28, 4, 29, 30, 31, 32, 8, 10, 33, 34, 35, 39, 40, 41, 42, 43, 44, 45, 46, 47, 48, 49, 50, 51, 52, 53, 54, 55, 56, 57, 58, 59, 60, 61, 62, 63, 64, 65, 66, 67, 68, 69, 70, 71, 72, 73, 74, 75, 76] rfl (by decide +kernel)
set_option maxRecDepth 20000 in
theorem gX5_leave_X5_openLines : GoodIn wsX5_leave (wsV RX5 239 RX5 yX5_openLines wsX5_openLines) := goodIn_app (goodIn_r _ [11, 12, 13, 14] rfl (by decide +kernel)) ggX5_leave_X5_openLines
set_option maxRecDepth 20000 in
theorem ggX5_leave_X5_copyRow : GoodIn wsX5_leave wsX5_copyRow := goodIn_r _ [38] rfl (by decide +kernel)
set_option maxRecDepth 20000 in
theorem gX5_leave_X5_copyRow : GoodIn wsX5_leave (va_wsS RX5 171 yX5_copyRow wsX5_copyRow) := goodIn_app (goodIn_r _ [36, 37, 14] rfl (by decide +kernel)) ggX5_leave_X5_copyRow
theorem dX5_leave_0 : decode cX5_leave 0 = .ok (.aload_n 0, 1) := by decide +kernel
theorem dX5_leave_1 : decode cX5_leave 1 = .ok (.getfield 178, 3) := by decide +kernel
theorem dX5_leave_4 : decode cX5_leave 4 = .ok (.ifCond .ne 6, 3) := by decide +kernel
theorem dX5_leave_7 : decode cX5_leave 7 = .ok (.ldc 225, 2) := by decide +kernel
theorem dX5_leave_9 : decode cX5_leave 9 = .ok (.ireturn, 1) := by decide +kernel
theorem dX5_leave_10 : decode cX5_leave 10 = .ok (.aload_n 0, 1) := by decide +kernel
theorem dX5_leave_11 : decode cX5_leave 11 = .ok (.invokevirtual 239, 3) := by decide +kernel
theorem dX5_leave_14 : decode cX5_leave 14 = .ok (.istore_n 1, 1) := by decide +kernel
theorem dX5_leave_15 : decode cX5_leave 15 = .ok (.aload_n 0, 1) := by decide +kernel
theorem dX5_leave_16 : decode cX5_leave 16 = .ok (.iconst 0, 1) := by decide +kernel
theorem dX5_leave_17 : decode cX5_leave 17 = .ok (.putfield 178, 3) := by decide +kernel
theorem dX5_leave_20 : decode cX5_leave 20 = .ok (.aload_n 0, 1) := by decide +kernel
theorem dX5_leave_21 : decode cX5_leave 21 = .ok (.aload_n 0, 1) := by decide +kernel
theorem dX5_leave_22 : decode cX5_leave 22 = .ok (.getfield 229, 3) := by decide +kernel
theorem dX5_leave_25 : decode cX5_leave 25 = .ok (.putfield 175, 3) := by decide +kernel
theorem dX5_leave_28 : decode cX5_leave 28 = .ok (.aload_n 0, 1) := by decide +kernel
theorem dX5_leave_29 : decode cX5_leave 29 = .ok (.getfield 63, 3) := by decide +kernel
theorem dX5_leave_32 : decode cX5_leave 32 = .ok (.aload_n 0, 1) := by decide +kernel
theorem dX5_leave_33 : decode cX5_leave 33 = .ok (.getfield 19, 3) := by decide +kernel
theorem dX5_leave_36 : decode cX5_leave 36 = .ok (.aload_n 0, 1) := by decide +kernel
theorem dX5_leave_37 : decode cX5_leave 37 = .ok (.getfield 175, 3) := by decide +kernel
theorem dX5_leave_40 : decode cX5_leave 40 = .ok (.invokestatic 171, 3) := by decide +kernel
theorem dX5_leave_43 : decode cX5_leave 43 = .ok (.aload_n 0, 1) := by decide +kernel
theorem dX5_leave_44 : decode cX5_leave 44 = .ok (.getfield 66, 3) := by decide +kernel
theorem dX5_leave_47 : decode cX5_leave 47 = .ok (.aload_n 0, 1) := by decide +kernel
theorem dX5_leave_48 : decode cX5_leave 48 = .ok (.getfield 22, 3) := by decide +kernel
theorem dX5_leave_51 : decode cX5_leave 51 = .ok (.aload_n 0, 1) := by decide +kernel
theorem dX5_leave_52 : decode cX5_leave 52 = .ok (.getfield 175, 3) := by decide +kernel
theorem dX5_leave_55 : decode cX5_leave 55 = .ok (.invokestatic 171, 3) := by decide +kernel
theorem dX5_leave_58 : decode cX5_leave 58 = .ok (.aload_n 0, 1) := by decide +kernel
theorem dX5_leave_59 : decode cX5_leave 59 = .ok (.getfield 69, 3) := by decide +kernel
theorem dX5_leave_62 : decode cX5_leave 62 = .ok (.aload_n 0, 1) := by decide +kernel
theorem dX5_leave_63 : decode cX5_leave 63 = .ok (.getfield 25, 3) := by decide +kernel
theorem dX5_leave_66 : decode cX5_leave 66 = .ok (.aload_n 0, 1) := by decide +kernel
theorem dX5_leave_67 : decode cX5_leave 67 = .ok (.getfield 175, 3) := by decide +kernel
theorem dX5_leave_70 : decode cX5_leave 70 = .ok (.invokestatic 171, 3) := by decide +kernel
theorem dX5_leave_73 : decode cX5_leave 73 = .ok (.iload_n 1, 1) := by decide +kernel
theorem dX5_leave_74 : decode cX5_leave 74 = .ok (.ireturn, 1) := by decide +kernel
theorem dX5_lotBy_0 : decode cX5_lotBy 0 = .ok (.aload_n 0, 1) := by decide +kernel
theorem dX5_lotBy_1 : decode cX5_lotBy 1 = .ok (.aload_n 0, 1) := by decide +kernel
theorem dX5_lotBy_2 : decode cX5_lotBy 2 = .ok (.getfield 248, 3) := by decide +kernel
theorem dX5_lotBy_5 : decode cX5_lotBy 5 = .ok (.ldc2_w 252, 3) := by decide +kernel
theorem dX5_lotBy_8 : decode cX5_lotBy 8 = .ok (.lmul, 1) := by decide +kernel
theorem dX5_lotBy_9 : decode cX5_lotBy 9 = .ok (.ldc2_w 254, 3) := by decide +kernel
theorem dX5_lotBy_12 : decode cX5_lotBy 12 = .ok (.lrem, 1) := by decide +kernel
theorem dX5_lotBy_13 : decode cX5_lotBy 13 = .ok (.putfield 248, 3) := by decide +kernel
theorem dX5_lotBy_16 : decode cX5_lotBy 16 = .ok (.aload_n 0, 1) := by decide +kernel
theorem dX5_lotBy_17 : decode cX5_lotBy 17 = .ok (.getfield 248, 3) := by decide +kernel
theorem dX5_lotBy_20 : decode cX5_lotBy 20 = .ok (.iload_n 1, 1) := by decide +kernel
theorem dX5_lotBy_21 : decode cX5_lotBy 21 = .ok (.i2l, 1) := by decide +kernel
theorem dX5_lotBy_22 : decode cX5_lotBy 22 = .ok (.lrem, 1) := by decide +kernel
theorem dX5_lotBy_23 : decode cX5_lotBy 23 = .ok (.l2i, 1) := by decide +kernel
theorem dX5_lotBy_24 : decode cX5_lotBy 24 = .ok (.ireturn, 1) := by decide +kernel
set_option maxRecDepth 20000 in
theorem ggX5_changeByLots_X5_lotBy : GoodIn wsX5_changeByLots wsX5_lotBy := goodIn_r _ [7, 8, 9, 10, 49, 50, 51, 52, 53, 54, 55, 56, 57, 58, 59, 60, 61, 62, 63, 64, 65, 66, 67, 68, 69, 70, 71, 72, 73, 74, 75, 76, 77, 78, 79, 80, 81, 82, 83, 84, 85, 86] rfl (by decide +kernel)
set_option maxRecDepth 20000 in
theorem gX5_changeByLots_X5_lotBy : GoodIn wsX5_changeByLots (wsV RX5 256 RX5 yX5_lotBy wsX5_lotBy) := goodIn_app (goodIn_r _ [3, 4, 5, 6] rfl (by decide +kernel)) ggX5_changeByLots_X5_lotBy
set_option maxRecDepth 20000 in
theorem ggX5_changeByLots_X5_openLines : GoodIn wsX5_changeByLots wsX5_openLines := goodIn_r _ [14, 1, 15, 16, 17, 6, 18, 19, 20, 21, 22, 23, 24, 25, 26, 2, 27, 28, 29, 30, 31, 32, 33, 34, 35, 49, 50, 51, 52, 53, 54, 55, 56, 57, 58, 59, 60, 61, 62, 63, 64, 65, 66, 67, 68, 69, 70, 71, 72, 73, 74, 75, 76, 77, 78, 79, 80, 81, 82, 83, 84, 85, 86] rfl (by decide +kernel)
set_option maxRecDepth 20000 in
theorem gX5_changeByLots_X5_openLines : GoodIn wsX5_changeByLots (wsV RX5 239 RX5 yX5_openLines wsX5_openLines) := goodIn_app (goodIn_r _ [11, 12, 13, 6] rfl (by decide +kernel)) ggX5_changeByLots_X5_openLines
set_option maxRecDepth 20000 in
theorem ggX5_changeByLots_X5_changesOf : GoodIn wsX5_changeByLots wsX5_changesOf := goodIn_r _ [18, 19, 20, 21, 22, 49, 50, 51, 52, 53, 54, 55, 56, 57, 58, 59, 60, 61, 62, 63, 64, 65, 66, 67, 68, 69, 70, 71, 72, 73, 74, 75, 76, 77, 78, 79, 80, 81, 82, 83, 84, 85, 86] rfl (by decide +kernel)
set_option maxRecDepth 20000 in
theorem gX5_changeByLots_X5_changesOf : GoodIn wsX5_changeByLots (wsV RX5 185 RX5 yX5_changesOf wsX5_changesOf) := goodIn_app (goodIn_r _ [15, 16, 17, 6] rfl (by decide +kernel)) ggX5_changeByLots_X5_changesOf
set_option maxRecDepth 20000 in
theorem ggX5_changeByLots_X5_lineAt : GoodIn wsX5_changeByLots wsX5_lineAt := goodIn_r _ [39, 2, 27, 28, 29, 6, 30, 31, 32, 33, 34, 35, 49, 50, 51, 52, 53, 54, 55, 56, 57, 58, 59, 60, 61, 62, 63, 64, 65, 66, 67, 68, 69, 70, 71, 72, 73, 74, 75, 76, 77, 78, 79, 80, 81, 82, 83, 84, 85, 86] rfl (by decide +kernel)
set_option maxRecDepth 20000 in
theorem gX5_changeByLots_X5_lineAt : GoodIn wsX5_changeByLots (wsV RX5 226 RX5 yX5_lineAt wsX5_lineAt) := goodIn_app (goodIn_r _ [36, 37, 38, 6] rfl (by decide +kernel)) ggX5_changeByLots_X5_lineAt
set_option maxRecDepth 20000 in
theorem ggX5_changeByLots_X5_takeNow : GoodIn wsX5_changeByLots wsX5_takeNow := goodIn_r _ [43, 44, 31, 1, 32, 2, 49, 50, 51, 52, 53, 54, 55, 56, 57, 58, 59, 60, 61, 62, 63, 64, 65, 66, 67, 68, 69, 70, 71, 72, 73, 74, 75, 76, 77, 78, 79, 80, 81, 82, 83, 84, 85, 86] rfl (by decide +kernel)
set_option maxRecDepth 20000 in
theorem gX5_changeByLots_X5_takeNow : GoodIn wsX5_changeByLots (wsV RX5 245 RX5 yX5_takeNow wsX5_takeNow) := goodIn_app (goodIn_r _ [40, 41, 42, 6] rfl (by decide +kernel)) ggX5_changeByLots_X5_takeNow
set_option maxRecDepth 20000 in
theorem ggX5_changeByLots_X5_putNow : GoodIn wsX5_changeByLots wsX5_putNow := goodIn_r _ [48, 1, 2, 44, 31, 32, 15, 16, 17, 6, 18, 19, 20, 21, 22, 36, 37, 38, 39, 27, 28, 29, 30, 33, 34, 35, 49, 50, 51, 52, 53, 54, 55, 56, 57, 58, 59, 60, 61, 62, 63, 64, 65, 66, 67, 68, 69, 70, 71, 72, 73, 74, 75, 76, 77, 78, 79, 80, 81, 82, 83, 84, 85, 86] rfl (by decide +kernel)
set_option maxRecDepth 20000 in
theorem gX5_changeByLots_X5_putNow : GoodIn wsX5_changeByLots (wsV RX5 242 RX5 yX5_putNow wsX5_putNow) := goodIn_app (goodIn_r _ [45, 46, 47, 6] rfl (by decide +kernel)) ggX5_changeByLots_X5_putNow
theorem dX5_changeByLots_0 : decode cX5_changeByLots 0 = .ok (.aload_n 0, 1) := by decide +kernel
theorem dX5_changeByLots_1 : decode cX5_changeByLots 1 = .ok (.iconst 3, 1) := by decide +kernel
theorem dX5_changeByLots_2 : decode cX5_changeByLots 2 = .ok (.invokevirtual 256, 3) := by decide +kernel
theorem dX5_changeByLots_5 : decode cX5_changeByLots 5 = .ok (.iconst 2, 1) := by decide +kernel
theorem dX5_changeByLots_6 : decode cX5_changeByLots 6 = .ok (.if_icmp .ne 40, 3) := by decide +kernel
theorem dX5_changeByLots_9 : decode cX5_changeByLots 9 = .ok (.aload_n 0, 1) := by decide +kernel
theorem dX5_changeByLots_10 : decode cX5_changeByLots 10 = .ok (.invokevirtual 239, 3) := by decide +kernel
theorem dX5_changeByLots_13 : decode cX5_changeByLots 13 = .ok (.istore_n 1, 1) := by decide +kernel
theorem dX5_changeByLots_14 : decode cX5_changeByLots 14 = .ok (.iload_n 1, 1) := by decide +kernel
theorem dX5_changeByLots_15 : decode cX5_changeByLots 15 = .ok (.ifCond .le 27, 3) := by decide +kernel
theorem dX5_changeByLots_18 : decode cX5_changeByLots 18 = .ok (.aload_n 0, 1) := by decide +kernel
theorem dX5_changeByLots_19 : decode cX5_changeByLots 19 = .ok (.aload_n 0, 1) := by decide +kernel
theorem dX5_changeByLots_20 : decode cX5_changeByLots 20 = .ok (.aload_n 0, 1) := by decide +kernel
theorem dX5_changeByLots_21 : decode cX5_changeByLots 21 = .ok (.aload_n 0, 1) := by decide +kernel
theorem dX5_changeByLots_22 : decode cX5_changeByLots 22 = .ok (.getfield 91, 3) := by decide +kernel
theorem dX5_changeByLots_25 : decode cX5_changeByLots 25 = .ok (.invokevirtual 185, 3) := by decide +kernel
theorem dX5_changeByLots_28 : decode cX5_changeByLots 28 = .ok (.aload_n 0, 1) := by decide +kernel
theorem dX5_changeByLots_29 : decode cX5_changeByLots 29 = .ok (.iload_n 1, 1) := by decide +kernel
theorem dX5_changeByLots_30 : decode cX5_changeByLots 30 = .ok (.invokevirtual 256, 3) := by decide +kernel
theorem dX5_changeByLots_33 : decode cX5_changeByLots 33 = .ok (.invokevirtual 226, 3) := by decide +kernel
theorem dX5_changeByLots_36 : decode cX5_changeByLots 36 = .ok (.invokevirtual 245, 3) := by decide +kernel
theorem dX5_changeByLots_39 : decode cX5_changeByLots 39 = .ok (.goto 4, 3) := by decide +kernel
theorem dX5_changeByLots_42 : decode cX5_changeByLots 42 = .ok (.iconst 0, 1) := by decide +kernel
theorem dX5_changeByLots_43 : decode cX5_changeByLots 43 = .ok (.istore_n 2, 1) := by decide +kernel
theorem dX5_changeByLots_44 : decode cX5_changeByLots 44 = .ok (.iconst 1, 1) := by decide +kernel
theorem dX5_changeByLots_45 : decode cX5_changeByLots 45 = .ok (.ireturn, 1) := by decide +kernel
theorem dX5_changeByLots_46 : decode cX5_changeByLots 46 = .ok (.aload_n 0, 1) := by decide +kernel
theorem dX5_changeByLots_47 : decode cX5_changeByLots 47 = .ok (.getfield 175, 3) := by decide +kernel
theorem dX5_changeByLots_50 : decode cX5_changeByLots 50 = .ok (.bipush 120, 2) := by decide +kernel
theorem dX5_changeByLots_52 : decode cX5_changeByLots 52 = .ok (.if_icmp .ne 5, 3) := by decide +kernel
theorem dX5_changeByLots_55 : decode cX5_changeByLots 55 = .ok (.iconst 0, 1) := by decide +kernel
theorem dX5_changeByLots_56 : decode cX5_changeByLots 56 = .ok (.ireturn, 1) := by decide +kernel
theorem dX5_changeByLots_57 : decode cX5_changeByLots 57 = .ok (.bipush 65, 2) := by decide +kernel
theorem dX5_changeByLots_59 : decode cX5_changeByLots 59 = .ok (.aload_n 0, 1) := by decide +kernel
theorem dX5_changeByLots_60 : decode cX5_changeByLots 60 = .ok (.bipush 26, 2) := by decide +kernel
theorem dX5_changeByLots_62 : decode cX5_changeByLots 62 = .ok (.invokevirtual 256, 3) := by decide +kernel
theorem dX5_changeByLots_65 : decode cX5_changeByLots 65 = .ok (.iadd, 1) := by decide +kernel
theorem dX5_changeByLots_66 : decode cX5_changeByLots 66 = .ok (.istore_n 1, 1) := by decide +kernel
theorem dX5_changeByLots_67 : decode cX5_changeByLots 67 = .ok (.aload_n 0, 1) := by decide +kernel
theorem dX5_changeByLots_68 : decode cX5_changeByLots 68 = .ok (.aload_n 0, 1) := by decide +kernel
theorem dX5_changeByLots_69 : decode cX5_changeByLots 69 = .ok (.aload_n 0, 1) := by decide +kernel
theorem dX5_changeByLots_70 : decode cX5_changeByLots 70 = .ok (.invokevirtual 239, 3) := by decide +kernel
theorem dX5_changeByLots_73 : decode cX5_changeByLots 73 = .ok (.iconst 1, 1) := by decide +kernel
theorem dX5_changeByLots_74 : decode cX5_changeByLots 74 = .ok (.iadd, 1) := by decide +kernel
theorem dX5_changeByLots_75 : decode cX5_changeByLots 75 = .ok (.invokevirtual 256, 3) := by decide +kernel
theorem dX5_changeByLots_78 : decode cX5_changeByLots 78 = .ok (.iload_n 1, 1) := by decide +kernel
theorem dX5_changeByLots_79 : decode cX5_changeByLots 79 = .ok (.invokevirtual 242, 3) := by decide +kernel
theorem dX5_changeByLots_82 : decode cX5_changeByLots 82 = .ok (.istore_n 2, 1) := by decide +kernel
theorem dX5_changeByLots_83 : decode cX5_changeByLots 83 = .ok (.iconst 1, 1) := by decide +kernel
theorem dX5_changeByLots_84 : decode cX5_changeByLots 84 = .ok (.ireturn, 1) := by decide +kernel
set_option maxRecDepth 20000 in
theorem ggX5_drift_X5_in : GoodIn wsX5_drift wsX5_in := goodIn_r _ [11] rfl (by decide +kernel)
set_option maxRecDepth 20000 in
theorem gX5_drift_X5_in : GoodIn wsX5_drift (va_wsS RX5 94 yX5_in wsX5_in) := goodIn_app (goodIn_r _ [8, 9, 10] rfl (by decide +kernel)) ggX5_drift_X5_in
set_option maxRecDepth 20000 in
theorem ggX5_drift_X5_lotBy : GoodIn wsX5_drift wsX5_lotBy := goodIn_r _ [15, 7, 16, 17, 72, 73, 74, 75, 76, 77, 78, 79, 80, 81, 82, 83, 84, 85, 86, 87, 88, 89, 90, 91, 92, 93, 94, 95, 96, 97, 98, 99, 100, 101, 102, 103, 104, 105, 106, 107, 108, 109] rfl (by decide +kernel)
set_option maxRecDepth 20000 in
theorem gX5_drift_X5_lotBy : GoodIn wsX5_drift (wsV RX5 256 RX5 yX5_lotBy wsX5_lotBy) := goodIn_app (goodIn_r _ [12, 13, 14, 10] rfl (by decide +kernel)) ggX5_drift_X5_lotBy
set_option maxRecDepth 20000 in
theorem ggX5_drift_X5_openNow : GoodIn wsX5_drift wsX5_openNow := goodIn_r _ [21, 22, 23, 24, 25, 26, 27, 28, 29, 4, 30, 5, 31, 32, 33, 34, 10, 35, 72, 73, 74, 75, 76, 77, 78, 79, 80, 81, 82, 83, 84, 85, 86, 87, 88, 89, 90, 91, 92, 93, 94, 95, 96, 97, 98, 99, 100, 101, 102, 103, 104, 105, 106, 107, 108, 109] rfl (by decide +kernel)
set_option maxRecDepth 20000 in
theorem gX5_drift_X5_openNow : GoodIn wsX5_drift (wsV RX5 232 RX5 yX5_openNow wsX5_openNow) := goodIn_app (goodIn_r _ [18, 19, 20, 10] rfl (by decide +kernel)) ggX5_drift_X5_openNow
set_option maxRecDepth 20000 in
theorem ggX5_drift_X5_changeByLots : GoodIn wsX5_drift wsX5_changeByLots := goodIn_r _ [39, 5, 22, 12, 13, 14, 10, 15, 7, 16, 17, 40, 41, 42, 43, 44, 45, 46, 47, 48, 30, 31, 32, 49, 50, 51, 52, 53, 54, 55, 56, 26, 28, 57, 58, 59, 60, 61, 62, 63, 64, 65, 66, 67, 24, 68, 69, 70, 71, 72, 73, 74, 75, 76, 77, 78, 79, 80, 81, 82, 83, 84, 85, 86, 87, 88, 89, 90, 91, 92, 93, 94, 95, 96, 97, 98, 99, 100, 101, 102, 103, 104, 105, 106, 107, 108, 109] rfl (by decide +kernel)
set_option maxRecDepth 20000 in
theorem gX5_drift_X5_changeByLots : GoodIn wsX5_drift (wsV RX5 263 RX5 yX5_changeByLots wsX5_changeByLots) := goodIn_app (goodIn_r _ [36, 37, 38, 10] rfl (by decide +kernel)) ggX5_drift_X5_changeByLots
theorem dX5_drift_0 : decode cX5_drift 0 = .ok (.iload_n 1, 1) := by decide +kernel
theorem dX5_drift_1 : decode cX5_drift 1 = .ok (.i2l, 1) := by decide +kernel
theorem dX5_drift_2 : decode cX5_drift 2 = .ok (.lconst 1, 1) := by decide +kernel
theorem dX5_drift_3 : decode cX5_drift 3 = .ok (.ldc2_w 259, 3) := by decide +kernel
theorem dX5_drift_6 : decode cX5_drift 6 = .ok (.invokestatic 94, 3) := by decide +kernel
theorem dX5_drift_9 : decode cX5_drift 9 = .ok (.ifCond .eq 15, 3) := by decide +kernel
theorem dX5_drift_12 : decode cX5_drift 12 = .ok (.iload_n 2, 1) := by decide +kernel
theorem dX5_drift_13 : decode cX5_drift 13 = .ok (.i2l, 1) := by decide +kernel
theorem dX5_drift_14 : decode cX5_drift 14 = .ok (.lconst 1, 1) := by decide +kernel
theorem dX5_drift_15 : decode cX5_drift 15 = .ok (.ldc2_w 261, 3) := by decide +kernel
theorem dX5_drift_18 : decode cX5_drift 18 = .ok (.invokestatic 94, 3) := by decide +kernel
theorem dX5_drift_21 : decode cX5_drift 21 = .ok (.ifCond .ne 6, 3) := by decide +kernel
theorem dX5_drift_24 : decode cX5_drift 24 = .ok (.ldc 100, 2) := by decide +kernel
theorem dX5_drift_26 : decode cX5_drift 26 = .ok (.ireturn, 1) := by decide +kernel
theorem dX5_drift_27 : decode cX5_drift 27 = .ok (.aload_n 0, 1) := by decide +kernel
theorem dX5_drift_28 : decode cX5_drift 28 = .ok (.getfield 178, 3) := by decide +kernel
theorem dX5_drift_31 : decode cX5_drift 31 = .ok (.ifCond .ne 10, 3) := by decide +kernel
theorem dX5_drift_34 : decode cX5_drift 34 = .ok (.aload_n 0, 1) := by decide +kernel
theorem dX5_drift_35 : decode cX5_drift 35 = .ok (.getfield 91, 3) := by decide +kernel
theorem dX5_drift_38 : decode cX5_drift 38 = .ok (.ifCond .ne 6, 3) := by decide +kernel
theorem dX5_drift_41 : decode cX5_drift 41 = .ok (.ldc 225, 2) := by decide +kernel
theorem dX5_drift_43 : decode cX5_drift 43 = .ok (.ireturn, 1) := by decide +kernel
theorem dX5_drift_44 : decode cX5_drift 44 = .ok (.aload_n 0, 1) := by decide +kernel
theorem dX5_drift_45 : decode cX5_drift 45 = .ok (.iload_n 2, 1) := by decide +kernel
theorem dX5_drift_46 : decode cX5_drift 46 = .ok (.i2l, 1) := by decide +kernel
theorem dX5_drift_47 : decode cX5_drift 47 = .ok (.putfield 248, 3) := by decide +kernel
theorem dX5_drift_50 : decode cX5_drift 50 = .ok (.iconst 1, 1) := by decide +kernel
theorem dX5_drift_51 : decode cX5_drift 51 = .ok (.istore_n 3, 1) := by decide +kernel
theorem dX5_drift_52 : decode cX5_drift 52 = .ok (.iconst 0, 1) := by decide +kernel
theorem dX5_drift_53 : decode cX5_drift 53 = .ok (.istore 4, 2) := by decide +kernel
theorem dX5_drift_55 : decode cX5_drift 55 = .ok (.iload 4, 2) := by decide +kernel
theorem dX5_drift_57 : decode cX5_drift 57 = .ok (.iload_n 1, 1) := by decide +kernel
theorem dX5_drift_58 : decode cX5_drift 58 = .ok (.if_icmp .ge 73, 3) := by decide +kernel
theorem dX5_drift_61 : decode cX5_drift 61 = .ok (.iload_n 3, 1) := by decide +kernel
theorem dX5_drift_62 : decode cX5_drift 62 = .ok (.ifCond .eq 69, 3) := by decide +kernel
theorem dX5_drift_65 : decode cX5_drift 65 = .ok (.aload_n 0, 1) := by decide +kernel
theorem dX5_drift_66 : decode cX5_drift 66 = .ok (.getfield 91, 3) := by decide +kernel
theorem dX5_drift_69 : decode cX5_drift 69 = .ok (.bipush 24, 2) := by decide +kernel
theorem dX5_drift_71 : decode cX5_drift 71 = .ok (.if_icmp .ge 60, 3) := by decide +kernel
theorem dX5_drift_74 : decode cX5_drift 74 = .ok (.aload_n 0, 1) := by decide +kernel
theorem dX5_drift_75 : decode cX5_drift 75 = .ok (.aload_n 0, 1) := by decide +kernel
theorem dX5_drift_76 : decode cX5_drift 76 = .ok (.aload_n 0, 1) := by decide +kernel
theorem dX5_drift_77 : decode cX5_drift 77 = .ok (.getfield 91, 3) := by decide +kernel
theorem dX5_drift_80 : decode cX5_drift 80 = .ok (.invokevirtual 256, 3) := by decide +kernel
theorem dX5_drift_83 : decode cX5_drift 83 = .ok (.invokevirtual 232, 3) := by decide +kernel
theorem dX5_drift_86 : decode cX5_drift 86 = .ok (.iconst 0, 1) := by decide +kernel
theorem dX5_drift_87 : decode cX5_drift 87 = .ok (.istore 5, 2) := by decide +kernel
theorem dX5_drift_89 : decode cX5_drift 89 = .ok (.iload 5, 2) := by decide +kernel
theorem dX5_drift_91 : decode cX5_drift 91 = .ok (.iconst 3, 1) := by decide +kernel
theorem dX5_drift_92 : decode cX5_drift 92 = .ok (.if_icmp .ge 18, 3) := by decide +kernel
theorem dX5_drift_95 : decode cX5_drift 95 = .ok (.iload_n 3, 1) := by decide +kernel
theorem dX5_drift_96 : decode cX5_drift 96 = .ok (.ifCond .eq 14, 3) := by decide +kernel
theorem dX5_drift_99 : decode cX5_drift 99 = .ok (.aload_n 0, 1) := by decide +kernel
theorem dX5_drift_100 : decode cX5_drift 100 = .ok (.invokevirtual 263, 3) := by decide +kernel
theorem dX5_drift_103 : decode cX5_drift 103 = .ok (.istore_n 3, 1) := by decide +kernel
theorem dX5_drift_104 : decode cX5_drift 104 = .ok (.iinc 5 1, 3) := by decide +kernel
theorem dX5_drift_107 : decode cX5_drift 107 = .ok (.goto (-18), 3) := by decide +kernel
theorem dX5_drift_110 : decode cX5_drift 110 = .ok (.aload_n 0, 1) := by decide +kernel
theorem dX5_drift_111 : decode cX5_drift 111 = .ok (.iconst 0, 1) := by decide +kernel
theorem dX5_drift_112 : decode cX5_drift 112 = .ok (.putfield 178, 3) := by decide +kernel
theorem dX5_drift_115 : decode cX5_drift 115 = .ok (.aload_n 0, 1) := by decide +kernel
theorem dX5_drift_116 : decode cX5_drift 116 = .ok (.dup, 1) := by decide +kernel
theorem dX5_drift_117 : decode cX5_drift 117 = .ok (.getfield 91, 3) := by decide +kernel
theorem dX5_drift_120 : decode cX5_drift 120 = .ok (.iconst 1, 1) := by decide +kernel
theorem dX5_drift_121 : decode cX5_drift 121 = .ok (.iadd, 1) := by decide +kernel
theorem dX5_drift_122 : decode cX5_drift 122 = .ok (.putfield 91, 3) := by decide +kernel
theorem dX5_drift_125 : decode cX5_drift 125 = .ok (.iinc 4 1, 3) := by decide +kernel
theorem dX5_drift_128 : decode cX5_drift 128 = .ok (.goto (-73), 3) := by decide +kernel
theorem dX5_drift_131 : decode cX5_drift 131 = .ok (.aload_n 0, 1) := by decide +kernel
theorem dX5_drift_132 : decode cX5_drift 132 = .ok (.getfield 91, 3) := by decide +kernel
theorem dX5_drift_135 : decode cX5_drift 135 = .ok (.ireturn, 1) := by decide +kernel
set_option maxRecDepth 20000 in
theorem ggX5_share_X5_isVersion : GoodIn wsX5_share wsX5_isVersion := goodIn_r _ [8, 9, 10, 11, 7, 12, 29, 30, 31, 32, 33, 34, 35, 36, 37, 38, 39, 40, 41, 42, 43, 44, 45, 46, 47, 48, 49, 50, 51, 52, 53, 54, 55, 56, 57, 58, 59, 60, 61, 62, 63, 64, 65, 66] rfl (by decide +kernel)
set_option maxRecDepth 20000 in
theorem gX5_share_X5_isVersion : GoodIn wsX5_share (wsV RX5 213 RX5 yX5_isVersion wsX5_isVersion) := goodIn_app (goodIn_r _ [4, 5, 6, 7] rfl (by decide +kernel)) ggX5_share_X5_isVersion
set_option maxRecDepth 20000 in
theorem ggX5_share_X5_changesOf : GoodIn wsX5_share wsX5_changesOf := goodIn_r _ [16, 17, 18, 19, 20, 29, 30, 31, 32, 33, 34, 35, 36, 37, 38, 39, 40, 41, 42, 43, 44, 45, 46, 47, 48, 49, 50, 51, 52, 53, 54, 55, 56, 57, 58, 59, 60, 61, 62, 63, 64, 65, 66] rfl (by decide +kernel)
set_option maxRecDepth 20000 in
theorem gX5_share_X5_changesOf : GoodIn wsX5_share (wsV RX5 185 RX5 yX5_changesOf wsX5_changesOf) := goodIn_app (goodIn_r _ [13, 14, 15, 7] rfl (by decide +kernel)) ggX5_share_X5_changesOf
set_option maxRecDepth 20000 in
theorem ggX5_share_X5_stands : GoodIn wsX5_share wsX5_stands := goodIn_r _ [24, 3, 25, 26, 27, 7, 28, 29, 30, 31, 32, 33, 34, 35, 36, 37, 38, 39, 40, 41, 42, 43, 44, 45, 46, 47, 48, 49, 50, 51, 52, 53, 54, 55, 56, 57, 58, 59, 60, 61, 62, 63, 64, 65, 66] rfl (by decide +kernel)
set_option maxRecDepth 20000 in
theorem gX5_share_X5_stands : GoodIn wsX5_share (wsV RX5 182 RX5 yX5_stands wsX5_stands) := goodIn_app (goodIn_r _ [21, 22, 23, 7] rfl (by decide +kernel)) ggX5_share_X5_stands
theorem dX5_share_0 : decode cX5_share 0 = .ok (.aload_n 0, 1) := by decide +kernel
theorem dX5_share_1 : decode cX5_share 1 = .ok (.iload_n 1, 1) := by decide +kernel
theorem dX5_share_2 : decode cX5_share 2 = .ok (.invokevirtual 213, 3) := by decide +kernel
theorem dX5_share_5 : decode cX5_share 5 = .ok (.ifCond .eq 11, 3) := by decide +kernel
theorem dX5_share_8 : decode cX5_share 8 = .ok (.aload_n 0, 1) := by decide +kernel
theorem dX5_share_9 : decode cX5_share 9 = .ok (.iload_n 2, 1) := by decide +kernel
theorem dX5_share_10 : decode cX5_share 10 = .ok (.invokevirtual 213, 3) := by decide +kernel
theorem dX5_share_13 : decode cX5_share 13 = .ok (.ifCond .ne 6, 3) := by decide +kernel
theorem dX5_share_16 : decode cX5_share 16 = .ok (.ldc 216, 2) := by decide +kernel
theorem dX5_share_18 : decode cX5_share 18 = .ok (.ireturn, 1) := by decide +kernel
theorem dX5_share_19 : decode cX5_share 19 = .ok (.aload_n 0, 1) := by decide +kernel
theorem dX5_share_20 : decode cX5_share 20 = .ok (.iload_n 1, 1) := by decide +kernel
theorem dX5_share_21 : decode cX5_share 21 = .ok (.invokevirtual 185, 3) := by decide +kernel
theorem dX5_share_24 : decode cX5_share 24 = .ok (.istore_n 3, 1) := by decide +kernel
theorem dX5_share_25 : decode cX5_share 25 = .ok (.iconst 0, 1) := by decide +kernel
theorem dX5_share_26 : decode cX5_share 26 = .ok (.istore 4, 2) := by decide +kernel
theorem dX5_share_28 : decode cX5_share 28 = .ok (.iconst 0, 1) := by decide +kernel
theorem dX5_share_29 : decode cX5_share 29 = .ok (.istore 5, 2) := by decide +kernel
theorem dX5_share_31 : decode cX5_share 31 = .ok (.iload 5, 2) := by decide +kernel
theorem dX5_share_33 : decode cX5_share 33 = .ok (.aload_n 0, 1) := by decide +kernel
theorem dX5_share_34 : decode cX5_share 34 = .ok (.getfield 175, 3) := by decide +kernel
theorem dX5_share_37 : decode cX5_share 37 = .ok (.if_icmp .ge 40, 3) := by decide +kernel
theorem dX5_share_40 : decode cX5_share 40 = .ok (.iload 4, 2) := by decide +kernel
theorem dX5_share_42 : decode cX5_share 42 = .ok (.aload_n 0, 1) := by decide +kernel
theorem dX5_share_43 : decode cX5_share 43 = .ok (.iload 5, 2) := by decide +kernel
theorem dX5_share_45 : decode cX5_share 45 = .ok (.iload_n 3, 1) := by decide +kernel
theorem dX5_share_46 : decode cX5_share 46 = .ok (.invokevirtual 182, 3) := by decide +kernel
theorem dX5_share_49 : decode cX5_share 49 = .ok (.ifCond .eq 18, 3) := by decide +kernel
theorem dX5_share_52 : decode cX5_share 52 = .ok (.aload_n 0, 1) := by decide +kernel
theorem dX5_share_53 : decode cX5_share 53 = .ok (.getfield 22, 3) := by decide +kernel
theorem dX5_share_56 : decode cX5_share 56 = .ok (.iload 5, 2) := by decide +kernel
theorem dX5_share_58 : decode cX5_share 58 = .ok (.iaload, 1) := by decide +kernel
theorem dX5_share_59 : decode cX5_share 59 = .ok (.iload_n 2, 1) := by decide +kernel
theorem dX5_share_60 : decode cX5_share 60 = .ok (.if_icmp .ne 7, 3) := by decide +kernel
theorem dX5_share_63 : decode cX5_share 63 = .ok (.iconst 1, 1) := by decide +kernel
theorem dX5_share_64 : decode cX5_share 64 = .ok (.goto 4, 3) := by decide +kernel
theorem dX5_share_67 : decode cX5_share 67 = .ok (.iconst 0, 1) := by decide +kernel
theorem dX5_share_68 : decode cX5_share 68 = .ok (.iadd, 1) := by decide +kernel
theorem dX5_share_69 : decode cX5_share 69 = .ok (.istore 4, 2) := by decide +kernel
theorem dX5_share_71 : decode cX5_share 71 = .ok (.iinc 5 1, 3) := by decide +kernel
theorem dX5_share_74 : decode cX5_share 74 = .ok (.goto (-43), 3) := by decide +kernel
theorem dX5_share_77 : decode cX5_share 77 = .ok (.iload 4, 2) := by decide +kernel
theorem dX5_share_79 : decode cX5_share 79 = .ok (.ireturn, 1) := by decide +kernel
set_option maxRecDepth 20000 in
theorem ggX5_partOf_X5_lineAt : GoodIn wsX5_partOf wsX5_lineAt := goodIn_r _ [5, 6, 7, 8, 9, 4, 10, 11, 12, 13, 14, 15, 16, 17, 18, 19, 20, 21, 22, 23, 24, 25, 26, 27, 28, 29, 30, 31, 32, 33, 34, 35, 36, 37, 38, 39, 40, 41, 42, 43, 44, 45, 46, 47, 48, 49, 50, 51, 52, 53] rfl (by decide +kernel)
set_option maxRecDepth 20000 in
theorem gX5_partOf_X5_lineAt : GoodIn wsX5_partOf (wsV RX5 226 RX5 yX5_lineAt wsX5_lineAt) := goodIn_app (goodIn_r _ [1, 2, 3, 4] rfl (by decide +kernel)) ggX5_partOf_X5_lineAt
theorem dX5_partOf_0 : decode cX5_partOf 0 = .ok (.iconst 0, 1) := by decide +kernel
theorem dX5_partOf_1 : decode cX5_partOf 1 = .ok (.istore_n 3, 1) := by decide +kernel
theorem dX5_partOf_2 : decode cX5_partOf 2 = .ok (.aload_n 0, 1) := by decide +kernel
theorem dX5_partOf_3 : decode cX5_partOf 3 = .ok (.iload_n 1, 1) := by decide +kernel
theorem dX5_partOf_4 : decode cX5_partOf 4 = .ok (.iconst 0, 1) := by decide +kernel
theorem dX5_partOf_5 : decode cX5_partOf 5 = .ok (.invokevirtual 226, 3) := by decide +kernel
theorem dX5_partOf_8 : decode cX5_partOf 8 = .ok (.istore 4, 2) := by decide +kernel
theorem dX5_partOf_10 : decode cX5_partOf 10 = .ok (.aload_n 0, 1) := by decide +kernel
theorem dX5_partOf_11 : decode cX5_partOf 11 = .ok (.iload_n 2, 1) := by decide +kernel
theorem dX5_partOf_12 : decode cX5_partOf 12 = .ok (.iconst 0, 1) := by decide +kernel
theorem dX5_partOf_13 : decode cX5_partOf 13 = .ok (.invokevirtual 226, 3) := by decide +kernel
theorem dX5_partOf_16 : decode cX5_partOf 16 = .ok (.istore 5, 2) := by decide +kernel
theorem dX5_partOf_18 : decode cX5_partOf 18 = .ok (.iload 4, 2) := by decide +kernel
theorem dX5_partOf_20 : decode cX5_partOf 20 = .ok (.iload 5, 2) := by decide +kernel
theorem dX5_partOf_22 : decode cX5_partOf 22 = .ok (.if_icmp .ne 30, 3) := by decide +kernel
theorem dX5_partOf_25 : decode cX5_partOf 25 = .ok (.iload 4, 2) := by decide +kernel
theorem dX5_partOf_27 : decode cX5_partOf 27 = .ok (.ifCond .lt 25, 3) := by decide +kernel
theorem dX5_partOf_30 : decode cX5_partOf 30 = .ok (.iinc 3 1, 3) := by decide +kernel
theorem dX5_partOf_33 : decode cX5_partOf 33 = .ok (.aload_n 0, 1) := by decide +kernel
theorem dX5_partOf_34 : decode cX5_partOf 34 = .ok (.iload_n 1, 1) := by decide +kernel
theorem dX5_partOf_35 : decode cX5_partOf 35 = .ok (.iload_n 3, 1) := by decide +kernel
theorem dX5_partOf_36 : decode cX5_partOf 36 = .ok (.invokevirtual 226, 3) := by decide +kernel
theorem dX5_partOf_39 : decode cX5_partOf 39 = .ok (.istore 4, 2) := by decide +kernel
theorem dX5_partOf_41 : decode cX5_partOf 41 = .ok (.aload_n 0, 1) := by decide +kernel
theorem dX5_partOf_42 : decode cX5_partOf 42 = .ok (.iload_n 2, 1) := by decide +kernel
theorem dX5_partOf_43 : decode cX5_partOf 43 = .ok (.iload_n 3, 1) := by decide +kernel
theorem dX5_partOf_44 : decode cX5_partOf 44 = .ok (.invokevirtual 226, 3) := by decide +kernel
theorem dX5_partOf_47 : decode cX5_partOf 47 = .ok (.istore 5, 2) := by decide +kernel
theorem dX5_partOf_49 : decode cX5_partOf 49 = .ok (.goto (-31), 3) := by decide +kernel
theorem dX5_partOf_52 : decode cX5_partOf 52 = .ok (.iload 4, 2) := by decide +kernel
theorem dX5_partOf_54 : decode cX5_partOf 54 = .ok (.iload 5, 2) := by decide +kernel
theorem dX5_partOf_56 : decode cX5_partOf 56 = .ok (.if_icmp .ne 7, 3) := by decide +kernel
theorem dX5_partOf_59 : decode cX5_partOf 59 = .ok (.iconst (-1), 1) := by decide +kernel
theorem dX5_partOf_60 : decode cX5_partOf 60 = .ok (.goto 4, 3) := by decide +kernel
theorem dX5_partOf_63 : decode cX5_partOf 63 = .ok (.iload_n 3, 1) := by decide +kernel
theorem dX5_partOf_64 : decode cX5_partOf 64 = .ok (.ireturn, 1) := by decide +kernel
set_option maxRecDepth 20000 in
theorem ggX5_bothOf_X5_stands : GoodIn wsX5_bothOf wsX5_stands := goodIn_r _ [6, 7, 8, 9, 10, 5, 11, 12, 13, 14, 15, 16, 17, 18, 19, 20, 21, 22, 23, 24, 25, 26, 27, 28, 29, 30, 31, 32, 33, 34, 35, 36, 37, 38, 39, 40, 41, 42, 43, 44, 45, 46, 47, 48, 49] rfl (by decide +kernel)
set_option maxRecDepth 20000 in
theorem gX5_bothOf_X5_stands : GoodIn wsX5_bothOf (wsV RX5 182 RX5 yX5_stands wsX5_stands) := goodIn_app (goodIn_r _ [2, 3, 4, 5] rfl (by decide +kernel)) ggX5_bothOf_X5_stands
theorem dX5_bothOf_0 : decode cX5_bothOf 0 = .ok (.iconst 0, 1) := by decide +kernel
theorem dX5_bothOf_1 : decode cX5_bothOf 1 = .ok (.istore_n 3, 1) := by decide +kernel
theorem dX5_bothOf_2 : decode cX5_bothOf 2 = .ok (.iconst 0, 1) := by decide +kernel
theorem dX5_bothOf_3 : decode cX5_bothOf 3 = .ok (.istore 4, 2) := by decide +kernel
theorem dX5_bothOf_5 : decode cX5_bothOf 5 = .ok (.iload 4, 2) := by decide +kernel
theorem dX5_bothOf_7 : decode cX5_bothOf 7 = .ok (.aload_n 0, 1) := by decide +kernel
theorem dX5_bothOf_8 : decode cX5_bothOf 8 = .ok (.getfield 175, 3) := by decide +kernel
theorem dX5_bothOf_11 : decode cX5_bothOf 11 = .ok (.if_icmp .ge 37, 3) := by decide +kernel
theorem dX5_bothOf_14 : decode cX5_bothOf 14 = .ok (.iload_n 3, 1) := by decide +kernel
theorem dX5_bothOf_15 : decode cX5_bothOf 15 = .ok (.aload_n 0, 1) := by decide +kernel
theorem dX5_bothOf_16 : decode cX5_bothOf 16 = .ok (.iload 4, 2) := by decide +kernel
theorem dX5_bothOf_18 : decode cX5_bothOf 18 = .ok (.iload_n 1, 1) := by decide +kernel
theorem dX5_bothOf_19 : decode cX5_bothOf 19 = .ok (.invokevirtual 182, 3) := by decide +kernel
theorem dX5_bothOf_22 : decode cX5_bothOf 22 = .ok (.ifCond .eq 17, 3) := by decide +kernel
theorem dX5_bothOf_25 : decode cX5_bothOf 25 = .ok (.aload_n 0, 1) := by decide +kernel
theorem dX5_bothOf_26 : decode cX5_bothOf 26 = .ok (.iload 4, 2) := by decide +kernel
theorem dX5_bothOf_28 : decode cX5_bothOf 28 = .ok (.iload_n 2, 1) := by decide +kernel
theorem dX5_bothOf_29 : decode cX5_bothOf 29 = .ok (.invokevirtual 182, 3) := by decide +kernel
theorem dX5_bothOf_32 : decode cX5_bothOf 32 = .ok (.ifCond .eq 7, 3) := by decide +kernel
theorem dX5_bothOf_35 : decode cX5_bothOf 35 = .ok (.iconst 1, 1) := by decide +kernel
theorem dX5_bothOf_36 : decode cX5_bothOf 36 = .ok (.goto 4, 3) := by decide +kernel
theorem dX5_bothOf_39 : decode cX5_bothOf 39 = .ok (.iconst 0, 1) := by decide +kernel
theorem dX5_bothOf_40 : decode cX5_bothOf 40 = .ok (.iadd, 1) := by decide +kernel
theorem dX5_bothOf_41 : decode cX5_bothOf 41 = .ok (.istore_n 3, 1) := by decide +kernel
theorem dX5_bothOf_42 : decode cX5_bothOf 42 = .ok (.iinc 4 1, 3) := by decide +kernel
theorem dX5_bothOf_45 : decode cX5_bothOf 45 = .ok (.goto (-40), 3) := by decide +kernel
theorem dX5_bothOf_48 : decode cX5_bothOf 48 = .ok (.iload_n 3, 1) := by decide +kernel
theorem dX5_bothOf_49 : decode cX5_bothOf 49 = .ok (.ireturn, 1) := by decide +kernel
set_option maxRecDepth 20000 in
theorem ggX5_alike_X5_isVersion : GoodIn wsX5_alike wsX5_isVersion := goodIn_r _ [7, 8, 9, 10, 6, 11, 46, 47, 48, 49, 50, 51, 52, 53, 54, 55, 56, 57, 58, 59, 60, 61, 62, 63, 64, 65, 66, 67, 68, 69, 70, 71, 72, 73, 74, 75, 76, 77, 78, 79, 80, 81, 82, 83] rfl (by decide +kernel)
set_option maxRecDepth 20000 in
theorem gX5_alike_X5_isVersion : GoodIn wsX5_alike (wsV RX5 213 RX5 yX5_isVersion wsX5_isVersion) := goodIn_app (goodIn_r _ [3, 4, 5, 6] rfl (by decide +kernel)) ggX5_alike_X5_isVersion
set_option maxRecDepth 20000 in
theorem ggX5_alike_X5_changesOf : GoodIn wsX5_alike wsX5_changesOf := goodIn_r _ [15, 16, 17, 18, 19, 46, 47, 48, 49, 50, 51, 52, 53, 54, 55, 56, 57, 58, 59, 60, 61, 62, 63, 64, 65, 66, 67, 68, 69, 70, 71, 72, 73, 74, 75, 76, 77, 78, 79, 80, 81, 82, 83] rfl (by decide +kernel)
set_option maxRecDepth 20000 in
theorem gX5_alike_X5_changesOf : GoodIn wsX5_alike (wsV RX5 185 RX5 yX5_changesOf wsX5_changesOf) := goodIn_app (goodIn_r _ [12, 13, 14, 6] rfl (by decide +kernel)) ggX5_alike_X5_changesOf
set_option maxRecDepth 20000 in
theorem ggX5_alike_X5_bothOf : GoodIn wsX5_alike wsX5_bothOf := goodIn_r _ [23, 24, 25, 26, 27, 6, 28, 29, 30, 31, 32, 33, 46, 47, 48, 49, 50, 51, 52, 53, 54, 55, 56, 57, 58, 59, 60, 61, 62, 63, 64, 65, 66, 67, 68, 69, 70, 71, 72, 73, 74, 75, 76, 77, 78, 79, 80, 81, 82, 83] rfl (by decide +kernel)
set_option maxRecDepth 20000 in
theorem gX5_alike_X5_bothOf : GoodIn wsX5_alike (wsV RX5 267 RX5 yX5_bothOf wsX5_bothOf) := goodIn_app (goodIn_r _ [20, 21, 22, 6] rfl (by decide +kernel)) ggX5_alike_X5_bothOf
set_option maxRecDepth 20000 in
theorem ggX5_alike_X5_manyOf : GoodIn wsX5_alike wsX5_manyOf := goodIn_r _ [37, 24, 25, 26, 27, 6, 28, 29, 30, 31, 32, 33, 46, 47, 48, 49, 50, 51, 52, 53, 54, 55, 56, 57, 58, 59, 60, 61, 62, 63, 64, 65, 66, 67, 68, 69, 70, 71, 72, 73, 74, 75, 76, 77, 78, 79, 80, 81, 82, 83] rfl (by decide +kernel)
set_option maxRecDepth 20000 in
theorem gX5_alike_X5_manyOf : GoodIn wsX5_alike (wsV RX5 198 RX5 yX5_manyOf wsX5_manyOf) := goodIn_app (goodIn_r _ [34, 35, 36, 6] rfl (by decide +kernel)) ggX5_alike_X5_manyOf
set_option maxRecDepth 20000 in
theorem ggX5_alike_X5_partOf : GoodIn wsX5_alike wsX5_partOf := goodIn_r _ [41, 42, 43, 44, 6, 45, 24, 25, 26, 27, 28, 29, 30, 31, 32, 33, 46, 47, 48, 49, 50, 51, 52, 53, 54, 55, 56, 57, 58, 59, 60, 61, 62, 63, 64, 65, 66, 67, 68, 69, 70, 71, 72, 73, 74, 75, 76, 77, 78, 79, 80, 81, 82, 83] rfl (by decide +kernel)
set_option maxRecDepth 20000 in
theorem gX5_alike_X5_partOf : GoodIn wsX5_alike (wsV RX5 270 RX5 yX5_partOf wsX5_partOf) := goodIn_app (goodIn_r _ [38, 39, 40, 6] rfl (by decide +kernel)) ggX5_alike_X5_partOf
theorem dX5_alike_0 : decode cX5_alike 0 = .ok (.aload_n 0, 1) := by decide +kernel
theorem dX5_alike_1 : decode cX5_alike 1 = .ok (.iload_n 1, 1) := by decide +kernel
theorem dX5_alike_2 : decode cX5_alike 2 = .ok (.invokevirtual 213, 3) := by decide +kernel
theorem dX5_alike_5 : decode cX5_alike 5 = .ok (.ifCond .eq 16, 3) := by decide +kernel
theorem dX5_alike_8 : decode cX5_alike 8 = .ok (.aload_n 0, 1) := by decide +kernel
theorem dX5_alike_9 : decode cX5_alike 9 = .ok (.iload_n 2, 1) := by decide +kernel
theorem dX5_alike_10 : decode cX5_alike 10 = .ok (.invokevirtual 213, 3) := by decide +kernel
theorem dX5_alike_13 : decode cX5_alike 13 = .ok (.ifCond .eq 8, 3) := by decide +kernel
theorem dX5_alike_16 : decode cX5_alike 16 = .ok (.iload_n 1, 1) := by decide +kernel
theorem dX5_alike_17 : decode cX5_alike 17 = .ok (.iload_n 2, 1) := by decide +kernel
theorem dX5_alike_18 : decode cX5_alike 18 = .ok (.if_icmp .ne 6, 3) := by decide +kernel
theorem dX5_alike_21 : decode cX5_alike 21 = .ok (.ldc 216, 2) := by decide +kernel
theorem dX5_alike_23 : decode cX5_alike 23 = .ok (.ireturn, 1) := by decide +kernel
theorem dX5_alike_24 : decode cX5_alike 24 = .ok (.aload_n 0, 1) := by decide +kernel
theorem dX5_alike_25 : decode cX5_alike 25 = .ok (.iload_n 1, 1) := by decide +kernel
theorem dX5_alike_26 : decode cX5_alike 26 = .ok (.invokevirtual 185, 3) := by decide +kernel
theorem dX5_alike_29 : decode cX5_alike 29 = .ok (.istore 4, 2) := by decide +kernel
theorem dX5_alike_31 : decode cX5_alike 31 = .ok (.aload_n 0, 1) := by decide +kernel
theorem dX5_alike_32 : decode cX5_alike 32 = .ok (.iload_n 2, 1) := by decide +kernel
theorem dX5_alike_33 : decode cX5_alike 33 = .ok (.invokevirtual 185, 3) := by decide +kernel
theorem dX5_alike_36 : decode cX5_alike 36 = .ok (.istore 5, 2) := by decide +kernel
theorem dX5_alike_38 : decode cX5_alike 38 = .ok (.iload_n 3, 1) := by decide +kernel
theorem dX5_alike_39 : decode cX5_alike 39 = .ok (.tableswitch 79 0 3 #[29, 38, 54, 70], 29) := by decide +kernel
theorem dX5_alike_68 : decode cX5_alike 68 = .ok (.aload_n 0, 1) := by decide +kernel
theorem dX5_alike_69 : decode cX5_alike 69 = .ok (.iload 4, 2) := by decide +kernel
theorem dX5_alike_71 : decode cX5_alike 71 = .ok (.iload 5, 2) := by decide +kernel
theorem dX5_alike_73 : decode cX5_alike 73 = .ok (.invokevirtual 267, 3) := by decide +kernel
theorem dX5_alike_76 : decode cX5_alike 76 = .ok (.ireturn, 1) := by decide +kernel
theorem dX5_alike_77 : decode cX5_alike 77 = .ok (.aload_n 0, 1) := by decide +kernel
theorem dX5_alike_78 : decode cX5_alike 78 = .ok (.iload 4, 2) := by decide +kernel
theorem dX5_alike_80 : decode cX5_alike 80 = .ok (.invokevirtual 198, 3) := by decide +kernel
theorem dX5_alike_83 : decode cX5_alike 83 = .ok (.aload_n 0, 1) := by decide +kernel
theorem dX5_alike_84 : decode cX5_alike 84 = .ok (.iload 4, 2) := by decide +kernel
theorem dX5_alike_86 : decode cX5_alike 86 = .ok (.iload 5, 2) := by decide +kernel
theorem dX5_alike_88 : decode cX5_alike 88 = .ok (.invokevirtual 267, 3) := by decide +kernel
theorem dX5_alike_91 : decode cX5_alike 91 = .ok (.isub, 1) := by decide +kernel
theorem dX5_alike_92 : decode cX5_alike 92 = .ok (.ireturn, 1) := by decide +kernel
theorem dX5_alike_93 : decode cX5_alike 93 = .ok (.aload_n 0, 1) := by decide +kernel
theorem dX5_alike_94 : decode cX5_alike 94 = .ok (.iload 5, 2) := by decide +kernel
theorem dX5_alike_96 : decode cX5_alike 96 = .ok (.invokevirtual 198, 3) := by decide +kernel
theorem dX5_alike_99 : decode cX5_alike 99 = .ok (.aload_n 0, 1) := by decide +kernel
theorem dX5_alike_100 : decode cX5_alike 100 = .ok (.iload 4, 2) := by decide +kernel
theorem dX5_alike_102 : decode cX5_alike 102 = .ok (.iload 5, 2) := by decide +kernel
theorem dX5_alike_104 : decode cX5_alike 104 = .ok (.invokevirtual 267, 3) := by decide +kernel
theorem dX5_alike_107 : decode cX5_alike 107 = .ok (.isub, 1) := by decide +kernel
theorem dX5_alike_108 : decode cX5_alike 108 = .ok (.ireturn, 1) := by decide +kernel
theorem dX5_alike_109 : decode cX5_alike 109 = .ok (.aload_n 0, 1) := by decide +kernel
theorem dX5_alike_110 : decode cX5_alike 110 = .ok (.iload 4, 2) := by decide +kernel
theorem dX5_alike_112 : decode cX5_alike 112 = .ok (.iload 5, 2) := by decide +kernel
theorem dX5_alike_114 : decode cX5_alike 114 = .ok (.invokevirtual 270, 3) := by decide +kernel
theorem dX5_alike_117 : decode cX5_alike 117 = .ok (.ireturn, 1) := by decide +kernel
theorem dX5_alike_118 : decode cX5_alike 118 = .ok (.ldc 100, 2) := by decide +kernel
theorem dX5_alike_120 : decode cX5_alike 120 = .ok (.ireturn, 1) := by decide +kernel
set_option maxRecDepth 20000 in
theorem ggX5_without_X5_isVersion : GoodIn wsX5_without wsX5_isVersion := goodIn_r _ [6, 7, 8, 9, 5, 10, 33, 34, 35, 36, 37, 38, 39, 40, 41, 42, 43, 44, 45, 46, 47, 48, 49, 50, 51, 52, 53, 54, 55, 56, 57, 58, 59, 60, 61, 62, 63, 64, 65, 66, 67, 68, 69, 70] rfl (by decide +kernel)
set_option maxRecDepth 20000 in
theorem gX5_without_X5_isVersion : GoodIn wsX5_without (wsV RX5 213 RX5 yX5_isVersion wsX5_isVersion) := goodIn_app (goodIn_r _ [2, 3, 4, 5] rfl (by decide +kernel)) ggX5_without_X5_isVersion
set_option maxRecDepth 20000 in
theorem ggX5_without_X5_changesOf : GoodIn wsX5_without wsX5_changesOf := goodIn_r _ [14, 15, 16, 17, 18, 33, 34, 35, 36, 37, 38, 39, 40, 41, 42, 43, 44, 45, 46, 47, 48, 49, 50, 51, 52, 53, 54, 55, 56, 57, 58, 59, 60, 61, 62, 63, 64, 65, 66, 67, 68, 69, 70] rfl (by decide +kernel)
set_option maxRecDepth 20000 in
theorem gX5_without_X5_changesOf : GoodIn wsX5_without (wsV RX5 185 RX5 yX5_changesOf wsX5_changesOf) := goodIn_app (goodIn_r _ [11, 12, 13, 5] rfl (by decide +kernel)) ggX5_without_X5_changesOf
set_option maxRecDepth 20000 in
theorem ggX5_without_X5_manyOf : GoodIn wsX5_without wsX5_manyOf := goodIn_r _ [22, 23, 24, 25, 26, 5, 27, 28, 29, 30, 31, 32, 33, 34, 35, 36, 37, 38, 39, 40, 41, 42, 43, 44, 45, 46, 47, 48, 49, 50, 51, 52, 53, 54, 55, 56, 57, 58, 59, 60, 61, 62, 63, 64, 65, 66, 67, 68, 69, 70] rfl (by decide +kernel)
set_option maxRecDepth 20000 in
theorem gX5_without_X5_manyOf : GoodIn wsX5_without (wsV RX5 198 RX5 yX5_manyOf wsX5_manyOf) := goodIn_app (goodIn_r _ [19, 20, 21, 5] rfl (by decide +kernel)) ggX5_without_X5_manyOf
theorem dX5_without_0 : decode cX5_without 0 = .ok (.aload_n 0, 1) := by decide +kernel
theorem dX5_without_1 : decode cX5_without 1 = .ok (.iload_n 1, 1) := by decide +kernel
theorem dX5_without_2 : decode cX5_without 2 = .ok (.invokevirtual 213, 3) := by decide +kernel
theorem dX5_without_5 : decode cX5_without 5 = .ok (.ifCond .eq 16, 3) := by decide +kernel
theorem dX5_without_8 : decode cX5_without 8 = .ok (.aload_n 0, 1) := by decide +kernel
theorem dX5_without_9 : decode cX5_without 9 = .ok (.iload_n 2, 1) := by decide +kernel
theorem dX5_without_10 : decode cX5_without 10 = .ok (.invokevirtual 213, 3) := by decide +kernel
theorem dX5_without_13 : decode cX5_without 13 = .ok (.ifCond .eq 8, 3) := by decide +kernel
theorem dX5_without_16 : decode cX5_without 16 = .ok (.iload_n 2, 1) := by decide +kernel
theorem dX5_without_17 : decode cX5_without 17 = .ok (.iload_n 1, 1) := by decide +kernel
theorem dX5_without_18 : decode cX5_without 18 = .ok (.if_icmp .ne 6, 3) := by decide +kernel
theorem dX5_without_21 : decode cX5_without 21 = .ok (.ldc 216, 2) := by decide +kernel
theorem dX5_without_23 : decode cX5_without 23 = .ok (.ireturn, 1) := by decide +kernel
theorem dX5_without_24 : decode cX5_without 24 = .ok (.aload_n 0, 1) := by decide +kernel
theorem dX5_without_25 : decode cX5_without 25 = .ok (.aload_n 0, 1) := by decide +kernel
theorem dX5_without_26 : decode cX5_without 26 = .ok (.iload_n 1, 1) := by decide +kernel
theorem dX5_without_27 : decode cX5_without 27 = .ok (.invokevirtual 185, 3) := by decide +kernel
theorem dX5_without_30 : decode cX5_without 30 = .ok (.iconst 1, 1) := by decide +kernel
theorem dX5_without_31 : decode cX5_without 31 = .ok (.iload_n 2, 1) := by decide +kernel
theorem dX5_without_32 : decode cX5_without 32 = .ok (.ishl, 1) := by decide +kernel
theorem dX5_without_33 : decode cX5_without 33 = .ok (.iconst (-1), 1) := by decide +kernel
theorem dX5_without_34 : decode cX5_without 34 = .ok (.ixor, 1) := by decide +kernel
theorem dX5_without_35 : decode cX5_without 35 = .ok (.iand, 1) := by decide +kernel
theorem dX5_without_36 : decode cX5_without 36 = .ok (.invokevirtual 198, 3) := by decide +kernel
theorem dX5_without_39 : decode cX5_without 39 = .ok (.ireturn, 1) := by decide +kernel
theorem dX5_eldersOf_0 : decode cX5_eldersOf 0 = .ok (.iconst 0, 1) := by decide +kernel
theorem dX5_eldersOf_1 : decode cX5_eldersOf 1 = .ok (.istore_n 2, 1) := by decide +kernel
theorem dX5_eldersOf_2 : decode cX5_eldersOf 2 = .ok (.iload_n 1, 1) := by decide +kernel
theorem dX5_eldersOf_3 : decode cX5_eldersOf 3 = .ok (.istore_n 3, 1) := by decide +kernel
theorem dX5_eldersOf_4 : decode cX5_eldersOf 4 = .ok (.iload_n 3, 1) := by decide +kernel
theorem dX5_eldersOf_5 : decode cX5_eldersOf 5 = .ok (.ifCond .lt 19, 3) := by decide +kernel
theorem dX5_eldersOf_8 : decode cX5_eldersOf 8 = .ok (.iload_n 2, 1) := by decide +kernel
theorem dX5_eldersOf_9 : decode cX5_eldersOf 9 = .ok (.iconst 1, 1) := by decide +kernel
theorem dX5_eldersOf_10 : decode cX5_eldersOf 10 = .ok (.iload_n 3, 1) := by decide +kernel
theorem dX5_eldersOf_11 : decode cX5_eldersOf 11 = .ok (.ishl, 1) := by decide +kernel
theorem dX5_eldersOf_12 : decode cX5_eldersOf 12 = .ok (.ior, 1) := by decide +kernel
theorem dX5_eldersOf_13 : decode cX5_eldersOf 13 = .ok (.istore_n 2, 1) := by decide +kernel
theorem dX5_eldersOf_14 : decode cX5_eldersOf 14 = .ok (.aload_n 0, 1) := by decide +kernel
theorem dX5_eldersOf_15 : decode cX5_eldersOf 15 = .ok (.getfield 7, 3) := by decide +kernel
theorem dX5_eldersOf_18 : decode cX5_eldersOf 18 = .ok (.iload_n 3, 1) := by decide +kernel
theorem dX5_eldersOf_19 : decode cX5_eldersOf 19 = .ok (.iaload, 1) := by decide +kernel
theorem dX5_eldersOf_20 : decode cX5_eldersOf 20 = .ok (.istore_n 3, 1) := by decide +kernel
theorem dX5_eldersOf_21 : decode cX5_eldersOf 21 = .ok (.goto (-17), 3) := by decide +kernel
theorem dX5_eldersOf_24 : decode cX5_eldersOf 24 = .ok (.iload_n 2, 1) := by decide +kernel
theorem dX5_eldersOf_25 : decode cX5_eldersOf 25 = .ok (.ireturn, 1) := by decide +kernel
set_option maxRecDepth 20000 in
theorem ggX5_near_X5_isVersion : GoodIn wsX5_near wsX5_isVersion := goodIn_r _ [6, 7, 8, 9, 5, 10, 19, 20, 21, 22, 23, 24, 25, 26, 27, 28, 29, 30, 31, 32, 33, 34, 35, 36, 37, 38, 39, 40, 41, 42, 43, 44, 45, 46, 47, 48, 49, 50, 51, 52, 53, 54, 55, 56] rfl (by decide +kernel)
set_option maxRecDepth 20000 in
theorem gX5_near_X5_isVersion : GoodIn wsX5_near (wsV RX5 213 RX5 yX5_isVersion wsX5_isVersion) := goodIn_app (goodIn_r _ [2, 3, 4, 5] rfl (by decide +kernel)) ggX5_near_X5_isVersion
set_option maxRecDepth 20000 in
theorem ggX5_near_X5_eldersOf : GoodIn wsX5_near wsX5_eldersOf := goodIn_r _ [14, 15, 19, 20, 21, 22, 23, 24, 25, 26, 27, 28, 29, 30, 31, 32, 33, 34, 35, 36, 37, 38, 39, 40, 41, 42, 43, 44, 45, 46, 47, 48, 49, 50, 51, 52, 53, 54, 55, 56] rfl (by decide +kernel)
set_option maxRecDepth 20000 in
theorem gX5_near_X5_eldersOf : GoodIn wsX5_near (wsV RX5 273 RX5 yX5_eldersOf wsX5_eldersOf) := goodIn_app (goodIn_r _ [11, 12, 13, 5] rfl (by decide +kernel)) ggX5_near_X5_eldersOf
set_option maxRecDepth 20000 in
theorem ggX5_near_X5_has : GoodIn wsX5_near wsX5_has := goodIn_r _ [18] rfl (by decide +kernel)
set_option maxRecDepth 20000 in
theorem gX5_near_X5_has : GoodIn wsX5_near (va_wsS RX5 135 yX5_has wsX5_has) := goodIn_app (goodIn_r _ [16, 17, 5] rfl (by decide +kernel)) ggX5_near_X5_has
theorem dX5_near_0 : decode cX5_near 0 = .ok (.aload_n 0, 1) := by decide +kernel
theorem dX5_near_1 : decode cX5_near 1 = .ok (.iload_n 1, 1) := by decide +kernel
theorem dX5_near_2 : decode cX5_near 2 = .ok (.invokevirtual 213, 3) := by decide +kernel
theorem dX5_near_5 : decode cX5_near 5 = .ok (.ifCond .eq 16, 3) := by decide +kernel
theorem dX5_near_8 : decode cX5_near 8 = .ok (.aload_n 0, 1) := by decide +kernel
theorem dX5_near_9 : decode cX5_near 9 = .ok (.iload_n 2, 1) := by decide +kernel
theorem dX5_near_10 : decode cX5_near 10 = .ok (.invokevirtual 213, 3) := by decide +kernel
theorem dX5_near_13 : decode cX5_near 13 = .ok (.ifCond .eq 8, 3) := by decide +kernel
theorem dX5_near_16 : decode cX5_near 16 = .ok (.iload_n 1, 1) := by decide +kernel
theorem dX5_near_17 : decode cX5_near 17 = .ok (.iload_n 2, 1) := by decide +kernel
theorem dX5_near_18 : decode cX5_near 18 = .ok (.if_icmp .ne 6, 3) := by decide +kernel
theorem dX5_near_21 : decode cX5_near 21 = .ok (.ldc 216, 2) := by decide +kernel
theorem dX5_near_23 : decode cX5_near 23 = .ok (.ireturn, 1) := by decide +kernel
theorem dX5_near_24 : decode cX5_near 24 = .ok (.aload_n 0, 1) := by decide +kernel
theorem dX5_near_25 : decode cX5_near 25 = .ok (.iload_n 1, 1) := by decide +kernel
theorem dX5_near_26 : decode cX5_near 26 = .ok (.invokevirtual 273, 3) := by decide +kernel
theorem dX5_near_29 : decode cX5_near 29 = .ok (.aload_n 0, 1) := by decide +kernel
theorem dX5_near_30 : decode cX5_near 30 = .ok (.iload_n 2, 1) := by decide +kernel
theorem dX5_near_31 : decode cX5_near 31 = .ok (.invokevirtual 273, 3) := by decide +kernel
theorem dX5_near_34 : decode cX5_near 34 = .ok (.iand, 1) := by decide +kernel
theorem dX5_near_35 : decode cX5_near 35 = .ok (.istore_n 3, 1) := by decide +kernel
theorem dX5_near_36 : decode cX5_near 36 = .ok (.bipush 23, 2) := by decide +kernel
theorem dX5_near_38 : decode cX5_near 38 = .ok (.istore 4, 2) := by decide +kernel
theorem dX5_near_40 : decode cX5_near 40 = .ok (.iload 4, 2) := by decide +kernel
theorem dX5_near_42 : decode cX5_near 42 = .ok (.ifCond .lt 18, 3) := by decide +kernel
theorem dX5_near_45 : decode cX5_near 45 = .ok (.iload_n 3, 1) := by decide +kernel
theorem dX5_near_46 : decode cX5_near 46 = .ok (.iload 4, 2) := by decide +kernel
theorem dX5_near_48 : decode cX5_near 48 = .ok (.invokestatic 135, 3) := by decide +kernel
theorem dX5_near_51 : decode cX5_near 51 = .ok (.ifCond .ne 9, 3) := by decide +kernel
theorem dX5_near_54 : decode cX5_near 54 = .ok (.iinc 4 (-1), 3) := by decide +kernel
theorem dX5_near_57 : decode cX5_near 57 = .ok (.goto (-17), 3) := by decide +kernel
theorem dX5_near_60 : decode cX5_near 60 = .ok (.iload 4, 2) := by decide +kernel
theorem dX5_near_62 : decode cX5_near 62 = .ok (.ireturn, 1) := by decide +kernel
set_option maxRecDepth 20000 in
theorem ggX5_block_X5_in : GoodIn wsX5_block wsX5_in := goodIn_r _ [6] rfl (by decide +kernel)
set_option maxRecDepth 20000 in
theorem gX5_block_X5_in : GoodIn wsX5_block (va_wsS RX5 94 yX5_in wsX5_in) := goodIn_app (goodIn_r _ [3, 4, 5] rfl (by decide +kernel)) ggX5_block_X5_in
set_option maxRecDepth 20000 in
theorem ggX5_block_X5_blocks : GoodIn wsX5_block wsX5_blocks := goodIn_r _ [10, 2, 11, 12, 13, 5, 14, 15, 16, 17, 18, 19, 20, 21, 22, 23, 24, 25, 26, 27, 28, 29, 30, 31, 32, 33, 34, 35, 36, 37, 38, 39, 40, 41, 42, 43, 44, 45, 46, 47, 48, 49, 50, 51, 52, 53, 54] rfl (by decide +kernel)
set_option maxRecDepth 20000 in
theorem gX5_block_X5_blocks : GoodIn wsX5_block (wsV RX5 201 RX5 yX5_blocks wsX5_blocks) := goodIn_app (goodIn_r _ [7, 8, 9, 5] rfl (by decide +kernel)) ggX5_block_X5_blocks
set_option maxRecDepth 20000 in
theorem ggX5_block_X5_isNewBlock : GoodIn wsX5_block wsX5_isNewBlock := goodIn_r _ [14, 15, 16, 17, 18, 19, 20, 21, 22, 23, 24, 25, 26, 27, 28, 29, 30, 31, 32, 33, 34, 35, 36, 37, 38, 39, 40, 41, 42, 43, 44, 45, 46, 47, 48, 49, 50, 51, 52, 53, 54] rfl (by decide +kernel)
set_option maxRecDepth 20000 in
theorem gX5_block_X5_isNewBlock : GoodIn wsX5_block (wsV RX5 188 RX5 yX5_isNewBlock wsX5_isNewBlock) := goodIn_app (goodIn_r _ [11, 12, 13, 5] rfl (by decide +kernel)) ggX5_block_X5_isNewBlock
theorem dX5_block_0 : decode cX5_block 0 = .ok (.iload_n 2, 1) := by decide +kernel
theorem dX5_block_1 : decode cX5_block 1 = .ok (.i2l, 1) := by decide +kernel
theorem dX5_block_2 : decode cX5_block 2 = .ok (.lconst 0, 1) := by decide +kernel
theorem dX5_block_3 : decode cX5_block 3 = .ok (.lconst 1, 1) := by decide +kernel
theorem dX5_block_4 : decode cX5_block 4 = .ok (.invokestatic 94, 3) := by decide +kernel
theorem dX5_block_7 : decode cX5_block 7 = .ok (.ifCond .ne 6, 3) := by decide +kernel
theorem dX5_block_10 : decode cX5_block 10 = .ok (.ldc 100, 2) := by decide +kernel
theorem dX5_block_12 : decode cX5_block 12 = .ok (.ireturn, 1) := by decide +kernel
theorem dX5_block_13 : decode cX5_block 13 = .ok (.iload_n 1, 1) := by decide +kernel
theorem dX5_block_14 : decode cX5_block 14 = .ok (.i2l, 1) := by decide +kernel
theorem dX5_block_15 : decode cX5_block 15 = .ok (.lconst 0, 1) := by decide +kernel
theorem dX5_block_16 : decode cX5_block 16 = .ok (.aload_n 0, 1) := by decide +kernel
theorem dX5_block_17 : decode cX5_block 17 = .ok (.invokevirtual 201, 3) := by decide +kernel
theorem dX5_block_20 : decode cX5_block 20 = .ok (.iconst 1, 1) := by decide +kernel
theorem dX5_block_21 : decode cX5_block 21 = .ok (.isub, 1) := by decide +kernel
theorem dX5_block_22 : decode cX5_block 22 = .ok (.i2l, 1) := by decide +kernel
theorem dX5_block_23 : decode cX5_block 23 = .ok (.invokestatic 94, 3) := by decide +kernel
theorem dX5_block_26 : decode cX5_block 26 = .ok (.ifCond .ne 5, 3) := by decide +kernel
theorem dX5_block_29 : decode cX5_block 29 = .ok (.iconst (-1), 1) := by decide +kernel
theorem dX5_block_30 : decode cX5_block 30 = .ok (.ireturn, 1) := by decide +kernel
theorem dX5_block_31 : decode cX5_block 31 = .ok (.iload_n 1, 1) := by decide +kernel
theorem dX5_block_32 : decode cX5_block 32 = .ok (.istore_n 3, 1) := by decide +kernel
theorem dX5_block_33 : decode cX5_block 33 = .ok (.iconst 0, 1) := by decide +kernel
theorem dX5_block_34 : decode cX5_block 34 = .ok (.istore 4, 2) := by decide +kernel
theorem dX5_block_36 : decode cX5_block 36 = .ok (.aload_n 0, 1) := by decide +kernel
theorem dX5_block_37 : decode cX5_block 37 = .ok (.iload 4, 2) := by decide +kernel
theorem dX5_block_39 : decode cX5_block 39 = .ok (.invokevirtual 188, 3) := by decide +kernel
theorem dX5_block_42 : decode cX5_block 42 = .ok (.ifCond .eq 7, 3) := by decide +kernel
theorem dX5_block_45 : decode cX5_block 45 = .ok (.iload_n 3, 1) := by decide +kernel
theorem dX5_block_46 : decode cX5_block 46 = .ok (.ifCond .le 26, 3) := by decide +kernel
theorem dX5_block_49 : decode cX5_block 49 = .ok (.iload_n 3, 1) := by decide +kernel
theorem dX5_block_50 : decode cX5_block 50 = .ok (.aload_n 0, 1) := by decide +kernel
theorem dX5_block_51 : decode cX5_block 51 = .ok (.iload 4, 2) := by decide +kernel
theorem dX5_block_53 : decode cX5_block 53 = .ok (.invokevirtual 188, 3) := by decide +kernel
theorem dX5_block_56 : decode cX5_block 56 = .ok (.ifCond .eq 7, 3) := by decide +kernel
theorem dX5_block_59 : decode cX5_block 59 = .ok (.iconst 1, 1) := by decide +kernel
theorem dX5_block_60 : decode cX5_block 60 = .ok (.goto 4, 3) := by decide +kernel
theorem dX5_block_63 : decode cX5_block 63 = .ok (.iconst 0, 1) := by decide +kernel
theorem dX5_block_64 : decode cX5_block 64 = .ok (.isub, 1) := by decide +kernel
theorem dX5_block_65 : decode cX5_block 65 = .ok (.istore_n 3, 1) := by decide +kernel
theorem dX5_block_66 : decode cX5_block 66 = .ok (.iinc 4 1, 3) := by decide +kernel
theorem dX5_block_69 : decode cX5_block 69 = .ok (.goto (-33), 3) := by decide +kernel
theorem dX5_block_72 : decode cX5_block 72 = .ok (.iconst 1, 1) := by decide +kernel
theorem dX5_block_73 : decode cX5_block 73 = .ok (.istore 5, 2) := by decide +kernel
theorem dX5_block_75 : decode cX5_block 75 = .ok (.iload 4, 2) := by decide +kernel
theorem dX5_block_77 : decode cX5_block 77 = .ok (.iload 5, 2) := by decide +kernel
theorem dX5_block_79 : decode cX5_block 79 = .ok (.iadd, 1) := by decide +kernel
theorem dX5_block_80 : decode cX5_block 80 = .ok (.aload_n 0, 1) := by decide +kernel
theorem dX5_block_81 : decode cX5_block 81 = .ok (.getfield 175, 3) := by decide +kernel
theorem dX5_block_84 : decode cX5_block 84 = .ok (.if_icmp .ge 21, 3) := by decide +kernel
theorem dX5_block_87 : decode cX5_block 87 = .ok (.aload_n 0, 1) := by decide +kernel
theorem dX5_block_88 : decode cX5_block 88 = .ok (.iload 4, 2) := by decide +kernel
theorem dX5_block_90 : decode cX5_block 90 = .ok (.iload 5, 2) := by decide +kernel
theorem dX5_block_92 : decode cX5_block 92 = .ok (.iadd, 1) := by decide +kernel
theorem dX5_block_93 : decode cX5_block 93 = .ok (.invokevirtual 188, 3) := by decide +kernel
theorem dX5_block_96 : decode cX5_block 96 = .ok (.ifCond .ne 9, 3) := by decide +kernel
theorem dX5_block_99 : decode cX5_block 99 = .ok (.iinc 5 1, 3) := by decide +kernel
theorem dX5_block_102 : decode cX5_block 102 = .ok (.goto (-27), 3) := by decide +kernel
theorem dX5_block_105 : decode cX5_block 105 = .ok (.iload_n 2, 1) := by decide +kernel
theorem dX5_block_106 : decode cX5_block 106 = .ok (.ifCond .ne 8, 3) := by decide +kernel
theorem dX5_block_109 : decode cX5_block 109 = .ok (.iload 4, 2) := by decide +kernel
theorem dX5_block_111 : decode cX5_block 111 = .ok (.goto 5, 3) := by decide +kernel
theorem dX5_block_114 : decode cX5_block 114 = .ok (.iload 5, 2) := by decide +kernel
theorem dX5_block_116 : decode cX5_block 116 = .ok (.ireturn, 1) := by decide +kernel
set_option maxRecDepth 20000 in
theorem ggX5_isSheet_X5_in : GoodIn wsX5_isSheet wsX5_in := goodIn_r _ [5] rfl (by decide +kernel)
set_option maxRecDepth 20000 in
theorem gX5_isSheet_X5_in : GoodIn wsX5_isSheet (va_wsS RX5 94 yX5_in wsX5_in) := goodIn_app (goodIn_r _ [2, 3, 4] rfl (by decide +kernel)) ggX5_isSheet_X5_in
theorem dX5_isSheet_0 : decode cX5_isSheet 0 = .ok (.iload_n 0, 1) := by decide +kernel
theorem dX5_isSheet_1 : decode cX5_isSheet 1 = .ok (.i2l, 1) := by decide +kernel
theorem dX5_isSheet_2 : decode cX5_isSheet 2 = .ok (.lconst 0, 1) := by decide +kernel
theorem dX5_isSheet_3 : decode cX5_isSheet 3 = .ok (.ldc2_w 276, 3) := by decide +kernel
theorem dX5_isSheet_6 : decode cX5_isSheet 6 = .ok (.invokestatic 94, 3) := by decide +kernel
theorem dX5_isSheet_9 : decode cX5_isSheet 9 = .ok (.ireturn, 1) := by decide +kernel
set_option maxRecDepth 20000 in
theorem ggX5_sheet_X5_isSheet : GoodIn wsX5_sheet wsX5_isSheet := goodIn_r _ [10, 11, 12, 13, 9, 14] rfl (by decide +kernel)
set_option maxRecDepth 20000 in
theorem gX5_sheet_X5_isSheet : GoodIn wsX5_sheet (va_wsS RX5 278 yX5_isSheet wsX5_isSheet) := goodIn_app (goodIn_r _ [7, 8, 9] rfl (by decide +kernel)) ggX5_sheet_X5_isSheet
set_option maxRecDepth 20000 in
theorem ggX5_sheet_X5_in : GoodIn wsX5_sheet wsX5_in := goodIn_r _ [14] rfl (by decide +kernel)
set_option maxRecDepth 20000 in
theorem gX5_sheet_X5_in : GoodIn wsX5_sheet (va_wsS RX5 94 yX5_in wsX5_in) := goodIn_app (goodIn_r _ [12, 13, 9] rfl (by decide +kernel)) ggX5_sheet_X5_in
theorem dX5_sheet_0 : decode cX5_sheet 0 = .ok (.iload_n 1, 1) := by decide +kernel
theorem dX5_sheet_1 : decode cX5_sheet 1 = .ok (.invokestatic 278, 3) := by decide +kernel
theorem dX5_sheet_4 : decode cX5_sheet 4 = .ok (.ifCond .ne 6, 3) := by decide +kernel
theorem dX5_sheet_7 : decode cX5_sheet 7 = .ok (.ldc 216, 2) := by decide +kernel
theorem dX5_sheet_9 : decode cX5_sheet 9 = .ok (.ireturn, 1) := by decide +kernel
theorem dX5_sheet_10 : decode cX5_sheet 10 = .ok (.iload_n 2, 1) := by decide +kernel
theorem dX5_sheet_11 : decode cX5_sheet 11 = .ok (.i2l, 1) := by decide +kernel
theorem dX5_sheet_12 : decode cX5_sheet 12 = .ok (.lconst 0, 1) := by decide +kernel
theorem dX5_sheet_13 : decode cX5_sheet 13 = .ok (.ldc2_w 281, 3) := by decide +kernel
theorem dX5_sheet_16 : decode cX5_sheet 16 = .ok (.invokestatic 94, 3) := by decide +kernel
theorem dX5_sheet_19 : decode cX5_sheet 19 = .ok (.ifCond .ne 6, 3) := by decide +kernel
theorem dX5_sheet_22 : decode cX5_sheet 22 = .ok (.ldc 100, 2) := by decide +kernel
theorem dX5_sheet_24 : decode cX5_sheet 24 = .ok (.ireturn, 1) := by decide +kernel
theorem dX5_sheet_25 : decode cX5_sheet 25 = .ok (.aload_n 0, 1) := by decide +kernel
theorem dX5_sheet_26 : decode cX5_sheet 26 = .ok (.getfield 72, 3) := by decide +kernel
theorem dX5_sheet_29 : decode cX5_sheet 29 = .ok (.iload_n 1, 1) := by decide +kernel
theorem dX5_sheet_30 : decode cX5_sheet 30 = .ok (.iconst 1, 1) := by decide +kernel
theorem dX5_sheet_31 : decode cX5_sheet 31 = .ok (.bastore, 1) := by decide +kernel
theorem dX5_sheet_32 : decode cX5_sheet 32 = .ok (.aload_n 0, 1) := by decide +kernel
theorem dX5_sheet_33 : decode cX5_sheet 33 = .ok (.getfield 75, 3) := by decide +kernel
theorem dX5_sheet_36 : decode cX5_sheet 36 = .ok (.iload_n 1, 1) := by decide +kernel
theorem dX5_sheet_37 : decode cX5_sheet 37 = .ok (.iload_n 2, 1) := by decide +kernel
theorem dX5_sheet_38 : decode cX5_sheet 38 = .ok (.iastore, 1) := by decide +kernel
theorem dX5_sheet_39 : decode cX5_sheet 39 = .ok (.iconst 0, 1) := by decide +kernel
theorem dX5_sheet_40 : decode cX5_sheet 40 = .ok (.istore_n 3, 1) := by decide +kernel
theorem dX5_sheet_41 : decode cX5_sheet 41 = .ok (.iload_n 3, 1) := by decide +kernel
theorem dX5_sheet_42 : decode cX5_sheet 42 = .ok (.iload_n 2, 1) := by decide +kernel
theorem dX5_sheet_43 : decode cX5_sheet 43 = .ok (.if_icmp .ge 21, 3) := by decide +kernel
theorem dX5_sheet_46 : decode cX5_sheet 46 = .ok (.aload_n 0, 1) := by decide +kernel
theorem dX5_sheet_47 : decode cX5_sheet 47 = .ok (.getfield 78, 3) := by decide +kernel
theorem dX5_sheet_50 : decode cX5_sheet 50 = .ok (.bipush 40, 2) := by decide +kernel
theorem dX5_sheet_52 : decode cX5_sheet 52 = .ok (.iload_n 1, 1) := by decide +kernel
theorem dX5_sheet_53 : decode cX5_sheet 53 = .ok (.imul, 1) := by decide +kernel
theorem dX5_sheet_54 : decode cX5_sheet 54 = .ok (.iload_n 3, 1) := by decide +kernel
theorem dX5_sheet_55 : decode cX5_sheet 55 = .ok (.iadd, 1) := by decide +kernel
theorem dX5_sheet_56 : decode cX5_sheet 56 = .ok (.lconst 0, 1) := by decide +kernel
theorem dX5_sheet_57 : decode cX5_sheet 57 = .ok (.lastore, 1) := by decide +kernel
theorem dX5_sheet_58 : decode cX5_sheet 58 = .ok (.iinc 3 1, 3) := by decide +kernel
theorem dX5_sheet_61 : decode cX5_sheet 61 = .ok (.goto (-20), 3) := by decide +kernel
theorem dX5_sheet_64 : decode cX5_sheet 64 = .ok (.iload_n 2, 1) := by decide +kernel
theorem dX5_sheet_65 : decode cX5_sheet 65 = .ok (.ireturn, 1) := by decide +kernel
set_option maxRecDepth 20000 in
theorem ggX5_refused_X5_isSheet : GoodIn wsX5_refused wsX5_isSheet := goodIn_r _ [9, 10, 11, 12, 8, 13] rfl (by decide +kernel)
set_option maxRecDepth 20000 in
theorem gX5_refused_X5_isSheet : GoodIn wsX5_refused (va_wsS RX5 278 yX5_isSheet wsX5_isSheet) := goodIn_app (goodIn_r _ [6, 7, 8] rfl (by decide +kernel)) ggX5_refused_X5_isSheet
theorem dX5_refused_0 : decode cX5_refused 0 = .ok (.iload_n 1, 1) := by decide +kernel
theorem dX5_refused_1 : decode cX5_refused 1 = .ok (.invokestatic 278, 3) := by decide +kernel
theorem dX5_refused_4 : decode cX5_refused 4 = .ok (.ifCond .ne 6, 3) := by decide +kernel
theorem dX5_refused_7 : decode cX5_refused 7 = .ok (.ldc 216, 2) := by decide +kernel
theorem dX5_refused_9 : decode cX5_refused 9 = .ok (.ireturn, 1) := by decide +kernel
theorem dX5_refused_10 : decode cX5_refused 10 = .ok (.aload_n 0, 1) := by decide +kernel
theorem dX5_refused_11 : decode cX5_refused 11 = .ok (.getfield 72, 3) := by decide +kernel
theorem dX5_refused_14 : decode cX5_refused 14 = .ok (.iload_n 1, 1) := by decide +kernel
theorem dX5_refused_15 : decode cX5_refused 15 = .ok (.baload, 1) := by decide +kernel
theorem dX5_refused_16 : decode cX5_refused 16 = .ok (.ifCond .ne 7, 3) := by decide +kernel
theorem dX5_refused_19 : decode cX5_refused 19 = .ok (.ldc_w 283, 3) := by decide +kernel
theorem dX5_refused_22 : decode cX5_refused 22 = .ok (.ireturn, 1) := by decide +kernel
theorem dX5_refused_23 : decode cX5_refused 23 = .ok (.iload_n 2, 1) := by decide +kernel
theorem dX5_refused_24 : decode cX5_refused 24 = .ok (.ifCond .lt 15, 3) := by decide +kernel
theorem dX5_refused_27 : decode cX5_refused 27 = .ok (.iload_n 2, 1) := by decide +kernel
theorem dX5_refused_28 : decode cX5_refused 28 = .ok (.aload_n 0, 1) := by decide +kernel
theorem dX5_refused_29 : decode cX5_refused 29 = .ok (.getfield 75, 3) := by decide +kernel
theorem dX5_refused_32 : decode cX5_refused 32 = .ok (.iload_n 1, 1) := by decide +kernel
theorem dX5_refused_33 : decode cX5_refused 33 = .ok (.iaload, 1) := by decide +kernel
theorem dX5_refused_34 : decode cX5_refused 34 = .ok (.iload_n 3, 1) := by decide +kernel
theorem dX5_refused_35 : decode cX5_refused 35 = .ok (.isub, 1) := by decide +kernel
theorem dX5_refused_36 : decode cX5_refused 36 = .ok (.if_icmp .le 9, 3) := by decide +kernel
theorem dX5_refused_39 : decode cX5_refused 39 = .ok (.ldc_w 284, 3) := by decide +kernel
theorem dX5_refused_42 : decode cX5_refused 42 = .ok (.goto 4, 3) := by decide +kernel
theorem dX5_refused_45 : decode cX5_refused 45 = .ok (.iconst 0, 1) := by decide +kernel
theorem dX5_refused_46 : decode cX5_refused 46 = .ok (.ireturn, 1) := by decide +kernel
set_option maxRecDepth 20000 in
theorem ggX5_set_X5_refused : GoodIn wsX5_set wsX5_refused := goodIn_r _ [6, 7, 8, 9, 10, 11, 12, 13, 5, 14, 15, 16, 17, 18, 19, 20, 21, 22, 23, 24, 25, 26, 27, 28, 29, 30, 31, 32, 33, 34, 35, 36, 37, 38, 39, 40, 41, 42, 43, 44, 45, 46, 47, 48, 49, 50, 51, 52, 53, 54, 55, 56] rfl (by decide +kernel)
set_option maxRecDepth 20000 in
theorem gX5_set_X5_refused : GoodIn wsX5_set (wsV RX5 285 RX5 yX5_refused wsX5_refused) := goodIn_app (goodIn_r _ [2, 3, 4, 5] rfl (by decide +kernel)) ggX5_set_X5_refused
theorem dX5_set_0 : decode cX5_set 0 = .ok (.aload_n 0, 1) := by decide +kernel
theorem dX5_set_1 : decode cX5_set 1 = .ok (.iload_n 1, 1) := by decide +kernel
theorem dX5_set_2 : decode cX5_set 2 = .ok (.iload_n 2, 1) := by decide +kernel
theorem dX5_set_3 : decode cX5_set 3 = .ok (.iconst 1, 1) := by decide +kernel
theorem dX5_set_4 : decode cX5_set 4 = .ok (.invokevirtual 285, 3) := by decide +kernel
theorem dX5_set_7 : decode cX5_set 7 = .ok (.istore 5, 2) := by decide +kernel
theorem dX5_set_9 : decode cX5_set 9 = .ok (.iload 5, 2) := by decide +kernel
theorem dX5_set_11 : decode cX5_set 11 = .ok (.ifCond .eq 7, 3) := by decide +kernel
theorem dX5_set_14 : decode cX5_set 14 = .ok (.iload 5, 2) := by decide +kernel
theorem dX5_set_16 : decode cX5_set 16 = .ok (.i2l, 1) := by decide +kernel
theorem dX5_set_17 : decode cX5_set 17 = .ok (.lreturn, 1) := by decide +kernel
theorem dX5_set_18 : decode cX5_set 18 = .ok (.aload_n 0, 1) := by decide +kernel
theorem dX5_set_19 : decode cX5_set 19 = .ok (.getfield 78, 3) := by decide +kernel
theorem dX5_set_22 : decode cX5_set 22 = .ok (.bipush 40, 2) := by decide +kernel
theorem dX5_set_24 : decode cX5_set 24 = .ok (.iload_n 1, 1) := by decide +kernel
theorem dX5_set_25 : decode cX5_set 25 = .ok (.imul, 1) := by decide +kernel
theorem dX5_set_26 : decode cX5_set 26 = .ok (.iload_n 2, 1) := by decide +kernel
theorem dX5_set_27 : decode cX5_set 27 = .ok (.iadd, 1) := by decide +kernel
theorem dX5_set_28 : decode cX5_set 28 = .ok (.laload, 1) := by decide +kernel
theorem dX5_set_29 : decode cX5_set 29 = .ok (.lstore 6, 2) := by decide +kernel
theorem dX5_set_31 : decode cX5_set 31 = .ok (.aload_n 0, 1) := by decide +kernel
theorem dX5_set_32 : decode cX5_set 32 = .ok (.getfield 78, 3) := by decide +kernel
theorem dX5_set_35 : decode cX5_set 35 = .ok (.bipush 40, 2) := by decide +kernel
theorem dX5_set_37 : decode cX5_set 37 = .ok (.iload_n 1, 1) := by decide +kernel
theorem dX5_set_38 : decode cX5_set 38 = .ok (.imul, 1) := by decide +kernel
theorem dX5_set_39 : decode cX5_set 39 = .ok (.iload_n 2, 1) := by decide +kernel
theorem dX5_set_40 : decode cX5_set 40 = .ok (.iadd, 1) := by decide +kernel
theorem dX5_set_41 : decode cX5_set 41 = .ok (.lload_n 3, 1) := by decide +kernel
theorem dX5_set_42 : decode cX5_set 42 = .ok (.lastore, 1) := by decide +kernel
theorem dX5_set_43 : decode cX5_set 43 = .ok (.lload 6, 2) := by decide +kernel
theorem dX5_set_45 : decode cX5_set 45 = .ok (.lreturn, 1) := by decide +kernel
set_option maxRecDepth 20000 in
theorem ggX5_get_X5_refused : GoodIn wsX5_get wsX5_refused := goodIn_r _ [6, 7, 8, 9, 10, 11, 12, 13, 5, 14, 15, 16, 17, 18, 19, 20, 21, 22, 23, 24, 25, 26, 27, 28, 29, 30, 31, 32, 33, 34, 35, 36, 37, 38, 39, 40, 41, 42, 43, 44, 45, 46, 47, 48, 49, 50, 51, 52, 53, 54, 55, 56] rfl (by decide +kernel)
set_option maxRecDepth 20000 in
theorem gX5_get_X5_refused : GoodIn wsX5_get (wsV RX5 285 RX5 yX5_refused wsX5_refused) := goodIn_app (goodIn_r _ [2, 3, 4, 5] rfl (by decide +kernel)) ggX5_get_X5_refused
theorem dX5_get_0 : decode cX5_get 0 = .ok (.aload_n 0, 1) := by decide +kernel
theorem dX5_get_1 : decode cX5_get 1 = .ok (.iload_n 1, 1) := by decide +kernel
theorem dX5_get_2 : decode cX5_get 2 = .ok (.iload_n 2, 1) := by decide +kernel
theorem dX5_get_3 : decode cX5_get 3 = .ok (.iconst 1, 1) := by decide +kernel
theorem dX5_get_4 : decode cX5_get 4 = .ok (.invokevirtual 285, 3) := by decide +kernel
theorem dX5_get_7 : decode cX5_get 7 = .ok (.istore_n 3, 1) := by decide +kernel
theorem dX5_get_8 : decode cX5_get 8 = .ok (.iload_n 3, 1) := by decide +kernel
theorem dX5_get_9 : decode cX5_get 9 = .ok (.ifCond .eq 8, 3) := by decide +kernel
theorem dX5_get_12 : decode cX5_get 12 = .ok (.iload_n 3, 1) := by decide +kernel
theorem dX5_get_13 : decode cX5_get 13 = .ok (.i2l, 1) := by decide +kernel
theorem dX5_get_14 : decode cX5_get 14 = .ok (.goto 14, 3) := by decide +kernel
theorem dX5_get_17 : decode cX5_get 17 = .ok (.aload_n 0, 1) := by decide +kernel
theorem dX5_get_18 : decode cX5_get 18 = .ok (.getfield 78, 3) := by decide +kernel
theorem dX5_get_21 : decode cX5_get 21 = .ok (.bipush 40, 2) := by decide +kernel
theorem dX5_get_23 : decode cX5_get 23 = .ok (.iload_n 1, 1) := by decide +kernel
theorem dX5_get_24 : decode cX5_get 24 = .ok (.imul, 1) := by decide +kernel
theorem dX5_get_25 : decode cX5_get 25 = .ok (.iload_n 2, 1) := by decide +kernel
theorem dX5_get_26 : decode cX5_get 26 = .ok (.iadd, 1) := by decide +kernel
theorem dX5_get_27 : decode cX5_get 27 = .ok (.laload, 1) := by decide +kernel
theorem dX5_get_28 : decode cX5_get 28 = .ok (.lreturn, 1) := by decide +kernel
set_option maxRecDepth 20000 in
theorem ggX5_drop_X5_isSheet : GoodIn wsX5_drop wsX5_isSheet := goodIn_r _ [8, 9, 10, 11, 7, 12] rfl (by decide +kernel)
set_option maxRecDepth 20000 in
theorem gX5_drop_X5_isSheet : GoodIn wsX5_drop (va_wsS RX5 278 yX5_isSheet wsX5_isSheet) := goodIn_app (goodIn_r _ [5, 6, 7] rfl (by decide +kernel)) ggX5_drop_X5_isSheet
theorem dX5_drop_0 : decode cX5_drop 0 = .ok (.iload_n 1, 1) := by decide +kernel
theorem dX5_drop_1 : decode cX5_drop 1 = .ok (.invokestatic 278, 3) := by decide +kernel
theorem dX5_drop_4 : decode cX5_drop 4 = .ok (.ifCond .ne 6, 3) := by decide +kernel
theorem dX5_drop_7 : decode cX5_drop 7 = .ok (.ldc 216, 2) := by decide +kernel
theorem dX5_drop_9 : decode cX5_drop 9 = .ok (.ireturn, 1) := by decide +kernel
theorem dX5_drop_10 : decode cX5_drop 10 = .ok (.aload_n 0, 1) := by decide +kernel
theorem dX5_drop_11 : decode cX5_drop 11 = .ok (.getfield 72, 3) := by decide +kernel
theorem dX5_drop_14 : decode cX5_drop 14 = .ok (.iload_n 1, 1) := by decide +kernel
theorem dX5_drop_15 : decode cX5_drop 15 = .ok (.baload, 1) := by decide +kernel
theorem dX5_drop_16 : decode cX5_drop 16 = .ok (.ifCond .ne 7, 3) := by decide +kernel
theorem dX5_drop_19 : decode cX5_drop 19 = .ok (.ldc_w 283, 3) := by decide +kernel
theorem dX5_drop_22 : decode cX5_drop 22 = .ok (.ireturn, 1) := by decide +kernel
theorem dX5_drop_23 : decode cX5_drop 23 = .ok (.aload_n 0, 1) := by decide +kernel
theorem dX5_drop_24 : decode cX5_drop 24 = .ok (.getfield 72, 3) := by decide +kernel
theorem dX5_drop_27 : decode cX5_drop 27 = .ok (.iload_n 1, 1) := by decide +kernel
theorem dX5_drop_28 : decode cX5_drop 28 = .ok (.iconst 0, 1) := by decide +kernel
theorem dX5_drop_29 : decode cX5_drop 29 = .ok (.bastore, 1) := by decide +kernel
theorem dX5_drop_30 : decode cX5_drop 30 = .ok (.aload_n 0, 1) := by decide +kernel
theorem dX5_drop_31 : decode cX5_drop 31 = .ok (.getfield 75, 3) := by decide +kernel
theorem dX5_drop_34 : decode cX5_drop 34 = .ok (.iload_n 1, 1) := by decide +kernel
theorem dX5_drop_35 : decode cX5_drop 35 = .ok (.iaload, 1) := by decide +kernel
theorem dX5_drop_36 : decode cX5_drop 36 = .ok (.ireturn, 1) := by decide +kernel
set_option maxRecDepth 20000 in
theorem ggX5_film_X5_isVersion : GoodIn wsX5_film wsX5_isVersion := goodIn_r _ [11, 12, 13, 14, 10, 15, 57, 58, 59, 60, 61, 62, 63, 64, 65, 66, 67, 68, 69, 70, 71, 72, 73, 74, 75, 76, 77, 78, 79, 80, 81, 82, 83, 84, 85, 86, 87, 88, 89, 90, 91, 92, 93, 94] rfl (by decide +kernel)
set_option maxRecDepth 20000 in
theorem gX5_film_X5_isVersion : GoodIn wsX5_film (wsV RX5 213 RX5 yX5_isVersion wsX5_isVersion) := goodIn_app (goodIn_r _ [7, 8, 9, 10] rfl (by decide +kernel)) ggX5_film_X5_isVersion
set_option maxRecDepth 20000 in
theorem ggX5_film_X5_isSheet : GoodIn wsX5_film wsX5_isSheet := goodIn_r _ [18, 19, 13, 14, 10, 15] rfl (by decide +kernel)
set_option maxRecDepth 20000 in
theorem gX5_film_X5_isSheet : GoodIn wsX5_film (va_wsS RX5 278 yX5_isSheet wsX5_isSheet) := goodIn_app (goodIn_r _ [16, 17, 10] rfl (by decide +kernel)) ggX5_film_X5_isSheet
set_option maxRecDepth 20000 in
theorem ggX5_film_X5_changesOf : GoodIn wsX5_film wsX5_changesOf := goodIn_r _ [23, 24, 25, 26, 27, 57, 58, 59, 60, 61, 62, 63, 64, 65, 66, 67, 68, 69, 70, 71, 72, 73, 74, 75, 76, 77, 78, 79, 80, 81, 82, 83, 84, 85, 86, 87, 88, 89, 90, 91, 92, 93, 94] rfl (by decide +kernel)
set_option maxRecDepth 20000 in
theorem gX5_film_X5_changesOf : GoodIn wsX5_film (wsV RX5 185 RX5 yX5_changesOf wsX5_changesOf) := goodIn_app (goodIn_r _ [20, 21, 22, 10] rfl (by decide +kernel)) ggX5_film_X5_changesOf
set_option maxRecDepth 20000 in
theorem ggX5_film_X5_manyOf : GoodIn wsX5_film wsX5_manyOf := goodIn_r _ [31, 32, 33, 34, 35, 10, 36, 5, 37, 38, 39, 40, 57, 58, 59, 60, 61, 62, 63, 64, 65, 66, 67, 68, 69, 70, 71, 72, 73, 74, 75, 76, 77, 78, 79, 80, 81, 82, 83, 84, 85, 86, 87, 88, 89, 90, 91, 92, 93, 94] rfl (by decide +kernel)
set_option maxRecDepth 20000 in
theorem gX5_film_X5_manyOf : GoodIn wsX5_film (wsV RX5 198 RX5 yX5_manyOf wsX5_manyOf) := goodIn_app (goodIn_r _ [28, 29, 30, 10] rfl (by decide +kernel)) ggX5_film_X5_manyOf
set_option maxRecDepth 20000 in
theorem ggX5_film_X5_refused : GoodIn wsX5_film wsX5_refused := goodIn_r _ [44, 1, 45, 46, 47, 48, 16, 17, 10, 18, 19, 13, 14, 15, 57, 58, 59, 60, 61, 62, 63, 64, 65, 66, 67, 68, 69, 70, 71, 72, 73, 74, 75, 76, 77, 78, 79, 80, 81, 82, 83, 84, 85, 86, 87, 88, 89, 90, 91, 92, 93, 94] rfl (by decide +kernel)
set_option maxRecDepth 20000 in
theorem gX5_film_X5_refused : GoodIn wsX5_film (wsV RX5 285 RX5 yX5_refused wsX5_refused) := goodIn_app (goodIn_r _ [41, 42, 43, 10] rfl (by decide +kernel)) ggX5_film_X5_refused
set_option maxRecDepth 20000 in
theorem ggX5_film_X5_lineAt : GoodIn wsX5_film wsX5_lineAt := goodIn_r _ [52, 32, 33, 34, 35, 10, 36, 5, 37, 38, 39, 40, 57, 58, 59, 60, 61, 62, 63, 64, 65, 66, 67, 68, 69, 70, 71, 72, 73, 74, 75, 76, 77, 78, 79, 80, 81, 82, 83, 84, 85, 86, 87, 88, 89, 90, 91, 92, 93, 94] rfl (by decide +kernel)
set_option maxRecDepth 20000 in
theorem gX5_film_X5_lineAt : GoodIn wsX5_film (wsV RX5 226 RX5 yX5_lineAt wsX5_lineAt) := goodIn_app (goodIn_r _ [49, 50, 51, 10] rfl (by decide +kernel)) ggX5_film_X5_lineAt
set_option maxRecDepth 20000 in
theorem ggX5_film_X5_lifeOf : GoodIn wsX5_film wsX5_lifeOf := goodIn_r _ [56, 12, 20, 21, 22, 10, 23, 24, 25, 26, 27, 33, 34, 35, 36, 5, 37, 38, 39, 40, 57, 58, 59, 60, 61, 62, 63, 64, 65, 66, 67, 68, 69, 70, 71, 72, 73, 74, 75, 76, 77, 78, 79, 80, 81, 82, 83, 84, 85, 86, 87, 88, 89, 90, 91, 92, 93, 94] rfl (by decide +kernel)
set_option maxRecDepth 20000 in
theorem gX5_film_X5_lifeOf : GoodIn wsX5_film (wsV RX5 195 RX5 yX5_lifeOf wsX5_lifeOf) := goodIn_app (goodIn_r _ [53, 54, 55, 10] rfl (by decide +kernel)) ggX5_film_X5_lifeOf
theorem dX5_film_0 : decode cX5_film 0 = .ok (.aload_n 0, 1) := by decide +kernel
theorem dX5_film_1 : decode cX5_film 1 = .ok (.iload_n 1, 1) := by decide +kernel
theorem dX5_film_2 : decode cX5_film 2 = .ok (.invokevirtual 213, 3) := by decide +kernel
theorem dX5_film_5 : decode cX5_film 5 = .ok (.ifCond .eq 10, 3) := by decide +kernel
theorem dX5_film_8 : decode cX5_film 8 = .ok (.iload_n 2, 1) := by decide +kernel
theorem dX5_film_9 : decode cX5_film 9 = .ok (.invokestatic 278, 3) := by decide +kernel
theorem dX5_film_12 : decode cX5_film 12 = .ok (.ifCond .ne 6, 3) := by decide +kernel
theorem dX5_film_15 : decode cX5_film 15 = .ok (.ldc 216, 2) := by decide +kernel
theorem dX5_film_17 : decode cX5_film 17 = .ok (.ireturn, 1) := by decide +kernel
theorem dX5_film_18 : decode cX5_film 18 = .ok (.aload_n 0, 1) := by decide +kernel
theorem dX5_film_19 : decode cX5_film 19 = .ok (.iload_n 1, 1) := by decide +kernel
theorem dX5_film_20 : decode cX5_film 20 = .ok (.invokevirtual 185, 3) := by decide +kernel
theorem dX5_film_23 : decode cX5_film 23 = .ok (.istore 4, 2) := by decide +kernel
theorem dX5_film_25 : decode cX5_film 25 = .ok (.aload_n 0, 1) := by decide +kernel
theorem dX5_film_26 : decode cX5_film 26 = .ok (.iload 4, 2) := by decide +kernel
theorem dX5_film_28 : decode cX5_film 28 = .ok (.invokevirtual 198, 3) := by decide +kernel
theorem dX5_film_31 : decode cX5_film 31 = .ok (.istore 5, 2) := by decide +kernel
theorem dX5_film_33 : decode cX5_film 33 = .ok (.aload_n 0, 1) := by decide +kernel
theorem dX5_film_34 : decode cX5_film 34 = .ok (.iload_n 2, 1) := by decide +kernel
theorem dX5_film_35 : decode cX5_film 35 = .ok (.iload_n 3, 1) := by decide +kernel
theorem dX5_film_36 : decode cX5_film 36 = .ok (.iload 5, 2) := by decide +kernel
theorem dX5_film_38 : decode cX5_film 38 = .ok (.invokevirtual 285, 3) := by decide +kernel
theorem dX5_film_41 : decode cX5_film 41 = .ok (.istore 6, 2) := by decide +kernel
theorem dX5_film_43 : decode cX5_film 43 = .ok (.iload 6, 2) := by decide +kernel
theorem dX5_film_45 : decode cX5_film 45 = .ok (.ifCond .eq 6, 3) := by decide +kernel
theorem dX5_film_48 : decode cX5_film 48 = .ok (.iload 6, 2) := by decide +kernel
theorem dX5_film_50 : decode cX5_film 50 = .ok (.ireturn, 1) := by decide +kernel
theorem dX5_film_51 : decode cX5_film 51 = .ok (.iconst 0, 1) := by decide +kernel
theorem dX5_film_52 : decode cX5_film 52 = .ok (.istore 7, 2) := by decide +kernel
theorem dX5_film_54 : decode cX5_film 54 = .ok (.iload 7, 2) := by decide +kernel
theorem dX5_film_56 : decode cX5_film 56 = .ok (.iload 5, 2) := by decide +kernel
theorem dX5_film_58 : decode cX5_film 58 = .ok (.if_icmp .ge 66, 3) := by decide +kernel
theorem dX5_film_61 : decode cX5_film 61 = .ok (.aload_n 0, 1) := by decide +kernel
theorem dX5_film_62 : decode cX5_film 62 = .ok (.iload 4, 2) := by decide +kernel
theorem dX5_film_64 : decode cX5_film 64 = .ok (.iload 7, 2) := by decide +kernel
theorem dX5_film_66 : decode cX5_film 66 = .ok (.invokevirtual 226, 3) := by decide +kernel
theorem dX5_film_69 : decode cX5_film 69 = .ok (.istore 8, 2) := by decide +kernel
theorem dX5_film_71 : decode cX5_film 71 = .ok (.aload_n 0, 1) := by decide +kernel
theorem dX5_film_72 : decode cX5_film 72 = .ok (.getfield 78, 3) := by decide +kernel
theorem dX5_film_75 : decode cX5_film 75 = .ok (.bipush 40, 2) := by decide +kernel
theorem dX5_film_77 : decode cX5_film 77 = .ok (.iload_n 2, 1) := by decide +kernel
theorem dX5_film_78 : decode cX5_film 78 = .ok (.imul, 1) := by decide +kernel
theorem dX5_film_79 : decode cX5_film 79 = .ok (.iload_n 3, 1) := by decide +kernel
theorem dX5_film_80 : decode cX5_film 80 = .ok (.iadd, 1) := by decide +kernel
theorem dX5_film_81 : decode cX5_film 81 = .ok (.iload 7, 2) := by decide +kernel
theorem dX5_film_83 : decode cX5_film 83 = .ok (.iadd, 1) := by decide +kernel
theorem dX5_film_84 : decode cX5_film 84 = .ok (.aload_n 0, 1) := by decide +kernel
theorem dX5_film_85 : decode cX5_film 85 = .ok (.getfield 19, 3) := by decide +kernel
theorem dX5_film_88 : decode cX5_film 88 = .ok (.iload 8, 2) := by decide +kernel
theorem dX5_film_90 : decode cX5_film 90 = .ok (.iaload, 1) := by decide +kernel
theorem dX5_film_91 : decode cX5_film 91 = .ok (.i2l, 1) := by decide +kernel
theorem dX5_film_92 : decode cX5_film 92 = .ok (.ldc2_w 289, 3) := by decide +kernel
theorem dX5_film_95 : decode cX5_film 95 = .ok (.aload_n 0, 1) := by decide +kernel
theorem dX5_film_96 : decode cX5_film 96 = .ok (.getfield 22, 3) := by decide +kernel
theorem dX5_film_99 : decode cX5_film 99 = .ok (.iload 8, 2) := by decide +kernel
theorem dX5_film_101 : decode cX5_film 101 = .ok (.iaload, 1) := by decide +kernel
theorem dX5_film_102 : decode cX5_film 102 = .ok (.i2l, 1) := by decide +kernel
theorem dX5_film_103 : decode cX5_film 103 = .ok (.lmul, 1) := by decide +kernel
theorem dX5_film_104 : decode cX5_film 104 = .ok (.ladd, 1) := by decide +kernel
theorem dX5_film_105 : decode cX5_film 105 = .ok (.ldc2_w 291, 3) := by decide +kernel
theorem dX5_film_108 : decode cX5_film 108 = .ok (.aload_n 0, 1) := by decide +kernel
theorem dX5_film_109 : decode cX5_film 109 = .ok (.iload 8, 2) := by decide +kernel
theorem dX5_film_111 : decode cX5_film 111 = .ok (.invokevirtual 195, 3) := by decide +kernel
theorem dX5_film_114 : decode cX5_film 114 = .ok (.i2l, 1) := by decide +kernel
theorem dX5_film_115 : decode cX5_film 115 = .ok (.lmul, 1) := by decide +kernel
theorem dX5_film_116 : decode cX5_film 116 = .ok (.ladd, 1) := by decide +kernel
theorem dX5_film_117 : decode cX5_film 117 = .ok (.lastore, 1) := by decide +kernel
theorem dX5_film_118 : decode cX5_film 118 = .ok (.iinc 7 1, 3) := by decide +kernel
theorem dX5_film_121 : decode cX5_film 121 = .ok (.goto (-67), 3) := by decide +kernel
theorem dX5_film_124 : decode cX5_film 124 = .ok (.iload 5, 2) := by decide +kernel
theorem dX5_film_126 : decode cX5_film 126 = .ok (.ireturn, 1) := by decide +kernel
set_option maxRecDepth 20000 in
theorem ggX5_isFilm_X5_isVersion : GoodIn wsX5_isFilm wsX5_isVersion := goodIn_r _ [10, 11, 12, 13, 9, 14, 53, 54, 55, 56, 57, 58, 59, 60, 61, 62, 63, 64, 65, 66, 67, 68, 69, 70, 71, 72, 73, 74, 75, 76, 77, 78, 79, 80, 81, 82, 83, 84, 85, 86, 87, 88, 89, 90] rfl (by decide +kernel)
set_option maxRecDepth 20000 in
theorem gX5_isFilm_X5_isVersion : GoodIn wsX5_isFilm (wsV RX5 213 RX5 yX5_isVersion wsX5_isVersion) := goodIn_app (goodIn_r _ [6, 7, 8, 9] rfl (by decide +kernel)) ggX5_isFilm_X5_isVersion
set_option maxRecDepth 20000 in
theorem ggX5_isFilm_X5_isSheet : GoodIn wsX5_isFilm wsX5_isSheet := goodIn_r _ [17, 18, 12, 13, 9, 14] rfl (by decide +kernel)
set_option maxRecDepth 20000 in
theorem gX5_isFilm_X5_isSheet : GoodIn wsX5_isFilm (va_wsS RX5 278 yX5_isSheet wsX5_isSheet) := goodIn_app (goodIn_r _ [15, 16, 9] rfl (by decide +kernel)) ggX5_isFilm_X5_isSheet
set_option maxRecDepth 20000 in
theorem ggX5_isFilm_X5_refused : GoodIn wsX5_isFilm wsX5_refused := goodIn_r _ [22, 1, 23, 24, 25, 26, 15, 16, 9, 17, 18, 12, 13, 14, 53, 54, 55, 56, 57, 58, 59, 60, 61, 62, 63, 64, 65, 66, 67, 68, 69, 70, 71, 72, 73, 74, 75, 76, 77, 78, 79, 80, 81, 82, 83, 84, 85, 86, 87, 88, 89, 90] rfl (by decide +kernel)
set_option maxRecDepth 20000 in
theorem gX5_isFilm_X5_refused : GoodIn wsX5_isFilm (wsV RX5 285 RX5 yX5_refused wsX5_refused) := goodIn_app (goodIn_r _ [19, 20, 21, 9] rfl (by decide +kernel)) ggX5_isFilm_X5_refused
set_option maxRecDepth 20000 in
theorem ggX5_isFilm_X5_changesOf : GoodIn wsX5_isFilm wsX5_changesOf := goodIn_r _ [30, 31, 32, 33, 34, 53, 54, 55, 56, 57, 58, 59, 60, 61, 62, 63, 64, 65, 66, 67, 68, 69, 70, 71, 72, 73, 74, 75, 76, 77, 78, 79, 80, 81, 82, 83, 84, 85, 86, 87, 88, 89, 90] rfl (by decide +kernel)
set_option maxRecDepth 20000 in
theorem gX5_isFilm_X5_changesOf : GoodIn wsX5_isFilm (wsV RX5 185 RX5 yX5_changesOf wsX5_changesOf) := goodIn_app (goodIn_r _ [27, 28, 29, 9] rfl (by decide +kernel)) ggX5_isFilm_X5_changesOf
set_option maxRecDepth 20000 in
theorem ggX5_isFilm_X5_manyOf : GoodIn wsX5_isFilm wsX5_manyOf := goodIn_r _ [38, 39, 40, 41, 42, 9, 43, 44, 45, 46, 47, 48, 53, 54, 55, 56, 57, 58, 59, 60, 61, 62, 63, 64, 65, 66, 67, 68, 69, 70, 71, 72, 73, 74, 75, 76, 77, 78, 79, 80, 81, 82, 83, 84, 85, 86, 87, 88, 89, 90] rfl (by decide +kernel)
set_option maxRecDepth 20000 in
theorem gX5_isFilm_X5_manyOf : GoodIn wsX5_isFilm (wsV RX5 198 RX5 yX5_manyOf wsX5_manyOf) := goodIn_app (goodIn_r _ [35, 36, 37, 9] rfl (by decide +kernel)) ggX5_isFilm_X5_manyOf
set_option maxRecDepth 20000 in
theorem ggX5_isFilm_X5_lineAt : GoodIn wsX5_isFilm wsX5_lineAt := goodIn_r _ [52, 39, 40, 41, 42, 9, 43, 44, 45, 46, 47, 48, 53, 54, 55, 56, 57, 58, 59, 60, 61, 62, 63, 64, 65, 66, 67, 68, 69, 70, 71, 72, 73, 74, 75, 76, 77, 78, 79, 80, 81, 82, 83, 84, 85, 86, 87, 88, 89, 90] rfl (by decide +kernel)
set_option maxRecDepth 20000 in
theorem gX5_isFilm_X5_lineAt : GoodIn wsX5_isFilm (wsV RX5 226 RX5 yX5_lineAt wsX5_lineAt) := goodIn_app (goodIn_r _ [49, 50, 51, 9] rfl (by decide +kernel)) ggX5_isFilm_X5_lineAt
theorem dX5_isFilm_0 : decode cX5_isFilm 0 = .ok (.aload_n 0, 1) := by decide +kernel
theorem dX5_isFilm_1 : decode cX5_isFilm 1 = .ok (.iload_n 1, 1) := by decide +kernel
theorem dX5_isFilm_2 : decode cX5_isFilm 2 = .ok (.invokevirtual 213, 3) := by decide +kernel
theorem dX5_isFilm_5 : decode cX5_isFilm 5 = .ok (.ifCond .eq 10, 3) := by decide +kernel
theorem dX5_isFilm_8 : decode cX5_isFilm 8 = .ok (.iload_n 2, 1) := by decide +kernel
theorem dX5_isFilm_9 : decode cX5_isFilm 9 = .ok (.invokestatic 278, 3) := by decide +kernel
theorem dX5_isFilm_12 : decode cX5_isFilm 12 = .ok (.ifCond .ne 6, 3) := by decide +kernel
theorem dX5_isFilm_15 : decode cX5_isFilm 15 = .ok (.ldc 216, 2) := by decide +kernel
theorem dX5_isFilm_17 : decode cX5_isFilm 17 = .ok (.ireturn, 1) := by decide +kernel
theorem dX5_isFilm_18 : decode cX5_isFilm 18 = .ok (.iload 4, 2) := by decide +kernel
theorem dX5_isFilm_20 : decode cX5_isFilm 20 = .ok (.ifCond .ge 6, 3) := by decide +kernel
theorem dX5_isFilm_23 : decode cX5_isFilm 23 = .ok (.ldc 100, 2) := by decide +kernel
theorem dX5_isFilm_25 : decode cX5_isFilm 25 = .ok (.ireturn, 1) := by decide +kernel
theorem dX5_isFilm_26 : decode cX5_isFilm 26 = .ok (.aload_n 0, 1) := by decide +kernel
theorem dX5_isFilm_27 : decode cX5_isFilm 27 = .ok (.iload_n 2, 1) := by decide +kernel
theorem dX5_isFilm_28 : decode cX5_isFilm 28 = .ok (.iload_n 3, 1) := by decide +kernel
theorem dX5_isFilm_29 : decode cX5_isFilm 29 = .ok (.iload 4, 2) := by decide +kernel
theorem dX5_isFilm_31 : decode cX5_isFilm 31 = .ok (.invokevirtual 285, 3) := by decide +kernel
theorem dX5_isFilm_34 : decode cX5_isFilm 34 = .ok (.istore 5, 2) := by decide +kernel
theorem dX5_isFilm_36 : decode cX5_isFilm 36 = .ok (.iload 5, 2) := by decide +kernel
theorem dX5_isFilm_38 : decode cX5_isFilm 38 = .ok (.ifCond .eq 6, 3) := by decide +kernel
theorem dX5_isFilm_41 : decode cX5_isFilm 41 = .ok (.iload 5, 2) := by decide +kernel
theorem dX5_isFilm_43 : decode cX5_isFilm 43 = .ok (.ireturn, 1) := by decide +kernel
theorem dX5_isFilm_44 : decode cX5_isFilm 44 = .ok (.aload_n 0, 1) := by decide +kernel
theorem dX5_isFilm_45 : decode cX5_isFilm 45 = .ok (.iload_n 1, 1) := by decide +kernel
theorem dX5_isFilm_46 : decode cX5_isFilm 46 = .ok (.invokevirtual 185, 3) := by decide +kernel
theorem dX5_isFilm_49 : decode cX5_isFilm 49 = .ok (.istore 6, 2) := by decide +kernel
theorem dX5_isFilm_51 : decode cX5_isFilm 51 = .ok (.aload_n 0, 1) := by decide +kernel
theorem dX5_isFilm_52 : decode cX5_isFilm 52 = .ok (.iload 6, 2) := by decide +kernel
theorem dX5_isFilm_54 : decode cX5_isFilm 54 = .ok (.invokevirtual 198, 3) := by decide +kernel
theorem dX5_isFilm_57 : decode cX5_isFilm 57 = .ok (.iload 4, 2) := by decide +kernel
theorem dX5_isFilm_59 : decode cX5_isFilm 59 = .ok (.if_icmp .ne 7, 3) := by decide +kernel
theorem dX5_isFilm_62 : decode cX5_isFilm 62 = .ok (.iconst 1, 1) := by decide +kernel
theorem dX5_isFilm_63 : decode cX5_isFilm 63 = .ok (.goto 4, 3) := by decide +kernel
theorem dX5_isFilm_66 : decode cX5_isFilm 66 = .ok (.iconst 0, 1) := by decide +kernel
theorem dX5_isFilm_67 : decode cX5_isFilm 67 = .ok (.istore 7, 2) := by decide +kernel
theorem dX5_isFilm_69 : decode cX5_isFilm 69 = .ok (.iconst 0, 1) := by decide +kernel
theorem dX5_isFilm_70 : decode cX5_isFilm 70 = .ok (.istore 8, 2) := by decide +kernel
theorem dX5_isFilm_72 : decode cX5_isFilm 72 = .ok (.iload 8, 2) := by decide +kernel
theorem dX5_isFilm_74 : decode cX5_isFilm 74 = .ok (.iload 4, 2) := by decide +kernel
theorem dX5_isFilm_76 : decode cX5_isFilm 76 = .ok (.if_icmp .ge 57, 3) := by decide +kernel
theorem dX5_isFilm_79 : decode cX5_isFilm 79 = .ok (.iload 7, 2) := by decide +kernel
theorem dX5_isFilm_81 : decode cX5_isFilm 81 = .ok (.ifCond .eq 52, 3) := by decide +kernel
theorem dX5_isFilm_84 : decode cX5_isFilm 84 = .ok (.aload_n 0, 1) := by decide +kernel
theorem dX5_isFilm_85 : decode cX5_isFilm 85 = .ok (.getfield 78, 3) := by decide +kernel
theorem dX5_isFilm_88 : decode cX5_isFilm 88 = .ok (.bipush 40, 2) := by decide +kernel
theorem dX5_isFilm_90 : decode cX5_isFilm 90 = .ok (.iload_n 2, 1) := by decide +kernel
theorem dX5_isFilm_91 : decode cX5_isFilm 91 = .ok (.imul, 1) := by decide +kernel
theorem dX5_isFilm_92 : decode cX5_isFilm 92 = .ok (.iload_n 3, 1) := by decide +kernel
theorem dX5_isFilm_93 : decode cX5_isFilm 93 = .ok (.iadd, 1) := by decide +kernel
theorem dX5_isFilm_94 : decode cX5_isFilm 94 = .ok (.iload 8, 2) := by decide +kernel
theorem dX5_isFilm_96 : decode cX5_isFilm 96 = .ok (.iadd, 1) := by decide +kernel
theorem dX5_isFilm_97 : decode cX5_isFilm 97 = .ok (.laload, 1) := by decide +kernel
theorem dX5_isFilm_98 : decode cX5_isFilm 98 = .ok (.ldc2_w 98, 3) := by decide +kernel
theorem dX5_isFilm_101 : decode cX5_isFilm 101 = .ok (.land, 1) := by decide +kernel
theorem dX5_isFilm_102 : decode cX5_isFilm 102 = .ok (.aload_n 0, 1) := by decide +kernel
theorem dX5_isFilm_103 : decode cX5_isFilm 103 = .ok (.getfield 19, 3) := by decide +kernel
theorem dX5_isFilm_106 : decode cX5_isFilm 106 = .ok (.aload_n 0, 1) := by decide +kernel
theorem dX5_isFilm_107 : decode cX5_isFilm 107 = .ok (.iload 6, 2) := by decide +kernel
theorem dX5_isFilm_109 : decode cX5_isFilm 109 = .ok (.iload 8, 2) := by decide +kernel
theorem dX5_isFilm_111 : decode cX5_isFilm 111 = .ok (.invokevirtual 226, 3) := by decide +kernel
theorem dX5_isFilm_114 : decode cX5_isFilm 114 = .ok (.iaload, 1) := by decide +kernel
theorem dX5_isFilm_115 : decode cX5_isFilm 115 = .ok (.i2l, 1) := by decide +kernel
theorem dX5_isFilm_116 : decode cX5_isFilm 116 = .ok (.lcmp, 1) := by decide +kernel
theorem dX5_isFilm_117 : decode cX5_isFilm 117 = .ok (.ifCond .ne 7, 3) := by decide +kernel
theorem dX5_isFilm_120 : decode cX5_isFilm 120 = .ok (.iconst 1, 1) := by decide +kernel
theorem dX5_isFilm_121 : decode cX5_isFilm 121 = .ok (.goto 4, 3) := by decide +kernel
theorem dX5_isFilm_124 : decode cX5_isFilm 124 = .ok (.iconst 0, 1) := by decide +kernel
theorem dX5_isFilm_125 : decode cX5_isFilm 125 = .ok (.istore 7, 2) := by decide +kernel
theorem dX5_isFilm_127 : decode cX5_isFilm 127 = .ok (.iinc 8 1, 3) := by decide +kernel
theorem dX5_isFilm_130 : decode cX5_isFilm 130 = .ok (.goto (-58), 3) := by decide +kernel
theorem dX5_isFilm_133 : decode cX5_isFilm 133 = .ok (.iload 7, 2) := by decide +kernel
theorem dX5_isFilm_135 : decode cX5_isFilm 135 = .ok (.ifCond .eq 7, 3) := by decide +kernel
theorem dX5_isFilm_138 : decode cX5_isFilm 138 = .ok (.iconst 1, 1) := by decide +kernel
theorem dX5_isFilm_139 : decode cX5_isFilm 139 = .ok (.goto 4, 3) := by decide +kernel
theorem dX5_isFilm_142 : decode cX5_isFilm 142 = .ok (.iconst 0, 1) := by decide +kernel
theorem dX5_isFilm_143 : decode cX5_isFilm 143 = .ok (.ireturn, 1) := by decide +kernel
set_option maxRecDepth 20000 in
theorem ggX5_keep_X5_in : GoodIn wsX5_keep wsX5_in := goodIn_r _ [18] rfl (by decide +kernel)
set_option maxRecDepth 20000 in
theorem gX5_keep_X5_in : GoodIn wsX5_keep (va_wsS RX5 94 yX5_in wsX5_in) := goodIn_app (goodIn_r _ [15, 16, 17] rfl (by decide +kernel)) ggX5_keep_X5_in
theorem dX5_keep_0 : decode cX5_keep 0 = .ok (.iload_n 1, 1) := by decide +kernel
theorem dX5_keep_1 : decode cX5_keep 1 = .ok (.i2l, 1) := by decide +kernel
theorem dX5_keep_2 : decode cX5_keep 2 = .ok (.lconst 0, 1) := by decide +kernel
theorem dX5_keep_3 : decode cX5_keep 3 = .ok (.lconst 1, 1) := by decide +kernel
theorem dX5_keep_4 : decode cX5_keep 4 = .ok (.invokestatic 94, 3) := by decide +kernel
theorem dX5_keep_7 : decode cX5_keep 7 = .ok (.ifCond .ne 6, 3) := by decide +kernel
theorem dX5_keep_10 : decode cX5_keep 10 = .ok (.ldc 216, 2) := by decide +kernel
theorem dX5_keep_12 : decode cX5_keep 12 = .ok (.ireturn, 1) := by decide +kernel
theorem dX5_keep_13 : decode cX5_keep 13 = .ok (.aload_n 0, 1) := by decide +kernel
theorem dX5_keep_14 : decode cX5_keep 14 = .ok (.getfield 178, 3) := by decide +kernel
theorem dX5_keep_17 : decode cX5_keep 17 = .ok (.ifCond .eq 6, 3) := by decide +kernel
theorem dX5_keep_20 : decode cX5_keep 20 = .ok (.ldc 225, 2) := by decide +kernel
theorem dX5_keep_22 : decode cX5_keep 22 = .ok (.ireturn, 1) := by decide +kernel
theorem dX5_keep_23 : decode cX5_keep 23 = .ok (.sipush 432, 3) := by decide +kernel
theorem dX5_keep_26 : decode cX5_keep 26 = .ok (.iload_n 1, 1) := by decide +kernel
theorem dX5_keep_27 : decode cX5_keep 27 = .ok (.imul, 1) := by decide +kernel
theorem dX5_keep_28 : decode cX5_keep 28 = .ok (.istore_n 2, 1) := by decide +kernel
theorem dX5_keep_29 : decode cX5_keep 29 = .ok (.aload_n 0, 1) := by decide +kernel
theorem dX5_keep_30 : decode cX5_keep 30 = .ok (.getfield 82, 3) := by decide +kernel
theorem dX5_keep_33 : decode cX5_keep 33 = .ok (.iload_n 1, 1) := by decide +kernel
theorem dX5_keep_34 : decode cX5_keep 34 = .ok (.aload_n 0, 1) := by decide +kernel
theorem dX5_keep_35 : decode cX5_keep 35 = .ok (.getfield 91, 3) := by decide +kernel
theorem dX5_keep_38 : decode cX5_keep 38 = .ok (.iastore, 1) := by decide +kernel
theorem dX5_keep_39 : decode cX5_keep 39 = .ok (.aload_n 0, 1) := by decide +kernel
theorem dX5_keep_40 : decode cX5_keep 40 = .ok (.getfield 85, 3) := by decide +kernel
theorem dX5_keep_43 : decode cX5_keep 43 = .ok (.iload_n 1, 1) := by decide +kernel
theorem dX5_keep_44 : decode cX5_keep 44 = .ok (.aload_n 0, 1) := by decide +kernel
theorem dX5_keep_45 : decode cX5_keep 45 = .ok (.getfield 175, 3) := by decide +kernel
theorem dX5_keep_48 : decode cX5_keep 48 = .ok (.iastore, 1) := by decide +kernel
theorem dX5_keep_49 : decode cX5_keep 49 = .ok (.iconst 0, 1) := by decide +kernel
theorem dX5_keep_50 : decode cX5_keep 50 = .ok (.istore_n 3, 1) := by decide +kernel
theorem dX5_keep_51 : decode cX5_keep 51 = .ok (.iload_n 3, 1) := by decide +kernel
theorem dX5_keep_52 : decode cX5_keep 52 = .ok (.aload_n 0, 1) := by decide +kernel
theorem dX5_keep_53 : decode cX5_keep 53 = .ok (.getfield 91, 3) := by decide +kernel
theorem dX5_keep_56 : decode cX5_keep 56 = .ok (.if_icmp .ge 57, 3) := by decide +kernel
theorem dX5_keep_59 : decode cX5_keep 59 = .ok (.aload_n 0, 1) := by decide +kernel
theorem dX5_keep_60 : decode cX5_keep 60 = .ok (.getfield 88, 3) := by decide +kernel
theorem dX5_keep_63 : decode cX5_keep 63 = .ok (.iload_n 2, 1) := by decide +kernel
theorem dX5_keep_64 : decode cX5_keep 64 = .ok (.iload_n 3, 1) := by decide +kernel
theorem dX5_keep_65 : decode cX5_keep 65 = .ok (.iadd, 1) := by decide +kernel
theorem dX5_keep_66 : decode cX5_keep 66 = .ok (.aload_n 0, 1) := by decide +kernel
theorem dX5_keep_67 : decode cX5_keep 67 = .ok (.getfield 7, 3) := by decide +kernel
theorem dX5_keep_70 : decode cX5_keep 70 = .ok (.iload_n 3, 1) := by decide +kernel
theorem dX5_keep_71 : decode cX5_keep 71 = .ok (.iaload, 1) := by decide +kernel
theorem dX5_keep_72 : decode cX5_keep 72 = .ok (.iastore, 1) := by decide +kernel
theorem dX5_keep_73 : decode cX5_keep 73 = .ok (.aload_n 0, 1) := by decide +kernel
theorem dX5_keep_74 : decode cX5_keep 74 = .ok (.getfield 88, 3) := by decide +kernel
theorem dX5_keep_77 : decode cX5_keep 77 = .ok (.iload_n 2, 1) := by decide +kernel
theorem dX5_keep_78 : decode cX5_keep 78 = .ok (.bipush 24, 2) := by decide +kernel
theorem dX5_keep_80 : decode cX5_keep 80 = .ok (.iadd, 1) := by decide +kernel
theorem dX5_keep_81 : decode cX5_keep 81 = .ok (.iload_n 3, 1) := by decide +kernel
theorem dX5_keep_82 : decode cX5_keep 82 = .ok (.iadd, 1) := by decide +kernel
theorem dX5_keep_83 : decode cX5_keep 83 = .ok (.aload_n 0, 1) := by decide +kernel
theorem dX5_keep_84 : decode cX5_keep 84 = .ok (.getfield 13, 3) := by decide +kernel
theorem dX5_keep_87 : decode cX5_keep 87 = .ok (.iload_n 3, 1) := by decide +kernel
theorem dX5_keep_88 : decode cX5_keep 88 = .ok (.iaload, 1) := by decide +kernel
theorem dX5_keep_89 : decode cX5_keep 89 = .ok (.iastore, 1) := by decide +kernel
theorem dX5_keep_90 : decode cX5_keep 90 = .ok (.aload_n 0, 1) := by decide +kernel
theorem dX5_keep_91 : decode cX5_keep 91 = .ok (.getfield 88, 3) := by decide +kernel
theorem dX5_keep_94 : decode cX5_keep 94 = .ok (.iload_n 2, 1) := by decide +kernel
theorem dX5_keep_95 : decode cX5_keep 95 = .ok (.bipush 48, 2) := by decide +kernel
theorem dX5_keep_97 : decode cX5_keep 97 = .ok (.iadd, 1) := by decide +kernel
theorem dX5_keep_98 : decode cX5_keep 98 = .ok (.iload_n 3, 1) := by decide +kernel
theorem dX5_keep_99 : decode cX5_keep 99 = .ok (.iadd, 1) := by decide +kernel
theorem dX5_keep_100 : decode cX5_keep 100 = .ok (.aload_n 0, 1) := by decide +kernel
theorem dX5_keep_101 : decode cX5_keep 101 = .ok (.getfield 16, 3) := by decide +kernel
theorem dX5_keep_104 : decode cX5_keep 104 = .ok (.iload_n 3, 1) := by decide +kernel
theorem dX5_keep_105 : decode cX5_keep 105 = .ok (.iaload, 1) := by decide +kernel
theorem dX5_keep_106 : decode cX5_keep 106 = .ok (.iastore, 1) := by decide +kernel
theorem dX5_keep_107 : decode cX5_keep 107 = .ok (.iinc 3 1, 3) := by decide +kernel
theorem dX5_keep_110 : decode cX5_keep 110 = .ok (.goto (-59), 3) := by decide +kernel
theorem dX5_keep_113 : decode cX5_keep 113 = .ok (.iconst 0, 1) := by decide +kernel
theorem dX5_keep_114 : decode cX5_keep 114 = .ok (.istore_n 3, 1) := by decide +kernel
theorem dX5_keep_115 : decode cX5_keep 115 = .ok (.iload_n 3, 1) := by decide +kernel
theorem dX5_keep_116 : decode cX5_keep 116 = .ok (.aload_n 0, 1) := by decide +kernel
theorem dX5_keep_117 : decode cX5_keep 117 = .ok (.getfield 175, 3) := by decide +kernel
theorem dX5_keep_120 : decode cX5_keep 120 = .ok (.if_icmp .ge 62, 3) := by decide +kernel
theorem dX5_keep_123 : decode cX5_keep 123 = .ok (.aload_n 0, 1) := by decide +kernel
theorem dX5_keep_124 : decode cX5_keep 124 = .ok (.getfield 88, 3) := by decide +kernel
theorem dX5_keep_127 : decode cX5_keep 127 = .ok (.iload_n 2, 1) := by decide +kernel
theorem dX5_keep_128 : decode cX5_keep 128 = .ok (.bipush 72, 2) := by decide +kernel
theorem dX5_keep_130 : decode cX5_keep 130 = .ok (.iadd, 1) := by decide +kernel
theorem dX5_keep_131 : decode cX5_keep 131 = .ok (.iload_n 3, 1) := by decide +kernel
theorem dX5_keep_132 : decode cX5_keep 132 = .ok (.iadd, 1) := by decide +kernel
theorem dX5_keep_133 : decode cX5_keep 133 = .ok (.aload_n 0, 1) := by decide +kernel
theorem dX5_keep_134 : decode cX5_keep 134 = .ok (.getfield 19, 3) := by decide +kernel
theorem dX5_keep_137 : decode cX5_keep 137 = .ok (.iload_n 3, 1) := by decide +kernel
theorem dX5_keep_138 : decode cX5_keep 138 = .ok (.iaload, 1) := by decide +kernel
theorem dX5_keep_139 : decode cX5_keep 139 = .ok (.iastore, 1) := by decide +kernel
theorem dX5_keep_140 : decode cX5_keep 140 = .ok (.aload_n 0, 1) := by decide +kernel
theorem dX5_keep_141 : decode cX5_keep 141 = .ok (.getfield 88, 3) := by decide +kernel
theorem dX5_keep_144 : decode cX5_keep 144 = .ok (.iload_n 2, 1) := by decide +kernel
theorem dX5_keep_145 : decode cX5_keep 145 = .ok (.sipush 192, 3) := by decide +kernel
theorem dX5_keep_148 : decode cX5_keep 148 = .ok (.iadd, 1) := by decide +kernel
theorem dX5_keep_149 : decode cX5_keep 149 = .ok (.iload_n 3, 1) := by decide +kernel
theorem dX5_keep_150 : decode cX5_keep 150 = .ok (.iadd, 1) := by decide +kernel
theorem dX5_keep_151 : decode cX5_keep 151 = .ok (.aload_n 0, 1) := by decide +kernel
theorem dX5_keep_152 : decode cX5_keep 152 = .ok (.getfield 22, 3) := by decide +kernel
theorem dX5_keep_155 : decode cX5_keep 155 = .ok (.iload_n 3, 1) := by decide +kernel
theorem dX5_keep_156 : decode cX5_keep 156 = .ok (.iaload, 1) := by decide +kernel
theorem dX5_keep_157 : decode cX5_keep 157 = .ok (.iastore, 1) := by decide +kernel
theorem dX5_keep_158 : decode cX5_keep 158 = .ok (.aload_n 0, 1) := by decide +kernel
theorem dX5_keep_159 : decode cX5_keep 159 = .ok (.getfield 88, 3) := by decide +kernel
theorem dX5_keep_162 : decode cX5_keep 162 = .ok (.iload_n 2, 1) := by decide +kernel
theorem dX5_keep_163 : decode cX5_keep 163 = .ok (.sipush 312, 3) := by decide +kernel
theorem dX5_keep_166 : decode cX5_keep 166 = .ok (.iadd, 1) := by decide +kernel
theorem dX5_keep_167 : decode cX5_keep 167 = .ok (.iload_n 3, 1) := by decide +kernel
theorem dX5_keep_168 : decode cX5_keep 168 = .ok (.iadd, 1) := by decide +kernel
theorem dX5_keep_169 : decode cX5_keep 169 = .ok (.aload_n 0, 1) := by decide +kernel
theorem dX5_keep_170 : decode cX5_keep 170 = .ok (.getfield 25, 3) := by decide +kernel
theorem dX5_keep_173 : decode cX5_keep 173 = .ok (.iload_n 3, 1) := by decide +kernel
theorem dX5_keep_174 : decode cX5_keep 174 = .ok (.iaload, 1) := by decide +kernel
theorem dX5_keep_175 : decode cX5_keep 175 = .ok (.iastore, 1) := by decide +kernel
theorem dX5_keep_176 : decode cX5_keep 176 = .ok (.iinc 3 1, 3) := by decide +kernel
theorem dX5_keep_179 : decode cX5_keep 179 = .ok (.goto (-64), 3) := by decide +kernel
theorem dX5_keep_182 : decode cX5_keep 182 = .ok (.aload_n 0, 1) := by decide +kernel
theorem dX5_keep_183 : decode cX5_keep 183 = .ok (.getfield 91, 3) := by decide +kernel
theorem dX5_keep_186 : decode cX5_keep 186 = .ok (.ireturn, 1) := by decide +kernel
set_option maxRecDepth 20000 in
theorem ggX5_goBack_X5_in : GoodIn wsX5_goBack wsX5_in := goodIn_r _ [18] rfl (by decide +kernel)
set_option maxRecDepth 20000 in
theorem gX5_goBack_X5_in : GoodIn wsX5_goBack (va_wsS RX5 94 yX5_in wsX5_in) := goodIn_app (goodIn_r _ [15, 16, 17] rfl (by decide +kernel)) ggX5_goBack_X5_in
theorem dX5_goBack_0 : decode cX5_goBack 0 = .ok (.iload_n 1, 1) := by decide +kernel
theorem dX5_goBack_1 : decode cX5_goBack 1 = .ok (.i2l, 1) := by decide +kernel
theorem dX5_goBack_2 : decode cX5_goBack 2 = .ok (.lconst 0, 1) := by decide +kernel
theorem dX5_goBack_3 : decode cX5_goBack 3 = .ok (.lconst 1, 1) := by decide +kernel
theorem dX5_goBack_4 : decode cX5_goBack 4 = .ok (.invokestatic 94, 3) := by decide +kernel
theorem dX5_goBack_7 : decode cX5_goBack 7 = .ok (.ifCond .ne 6, 3) := by decide +kernel
theorem dX5_goBack_10 : decode cX5_goBack 10 = .ok (.ldc 216, 2) := by decide +kernel
theorem dX5_goBack_12 : decode cX5_goBack 12 = .ok (.ireturn, 1) := by decide +kernel
theorem dX5_goBack_13 : decode cX5_goBack 13 = .ok (.aload_n 0, 1) := by decide +kernel
theorem dX5_goBack_14 : decode cX5_goBack 14 = .ok (.getfield 82, 3) := by decide +kernel
theorem dX5_goBack_17 : decode cX5_goBack 17 = .ok (.iload_n 1, 1) := by decide +kernel
theorem dX5_goBack_18 : decode cX5_goBack 18 = .ok (.iaload, 1) := by decide +kernel
theorem dX5_goBack_19 : decode cX5_goBack 19 = .ok (.ifCond .ge 6, 3) := by decide +kernel
theorem dX5_goBack_22 : decode cX5_goBack 22 = .ok (.ldc 225, 2) := by decide +kernel
theorem dX5_goBack_24 : decode cX5_goBack 24 = .ok (.ireturn, 1) := by decide +kernel
theorem dX5_goBack_25 : decode cX5_goBack 25 = .ok (.sipush 432, 3) := by decide +kernel
theorem dX5_goBack_28 : decode cX5_goBack 28 = .ok (.iload_n 1, 1) := by decide +kernel
theorem dX5_goBack_29 : decode cX5_goBack 29 = .ok (.imul, 1) := by decide +kernel
theorem dX5_goBack_30 : decode cX5_goBack 30 = .ok (.istore_n 2, 1) := by decide +kernel
theorem dX5_goBack_31 : decode cX5_goBack 31 = .ok (.aload_n 0, 1) := by decide +kernel
theorem dX5_goBack_32 : decode cX5_goBack 32 = .ok (.aload_n 0, 1) := by decide +kernel
theorem dX5_goBack_33 : decode cX5_goBack 33 = .ok (.getfield 82, 3) := by decide +kernel
theorem dX5_goBack_36 : decode cX5_goBack 36 = .ok (.iload_n 1, 1) := by decide +kernel
theorem dX5_goBack_37 : decode cX5_goBack 37 = .ok (.iaload, 1) := by decide +kernel
theorem dX5_goBack_38 : decode cX5_goBack 38 = .ok (.putfield 91, 3) := by decide +kernel
theorem dX5_goBack_41 : decode cX5_goBack 41 = .ok (.aload_n 0, 1) := by decide +kernel
theorem dX5_goBack_42 : decode cX5_goBack 42 = .ok (.aload_n 0, 1) := by decide +kernel
theorem dX5_goBack_43 : decode cX5_goBack 43 = .ok (.getfield 85, 3) := by decide +kernel
theorem dX5_goBack_46 : decode cX5_goBack 46 = .ok (.iload_n 1, 1) := by decide +kernel
theorem dX5_goBack_47 : decode cX5_goBack 47 = .ok (.iaload, 1) := by decide +kernel
theorem dX5_goBack_48 : decode cX5_goBack 48 = .ok (.putfield 175, 3) := by decide +kernel
theorem dX5_goBack_51 : decode cX5_goBack 51 = .ok (.aload_n 0, 1) := by decide +kernel
theorem dX5_goBack_52 : decode cX5_goBack 52 = .ok (.iconst 0, 1) := by decide +kernel
theorem dX5_goBack_53 : decode cX5_goBack 53 = .ok (.putfield 178, 3) := by decide +kernel
theorem dX5_goBack_56 : decode cX5_goBack 56 = .ok (.iconst 0, 1) := by decide +kernel
theorem dX5_goBack_57 : decode cX5_goBack 57 = .ok (.istore_n 3, 1) := by decide +kernel
theorem dX5_goBack_58 : decode cX5_goBack 58 = .ok (.iload_n 3, 1) := by decide +kernel
theorem dX5_goBack_59 : decode cX5_goBack 59 = .ok (.aload_n 0, 1) := by decide +kernel
theorem dX5_goBack_60 : decode cX5_goBack 60 = .ok (.getfield 91, 3) := by decide +kernel
theorem dX5_goBack_63 : decode cX5_goBack 63 = .ok (.if_icmp .ge 57, 3) := by decide +kernel
theorem dX5_goBack_66 : decode cX5_goBack 66 = .ok (.aload_n 0, 1) := by decide +kernel
theorem dX5_goBack_67 : decode cX5_goBack 67 = .ok (.getfield 7, 3) := by decide +kernel
theorem dX5_goBack_70 : decode cX5_goBack 70 = .ok (.iload_n 3, 1) := by decide +kernel
theorem dX5_goBack_71 : decode cX5_goBack 71 = .ok (.aload_n 0, 1) := by decide +kernel
theorem dX5_goBack_72 : decode cX5_goBack 72 = .ok (.getfield 88, 3) := by decide +kernel
theorem dX5_goBack_75 : decode cX5_goBack 75 = .ok (.iload_n 2, 1) := by decide +kernel
theorem dX5_goBack_76 : decode cX5_goBack 76 = .ok (.iload_n 3, 1) := by decide +kernel
theorem dX5_goBack_77 : decode cX5_goBack 77 = .ok (.iadd, 1) := by decide +kernel
theorem dX5_goBack_78 : decode cX5_goBack 78 = .ok (.iaload, 1) := by decide +kernel
theorem dX5_goBack_79 : decode cX5_goBack 79 = .ok (.iastore, 1) := by decide +kernel
theorem dX5_goBack_80 : decode cX5_goBack 80 = .ok (.aload_n 0, 1) := by decide +kernel
theorem dX5_goBack_81 : decode cX5_goBack 81 = .ok (.getfield 13, 3) := by decide +kernel
theorem dX5_goBack_84 : decode cX5_goBack 84 = .ok (.iload_n 3, 1) := by decide +kernel
theorem dX5_goBack_85 : decode cX5_goBack 85 = .ok (.aload_n 0, 1) := by decide +kernel
theorem dX5_goBack_86 : decode cX5_goBack 86 = .ok (.getfield 88, 3) := by decide +kernel
theorem dX5_goBack_89 : decode cX5_goBack 89 = .ok (.iload_n 2, 1) := by decide +kernel
theorem dX5_goBack_90 : decode cX5_goBack 90 = .ok (.bipush 24, 2) := by decide +kernel
theorem dX5_goBack_92 : decode cX5_goBack 92 = .ok (.iadd, 1) := by decide +kernel
theorem dX5_goBack_93 : decode cX5_goBack 93 = .ok (.iload_n 3, 1) := by decide +kernel
theorem dX5_goBack_94 : decode cX5_goBack 94 = .ok (.iadd, 1) := by decide +kernel
theorem dX5_goBack_95 : decode cX5_goBack 95 = .ok (.iaload, 1) := by decide +kernel
theorem dX5_goBack_96 : decode cX5_goBack 96 = .ok (.iastore, 1) := by decide +kernel
theorem dX5_goBack_97 : decode cX5_goBack 97 = .ok (.aload_n 0, 1) := by decide +kernel
theorem dX5_goBack_98 : decode cX5_goBack 98 = .ok (.getfield 16, 3) := by decide +kernel
theorem dX5_goBack_101 : decode cX5_goBack 101 = .ok (.iload_n 3, 1) := by decide +kernel
theorem dX5_goBack_102 : decode cX5_goBack 102 = .ok (.aload_n 0, 1) := by decide +kernel
theorem dX5_goBack_103 : decode cX5_goBack 103 = .ok (.getfield 88, 3) := by decide +kernel
theorem dX5_goBack_106 : decode cX5_goBack 106 = .ok (.iload_n 2, 1) := by decide +kernel
theorem dX5_goBack_107 : decode cX5_goBack 107 = .ok (.bipush 48, 2) := by decide +kernel
theorem dX5_goBack_109 : decode cX5_goBack 109 = .ok (.iadd, 1) := by decide +kernel
theorem dX5_goBack_110 : decode cX5_goBack 110 = .ok (.iload_n 3, 1) := by decide +kernel
theorem dX5_goBack_111 : decode cX5_goBack 111 = .ok (.iadd, 1) := by decide +kernel
theorem dX5_goBack_112 : decode cX5_goBack 112 = .ok (.iaload, 1) := by decide +kernel
theorem dX5_goBack_113 : decode cX5_goBack 113 = .ok (.iastore, 1) := by decide +kernel
theorem dX5_goBack_114 : decode cX5_goBack 114 = .ok (.iinc 3 1, 3) := by decide +kernel
theorem dX5_goBack_117 : decode cX5_goBack 117 = .ok (.goto (-59), 3) := by decide +kernel
theorem dX5_goBack_120 : decode cX5_goBack 120 = .ok (.iconst 0, 1) := by decide +kernel
theorem dX5_goBack_121 : decode cX5_goBack 121 = .ok (.istore_n 3, 1) := by decide +kernel
theorem dX5_goBack_122 : decode cX5_goBack 122 = .ok (.iload_n 3, 1) := by decide +kernel
theorem dX5_goBack_123 : decode cX5_goBack 123 = .ok (.aload_n 0, 1) := by decide +kernel
theorem dX5_goBack_124 : decode cX5_goBack 124 = .ok (.getfield 175, 3) := by decide +kernel
theorem dX5_goBack_127 : decode cX5_goBack 127 = .ok (.if_icmp .ge 62, 3) := by decide +kernel
theorem dX5_goBack_130 : decode cX5_goBack 130 = .ok (.aload_n 0, 1) := by decide +kernel
theorem dX5_goBack_131 : decode cX5_goBack 131 = .ok (.getfield 19, 3) := by decide +kernel
theorem dX5_goBack_134 : decode cX5_goBack 134 = .ok (.iload_n 3, 1) := by decide +kernel
theorem dX5_goBack_135 : decode cX5_goBack 135 = .ok (.aload_n 0, 1) := by decide +kernel
theorem dX5_goBack_136 : decode cX5_goBack 136 = .ok (.getfield 88, 3) := by decide +kernel
theorem dX5_goBack_139 : decode cX5_goBack 139 = .ok (.iload_n 2, 1) := by decide +kernel
theorem dX5_goBack_140 : decode cX5_goBack 140 = .ok (.bipush 72, 2) := by decide +kernel
theorem dX5_goBack_142 : decode cX5_goBack 142 = .ok (.iadd, 1) := by decide +kernel
theorem dX5_goBack_143 : decode cX5_goBack 143 = .ok (.iload_n 3, 1) := by decide +kernel
theorem dX5_goBack_144 : decode cX5_goBack 144 = .ok (.iadd, 1) := by decide +kernel
theorem dX5_goBack_145 : decode cX5_goBack 145 = .ok (.iaload, 1) := by decide +kernel
theorem dX5_goBack_146 : decode cX5_goBack 146 = .ok (.iastore, 1) := by decide +kernel
theorem dX5_goBack_147 : decode cX5_goBack 147 = .ok (.aload_n 0, 1) := by decide +kernel
theorem dX5_goBack_148 : decode cX5_goBack 148 = .ok (.getfield 22, 3) := by decide +kernel
theorem dX5_goBack_151 : decode cX5_goBack 151 = .ok (.iload_n 3, 1) := by decide +kernel
theorem dX5_goBack_152 : decode cX5_goBack 152 = .ok (.aload_n 0, 1) := by decide +kernel
theorem dX5_goBack_153 : decode cX5_goBack 153 = .ok (.getfield 88, 3) := by decide +kernel
theorem dX5_goBack_156 : decode cX5_goBack 156 = .ok (.iload_n 2, 1) := by decide +kernel
theorem dX5_goBack_157 : decode cX5_goBack 157 = .ok (.sipush 192, 3) := by decide +kernel
theorem dX5_goBack_160 : decode cX5_goBack 160 = .ok (.iadd, 1) := by decide +kernel
theorem dX5_goBack_161 : decode cX5_goBack 161 = .ok (.iload_n 3, 1) := by decide +kernel
theorem dX5_goBack_162 : decode cX5_goBack 162 = .ok (.iadd, 1) := by decide +kernel
theorem dX5_goBack_163 : decode cX5_goBack 163 = .ok (.iaload, 1) := by decide +kernel
theorem dX5_goBack_164 : decode cX5_goBack 164 = .ok (.iastore, 1) := by decide +kernel
theorem dX5_goBack_165 : decode cX5_goBack 165 = .ok (.aload_n 0, 1) := by decide +kernel
theorem dX5_goBack_166 : decode cX5_goBack 166 = .ok (.getfield 25, 3) := by decide +kernel
theorem dX5_goBack_169 : decode cX5_goBack 169 = .ok (.iload_n 3, 1) := by decide +kernel
theorem dX5_goBack_170 : decode cX5_goBack 170 = .ok (.aload_n 0, 1) := by decide +kernel
theorem dX5_goBack_171 : decode cX5_goBack 171 = .ok (.getfield 88, 3) := by decide +kernel
theorem dX5_goBack_174 : decode cX5_goBack 174 = .ok (.iload_n 2, 1) := by decide +kernel
theorem dX5_goBack_175 : decode cX5_goBack 175 = .ok (.sipush 312, 3) := by decide +kernel
theorem dX5_goBack_178 : decode cX5_goBack 178 = .ok (.iadd, 1) := by decide +kernel
theorem dX5_goBack_179 : decode cX5_goBack 179 = .ok (.iload_n 3, 1) := by decide +kernel
theorem dX5_goBack_180 : decode cX5_goBack 180 = .ok (.iadd, 1) := by decide +kernel
theorem dX5_goBack_181 : decode cX5_goBack 181 = .ok (.iaload, 1) := by decide +kernel
theorem dX5_goBack_182 : decode cX5_goBack 182 = .ok (.iastore, 1) := by decide +kernel
theorem dX5_goBack_183 : decode cX5_goBack 183 = .ok (.iinc 3 1, 3) := by decide +kernel
theorem dX5_goBack_186 : decode cX5_goBack 186 = .ok (.goto (-64), 3) := by decide +kernel
theorem dX5_goBack_189 : decode cX5_goBack 189 = .ok (.aload_n 0, 1) := by decide +kernel
theorem dX5_goBack_190 : decode cX5_goBack 190 = .ok (.getfield 91, 3) := by decide +kernel
theorem dX5_goBack_193 : decode cX5_goBack 193 = .ok (.ireturn, 1) := by decide +kernel
