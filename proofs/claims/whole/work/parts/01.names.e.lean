theorem dX7_wall_120 : decode cX7_wall 120 = .ok (.imul, 1) := by decide +kernel
theorem dX7_wall_121 : decode cX7_wall 121 = .ok (.iconst 2, 1) := by decide +kernel
theorem dX7_wall_122 : decode cX7_wall 122 = .ok (.iadd, 1) := by decide +kernel
theorem dX7_wall_123 : decode cX7_wall 123 = .ok (.iaload, 1) := by decide +kernel
theorem dX7_wall_124 : decode cX7_wall 124 = .ok (.bipush 45, 2) := by decide +kernel
theorem dX7_wall_126 : decode cX7_wall 126 = .ok (.if_icmp .ne 7, 3) := by decide +kernel
theorem dX7_wall_129 : decode cX7_wall 129 = .ok (.iconst (-1), 1) := by decide +kernel
theorem dX7_wall_130 : decode cX7_wall 130 = .ok (.goto 16, 3) := by decide +kernel
theorem dX7_wall_133 : decode cX7_wall 133 = .ok (.aload_n 0, 1) := by decide +kernel
theorem dX7_wall_134 : decode cX7_wall 134 = .ok (.getfield 7, 3) := by decide +kernel
theorem dX7_wall_137 : decode cX7_wall 137 = .ok (.iconst 4, 1) := by decide +kernel
theorem dX7_wall_138 : decode cX7_wall 138 = .ok (.iload_n 2, 1) := by decide +kernel
theorem dX7_wall_139 : decode cX7_wall 139 = .ok (.imul, 1) := by decide +kernel
theorem dX7_wall_140 : decode cX7_wall 140 = .ok (.iconst 2, 1) := by decide +kernel
theorem dX7_wall_141 : decode cX7_wall 141 = .ok (.iadd, 1) := by decide +kernel
theorem dX7_wall_142 : decode cX7_wall 142 = .ok (.iaload, 1) := by decide +kernel
theorem dX7_wall_143 : decode cX7_wall 143 = .ok (.bipush 48, 2) := by decide +kernel
theorem dX7_wall_145 : decode cX7_wall 145 = .ok (.isub, 1) := by decide +kernel
theorem dX7_wall_146 : decode cX7_wall 146 = .ok (.iastore, 1) := by decide +kernel
theorem dX7_wall_147 : decode cX7_wall 147 = .ok (.aload_n 0, 1) := by decide +kernel
theorem dX7_wall_148 : decode cX7_wall 148 = .ok (.getfield 22, 3) := by decide +kernel
theorem dX7_wall_151 : decode cX7_wall 151 = .ok (.iload_n 2, 1) := by decide +kernel
theorem dX7_wall_152 : decode cX7_wall 152 = .ok (.iconst 0, 1) := by decide +kernel
theorem dX7_wall_153 : decode cX7_wall 153 = .ok (.iastore, 1) := by decide +kernel
theorem dX7_wall_154 : decode cX7_wall 154 = .ok (.iinc 2 1, 3) := by decide +kernel
theorem dX7_wall_157 : decode cX7_wall 157 = .ok (.goto (-92), 3) := by decide +kernel
theorem dX7_wall_160 : decode cX7_wall 160 = .ok (.iconst 0, 1) := by decide +kernel
theorem dX7_wall_161 : decode cX7_wall 161 = .ok (.istore_n 2, 1) := by decide +kernel
theorem dX7_wall_162 : decode cX7_wall 162 = .ok (.iload_n 2, 1) := by decide +kernel
theorem dX7_wall_163 : decode cX7_wall 163 = .ok (.aload_n 0, 1) := by decide +kernel
theorem dX7_wall_164 : decode cX7_wall 164 = .ok (.getfield 91, 3) := by decide +kernel
theorem dX7_wall_167 : decode cX7_wall 167 = .ok (.if_icmp .ge 31, 3) := by decide +kernel
theorem dX7_wall_170 : decode cX7_wall 170 = .ok (.aload_n 0, 1) := by decide +kernel
theorem dX7_wall_171 : decode cX7_wall 171 = .ok (.getfield 25, 3) := by decide +kernel
theorem dX7_wall_174 : decode cX7_wall 174 = .ok (.iload_n 2, 1) := by decide +kernel
theorem dX7_wall_175 : decode cX7_wall 175 = .ok (.aload_n 0, 1) := by decide +kernel
theorem dX7_wall_176 : decode cX7_wall 176 = .ok (.getfield 7, 3) := by decide +kernel
theorem dX7_wall_179 : decode cX7_wall 179 = .ok (.aload_n 0, 1) := by decide +kernel
theorem dX7_wall_180 : decode cX7_wall 180 = .ok (.getfield 75, 3) := by decide +kernel
theorem dX7_wall_183 : decode cX7_wall 183 = .ok (.iconst 1, 1) := by decide +kernel
theorem dX7_wall_184 : decode cX7_wall 184 = .ok (.iadd, 1) := by decide +kernel
theorem dX7_wall_185 : decode cX7_wall 185 = .ok (.iload_n 2, 1) := by decide +kernel
theorem dX7_wall_186 : decode cX7_wall 186 = .ok (.iadd, 1) := by decide +kernel
theorem dX7_wall_187 : decode cX7_wall 187 = .ok (.iaload, 1) := by decide +kernel
theorem dX7_wall_188 : decode cX7_wall 188 = .ok (.bipush 48, 2) := by decide +kernel
theorem dX7_wall_190 : decode cX7_wall 190 = .ok (.isub, 1) := by decide +kernel
theorem dX7_wall_191 : decode cX7_wall 191 = .ok (.iastore, 1) := by decide +kernel
theorem dX7_wall_192 : decode cX7_wall 192 = .ok (.iinc 2 1, 3) := by decide +kernel
theorem dX7_wall_195 : decode cX7_wall 195 = .ok (.goto (-33), 3) := by decide +kernel
theorem dX7_wall_198 : decode cX7_wall 198 = .ok (.aload_n 0, 1) := by decide +kernel
theorem dX7_wall_199 : decode cX7_wall 199 = .ok (.iconst 0, 1) := by decide +kernel
theorem dX7_wall_200 : decode cX7_wall 200 = .ok (.putfield 94, 3) := by decide +kernel
theorem dX7_wall_203 : decode cX7_wall 203 = .ok (.aload_n 0, 1) := by decide +kernel
theorem dX7_wall_204 : decode cX7_wall 204 = .ok (.iconst 0, 1) := by decide +kernel
theorem dX7_wall_205 : decode cX7_wall 205 = .ok (.putfield 97, 3) := by decide +kernel
theorem dX7_wall_208 : decode cX7_wall 208 = .ok (.aload_n 0, 1) := by decide +kernel
theorem dX7_wall_209 : decode cX7_wall 209 = .ok (.iconst 0, 1) := by decide +kernel
theorem dX7_wall_210 : decode cX7_wall 210 = .ok (.putfield 100, 3) := by decide +kernel
theorem dX7_wall_213 : decode cX7_wall 213 = .ok (.aload_n 0, 1) := by decide +kernel
theorem dX7_wall_214 : decode cX7_wall 214 = .ok (.dup, 1) := by decide +kernel
theorem dX7_wall_215 : decode cX7_wall 215 = .ok (.getfield 103, 3) := by decide +kernel
theorem dX7_wall_218 : decode cX7_wall 218 = .ok (.iconst 1, 1) := by decide +kernel
theorem dX7_wall_219 : decode cX7_wall 219 = .ok (.iadd, 1) := by decide +kernel
theorem dX7_wall_220 : decode cX7_wall 220 = .ok (.putfield 103, 3) := by decide +kernel
theorem dX7_wall_223 : decode cX7_wall 223 = .ok (.aload_n 0, 1) := by decide +kernel
theorem dX7_wall_224 : decode cX7_wall 224 = .ok (.iconst 0, 1) := by decide +kernel
theorem dX7_wall_225 : decode cX7_wall 225 = .ok (.putfield 62, 3) := by decide +kernel
theorem dX7_wall_228 : decode cX7_wall 228 = .ok (.aload_n 0, 1) := by decide +kernel
theorem dX7_wall_229 : decode cX7_wall 229 = .ok (.getfield 88, 3) := by decide +kernel
theorem dX7_wall_232 : decode cX7_wall 232 = .ok (.ireturn, 1) := by decide +kernel
theorem dX7_lacks_0 : decode cX7_lacks 0 = .ok (.aload_n 0, 1) := by decide +kernel
theorem dX7_lacks_1 : decode cX7_lacks 1 = .ok (.getfield 88, 3) := by decide +kernel
theorem dX7_lacks_4 : decode cX7_lacks 4 = .ok (.ifCond .ne 7, 3) := by decide +kernel
theorem dX7_lacks_7 : decode cX7_lacks 7 = .ok (.iconst 1, 1) := by decide +kernel
theorem dX7_lacks_8 : decode cX7_lacks 8 = .ok (.goto 4, 3) := by decide +kernel
theorem dX7_lacks_11 : decode cX7_lacks 11 = .ok (.iconst 0, 1) := by decide +kernel
theorem dX7_lacks_12 : decode cX7_lacks 12 = .ok (.ireturn, 1) := by decide +kernel
set_option maxRecDepth 20000 in
theorem ggX7_isClause_X7_in : GoodIn wsX7_isClause wsX7_in := goodIn_r _ [5] (by decide +kernel) (by decide +kernel)
set_option maxRecDepth 20000 in
theorem gX7_isClause_X7_in : GoodIn wsX7_isClause (va_wsS RX7 58 yX7_in wsX7_in) := goodIn_app (goodIn_of _ (by decide +kernel)) ggX7_isClause_X7_in
theorem dX7_isClause_0 : decode cX7_isClause 0 = .ok (.iload_n 1, 1) := by decide +kernel
theorem dX7_isClause_1 : decode cX7_isClause 1 = .ok (.i2l, 1) := by decide +kernel
theorem dX7_isClause_2 : decode cX7_isClause 2 = .ok (.lconst 0, 1) := by decide +kernel
theorem dX7_isClause_3 : decode cX7_isClause 3 = .ok (.aload_n 0, 1) := by decide +kernel
theorem dX7_isClause_4 : decode cX7_isClause 4 = .ok (.getfield 88, 3) := by decide +kernel
theorem dX7_isClause_7 : decode cX7_isClause 7 = .ok (.iconst 1, 1) := by decide +kernel
theorem dX7_isClause_8 : decode cX7_isClause 8 = .ok (.isub, 1) := by decide +kernel
theorem dX7_isClause_9 : decode cX7_isClause 9 = .ok (.i2l, 1) := by decide +kernel
theorem dX7_isClause_10 : decode cX7_isClause 10 = .ok (.invokestatic 58, 3) := by decide +kernel
theorem dX7_isClause_13 : decode cX7_isClause 13 = .ok (.ireturn, 1) := by decide +kernel
theorem dX7_growsBy_0 : decode cX7_growsBy 0 = .ok (.iload_n 0, 1) := by decide +kernel
theorem dX7_growsBy_1 : decode cX7_growsBy 1 = .ok (.tableswitch 58 1 4 #[31, 44, 54, 44], 31) := by decide +kernel
theorem dX7_growsBy_32 : decode cX7_growsBy 32 = .ok (.iload_n 1, 1) := by decide +kernel
theorem dX7_growsBy_33 : decode cX7_growsBy 33 = .ok (.iconst 1, 1) := by decide +kernel
theorem dX7_growsBy_34 : decode cX7_growsBy 34 = .ok (.if_icmp .le 9, 3) := by decide +kernel
theorem dX7_growsBy_37 : decode cX7_growsBy 37 = .ok (.iload_n 1, 1) := by decide +kernel
theorem dX7_growsBy_38 : decode cX7_growsBy 38 = .ok (.iconst 1, 1) := by decide +kernel
theorem dX7_growsBy_39 : decode cX7_growsBy 39 = .ok (.isub, 1) := by decide +kernel
theorem dX7_growsBy_40 : decode cX7_growsBy 40 = .ok (.goto 4, 3) := by decide +kernel
theorem dX7_growsBy_43 : decode cX7_growsBy 43 = .ok (.iconst 0, 1) := by decide +kernel
theorem dX7_growsBy_44 : decode cX7_growsBy 44 = .ok (.ireturn, 1) := by decide +kernel
theorem dX7_growsBy_45 : decode cX7_growsBy 45 = .ok (.iload_n 1, 1) := by decide +kernel
theorem dX7_growsBy_46 : decode cX7_growsBy 46 = .ok (.ifCond .le 7, 3) := by decide +kernel
theorem dX7_growsBy_49 : decode cX7_growsBy 49 = .ok (.iconst 1, 1) := by decide +kernel
theorem dX7_growsBy_50 : decode cX7_growsBy 50 = .ok (.goto 4, 3) := by decide +kernel
theorem dX7_growsBy_53 : decode cX7_growsBy 53 = .ok (.iconst 0, 1) := by decide +kernel
theorem dX7_growsBy_54 : decode cX7_growsBy 54 = .ok (.ireturn, 1) := by decide +kernel
theorem dX7_growsBy_55 : decode cX7_growsBy 55 = .ok (.iconst 2, 1) := by decide +kernel
theorem dX7_growsBy_56 : decode cX7_growsBy 56 = .ok (.iload_n 1, 1) := by decide +kernel
theorem dX7_growsBy_57 : decode cX7_growsBy 57 = .ok (.imul, 1) := by decide +kernel
theorem dX7_growsBy_58 : decode cX7_growsBy 58 = .ok (.ireturn, 1) := by decide +kernel
theorem dX7_growsBy_59 : decode cX7_growsBy 59 = .ok (.iload_n 1, 1) := by decide +kernel
theorem dX7_growsBy_60 : decode cX7_growsBy 60 = .ok (.ireturn, 1) := by decide +kernel
theorem dX7_isClosed_0 : decode cX7_isClosed 0 = .ok (.aload_n 1, 1) := by decide +kernel
theorem dX7_isClosed_1 : decode cX7_isClosed 1 = .ok (.iload_n 2, 1) := by decide +kernel
theorem dX7_isClosed_2 : decode cX7_isClosed 2 = .ok (.iaload, 1) := by decide +kernel
theorem dX7_isClosed_3 : decode cX7_isClosed 3 = .ok (.aload_n 0, 1) := by decide +kernel
theorem dX7_isClosed_4 : decode cX7_isClosed 4 = .ok (.getfield 16, 3) := by decide +kernel
theorem dX7_isClosed_7 : decode cX7_isClosed 7 = .ok (.iload_n 2, 1) := by decide +kernel
theorem dX7_isClosed_8 : decode cX7_isClosed 8 = .ok (.iaload, 1) := by decide +kernel
theorem dX7_isClosed_9 : decode cX7_isClosed 9 = .ok (.if_icmp .lt 7, 3) := by decide +kernel
theorem dX7_isClosed_12 : decode cX7_isClosed 12 = .ok (.iconst 1, 1) := by decide +kernel
theorem dX7_isClosed_13 : decode cX7_isClosed 13 = .ok (.goto 4, 3) := by decide +kernel
theorem dX7_isClosed_16 : decode cX7_isClosed 16 = .ok (.iconst 0, 1) := by decide +kernel
theorem dX7_isClosed_17 : decode cX7_isClosed 17 = .ok (.ireturn, 1) := by decide +kernel
set_option maxRecDepth 20000 in
theorem ggX7_closedBits_X7_isClosed : GoodIn wsX7_closedBits wsX7_isClosed := goodIn_r _ [6, 7, 8, 9, 10, 11, 12, 13, 14, 15, 16, 17, 18, 19, 20, 21, 22, 23, 24, 25, 26, 27, 28, 29, 30, 31, 32, 33, 34, 35, 36] (by decide +kernel) (by decide +kernel)
set_option maxRecDepth 20000 in
theorem gX7_closedBits_X7_isClosed : GoodIn wsX7_closedBits (wsV RX7 106 RX7 yX7_isClosed wsX7_isClosed) := goodIn_app (goodIn_of _ (by decide +kernel)) ggX7_closedBits_X7_isClosed
theorem dX7_closedBits_0 : decode cX7_closedBits 0 = .ok (.iconst 0, 1) := by decide +kernel
theorem dX7_closedBits_1 : decode cX7_closedBits 1 = .ok (.istore_n 2, 1) := by decide +kernel
theorem dX7_closedBits_2 : decode cX7_closedBits 2 = .ok (.iconst 0, 1) := by decide +kernel
theorem dX7_closedBits_3 : decode cX7_closedBits 3 = .ok (.istore_n 3, 1) := by decide +kernel
theorem dX7_closedBits_4 : decode cX7_closedBits 4 = .ok (.iload_n 3, 1) := by decide +kernel
theorem dX7_closedBits_5 : decode cX7_closedBits 5 = .ok (.aload_n 0, 1) := by decide +kernel
theorem dX7_closedBits_6 : decode cX7_closedBits 6 = .ok (.getfield 88, 3) := by decide +kernel
theorem dX7_closedBits_9 : decode cX7_closedBits 9 = .ok (.if_icmp .ge 28, 3) := by decide +kernel
theorem dX7_closedBits_12 : decode cX7_closedBits 12 = .ok (.iload_n 2, 1) := by decide +kernel
theorem dX7_closedBits_13 : decode cX7_closedBits 13 = .ok (.aload_n 0, 1) := by decide +kernel
theorem dX7_closedBits_14 : decode cX7_closedBits 14 = .ok (.aload_n 1, 1) := by decide +kernel
theorem dX7_closedBits_15 : decode cX7_closedBits 15 = .ok (.iload_n 3, 1) := by decide +kernel
theorem dX7_closedBits_16 : decode cX7_closedBits 16 = .ok (.invokevirtual 106, 3) := by decide +kernel
theorem dX7_closedBits_19 : decode cX7_closedBits 19 = .ok (.ifCond .eq 9, 3) := by decide +kernel
theorem dX7_closedBits_22 : decode cX7_closedBits 22 = .ok (.iconst 1, 1) := by decide +kernel
theorem dX7_closedBits_23 : decode cX7_closedBits 23 = .ok (.iload_n 3, 1) := by decide +kernel
theorem dX7_closedBits_24 : decode cX7_closedBits 24 = .ok (.ishl, 1) := by decide +kernel
theorem dX7_closedBits_25 : decode cX7_closedBits 25 = .ok (.goto 4, 3) := by decide +kernel
theorem dX7_closedBits_28 : decode cX7_closedBits 28 = .ok (.iconst 0, 1) := by decide +kernel
theorem dX7_closedBits_29 : decode cX7_closedBits 29 = .ok (.ior, 1) := by decide +kernel
theorem dX7_closedBits_30 : decode cX7_closedBits 30 = .ok (.istore_n 2, 1) := by decide +kernel
theorem dX7_closedBits_31 : decode cX7_closedBits 31 = .ok (.iinc 3 1, 3) := by decide +kernel
theorem dX7_closedBits_34 : decode cX7_closedBits 34 = .ok (.goto (-30), 3) := by decide +kernel
theorem dX7_closedBits_37 : decode cX7_closedBits 37 = .ok (.iload_n 2, 1) := by decide +kernel
theorem dX7_closedBits_38 : decode cX7_closedBits 38 = .ok (.ireturn, 1) := by decide +kernel
set_option maxRecDepth 20000 in
theorem ggX7_grow_X7_closedBits : GoodIn wsX7_grow wsX7_closedBits := goodIn_r _ [8, 1, 9, 10, 11, 7, 12, 13, 17, 18, 19, 20, 21, 22, 23, 24, 25, 26, 27, 28, 29, 30, 31, 32, 33, 34, 35, 36, 37, 38, 39, 40, 41, 42, 43, 44, 45] (by decide +kernel) (by decide +kernel)
set_option maxRecDepth 20000 in
theorem gX7_grow_X7_closedBits : GoodIn wsX7_grow (wsV RX7 110 RX7 yX7_closedBits wsX7_closedBits) := goodIn_app (goodIn_of _ (by decide +kernel)) ggX7_grow_X7_closedBits
set_option maxRecDepth 20000 in
theorem ggX7_grow_X7_growsBy : GoodIn wsX7_grow wsX7_growsBy := goodIn_r _ [16] (by decide +kernel) (by decide +kernel)
set_option maxRecDepth 20000 in
theorem gX7_grow_X7_growsBy : GoodIn wsX7_grow (va_wsS RX7 114 yX7_growsBy wsX7_growsBy) := goodIn_app (goodIn_of _ (by decide +kernel)) ggX7_grow_X7_growsBy
theorem dX7_grow_0 : decode cX7_grow 0 = .ok (.aload_n 0, 1) := by decide +kernel
theorem dX7_grow_1 : decode cX7_grow 1 = .ok (.aload_n 1, 1) := by decide +kernel
theorem dX7_grow_2 : decode cX7_grow 2 = .ok (.invokevirtual 110, 3) := by decide +kernel
theorem dX7_grow_5 : decode cX7_grow 5 = .ok (.istore_n 3, 1) := by decide +kernel
theorem dX7_grow_6 : decode cX7_grow 6 = .ok (.iconst 0, 1) := by decide +kernel
theorem dX7_grow_7 : decode cX7_grow 7 = .ok (.istore 4, 2) := by decide +kernel
theorem dX7_grow_9 : decode cX7_grow 9 = .ok (.iload 4, 2) := by decide +kernel
theorem dX7_grow_11 : decode cX7_grow 11 = .ok (.aload_n 0, 1) := by decide +kernel
theorem dX7_grow_12 : decode cX7_grow 12 = .ok (.getfield 88, 3) := by decide +kernel
theorem dX7_grow_15 : decode cX7_grow 15 = .ok (.if_icmp .ge 87, 3) := by decide +kernel
theorem dX7_grow_18 : decode cX7_grow 18 = .ok (.aload_n 0, 1) := by decide +kernel
theorem dX7_grow_19 : decode cX7_grow 19 = .ok (.getfield 19, 3) := by decide +kernel
theorem dX7_grow_22 : decode cX7_grow 22 = .ok (.iload 4, 2) := by decide +kernel
theorem dX7_grow_24 : decode cX7_grow 24 = .ok (.iaload, 1) := by decide +kernel
theorem dX7_grow_25 : decode cX7_grow 25 = .ok (.iconst (-1), 1) := by decide +kernel
theorem dX7_grow_26 : decode cX7_grow 26 = .ok (.if_icmp .eq 18, 3) := by decide +kernel
theorem dX7_grow_29 : decode cX7_grow 29 = .ok (.iload_n 3, 1) := by decide +kernel
theorem dX7_grow_30 : decode cX7_grow 30 = .ok (.aload_n 0, 1) := by decide +kernel
theorem dX7_grow_31 : decode cX7_grow 31 = .ok (.getfield 19, 3) := by decide +kernel
theorem dX7_grow_34 : decode cX7_grow 34 = .ok (.iload 4, 2) := by decide +kernel
theorem dX7_grow_36 : decode cX7_grow 36 = .ok (.iaload, 1) := by decide +kernel
theorem dX7_grow_37 : decode cX7_grow 37 = .ok (.ishr, 1) := by decide +kernel
theorem dX7_grow_38 : decode cX7_grow 38 = .ok (.iconst 1, 1) := by decide +kernel
theorem dX7_grow_39 : decode cX7_grow 39 = .ok (.iand, 1) := by decide +kernel
theorem dX7_grow_40 : decode cX7_grow 40 = .ok (.iconst 1, 1) := by decide +kernel
theorem dX7_grow_41 : decode cX7_grow 41 = .ok (.if_icmp .ne 7, 3) := by decide +kernel
theorem dX7_grow_44 : decode cX7_grow 44 = .ok (.iconst 1, 1) := by decide +kernel
theorem dX7_grow_45 : decode cX7_grow 45 = .ok (.goto 4, 3) := by decide +kernel
theorem dX7_grow_48 : decode cX7_grow 48 = .ok (.iconst 0, 1) := by decide +kernel
theorem dX7_grow_49 : decode cX7_grow 49 = .ok (.istore 5, 2) := by decide +kernel
theorem dX7_grow_51 : decode cX7_grow 51 = .ok (.aload_n 1, 1) := by decide +kernel
theorem dX7_grow_52 : decode cX7_grow 52 = .ok (.iload 4, 2) := by decide +kernel
theorem dX7_grow_54 : decode cX7_grow 54 = .ok (.iaload, 1) := by decide +kernel
theorem dX7_grow_55 : decode cX7_grow 55 = .ok (.iload 5, 2) := by decide +kernel
theorem dX7_grow_57 : decode cX7_grow 57 = .ok (.ifCond .eq 17, 3) := by decide +kernel
theorem dX7_grow_60 : decode cX7_grow 60 = .ok (.aload_n 0, 1) := by decide +kernel
theorem dX7_grow_61 : decode cX7_grow 61 = .ok (.getfield 13, 3) := by decide +kernel
theorem dX7_grow_64 : decode cX7_grow 64 = .ok (.iload 4, 2) := by decide +kernel
theorem dX7_grow_66 : decode cX7_grow 66 = .ok (.iaload, 1) := by decide +kernel
theorem dX7_grow_67 : decode cX7_grow 67 = .ok (.iload_n 2, 1) := by decide +kernel
theorem dX7_grow_68 : decode cX7_grow 68 = .ok (.invokestatic 114, 3) := by decide +kernel
theorem dX7_grow_71 : decode cX7_grow 71 = .ok (.goto 4, 3) := by decide +kernel
theorem dX7_grow_74 : decode cX7_grow 74 = .ok (.iconst 0, 1) := by decide +kernel
theorem dX7_grow_75 : decode cX7_grow 75 = .ok (.iadd, 1) := by decide +kernel
theorem dX7_grow_76 : decode cX7_grow 76 = .ok (.istore 6, 2) := by decide +kernel
theorem dX7_grow_78 : decode cX7_grow 78 = .ok (.aload_n 1, 1) := by decide +kernel
theorem dX7_grow_79 : decode cX7_grow 79 = .ok (.iload 4, 2) := by decide +kernel
theorem dX7_grow_81 : decode cX7_grow 81 = .ok (.iload 6, 2) := by decide +kernel
theorem dX7_grow_83 : decode cX7_grow 83 = .ok (.bipush 99, 2) := by decide +kernel
theorem dX7_grow_85 : decode cX7_grow 85 = .ok (.if_icmp .le 8, 3) := by decide +kernel
theorem dX7_grow_88 : decode cX7_grow 88 = .ok (.bipush 99, 2) := by decide +kernel
theorem dX7_grow_90 : decode cX7_grow 90 = .ok (.goto 5, 3) := by decide +kernel
theorem dX7_grow_93 : decode cX7_grow 93 = .ok (.iload 6, 2) := by decide +kernel
theorem dX7_grow_95 : decode cX7_grow 95 = .ok (.iastore, 1) := by decide +kernel
theorem dX7_grow_96 : decode cX7_grow 96 = .ok (.iinc 4 1, 3) := by decide +kernel
theorem dX7_grow_99 : decode cX7_grow 99 = .ok (.goto (-90), 3) := by decide +kernel
theorem dX7_grow_102 : decode cX7_grow 102 = .ok (.return_, 1) := by decide +kernel
set_option maxRecDepth 20000 in
theorem ggX7_forceBits_X7_isClosed : GoodIn wsX7_forceBits wsX7_isClosed := goodIn_r _ [8, 9, 10, 11, 12, 13, 14, 15, 16, 17, 18, 19, 20, 21, 22, 23, 24, 25, 26, 27, 28, 29, 30, 31, 32, 33, 34, 35, 36, 37, 38] (by decide +kernel) (by decide +kernel)
set_option maxRecDepth 20000 in
theorem gX7_forceBits_X7_isClosed : GoodIn wsX7_forceBits (wsV RX7 106 RX7 yX7_isClosed wsX7_isClosed) := goodIn_app (goodIn_of _ (by decide +kernel)) ggX7_forceBits_X7_isClosed
theorem dX7_forceBits_0 : decode cX7_forceBits 0 = .ok (.iconst 0, 1) := by decide +kernel
theorem dX7_forceBits_1 : decode cX7_forceBits 1 = .ok (.istore_n 2, 1) := by decide +kernel
theorem dX7_forceBits_2 : decode cX7_forceBits 2 = .ok (.iconst 0, 1) := by decide +kernel
theorem dX7_forceBits_3 : decode cX7_forceBits 3 = .ok (.istore_n 3, 1) := by decide +kernel
theorem dX7_forceBits_4 : decode cX7_forceBits 4 = .ok (.iload_n 3, 1) := by decide +kernel
theorem dX7_forceBits_5 : decode cX7_forceBits 5 = .ok (.aload_n 0, 1) := by decide +kernel
theorem dX7_forceBits_6 : decode cX7_forceBits 6 = .ok (.getfield 88, 3) := by decide +kernel
theorem dX7_forceBits_9 : decode cX7_forceBits 9 = .ok (.if_icmp .ge 74, 3) := by decide +kernel
theorem dX7_forceBits_12 : decode cX7_forceBits 12 = .ok (.aload_n 0, 1) := by decide +kernel
theorem dX7_forceBits_13 : decode cX7_forceBits 13 = .ok (.aload_n 1, 1) := by decide +kernel
theorem dX7_forceBits_14 : decode cX7_forceBits 14 = .ok (.iload_n 3, 1) := by decide +kernel
theorem dX7_forceBits_15 : decode cX7_forceBits 15 = .ok (.invokevirtual 106, 3) := by decide +kernel
theorem dX7_forceBits_18 : decode cX7_forceBits 18 = .ok (.ifCond .eq 41, 3) := by decide +kernel
theorem dX7_forceBits_21 : decode cX7_forceBits 21 = .ok (.aload_n 0, 1) := by decide +kernel
theorem dX7_forceBits_22 : decode cX7_forceBits 22 = .ok (.getfield 13, 3) := by decide +kernel
theorem dX7_forceBits_25 : decode cX7_forceBits 25 = .ok (.iload_n 3, 1) := by decide +kernel
theorem dX7_forceBits_26 : decode cX7_forceBits 26 = .ok (.iaload, 1) := by decide +kernel
theorem dX7_forceBits_27 : decode cX7_forceBits 27 = .ok (.iconst 3, 1) := by decide +kernel
theorem dX7_forceBits_28 : decode cX7_forceBits 28 = .ok (.if_icmp .eq 31, 3) := by decide +kernel
theorem dX7_forceBits_31 : decode cX7_forceBits 31 = .ok (.aload_n 0, 1) := by decide +kernel
theorem dX7_forceBits_32 : decode cX7_forceBits 32 = .ok (.getfield 19, 3) := by decide +kernel
theorem dX7_forceBits_35 : decode cX7_forceBits 35 = .ok (.iload_n 3, 1) := by decide +kernel
theorem dX7_forceBits_36 : decode cX7_forceBits 36 = .ok (.iaload, 1) := by decide +kernel
theorem dX7_forceBits_37 : decode cX7_forceBits 37 = .ok (.iconst (-1), 1) := by decide +kernel
theorem dX7_forceBits_38 : decode cX7_forceBits 38 = .ok (.if_icmp .eq 17, 3) := by decide +kernel
theorem dX7_forceBits_41 : decode cX7_forceBits 41 = .ok (.iload_n 2, 1) := by decide +kernel
theorem dX7_forceBits_42 : decode cX7_forceBits 42 = .ok (.aload_n 0, 1) := by decide +kernel
theorem dX7_forceBits_43 : decode cX7_forceBits 43 = .ok (.getfield 19, 3) := by decide +kernel
theorem dX7_forceBits_46 : decode cX7_forceBits 46 = .ok (.iload_n 3, 1) := by decide +kernel
theorem dX7_forceBits_47 : decode cX7_forceBits 47 = .ok (.iaload, 1) := by decide +kernel
theorem dX7_forceBits_48 : decode cX7_forceBits 48 = .ok (.ishr, 1) := by decide +kernel
theorem dX7_forceBits_49 : decode cX7_forceBits 49 = .ok (.iconst 1, 1) := by decide +kernel
theorem dX7_forceBits_50 : decode cX7_forceBits 50 = .ok (.iand, 1) := by decide +kernel
theorem dX7_forceBits_51 : decode cX7_forceBits 51 = .ok (.iconst 1, 1) := by decide +kernel
theorem dX7_forceBits_52 : decode cX7_forceBits 52 = .ok (.if_icmp .ne 7, 3) := by decide +kernel
theorem dX7_forceBits_55 : decode cX7_forceBits 55 = .ok (.iconst 1, 1) := by decide +kernel
theorem dX7_forceBits_56 : decode cX7_forceBits 56 = .ok (.goto 4, 3) := by decide +kernel
theorem dX7_forceBits_59 : decode cX7_forceBits 59 = .ok (.iconst 0, 1) := by decide +kernel
theorem dX7_forceBits_60 : decode cX7_forceBits 60 = .ok (.istore 4, 2) := by decide +kernel
theorem dX7_forceBits_62 : decode cX7_forceBits 62 = .ok (.iload_n 2, 1) := by decide +kernel
theorem dX7_forceBits_63 : decode cX7_forceBits 63 = .ok (.iload 4, 2) := by decide +kernel
theorem dX7_forceBits_65 : decode cX7_forceBits 65 = .ok (.ifCond .eq 9, 3) := by decide +kernel
theorem dX7_forceBits_68 : decode cX7_forceBits 68 = .ok (.iconst 1, 1) := by decide +kernel
theorem dX7_forceBits_69 : decode cX7_forceBits 69 = .ok (.iload_n 3, 1) := by decide +kernel
theorem dX7_forceBits_70 : decode cX7_forceBits 70 = .ok (.ishl, 1) := by decide +kernel
theorem dX7_forceBits_71 : decode cX7_forceBits 71 = .ok (.goto 4, 3) := by decide +kernel
theorem dX7_forceBits_74 : decode cX7_forceBits 74 = .ok (.iconst 0, 1) := by decide +kernel
theorem dX7_forceBits_75 : decode cX7_forceBits 75 = .ok (.ior, 1) := by decide +kernel
theorem dX7_forceBits_76 : decode cX7_forceBits 76 = .ok (.istore_n 2, 1) := by decide +kernel
theorem dX7_forceBits_77 : decode cX7_forceBits 77 = .ok (.iinc 3 1, 3) := by decide +kernel
theorem dX7_forceBits_80 : decode cX7_forceBits 80 = .ok (.goto (-76), 3) := by decide +kernel
theorem dX7_forceBits_83 : decode cX7_forceBits 83 = .ok (.iload_n 2, 1) := by decide +kernel
theorem dX7_forceBits_84 : decode cX7_forceBits 84 = .ok (.ireturn, 1) := by decide +kernel
theorem dX7_rainOf_0 : decode cX7_rainOf 0 = .ok (.aload_n 0, 1) := by decide +kernel
theorem dX7_rainOf_1 : decode cX7_rainOf 1 = .ok (.getfield 25, 3) := by decide +kernel
theorem dX7_rainOf_4 : decode cX7_rainOf 4 = .ok (.iload_n 1, 1) := by decide +kernel
theorem dX7_rainOf_5 : decode cX7_rainOf 5 = .ok (.aload_n 0, 1) := by decide +kernel
theorem dX7_rainOf_6 : decode cX7_rainOf 6 = .ok (.getfield 91, 3) := by decide +kernel
theorem dX7_rainOf_9 : decode cX7_rainOf 9 = .ok (.irem, 1) := by decide +kernel
theorem dX7_rainOf_10 : decode cX7_rainOf 10 = .ok (.iaload, 1) := by decide +kernel
theorem dX7_rainOf_11 : decode cX7_rainOf 11 = .ok (.ireturn, 1) := by decide +kernel
set_option maxRecDepth 20000 in
theorem ggX7_rain_X7_lacks : GoodIn wsX7_rain wsX7_lacks := goodIn_r _ [5, 6, 13, 14, 15, 16, 17, 18, 19, 20, 21, 22, 23, 24, 25, 26, 27, 28, 29, 30, 31, 32, 33, 34, 35, 36, 37, 38, 39, 40, 41] (by decide +kernel) (by decide +kernel)
set_option maxRecDepth 20000 in
theorem gX7_rain_X7_lacks : GoodIn wsX7_rain (wsV RX7 118 RX7 yX7_lacks wsX7_lacks) := goodIn_app (goodIn_of _ (by decide +kernel)) ggX7_rain_X7_lacks
set_option maxRecDepth 20000 in
theorem ggX7_rain_X7_rainOf : GoodIn wsX7_rain wsX7_rainOf := goodIn_r _ [10, 11, 12, 13, 14, 15, 16, 17, 18, 19, 20, 21, 22, 23, 24, 25, 26, 27, 28, 29, 30, 31, 32, 33, 34, 35, 36, 37, 38, 39, 40, 41] (by decide +kernel) (by decide +kernel)
set_option maxRecDepth 20000 in
theorem gX7_rain_X7_rainOf : GoodIn wsX7_rain (wsV RX7 122 RX7 yX7_rainOf wsX7_rainOf) := goodIn_app (goodIn_of _ (by decide +kernel)) ggX7_rain_X7_rainOf
theorem dX7_rain_0 : decode cX7_rain 0 = .ok (.iload_n 1, 1) := by decide +kernel
theorem dX7_rain_1 : decode cX7_rain 1 = .ok (.ifCond .ge 6, 3) := by decide +kernel
theorem dX7_rain_4 : decode cX7_rain 4 = .ok (.bipush (-102), 2) := by decide +kernel
theorem dX7_rain_6 : decode cX7_rain 6 = .ok (.ireturn, 1) := by decide +kernel
theorem dX7_rain_7 : decode cX7_rain 7 = .ok (.aload_n 0, 1) := by decide +kernel
theorem dX7_rain_8 : decode cX7_rain 8 = .ok (.invokevirtual 118, 3) := by decide +kernel
theorem dX7_rain_11 : decode cX7_rain 11 = .ok (.ifCond .eq 8, 3) := by decide +kernel
theorem dX7_rain_14 : decode cX7_rain 14 = .ok (.bipush (-103), 2) := by decide +kernel
theorem dX7_rain_16 : decode cX7_rain 16 = .ok (.goto 8, 3) := by decide +kernel
theorem dX7_rain_19 : decode cX7_rain 19 = .ok (.aload_n 0, 1) := by decide +kernel
theorem dX7_rain_20 : decode cX7_rain 20 = .ok (.iload_n 1, 1) := by decide +kernel
theorem dX7_rain_21 : decode cX7_rain 21 = .ok (.invokevirtual 122, 3) := by decide +kernel
theorem dX7_rain_24 : decode cX7_rain 24 = .ok (.ireturn, 1) := by decide +kernel
set_option maxRecDepth 20000 in
theorem ggX7_goOn_X7_rainOf : GoodIn wsX7_goOn wsX7_rainOf := goodIn_r _ [7, 8, 9, 29, 30, 31, 32, 33, 34, 35, 36, 37, 38, 39, 40, 41, 42, 43, 44, 45, 46, 47, 48, 49, 50, 51, 52, 53, 54, 55, 56, 57] (by decide +kernel) (by decide +kernel)
set_option maxRecDepth 20000 in
theorem gX7_goOn_X7_rainOf : GoodIn wsX7_goOn (wsV RX7 122 RX7 yX7_rainOf wsX7_rainOf) := goodIn_app (goodIn_of _ (by decide +kernel)) ggX7_goOn_X7_rainOf
set_option maxRecDepth 20000 in
theorem ggX7_goOn_X7_grow : GoodIn wsX7_goOn wsX7_grow := goodIn_r _ [13, 14, 15, 16, 17, 18, 19, 6, 20, 21, 22, 23, 24, 25, 26, 27, 28, 29, 30, 31, 32, 33, 34, 35, 36, 37, 38, 39, 40, 41, 42, 43, 44, 45, 46, 47, 48, 49, 50, 51, 52, 53, 54, 55, 56, 57] (by decide +kernel) (by decide +kernel)
set_option maxRecDepth 20000 in
theorem gX7_goOn_X7_grow : GoodIn wsX7_goOn (wsV RX7 125 RX7 yX7_grow wsX7_grow) := goodIn_app (goodIn_of _ (by decide +kernel)) ggX7_goOn_X7_grow
theorem dX7_goOn_0 : decode cX7_goOn 0 = .ok (.iconst 0, 1) := by decide +kernel
theorem dX7_goOn_1 : decode cX7_goOn 1 = .ok (.istore_n 2, 1) := by decide +kernel
theorem dX7_goOn_2 : decode cX7_goOn 2 = .ok (.iload_n 2, 1) := by decide +kernel
theorem dX7_goOn_3 : decode cX7_goOn 3 = .ok (.iload_n 1, 1) := by decide +kernel
theorem dX7_goOn_4 : decode cX7_goOn 4 = .ok (.if_icmp .ge 27, 3) := by decide +kernel
theorem dX7_goOn_7 : decode cX7_goOn 7 = .ok (.aload_n 0, 1) := by decide +kernel
theorem dX7_goOn_8 : decode cX7_goOn 8 = .ok (.aload_n 0, 1) := by decide +kernel
theorem dX7_goOn_9 : decode cX7_goOn 9 = .ok (.getfield 28, 3) := by decide +kernel
theorem dX7_goOn_12 : decode cX7_goOn 12 = .ok (.aload_n 0, 1) := by decide +kernel
theorem dX7_goOn_13 : decode cX7_goOn 13 = .ok (.aload_n 0, 1) := by decide +kernel
theorem dX7_goOn_14 : decode cX7_goOn 14 = .ok (.getfield 94, 3) := by decide +kernel
theorem dX7_goOn_17 : decode cX7_goOn 17 = .ok (.iload_n 2, 1) := by decide +kernel
theorem dX7_goOn_18 : decode cX7_goOn 18 = .ok (.iadd, 1) := by decide +kernel
theorem dX7_goOn_19 : decode cX7_goOn 19 = .ok (.invokevirtual 122, 3) := by decide +kernel
theorem dX7_goOn_22 : decode cX7_goOn 22 = .ok (.invokevirtual 125, 3) := by decide +kernel
theorem dX7_goOn_25 : decode cX7_goOn 25 = .ok (.iinc 2 1, 3) := by decide +kernel
theorem dX7_goOn_28 : decode cX7_goOn 28 = .ok (.goto (-26), 3) := by decide +kernel
theorem dX7_goOn_31 : decode cX7_goOn 31 = .ok (.return_, 1) := by decide +kernel
set_option maxRecDepth 20000 in
theorem ggX7_begin_X7_copy : GoodIn wsX7_begin wsX7_copy := goodIn_r _ [6] (by decide +kernel) (by decide +kernel)
set_option maxRecDepth 20000 in
theorem gX7_begin_X7_copy : GoodIn wsX7_begin (va_wsS RX7 129 yX7_copy wsX7_copy) := goodIn_app (goodIn_of _ (by decide +kernel)) ggX7_begin_X7_copy
set_option maxRecDepth 20000 in
theorem ggX7_begin_X7_goOn : GoodIn wsX7_begin wsX7_goOn := goodIn_r _ [10, 2, 11, 12, 13, 14, 5, 15, 16, 17, 18, 19, 20, 21, 22, 23, 24, 25, 26, 27, 28, 29, 30, 31, 32, 33, 34, 35, 36, 37, 38, 39, 40, 41, 42, 43, 44, 45, 46, 47, 48, 49, 50, 51, 52, 53, 54, 55, 56, 57, 58, 59, 60, 61, 62, 63, 64, 65] (by decide +kernel) (by decide +kernel)
set_option maxRecDepth 20000 in
theorem gX7_begin_X7_goOn : GoodIn wsX7_begin (wsV RX7 133 RX7 yX7_goOn wsX7_goOn) := goodIn_app (goodIn_of _ (by decide +kernel)) ggX7_begin_X7_goOn
theorem dX7_begin_0 : decode cX7_begin 0 = .ok (.aload_n 0, 1) := by decide +kernel
theorem dX7_begin_1 : decode cX7_begin 1 = .ok (.getfield 22, 3) := by decide +kernel
theorem dX7_begin_4 : decode cX7_begin 4 = .ok (.aload_n 0, 1) := by decide +kernel
theorem dX7_begin_5 : decode cX7_begin 5 = .ok (.getfield 28, 3) := by decide +kernel
theorem dX7_begin_8 : decode cX7_begin 8 = .ok (.invokestatic 129, 3) := by decide +kernel
theorem dX7_begin_11 : decode cX7_begin 11 = .ok (.aload_n 0, 1) := by decide +kernel
theorem dX7_begin_12 : decode cX7_begin 12 = .ok (.iload_n 1, 1) := by decide +kernel
theorem dX7_begin_13 : decode cX7_begin 13 = .ok (.invokevirtual 133, 3) := by decide +kernel
theorem dX7_begin_16 : decode cX7_begin 16 = .ok (.return_, 1) := by decide +kernel
set_option maxRecDepth 20000 in
theorem ggX7_layWhen_X7_copy : GoodIn wsX7_layWhen wsX7_copy := goodIn_r _ [9] (by decide +kernel) (by decide +kernel)
set_option maxRecDepth 20000 in
theorem gX7_layWhen_X7_copy : GoodIn wsX7_layWhen (va_wsS RX7 129 yX7_copy wsX7_copy) := goodIn_app (goodIn_of _ (by decide +kernel)) ggX7_layWhen_X7_copy
set_option maxRecDepth 20000 in
theorem ggX7_layWhen_X7_isClosed : GoodIn wsX7_layWhen wsX7_isClosed := goodIn_r _ [13, 14, 34, 35, 36, 37, 38, 39, 40, 41, 42, 43, 44, 45, 46, 47, 48, 49, 50, 51, 52, 53, 54, 55, 56, 57, 58, 59, 60, 61, 62] (by decide +kernel) (by decide +kernel)
set_option maxRecDepth 20000 in
theorem gX7_layWhen_X7_isClosed : GoodIn wsX7_layWhen (wsV RX7 106 RX7 yX7_isClosed wsX7_isClosed) := goodIn_app (goodIn_of _ (by decide +kernel)) ggX7_layWhen_X7_isClosed
set_option maxRecDepth 20000 in
theorem ggX7_layWhen_X7_rainOf : GoodIn wsX7_layWhen wsX7_rainOf := goodIn_r _ [18, 19, 20, 34, 35, 36, 37, 38, 39, 40, 41, 42, 43, 44, 45, 46, 47, 48, 49, 50, 51, 52, 53, 54, 55, 56, 57, 58, 59, 60, 61, 62] (by decide +kernel) (by decide +kernel)
set_option maxRecDepth 20000 in
theorem gX7_layWhen_X7_rainOf : GoodIn wsX7_layWhen (wsV RX7 122 RX7 yX7_rainOf wsX7_rainOf) := goodIn_app (goodIn_of _ (by decide +kernel)) ggX7_layWhen_X7_rainOf
set_option maxRecDepth 20000 in
theorem ggX7_layWhen_X7_grow : GoodIn wsX7_layWhen wsX7_grow := goodIn_r _ [24, 3, 25, 26, 27, 28, 29, 8, 30, 10, 11, 12, 13, 14, 31, 32, 33, 34, 35, 36, 37, 38, 39, 40, 41, 42, 43, 44, 45, 46, 47, 48, 49, 50, 51, 52, 53, 54, 55, 56, 57, 58, 59, 60, 61, 62] (by decide +kernel) (by decide +kernel)
set_option maxRecDepth 20000 in
theorem gX7_layWhen_X7_grow : GoodIn wsX7_layWhen (wsV RX7 125 RX7 yX7_grow wsX7_grow) := goodIn_app (goodIn_of _ (by decide +kernel)) ggX7_layWhen_X7_grow
theorem dX7_layWhen_0 : decode cX7_layWhen 0 = .ok (.aload_n 0, 1) := by decide +kernel
theorem dX7_layWhen_1 : decode cX7_layWhen 1 = .ok (.getfield 22, 3) := by decide +kernel
theorem dX7_layWhen_4 : decode cX7_layWhen 4 = .ok (.aload_n 0, 1) := by decide +kernel
theorem dX7_layWhen_5 : decode cX7_layWhen 5 = .ok (.getfield 28, 3) := by decide +kernel
theorem dX7_layWhen_8 : decode cX7_layWhen 8 = .ok (.invokestatic 129, 3) := by decide +kernel
theorem dX7_layWhen_11 : decode cX7_layWhen 11 = .ok (.iconst 0, 1) := by decide +kernel
theorem dX7_layWhen_12 : decode cX7_layWhen 12 = .ok (.istore_n 1, 1) := by decide +kernel
theorem dX7_layWhen_13 : decode cX7_layWhen 13 = .ok (.iload_n 1, 1) := by decide +kernel
theorem dX7_layWhen_14 : decode cX7_layWhen 14 = .ok (.aload_n 0, 1) := by decide +kernel
theorem dX7_layWhen_15 : decode cX7_layWhen 15 = .ok (.getfield 88, 3) := by decide +kernel
theorem dX7_layWhen_18 : decode cX7_layWhen 18 = .ok (.if_icmp .ge 16, 3) := by decide +kernel
theorem dX7_layWhen_21 : decode cX7_layWhen 21 = .ok (.aload_n 0, 1) := by decide +kernel
theorem dX7_layWhen_22 : decode cX7_layWhen 22 = .ok (.getfield 31, 3) := by decide +kernel
theorem dX7_layWhen_25 : decode cX7_layWhen 25 = .ok (.iload_n 1, 1) := by decide +kernel
theorem dX7_layWhen_26 : decode cX7_layWhen 26 = .ok (.iconst (-1), 1) := by decide +kernel
theorem dX7_layWhen_27 : decode cX7_layWhen 27 = .ok (.iastore, 1) := by decide +kernel
theorem dX7_layWhen_28 : decode cX7_layWhen 28 = .ok (.iinc 1 1, 3) := by decide +kernel
theorem dX7_layWhen_31 : decode cX7_layWhen 31 = .ok (.goto (-18), 3) := by decide +kernel
theorem dX7_layWhen_34 : decode cX7_layWhen 34 = .ok (.iconst 0, 1) := by decide +kernel
theorem dX7_layWhen_35 : decode cX7_layWhen 35 = .ok (.istore_n 1, 1) := by decide +kernel
theorem dX7_layWhen_36 : decode cX7_layWhen 36 = .ok (.iload_n 1, 1) := by decide +kernel
theorem dX7_layWhen_37 : decode cX7_layWhen 37 = .ok (.bipush 41, 2) := by decide +kernel
theorem dX7_layWhen_39 : decode cX7_layWhen 39 = .ok (.if_icmp .ge 81, 3) := by decide +kernel
theorem dX7_layWhen_42 : decode cX7_layWhen 42 = .ok (.iconst 0, 1) := by decide +kernel
theorem dX7_layWhen_43 : decode cX7_layWhen 43 = .ok (.istore_n 2, 1) := by decide +kernel
theorem dX7_layWhen_44 : decode cX7_layWhen 44 = .ok (.iload_n 2, 1) := by decide +kernel
theorem dX7_layWhen_45 : decode cX7_layWhen 45 = .ok (.aload_n 0, 1) := by decide +kernel
theorem dX7_layWhen_46 : decode cX7_layWhen 46 = .ok (.getfield 88, 3) := by decide +kernel
theorem dX7_layWhen_49 : decode cX7_layWhen 49 = .ok (.if_icmp .ge 47, 3) := by decide +kernel
theorem dX7_layWhen_52 : decode cX7_layWhen 52 = .ok (.aload_n 0, 1) := by decide +kernel
theorem dX7_layWhen_53 : decode cX7_layWhen 53 = .ok (.getfield 31, 3) := by decide +kernel
theorem dX7_layWhen_56 : decode cX7_layWhen 56 = .ok (.iload_n 2, 1) := by decide +kernel
theorem dX7_layWhen_57 : decode cX7_layWhen 57 = .ok (.aload_n 0, 1) := by decide +kernel
theorem dX7_layWhen_58 : decode cX7_layWhen 58 = .ok (.getfield 31, 3) := by decide +kernel
theorem dX7_layWhen_61 : decode cX7_layWhen 61 = .ok (.iload_n 2, 1) := by decide +kernel
theorem dX7_layWhen_62 : decode cX7_layWhen 62 = .ok (.iaload, 1) := by decide +kernel
theorem dX7_layWhen_63 : decode cX7_layWhen 63 = .ok (.iconst (-1), 1) := by decide +kernel
theorem dX7_layWhen_64 : decode cX7_layWhen 64 = .ok (.if_icmp .ne 19, 3) := by decide +kernel
theorem dX7_layWhen_67 : decode cX7_layWhen 67 = .ok (.aload_n 0, 1) := by decide +kernel
theorem dX7_layWhen_68 : decode cX7_layWhen 68 = .ok (.aload_n 0, 1) := by decide +kernel
theorem dX7_layWhen_69 : decode cX7_layWhen 69 = .ok (.getfield 28, 3) := by decide +kernel
theorem dX7_layWhen_72 : decode cX7_layWhen 72 = .ok (.iload_n 2, 1) := by decide +kernel
theorem dX7_layWhen_73 : decode cX7_layWhen 73 = .ok (.invokevirtual 106, 3) := by decide +kernel
theorem dX7_layWhen_76 : decode cX7_layWhen 76 = .ok (.ifCond .eq 7, 3) := by decide +kernel
theorem dX7_layWhen_79 : decode cX7_layWhen 79 = .ok (.iload_n 1, 1) := by decide +kernel
theorem dX7_layWhen_80 : decode cX7_layWhen 80 = .ok (.goto 9, 3) := by decide +kernel
theorem dX7_layWhen_83 : decode cX7_layWhen 83 = .ok (.aload_n 0, 1) := by decide +kernel
theorem dX7_layWhen_84 : decode cX7_layWhen 84 = .ok (.getfield 31, 3) := by decide +kernel
theorem dX7_layWhen_87 : decode cX7_layWhen 87 = .ok (.iload_n 2, 1) := by decide +kernel
theorem dX7_layWhen_88 : decode cX7_layWhen 88 = .ok (.iaload, 1) := by decide +kernel
theorem dX7_layWhen_89 : decode cX7_layWhen 89 = .ok (.iastore, 1) := by decide +kernel
theorem dX7_layWhen_90 : decode cX7_layWhen 90 = .ok (.iinc 2 1, 3) := by decide +kernel
theorem dX7_layWhen_93 : decode cX7_layWhen 93 = .ok (.goto (-49), 3) := by decide +kernel
theorem dX7_layWhen_96 : decode cX7_layWhen 96 = .ok (.aload_n 0, 1) := by decide +kernel
theorem dX7_layWhen_97 : decode cX7_layWhen 97 = .ok (.aload_n 0, 1) := by decide +kernel
theorem dX7_layWhen_98 : decode cX7_layWhen 98 = .ok (.getfield 28, 3) := by decide +kernel
theorem dX7_layWhen_101 : decode cX7_layWhen 101 = .ok (.aload_n 0, 1) := by decide +kernel
theorem dX7_layWhen_102 : decode cX7_layWhen 102 = .ok (.aload_n 0, 1) := by decide +kernel
theorem dX7_layWhen_103 : decode cX7_layWhen 103 = .ok (.getfield 94, 3) := by decide +kernel
theorem dX7_layWhen_106 : decode cX7_layWhen 106 = .ok (.iload_n 1, 1) := by decide +kernel
theorem dX7_layWhen_107 : decode cX7_layWhen 107 = .ok (.iadd, 1) := by decide +kernel
theorem dX7_layWhen_108 : decode cX7_layWhen 108 = .ok (.invokevirtual 122, 3) := by decide +kernel
theorem dX7_layWhen_111 : decode cX7_layWhen 111 = .ok (.invokevirtual 125, 3) := by decide +kernel
theorem dX7_layWhen_114 : decode cX7_layWhen 114 = .ok (.iinc 1 1, 3) := by decide +kernel
theorem dX7_layWhen_117 : decode cX7_layWhen 117 = .ok (.goto (-81), 3) := by decide +kernel
theorem dX7_layWhen_120 : decode cX7_layWhen 120 = .ok (.return_, 1) := by decide +kernel
set_option maxRecDepth 20000 in
theorem ggX7_whenOf_X7_layWhen : GoodIn wsX7_whenOf wsX7_layWhen := goodIn_r _ [6, 7, 8, 9, 1, 10, 11, 12, 5, 13, 14, 15, 16, 17, 18, 19, 20, 21, 22, 23, 24, 25, 26, 27, 28, 29, 30, 31, 32, 33, 34, 35, 36, 37, 38, 39, 40, 41, 42, 43, 44, 45, 46, 47, 48, 49, 50, 51, 52, 53, 54, 55, 56, 57, 58, 59, 60, 61, 62, 63, 64, 65, 66] (by decide +kernel) (by decide +kernel)
set_option maxRecDepth 20000 in
theorem gX7_whenOf_X7_layWhen : GoodIn wsX7_whenOf (wsV RX7 137 RX7 yX7_layWhen wsX7_layWhen) := goodIn_app (goodIn_of _ (by decide +kernel)) ggX7_whenOf_X7_layWhen
theorem dX7_whenOf_0 : decode cX7_whenOf 0 = .ok (.aload_n 0, 1) := by decide +kernel
theorem dX7_whenOf_1 : decode cX7_whenOf 1 = .ok (.invokevirtual 137, 3) := by decide +kernel
theorem dX7_whenOf_4 : decode cX7_whenOf 4 = .ok (.aload_n 0, 1) := by decide +kernel
theorem dX7_whenOf_5 : decode cX7_whenOf 5 = .ok (.getfield 31, 3) := by decide +kernel
theorem dX7_whenOf_8 : decode cX7_whenOf 8 = .ok (.iload_n 1, 1) := by decide +kernel
theorem dX7_whenOf_9 : decode cX7_whenOf 9 = .ok (.iaload, 1) := by decide +kernel
theorem dX7_whenOf_10 : decode cX7_whenOf 10 = .ok (.ireturn, 1) := by decide +kernel
set_option maxRecDepth 20000 in
theorem ggX7_forceOf_X7_begin : GoodIn wsX7_forceOf wsX7_begin := goodIn_r _ [6, 7, 1, 8, 9, 5, 10, 11, 12, 13, 14, 15, 16, 17, 18, 19, 20, 21, 22, 23, 24, 25, 26, 27, 28, 29, 30, 31, 32, 33, 34, 35, 36, 37, 38, 39, 40, 45, 46, 47, 48, 49, 50, 51, 52, 53, 54, 55, 56, 57, 58, 59, 60, 61, 62, 63, 64, 65, 66, 67, 68, 69, 70, 71, 72, 73] (by decide +kernel) (by decide +kernel)
set_option maxRecDepth 20000 in
theorem gX7_forceOf_X7_begin : GoodIn wsX7_forceOf (wsV RX7 140 RX7 yX7_begin wsX7_begin) := goodIn_app (goodIn_of _ (by decide +kernel)) ggX7_forceOf_X7_begin
set_option maxRecDepth 20000 in
theorem ggX7_forceOf_X7_forceBits : GoodIn wsX7_forceOf wsX7_forceBits := goodIn_r _ [44, 26, 28, 27, 33, 34, 35, 5, 36, 37, 45, 46, 47, 48, 49, 50, 51, 52, 53, 54, 55, 56, 57, 58, 59, 60, 61, 62, 63, 64, 65, 66, 67, 68, 69, 70, 71, 72, 73] (by decide +kernel) (by decide +kernel)
set_option maxRecDepth 20000 in
theorem gX7_forceOf_X7_forceBits : GoodIn wsX7_forceOf (wsV RX7 143 RX7 yX7_forceBits wsX7_forceBits) := goodIn_app (goodIn_of _ (by decide +kernel)) ggX7_forceOf_X7_forceBits
theorem dX7_forceOf_0 : decode cX7_forceOf 0 = .ok (.aload_n 0, 1) := by decide +kernel
theorem dX7_forceOf_1 : decode cX7_forceOf 1 = .ok (.iload_n 1, 1) := by decide +kernel
theorem dX7_forceOf_2 : decode cX7_forceOf 2 = .ok (.invokevirtual 140, 3) := by decide +kernel
theorem dX7_forceOf_5 : decode cX7_forceOf 5 = .ok (.aload_n 0, 1) := by decide +kernel
theorem dX7_forceOf_6 : decode cX7_forceOf 6 = .ok (.aload_n 0, 1) := by decide +kernel
theorem dX7_forceOf_7 : decode cX7_forceOf 7 = .ok (.getfield 28, 3) := by decide +kernel
theorem dX7_forceOf_10 : decode cX7_forceOf 10 = .ok (.invokevirtual 143, 3) := by decide +kernel
theorem dX7_forceOf_13 : decode cX7_forceOf 13 = .ok (.ireturn, 1) := by decide +kernel
set_option maxRecDepth 20000 in
theorem ggX7_force_X7_in : GoodIn wsX7_force wsX7_in := goodIn_r _ [5] (by decide +kernel) (by decide +kernel)
set_option maxRecDepth 20000 in
theorem gX7_force_X7_in : GoodIn wsX7_force (va_wsS RX7 58 yX7_in wsX7_in) := goodIn_app (goodIn_of _ (by decide +kernel)) ggX7_force_X7_in
set_option maxRecDepth 20000 in
theorem ggX7_force_X7_lacks : GoodIn wsX7_force wsX7_lacks := goodIn_r _ [9, 10, 57, 58, 59, 60, 61, 62, 63, 64, 65, 66, 67, 68, 69, 70, 71, 72, 73, 74, 75, 76, 77, 78, 79, 80, 81, 82, 83, 84, 85] (by decide +kernel) (by decide +kernel)
set_option maxRecDepth 20000 in
theorem gX7_force_X7_lacks : GoodIn wsX7_force (wsV RX7 118 RX7 yX7_lacks wsX7_lacks) := goodIn_app (goodIn_of _ (by decide +kernel)) ggX7_force_X7_lacks
set_option maxRecDepth 20000 in
theorem ggX7_force_X7_forceOf : GoodIn wsX7_force wsX7_forceOf := goodIn_r _ [14, 15, 16, 17, 18, 4, 19, 20, 21, 22, 23, 24, 25, 26, 27, 28, 29, 30, 31, 32, 33, 34, 35, 36, 37, 38, 10, 39, 40, 41, 42, 43, 44, 45, 46, 47, 48, 49, 50, 51, 52, 53, 54, 55, 56, 57, 58, 59, 60, 61, 62, 63, 64, 65, 66, 67, 68, 69, 70, 71, 72, 73, 74, 75, 76, 77, 78, 79, 80, 81, 82, 83, 84, 85] (by decide +kernel) (by decide +kernel)
set_option maxRecDepth 20000 in
theorem gX7_force_X7_forceOf : GoodIn wsX7_force (wsV RX7 148 RX7 yX7_forceOf wsX7_forceOf) := goodIn_app (goodIn_of _ (by decide +kernel)) ggX7_force_X7_forceOf
theorem dX7_force_0 : decode cX7_force 0 = .ok (.iload_n 1, 1) := by decide +kernel
theorem dX7_force_1 : decode cX7_force 1 = .ok (.i2l, 1) := by decide +kernel
theorem dX7_force_2 : decode cX7_force 2 = .ok (.lconst 0, 1) := by decide +kernel
theorem dX7_force_3 : decode cX7_force 3 = .ok (.ldc2_w 146, 3) := by decide +kernel
theorem dX7_force_6 : decode cX7_force 6 = .ok (.invokestatic 58, 3) := by decide +kernel
theorem dX7_force_9 : decode cX7_force 9 = .ok (.ifCond .ne 6, 3) := by decide +kernel
theorem dX7_force_12 : decode cX7_force 12 = .ok (.bipush (-102), 2) := by decide +kernel
theorem dX7_force_14 : decode cX7_force 14 = .ok (.ireturn, 1) := by decide +kernel
theorem dX7_force_15 : decode cX7_force 15 = .ok (.aload_n 0, 1) := by decide +kernel
theorem dX7_force_16 : decode cX7_force 16 = .ok (.invokevirtual 118, 3) := by decide +kernel
theorem dX7_force_19 : decode cX7_force 19 = .ok (.ifCond .eq 8, 3) := by decide +kernel
theorem dX7_force_22 : decode cX7_force 22 = .ok (.bipush (-103), 2) := by decide +kernel
theorem dX7_force_24 : decode cX7_force 24 = .ok (.goto 8, 3) := by decide +kernel
theorem dX7_force_27 : decode cX7_force 27 = .ok (.aload_n 0, 1) := by decide +kernel
theorem dX7_force_28 : decode cX7_force 28 = .ok (.iload_n 1, 1) := by decide +kernel
theorem dX7_force_29 : decode cX7_force 29 = .ok (.invokevirtual 148, 3) := by decide +kernel
theorem dX7_force_32 : decode cX7_force 32 = .ok (.ireturn, 1) := by decide +kernel
set_option maxRecDepth 20000 in
theorem ggX7_orderOf_X7_layWhen : GoodIn wsX7_orderOf wsX7_layWhen := goodIn_r _ [7, 8, 9, 1, 2, 10, 11, 12, 6, 13, 14, 15, 16, 17, 18, 19, 20, 21, 22, 23, 24, 25, 26, 27, 28, 29, 30, 31, 32, 33, 34, 35, 36, 37, 38, 39, 40, 41, 42, 43, 44, 45, 46, 47, 48, 49, 50, 51, 52, 53, 54, 55, 56, 57, 58, 59, 60, 61, 62, 63, 64, 65, 66] (by decide +kernel) (by decide +kernel)
set_option maxRecDepth 20000 in
theorem gX7_orderOf_X7_layWhen : GoodIn wsX7_orderOf (wsV RX7 137 RX7 yX7_layWhen wsX7_layWhen) := goodIn_app (goodIn_of _ (by decide +kernel)) ggX7_orderOf_X7_layWhen
theorem dX7_orderOf_0 : decode cX7_orderOf 0 = .ok (.aload_n 0, 1) := by decide +kernel
theorem dX7_orderOf_1 : decode cX7_orderOf 1 = .ok (.invokevirtual 137, 3) := by decide +kernel
theorem dX7_orderOf_4 : decode cX7_orderOf 4 = .ok (.iconst 0, 1) := by decide +kernel
theorem dX7_orderOf_5 : decode cX7_orderOf 5 = .ok (.istore_n 1, 1) := by decide +kernel
theorem dX7_orderOf_6 : decode cX7_orderOf 6 = .ok (.iconst 0, 1) := by decide +kernel
theorem dX7_orderOf_7 : decode cX7_orderOf 7 = .ok (.istore_n 2, 1) := by decide +kernel
theorem dX7_orderOf_8 : decode cX7_orderOf 8 = .ok (.iload_n 2, 1) := by decide +kernel
theorem dX7_orderOf_9 : decode cX7_orderOf 9 = .ok (.bipush 41, 2) := by decide +kernel
theorem dX7_orderOf_11 : decode cX7_orderOf 11 = .ok (.if_icmp .ge 48, 3) := by decide +kernel
theorem dX7_orderOf_14 : decode cX7_orderOf 14 = .ok (.iconst 0, 1) := by decide +kernel
theorem dX7_orderOf_15 : decode cX7_orderOf 15 = .ok (.istore_n 3, 1) := by decide +kernel
theorem dX7_orderOf_16 : decode cX7_orderOf 16 = .ok (.iload_n 3, 1) := by decide +kernel
theorem dX7_orderOf_17 : decode cX7_orderOf 17 = .ok (.aload_n 0, 1) := by decide +kernel
theorem dX7_orderOf_18 : decode cX7_orderOf 18 = .ok (.getfield 88, 3) := by decide +kernel
theorem dX7_orderOf_21 : decode cX7_orderOf 21 = .ok (.if_icmp .ge 32, 3) := by decide +kernel
theorem dX7_orderOf_24 : decode cX7_orderOf 24 = .ok (.aload_n 0, 1) := by decide +kernel
theorem dX7_orderOf_25 : decode cX7_orderOf 25 = .ok (.getfield 31, 3) := by decide +kernel
theorem dX7_orderOf_28 : decode cX7_orderOf 28 = .ok (.iload_n 3, 1) := by decide +kernel
theorem dX7_orderOf_29 : decode cX7_orderOf 29 = .ok (.iaload, 1) := by decide +kernel
theorem dX7_orderOf_30 : decode cX7_orderOf 30 = .ok (.iload_n 2, 1) := by decide +kernel
theorem dX7_orderOf_31 : decode cX7_orderOf 31 = .ok (.if_icmp .ne 14, 3) := by decide +kernel
theorem dX7_orderOf_34 : decode cX7_orderOf 34 = .ok (.bipush 10, 2) := by decide +kernel
theorem dX7_orderOf_36 : decode cX7_orderOf 36 = .ok (.iload_n 1, 1) := by decide +kernel
theorem dX7_orderOf_37 : decode cX7_orderOf 37 = .ok (.imul, 1) := by decide +kernel
theorem dX7_orderOf_38 : decode cX7_orderOf 38 = .ok (.iload_n 3, 1) := by decide +kernel
theorem dX7_orderOf_39 : decode cX7_orderOf 39 = .ok (.iadd, 1) := by decide +kernel
theorem dX7_orderOf_40 : decode cX7_orderOf 40 = .ok (.iconst 1, 1) := by decide +kernel
theorem dX7_orderOf_41 : decode cX7_orderOf 41 = .ok (.iadd, 1) := by decide +kernel
theorem dX7_orderOf_42 : decode cX7_orderOf 42 = .ok (.goto 4, 3) := by decide +kernel
theorem dX7_orderOf_45 : decode cX7_orderOf 45 = .ok (.iload_n 1, 1) := by decide +kernel
theorem dX7_orderOf_46 : decode cX7_orderOf 46 = .ok (.istore_n 1, 1) := by decide +kernel
theorem dX7_orderOf_47 : decode cX7_orderOf 47 = .ok (.iinc 3 1, 3) := by decide +kernel
theorem dX7_orderOf_50 : decode cX7_orderOf 50 = .ok (.goto (-34), 3) := by decide +kernel
theorem dX7_orderOf_53 : decode cX7_orderOf 53 = .ok (.iinc 2 1, 3) := by decide +kernel
theorem dX7_orderOf_56 : decode cX7_orderOf 56 = .ok (.goto (-48), 3) := by decide +kernel
theorem dX7_orderOf_59 : decode cX7_orderOf 59 = .ok (.iload_n 1, 1) := by decide +kernel
theorem dX7_orderOf_60 : decode cX7_orderOf 60 = .ok (.ireturn, 1) := by decide +kernel
set_option maxRecDepth 20000 in
theorem ggX7_order_X7_lacks : GoodIn wsX7_order wsX7_lacks := goodIn_r _ [5, 6, 46, 47, 48, 49, 50, 51, 52, 53, 54, 55, 56, 57, 58, 59, 60, 61, 62, 63, 64, 65, 66, 67, 68, 69, 70, 71, 72, 73, 74] (by decide +kernel) (by decide +kernel)
set_option maxRecDepth 20000 in
theorem gX7_order_X7_lacks : GoodIn wsX7_order (wsV RX7 118 RX7 yX7_lacks wsX7_lacks) := goodIn_app (goodIn_of _ (by decide +kernel)) ggX7_order_X7_lacks
set_option maxRecDepth 20000 in
theorem ggX7_order_X7_orderOf : GoodIn wsX7_order wsX7_orderOf := goodIn_r _ [10, 6, 11, 12, 13, 14, 4, 15, 16, 17, 18, 19, 20, 21, 22, 23, 24, 25, 26, 27, 28, 29, 30, 31, 32, 33, 34, 35, 36, 37, 38, 39, 40, 41, 42, 43, 44, 45, 46, 47, 48, 49, 50, 51, 52, 53, 54, 55, 56, 57, 58, 59, 60, 61, 62, 63, 64, 65, 66, 67, 68, 69, 70, 71, 72, 73, 74] (by decide +kernel) (by decide +kernel)
set_option maxRecDepth 20000 in
theorem gX7_order_X7_orderOf : GoodIn wsX7_order (wsV RX7 151 RX7 yX7_orderOf wsX7_orderOf) := goodIn_app (goodIn_of _ (by decide +kernel)) ggX7_order_X7_orderOf
theorem dX7_order_0 : decode cX7_order 0 = .ok (.aload_n 0, 1) := by decide +kernel
theorem dX7_order_1 : decode cX7_order 1 = .ok (.invokevirtual 118, 3) := by decide +kernel
theorem dX7_order_4 : decode cX7_order 4 = .ok (.ifCond .eq 8, 3) := by decide +kernel
theorem dX7_order_7 : decode cX7_order 7 = .ok (.bipush (-103), 2) := by decide +kernel
theorem dX7_order_9 : decode cX7_order 9 = .ok (.goto 7, 3) := by decide +kernel
theorem dX7_order_12 : decode cX7_order 12 = .ok (.aload_n 0, 1) := by decide +kernel
theorem dX7_order_13 : decode cX7_order 13 = .ok (.invokevirtual 151, 3) := by decide +kernel
theorem dX7_order_16 : decode cX7_order 16 = .ok (.ireturn, 1) := by decide +kernel
set_option maxRecDepth 20000 in
theorem ggX7_isEnough_X7_copy : GoodIn wsX7_isEnough wsX7_copy := goodIn_r _ [6] (by decide +kernel) (by decide +kernel)
set_option maxRecDepth 20000 in
theorem gX7_isEnough_X7_copy : GoodIn wsX7_isEnough (va_wsS RX7 129 yX7_copy wsX7_copy) := goodIn_app (goodIn_of _ (by decide +kernel)) ggX7_isEnough_X7_copy
set_option maxRecDepth 20000 in
theorem ggX7_isEnough_X7_goOn : GoodIn wsX7_isEnough wsX7_goOn := goodIn_r _ [10, 2, 11, 12, 13, 14, 5, 15, 16, 17, 18, 19, 20, 21, 22, 23, 24, 25, 26, 27, 28, 29, 30, 31, 32, 33, 34, 35, 36, 37, 38, 39, 40, 41, 42, 43, 44, 45, 46, 47, 48, 49, 50, 51, 52, 53, 54, 55, 56, 57, 58, 59, 60, 61, 62, 63, 64, 65] (by decide +kernel) (by decide +kernel)
set_option maxRecDepth 20000 in
theorem gX7_isEnough_X7_goOn : GoodIn wsX7_isEnough (wsV RX7 133 RX7 yX7_goOn wsX7_goOn) := goodIn_app (goodIn_of _ (by decide +kernel)) ggX7_isEnough_X7_goOn
set_option maxRecDepth 20000 in
theorem ggX7_isEnough_X7_closedBits : GoodIn wsX7_isEnough wsX7_closedBits := goodIn_r _ [28, 22, 29, 30, 31, 5, 32, 33, 37, 38, 39, 40, 41, 42, 43, 44, 45, 46, 47, 48, 49, 50, 51, 52, 53, 54, 55, 56, 57, 58, 59, 60, 61, 62, 63, 64, 65] (by decide +kernel) (by decide +kernel)
set_option maxRecDepth 20000 in
theorem gX7_isEnough_X7_closedBits : GoodIn wsX7_isEnough (wsV RX7 110 RX7 yX7_closedBits wsX7_closedBits) := goodIn_app (goodIn_of _ (by decide +kernel)) ggX7_isEnough_X7_closedBits
theorem dX7_isEnough_0 : decode cX7_isEnough 0 = .ok (.aload_n 0, 1) := by decide +kernel
theorem dX7_isEnough_1 : decode cX7_isEnough 1 = .ok (.getfield 22, 3) := by decide +kernel
theorem dX7_isEnough_4 : decode cX7_isEnough 4 = .ok (.aload_n 0, 1) := by decide +kernel
theorem dX7_isEnough_5 : decode cX7_isEnough 5 = .ok (.getfield 28, 3) := by decide +kernel
theorem dX7_isEnough_8 : decode cX7_isEnough 8 = .ok (.invokestatic 129, 3) := by decide +kernel
theorem dX7_isEnough_11 : decode cX7_isEnough 11 = .ok (.iload_n 1, 1) := by decide +kernel
theorem dX7_isEnough_12 : decode cX7_isEnough 12 = .ok (.istore 4, 2) := by decide +kernel
theorem dX7_isEnough_14 : decode cX7_isEnough 14 = .ok (.iload 4, 2) := by decide +kernel
theorem dX7_isEnough_16 : decode cX7_isEnough 16 = .ok (.ifCond .le 29, 3) := by decide +kernel
theorem dX7_isEnough_19 : decode cX7_isEnough 19 = .ok (.aload_n 0, 1) := by decide +kernel
theorem dX7_isEnough_20 : decode cX7_isEnough 20 = .ok (.getfield 28, 3) := by decide +kernel
theorem dX7_isEnough_23 : decode cX7_isEnough 23 = .ok (.iload 4, 2) := by decide +kernel
theorem dX7_isEnough_25 : decode cX7_isEnough 25 = .ok (.bipush 10, 2) := by decide +kernel
theorem dX7_isEnough_27 : decode cX7_isEnough 27 = .ok (.irem, 1) := by decide +kernel
theorem dX7_isEnough_28 : decode cX7_isEnough 28 = .ok (.iconst 1, 1) := by decide +kernel
theorem dX7_isEnough_29 : decode cX7_isEnough 29 = .ok (.isub, 1) := by decide +kernel
theorem dX7_isEnough_30 : decode cX7_isEnough 30 = .ok (.dup2, 1) := by decide +kernel
theorem dX7_isEnough_31 : decode cX7_isEnough 31 = .ok (.iaload, 1) := by decide +kernel
theorem dX7_isEnough_32 : decode cX7_isEnough 32 = .ok (.iconst 1, 1) := by decide +kernel
theorem dX7_isEnough_33 : decode cX7_isEnough 33 = .ok (.iadd, 1) := by decide +kernel
theorem dX7_isEnough_34 : decode cX7_isEnough 34 = .ok (.iastore, 1) := by decide +kernel
theorem dX7_isEnough_35 : decode cX7_isEnough 35 = .ok (.iload 4, 2) := by decide +kernel
theorem dX7_isEnough_37 : decode cX7_isEnough 37 = .ok (.bipush 10, 2) := by decide +kernel
theorem dX7_isEnough_39 : decode cX7_isEnough 39 = .ok (.idiv, 1) := by decide +kernel
theorem dX7_isEnough_40 : decode cX7_isEnough 40 = .ok (.istore 4, 2) := by decide +kernel
theorem dX7_isEnough_42 : decode cX7_isEnough 42 = .ok (.goto (-28), 3) := by decide +kernel
theorem dX7_isEnough_45 : decode cX7_isEnough 45 = .ok (.aload_n 0, 1) := by decide +kernel
theorem dX7_isEnough_46 : decode cX7_isEnough 46 = .ok (.iload_n 3, 1) := by decide +kernel
theorem dX7_isEnough_47 : decode cX7_isEnough 47 = .ok (.invokevirtual 133, 3) := by decide +kernel
theorem dX7_isEnough_50 : decode cX7_isEnough 50 = .ok (.aload_n 0, 1) := by decide +kernel
theorem dX7_isEnough_51 : decode cX7_isEnough 51 = .ok (.aload_n 0, 1) := by decide +kernel
theorem dX7_isEnough_52 : decode cX7_isEnough 52 = .ok (.getfield 28, 3) := by decide +kernel
theorem dX7_isEnough_55 : decode cX7_isEnough 55 = .ok (.invokevirtual 110, 3) := by decide +kernel
theorem dX7_isEnough_58 : decode cX7_isEnough 58 = .ok (.iload_n 2, 1) := by decide +kernel
theorem dX7_isEnough_59 : decode cX7_isEnough 59 = .ok (.iand, 1) := by decide +kernel
theorem dX7_isEnough_60 : decode cX7_isEnough 60 = .ok (.iload_n 2, 1) := by decide +kernel
theorem dX7_isEnough_61 : decode cX7_isEnough 61 = .ok (.if_icmp .ne 7, 3) := by decide +kernel
theorem dX7_isEnough_64 : decode cX7_isEnough 64 = .ok (.iconst 1, 1) := by decide +kernel
theorem dX7_isEnough_65 : decode cX7_isEnough 65 = .ok (.goto 4, 3) := by decide +kernel
theorem dX7_isEnough_68 : decode cX7_isEnough 68 = .ok (.iconst 0, 1) := by decide +kernel
theorem dX7_isEnough_69 : decode cX7_isEnough 69 = .ok (.ireturn, 1) := by decide +kernel
set_option maxRecDepth 20000 in
theorem ggX7_isRow_X7_in : GoodIn wsX7_isRow wsX7_in := goodIn_r _ [5] (by decide +kernel) (by decide +kernel)
set_option maxRecDepth 20000 in
theorem gX7_isRow_X7_in : GoodIn wsX7_isRow (va_wsS RX7 58 yX7_in wsX7_in) := goodIn_app (goodIn_of _ (by decide +kernel)) ggX7_isRow_X7_in
theorem dX7_isRow_0 : decode cX7_isRow 0 = .ok (.bipush 10, 2) := by decide +kernel
theorem dX7_isRow_2 : decode cX7_isRow 2 = .ok (.istore_n 2, 1) := by decide +kernel
theorem dX7_isRow_3 : decode cX7_isRow 3 = .ok (.iload_n 1, 1) := by decide +kernel
theorem dX7_isRow_4 : decode cX7_isRow 4 = .ok (.istore_n 3, 1) := by decide +kernel
theorem dX7_isRow_5 : decode cX7_isRow 5 = .ok (.iload_n 3, 1) := by decide +kernel
theorem dX7_isRow_6 : decode cX7_isRow 6 = .ok (.ifCond .le 43, 3) := by decide +kernel
theorem dX7_isRow_9 : decode cX7_isRow 9 = .ok (.iload_n 3, 1) := by decide +kernel
theorem dX7_isRow_10 : decode cX7_isRow 10 = .ok (.bipush 10, 2) := by decide +kernel
theorem dX7_isRow_12 : decode cX7_isRow 12 = .ok (.irem, 1) := by decide +kernel
theorem dX7_isRow_13 : decode cX7_isRow 13 = .ok (.istore 4, 2) := by decide +kernel
theorem dX7_isRow_15 : decode cX7_isRow 15 = .ok (.iload 4, 2) := by decide +kernel
theorem dX7_isRow_17 : decode cX7_isRow 17 = .ok (.i2l, 1) := by decide +kernel
theorem dX7_isRow_18 : decode cX7_isRow 18 = .ok (.lconst 1, 1) := by decide +kernel
theorem dX7_isRow_19 : decode cX7_isRow 19 = .ok (.aload_n 0, 1) := by decide +kernel
theorem dX7_isRow_20 : decode cX7_isRow 20 = .ok (.getfield 88, 3) := by decide +kernel
theorem dX7_isRow_23 : decode cX7_isRow 23 = .ok (.i2l, 1) := by decide +kernel
theorem dX7_isRow_24 : decode cX7_isRow 24 = .ok (.invokestatic 58, 3) := by decide +kernel
theorem dX7_isRow_27 : decode cX7_isRow 27 = .ok (.ifCond .eq 9, 3) := by decide +kernel
theorem dX7_isRow_30 : decode cX7_isRow 30 = .ok (.iload 4, 2) := by decide +kernel
theorem dX7_isRow_32 : decode cX7_isRow 32 = .ok (.iload_n 2, 1) := by decide +kernel
theorem dX7_isRow_33 : decode cX7_isRow 33 = .ok (.if_icmp .le 5, 3) := by decide +kernel
theorem dX7_isRow_36 : decode cX7_isRow 36 = .ok (.iconst 0, 1) := by decide +kernel
theorem dX7_isRow_37 : decode cX7_isRow 37 = .ok (.ireturn, 1) := by decide +kernel
theorem dX7_isRow_38 : decode cX7_isRow 38 = .ok (.iload 4, 2) := by decide +kernel
theorem dX7_isRow_40 : decode cX7_isRow 40 = .ok (.istore_n 2, 1) := by decide +kernel
theorem dX7_isRow_41 : decode cX7_isRow 41 = .ok (.iload_n 3, 1) := by decide +kernel
theorem dX7_isRow_42 : decode cX7_isRow 42 = .ok (.bipush 10, 2) := by decide +kernel
theorem dX7_isRow_44 : decode cX7_isRow 44 = .ok (.idiv, 1) := by decide +kernel
theorem dX7_isRow_45 : decode cX7_isRow 45 = .ok (.istore_n 3, 1) := by decide +kernel
theorem dX7_isRow_46 : decode cX7_isRow 46 = .ok (.goto (-41), 3) := by decide +kernel
theorem dX7_isRow_49 : decode cX7_isRow 49 = .ok (.iconst 1, 1) := by decide +kernel
theorem dX7_isRow_50 : decode cX7_isRow 50 = .ok (.ireturn, 1) := by decide +kernel
set_option maxRecDepth 20000 in
theorem ggX7_needOf_X7_isRow : GoodIn wsX7_needOf wsX7_isRow := goodIn_r _ [5, 6, 7, 8, 4, 9, 48, 49, 50, 51, 52, 53, 54, 55, 56, 57, 58, 59, 60, 61, 62, 63, 64, 65, 66, 67, 68, 69, 70, 71, 72, 73, 74, 75, 76] (by decide +kernel) (by decide +kernel)
set_option maxRecDepth 20000 in
theorem gX7_needOf_X7_isRow : GoodIn wsX7_needOf (wsV RX7 154 RX7 yX7_isRow wsX7_isRow) := goodIn_app (goodIn_of _ (by decide +kernel)) ggX7_needOf_X7_isRow
set_option maxRecDepth 20000 in
theorem ggX7_needOf_X7_isEnough : GoodIn wsX7_needOf wsX7_isEnough := goodIn_r _ [13, 14, 15, 16, 17, 4, 18, 19, 20, 21, 22, 23, 24, 25, 26, 27, 28, 29, 30, 31, 32, 33, 6, 34, 35, 36, 37, 38, 39, 40, 41, 42, 43, 44, 45, 46, 47, 48, 49, 50, 51, 52, 53, 54, 55, 56, 57, 58, 59, 60, 61, 62, 63, 64, 65, 66, 67, 68, 69, 70, 71, 72, 73, 74, 75, 76] (by decide +kernel) (by decide +kernel)
set_option maxRecDepth 20000 in
theorem gX7_needOf_X7_isEnough : GoodIn wsX7_needOf (wsV RX7 157 RX7 yX7_isEnough wsX7_isEnough) := goodIn_app (goodIn_of _ (by decide +kernel)) ggX7_needOf_X7_isEnough
theorem dX7_needOf_0 : decode cX7_needOf 0 = .ok (.iconst 0, 1) := by decide +kernel
theorem dX7_needOf_1 : decode cX7_needOf 1 = .ok (.istore 4, 2) := by decide +kernel
theorem dX7_needOf_3 : decode cX7_needOf 3 = .ok (.iload 4, 2) := by decide +kernel
theorem dX7_needOf_5 : decode cX7_needOf 5 = .ok (.sipush 10000, 3) := by decide +kernel
theorem dX7_needOf_8 : decode cX7_needOf 8 = .ok (.if_icmp .ge 66, 3) := by decide +kernel
theorem dX7_needOf_11 : decode cX7_needOf 11 = .ok (.aload_n 0, 1) := by decide +kernel
theorem dX7_needOf_12 : decode cX7_needOf 12 = .ok (.iload 4, 2) := by decide +kernel
theorem dX7_needOf_14 : decode cX7_needOf 14 = .ok (.invokevirtual 154, 3) := by decide +kernel
theorem dX7_needOf_17 : decode cX7_needOf 17 = .ok (.ifCond .eq 51, 3) := by decide +kernel
theorem dX7_needOf_20 : decode cX7_needOf 20 = .ok (.aload_n 0, 1) := by decide +kernel
theorem dX7_needOf_21 : decode cX7_needOf 21 = .ok (.iload 4, 2) := by decide +kernel
theorem dX7_needOf_23 : decode cX7_needOf 23 = .ok (.iload_n 1, 1) := by decide +kernel
theorem dX7_needOf_24 : decode cX7_needOf 24 = .ok (.iload_n 2, 1) := by decide +kernel
theorem dX7_needOf_25 : decode cX7_needOf 25 = .ok (.invokevirtual 157, 3) := by decide +kernel
theorem dX7_needOf_28 : decode cX7_needOf 28 = .ok (.ifCond .eq 40, 3) := by decide +kernel
theorem dX7_needOf_31 : decode cX7_needOf 31 = .ok (.iconst 0, 1) := by decide +kernel
theorem dX7_needOf_32 : decode cX7_needOf 32 = .ok (.istore 5, 2) := by decide +kernel
theorem dX7_needOf_34 : decode cX7_needOf 34 = .ok (.iload 4, 2) := by decide +kernel
theorem dX7_needOf_36 : decode cX7_needOf 36 = .ok (.istore 6, 2) := by decide +kernel
theorem dX7_needOf_38 : decode cX7_needOf 38 = .ok (.iload 6, 2) := by decide +kernel
theorem dX7_needOf_40 : decode cX7_needOf 40 = .ok (.ifCond .le 16, 3) := by decide +kernel
theorem dX7_needOf_43 : decode cX7_needOf 43 = .ok (.iinc 5 1, 3) := by decide +kernel
theorem dX7_needOf_46 : decode cX7_needOf 46 = .ok (.iload 6, 2) := by decide +kernel
theorem dX7_needOf_48 : decode cX7_needOf 48 = .ok (.bipush 10, 2) := by decide +kernel
theorem dX7_needOf_50 : decode cX7_needOf 50 = .ok (.idiv, 1) := by decide +kernel
theorem dX7_needOf_51 : decode cX7_needOf 51 = .ok (.istore 6, 2) := by decide +kernel
theorem dX7_needOf_53 : decode cX7_needOf 53 = .ok (.goto (-15), 3) := by decide +kernel
theorem dX7_needOf_56 : decode cX7_needOf 56 = .ok (.iload_n 3, 1) := by decide +kernel
theorem dX7_needOf_57 : decode cX7_needOf 57 = .ok (.ifCond .ne 8, 3) := by decide +kernel
theorem dX7_needOf_60 : decode cX7_needOf 60 = .ok (.iload 5, 2) := by decide +kernel
theorem dX7_needOf_62 : decode cX7_needOf 62 = .ok (.goto 5, 3) := by decide +kernel
theorem dX7_needOf_65 : decode cX7_needOf 65 = .ok (.iload 4, 2) := by decide +kernel
theorem dX7_needOf_67 : decode cX7_needOf 67 = .ok (.ireturn, 1) := by decide +kernel
theorem dX7_needOf_68 : decode cX7_needOf 68 = .ok (.iinc 4 1, 3) := by decide +kernel
theorem dX7_needOf_71 : decode cX7_needOf 71 = .ok (.goto (-68), 3) := by decide +kernel
theorem dX7_needOf_74 : decode cX7_needOf 74 = .ok (.iconst (-1), 1) := by decide +kernel
theorem dX7_needOf_75 : decode cX7_needOf 75 = .ok (.ireturn, 1) := by decide +kernel
set_option maxRecDepth 20000 in
theorem ggX7_need_X7_lacks : GoodIn wsX7_need wsX7_lacks := goodIn_r _ [8, 1, 58, 59, 60, 61, 62, 63, 64, 65, 66, 67, 68, 69, 70, 71, 72, 73, 74, 75, 76, 77, 78, 79, 80, 81, 82, 83, 84, 85, 86] (by decide +kernel) (by decide +kernel)
set_option maxRecDepth 20000 in
theorem gX7_need_X7_lacks : GoodIn wsX7_need (wsV RX7 118 RX7 yX7_lacks wsX7_lacks) := goodIn_app (goodIn_of _ (by decide +kernel)) ggX7_need_X7_lacks
set_option maxRecDepth 20000 in
theorem ggX7_need_X7_in : GoodIn wsX7_need wsX7_in := goodIn_r _ [11] (by decide +kernel) (by decide +kernel)
set_option maxRecDepth 20000 in
theorem gX7_need_X7_in : GoodIn wsX7_need (va_wsS RX7 58 yX7_in wsX7_in) := goodIn_app (goodIn_of _ (by decide +kernel)) ggX7_need_X7_in
set_option maxRecDepth 20000 in
theorem ggX7_need_X7_needOf : GoodIn wsX7_need wsX7_needOf := goodIn_r _ [15, 16, 17, 18, 7, 19, 1, 9, 10, 11, 20, 21, 22, 23, 24, 25, 26, 27, 28, 29, 30, 31, 32, 33, 34, 35, 36, 37, 38, 39, 40, 41, 42, 43, 44, 45, 46, 47, 48, 49, 50, 51, 52, 53, 54, 55, 56, 57, 58, 59, 60, 61, 62, 63, 64, 65, 66, 67, 68, 69, 70, 71, 72, 73, 74, 75, 76, 77, 78, 79, 80, 81, 82, 83, 84, 85, 86] (by decide +kernel) (by decide +kernel)
set_option maxRecDepth 20000 in
theorem gX7_need_X7_needOf : GoodIn wsX7_need (wsV RX7 166 RX7 yX7_needOf wsX7_needOf) := goodIn_app (goodIn_of _ (by decide +kernel)) ggX7_need_X7_needOf
theorem dX7_need_0 : decode cX7_need 0 = .ok (.aload_n 0, 1) := by decide +kernel
theorem dX7_need_1 : decode cX7_need 1 = .ok (.invokevirtual 118, 3) := by decide +kernel
theorem dX7_need_4 : decode cX7_need 4 = .ok (.ifCond .eq 10, 3) := by decide +kernel
theorem dX7_need_7 : decode cX7_need 7 = .ok (.iload_n 1, 1) := by decide +kernel
theorem dX7_need_8 : decode cX7_need 8 = .ok (.ifCond .eq 27, 3) := by decide +kernel
theorem dX7_need_11 : decode cX7_need 11 = .ok (.goto 21, 3) := by decide +kernel
theorem dX7_need_14 : decode cX7_need 14 = .ok (.iload_n 1, 1) := by decide +kernel
theorem dX7_need_15 : decode cX7_need 15 = .ok (.i2l, 1) := by decide +kernel
theorem dX7_need_16 : decode cX7_need 16 = .ok (.lconst 0, 1) := by decide +kernel
theorem dX7_need_17 : decode cX7_need 17 = .ok (.iconst 1, 1) := by decide +kernel
theorem dX7_need_18 : decode cX7_need 18 = .ok (.aload_n 0, 1) := by decide +kernel
theorem dX7_need_19 : decode cX7_need 19 = .ok (.getfield 88, 3) := by decide +kernel
theorem dX7_need_22 : decode cX7_need 22 = .ok (.ishl, 1) := by decide +kernel
theorem dX7_need_23 : decode cX7_need 23 = .ok (.iconst 1, 1) := by decide +kernel
theorem dX7_need_24 : decode cX7_need 24 = .ok (.isub, 1) := by decide +kernel
theorem dX7_need_25 : decode cX7_need 25 = .ok (.i2l, 1) := by decide +kernel
theorem dX7_need_26 : decode cX7_need 26 = .ok (.invokestatic 58, 3) := by decide +kernel
theorem dX7_need_29 : decode cX7_need 29 = .ok (.ifCond .ne 6, 3) := by decide +kernel
theorem dX7_need_32 : decode cX7_need 32 = .ok (.bipush (-102), 2) := by decide +kernel
theorem dX7_need_34 : decode cX7_need 34 = .ok (.ireturn, 1) := by decide +kernel
theorem dX7_need_35 : decode cX7_need 35 = .ok (.iload_n 2, 1) := by decide +kernel
theorem dX7_need_36 : decode cX7_need 36 = .ok (.i2l, 1) := by decide +kernel
theorem dX7_need_37 : decode cX7_need 37 = .ok (.lconst 0, 1) := by decide +kernel
theorem dX7_need_38 : decode cX7_need 38 = .ok (.ldc2_w 161, 3) := by decide +kernel
theorem dX7_need_41 : decode cX7_need 41 = .ok (.invokestatic 58, 3) := by decide +kernel
theorem dX7_need_44 : decode cX7_need 44 = .ok (.ifCond .eq 13, 3) := by decide +kernel
theorem dX7_need_47 : decode cX7_need 47 = .ok (.iload_n 3, 1) := by decide +kernel
theorem dX7_need_48 : decode cX7_need 48 = .ok (.i2l, 1) := by decide +kernel
theorem dX7_need_49 : decode cX7_need 49 = .ok (.lconst 0, 1) := by decide +kernel
theorem dX7_need_50 : decode cX7_need 50 = .ok (.lconst 1, 1) := by decide +kernel
theorem dX7_need_51 : decode cX7_need 51 = .ok (.invokestatic 58, 3) := by decide +kernel
theorem dX7_need_54 : decode cX7_need 54 = .ok (.ifCond .ne 6, 3) := by decide +kernel
theorem dX7_need_57 : decode cX7_need 57 = .ok (.bipush (-102), 2) := by decide +kernel
theorem dX7_need_59 : decode cX7_need 59 = .ok (.ireturn, 1) := by decide +kernel
theorem dX7_need_60 : decode cX7_need 60 = .ok (.aload_n 0, 1) := by decide +kernel
theorem dX7_need_61 : decode cX7_need 61 = .ok (.invokevirtual 118, 3) := by decide +kernel
theorem dX7_need_64 : decode cX7_need 64 = .ok (.ifCond .ne 12, 3) := by decide +kernel
theorem dX7_need_67 : decode cX7_need 67 = .ok (.aload_n 0, 1) := by decide +kernel
theorem dX7_need_68 : decode cX7_need 68 = .ok (.getfield 163, 3) := by decide +kernel
theorem dX7_need_71 : decode cX7_need 71 = .ok (.bipush 20, 2) := by decide +kernel
theorem dX7_need_73 : decode cX7_need 73 = .ok (.if_icmp .ne 6, 3) := by decide +kernel
theorem dX7_need_76 : decode cX7_need 76 = .ok (.bipush (-103), 2) := by decide +kernel
theorem dX7_need_78 : decode cX7_need 78 = .ok (.ireturn, 1) := by decide +kernel
theorem dX7_need_79 : decode cX7_need 79 = .ok (.aload_n 0, 1) := by decide +kernel
theorem dX7_need_80 : decode cX7_need 80 = .ok (.dup, 1) := by decide +kernel
theorem dX7_need_81 : decode cX7_need 81 = .ok (.getfield 163, 3) := by decide +kernel
theorem dX7_need_84 : decode cX7_need 84 = .ok (.iconst 1, 1) := by decide +kernel
theorem dX7_need_85 : decode cX7_need 85 = .ok (.iadd, 1) := by decide +kernel
theorem dX7_need_86 : decode cX7_need 86 = .ok (.putfield 163, 3) := by decide +kernel
theorem dX7_need_89 : decode cX7_need 89 = .ok (.aload_n 0, 1) := by decide +kernel
theorem dX7_need_90 : decode cX7_need 90 = .ok (.iload_n 1, 1) := by decide +kernel
theorem dX7_need_91 : decode cX7_need 91 = .ok (.iload_n 2, 1) := by decide +kernel
theorem dX7_need_92 : decode cX7_need 92 = .ok (.iload_n 3, 1) := by decide +kernel
theorem dX7_need_93 : decode cX7_need 93 = .ok (.invokevirtual 166, 3) := by decide +kernel
theorem dX7_need_96 : decode cX7_need 96 = .ok (.ireturn, 1) := by decide +kernel
theorem dX7_left_0 : decode cX7_left 0 = .ok (.aload_n 0, 1) := by decide +kernel
theorem dX7_left_1 : decode cX7_left 1 = .ok (.getfield 16, 3) := by decide +kernel
theorem dX7_left_4 : decode cX7_left 4 = .ok (.iload_n 1, 1) := by decide +kernel
theorem dX7_left_5 : decode cX7_left 5 = .ok (.iaload, 1) := by decide +kernel
theorem dX7_left_6 : decode cX7_left 6 = .ok (.aload_n 0, 1) := by decide +kernel
theorem dX7_left_7 : decode cX7_left 7 = .ok (.getfield 22, 3) := by decide +kernel
theorem dX7_left_10 : decode cX7_left 10 = .ok (.iload_n 1, 1) := by decide +kernel
theorem dX7_left_11 : decode cX7_left 11 = .ok (.iaload, 1) := by decide +kernel
theorem dX7_left_12 : decode cX7_left 12 = .ok (.if_icmp .le 19, 3) := by decide +kernel
theorem dX7_left_15 : decode cX7_left 15 = .ok (.aload_n 0, 1) := by decide +kernel
theorem dX7_left_16 : decode cX7_left 16 = .ok (.getfield 16, 3) := by decide +kernel
theorem dX7_left_19 : decode cX7_left 19 = .ok (.iload_n 1, 1) := by decide +kernel
theorem dX7_left_20 : decode cX7_left 20 = .ok (.iaload, 1) := by decide +kernel
theorem dX7_left_21 : decode cX7_left 21 = .ok (.aload_n 0, 1) := by decide +kernel
theorem dX7_left_22 : decode cX7_left 22 = .ok (.getfield 22, 3) := by decide +kernel
theorem dX7_left_25 : decode cX7_left 25 = .ok (.iload_n 1, 1) := by decide +kernel
theorem dX7_left_26 : decode cX7_left 26 = .ok (.iaload, 1) := by decide +kernel
theorem dX7_left_27 : decode cX7_left 27 = .ok (.isub, 1) := by decide +kernel
theorem dX7_left_28 : decode cX7_left 28 = .ok (.goto 4, 3) := by decide +kernel
theorem dX7_left_31 : decode cX7_left 31 = .ok (.iconst 0, 1) := by decide +kernel
theorem dX7_left_32 : decode cX7_left 32 = .ok (.ireturn, 1) := by decide +kernel
set_option maxRecDepth 20000 in
theorem ggX7_raceOf_X7_left : GoodIn wsX7_raceOf wsX7_left := goodIn_r _ [6, 7, 8, 9, 10, 11, 12, 13, 14, 15, 16, 17, 18, 19, 20, 21, 22, 23, 24, 25, 26, 27, 28, 29, 30, 31, 32, 33, 34, 35, 36, 37] (by decide +kernel) (by decide +kernel)
set_option maxRecDepth 20000 in
theorem gX7_raceOf_X7_left : GoodIn wsX7_raceOf (wsV RX7 170 RX7 yX7_left wsX7_left) := goodIn_app (goodIn_of _ (by decide +kernel)) ggX7_raceOf_X7_left
theorem dX7_raceOf_0 : decode cX7_raceOf 0 = .ok (.iconst 0, 1) := by decide +kernel
theorem dX7_raceOf_1 : decode cX7_raceOf 1 = .ok (.istore_n 2, 1) := by decide +kernel
theorem dX7_raceOf_2 : decode cX7_raceOf 2 = .ok (.iconst 0, 1) := by decide +kernel
theorem dX7_raceOf_3 : decode cX7_raceOf 3 = .ok (.istore_n 3, 1) := by decide +kernel
theorem dX7_raceOf_4 : decode cX7_raceOf 4 = .ok (.iload_n 3, 1) := by decide +kernel
theorem dX7_raceOf_5 : decode cX7_raceOf 5 = .ok (.aload_n 0, 1) := by decide +kernel
theorem dX7_raceOf_6 : decode cX7_raceOf 6 = .ok (.getfield 88, 3) := by decide +kernel
theorem dX7_raceOf_9 : decode cX7_raceOf 9 = .ok (.if_icmp .ge 19, 3) := by decide +kernel
theorem dX7_raceOf_12 : decode cX7_raceOf 12 = .ok (.iload_n 2, 1) := by decide +kernel
theorem dX7_raceOf_13 : decode cX7_raceOf 13 = .ok (.aload_n 0, 1) := by decide +kernel
theorem dX7_raceOf_14 : decode cX7_raceOf 14 = .ok (.iload_n 3, 1) := by decide +kernel
theorem dX7_raceOf_15 : decode cX7_raceOf 15 = .ok (.invokevirtual 170, 3) := by decide +kernel
theorem dX7_raceOf_18 : decode cX7_raceOf 18 = .ok (.iconst 3, 1) := by decide +kernel
theorem dX7_raceOf_19 : decode cX7_raceOf 19 = .ok (.irem, 1) := by decide +kernel
theorem dX7_raceOf_20 : decode cX7_raceOf 20 = .ok (.ixor, 1) := by decide +kernel
theorem dX7_raceOf_21 : decode cX7_raceOf 21 = .ok (.istore_n 2, 1) := by decide +kernel
theorem dX7_raceOf_22 : decode cX7_raceOf 22 = .ok (.iinc 3 1, 3) := by decide +kernel
theorem dX7_raceOf_25 : decode cX7_raceOf 25 = .ok (.goto (-21), 3) := by decide +kernel
theorem dX7_raceOf_28 : decode cX7_raceOf 28 = .ok (.iload_n 2, 1) := by decide +kernel
theorem dX7_raceOf_29 : decode cX7_raceOf 29 = .ok (.ifCond .ne 13, 3) := by decide +kernel
theorem dX7_raceOf_32 : decode cX7_raceOf 32 = .ok (.iload_n 1, 1) := by decide +kernel
theorem dX7_raceOf_33 : decode cX7_raceOf 33 = .ok (.ifCond .ne 7, 3) := by decide +kernel
theorem dX7_raceOf_36 : decode cX7_raceOf 36 = .ok (.iconst 0, 1) := by decide +kernel
theorem dX7_raceOf_37 : decode cX7_raceOf 37 = .ok (.goto 4, 3) := by decide +kernel
theorem dX7_raceOf_40 : decode cX7_raceOf 40 = .ok (.iconst (-1), 1) := by decide +kernel
theorem dX7_raceOf_41 : decode cX7_raceOf 41 = .ok (.ireturn, 1) := by decide +kernel
theorem dX7_raceOf_42 : decode cX7_raceOf 42 = .ok (.iconst 0, 1) := by decide +kernel
theorem dX7_raceOf_43 : decode cX7_raceOf 43 = .ok (.istore_n 3, 1) := by decide +kernel
theorem dX7_raceOf_44 : decode cX7_raceOf 44 = .ok (.iload_n 3, 1) := by decide +kernel
theorem dX7_raceOf_45 : decode cX7_raceOf 45 = .ok (.aload_n 0, 1) := by decide +kernel
theorem dX7_raceOf_46 : decode cX7_raceOf 46 = .ok (.getfield 88, 3) := by decide +kernel
theorem dX7_raceOf_49 : decode cX7_raceOf 49 = .ok (.if_icmp .ge 85, 3) := by decide +kernel
theorem dX7_raceOf_52 : decode cX7_raceOf 52 = .ok (.iconst 1, 1) := by decide +kernel
theorem dX7_raceOf_53 : decode cX7_raceOf 53 = .ok (.istore 4, 2) := by decide +kernel
theorem dX7_raceOf_55 : decode cX7_raceOf 55 = .ok (.iload 4, 2) := by decide +kernel
theorem dX7_raceOf_57 : decode cX7_raceOf 57 = .ok (.iconst 3, 1) := by decide +kernel
theorem dX7_raceOf_58 : decode cX7_raceOf 58 = .ok (.if_icmp .ge 70, 3) := by decide +kernel
theorem dX7_raceOf_61 : decode cX7_raceOf 61 = .ok (.iload 4, 2) := by decide +kernel
theorem dX7_raceOf_63 : decode cX7_raceOf 63 = .ok (.aload_n 0, 1) := by decide +kernel
theorem dX7_raceOf_64 : decode cX7_raceOf 64 = .ok (.iload_n 3, 1) := by decide +kernel
theorem dX7_raceOf_65 : decode cX7_raceOf 65 = .ok (.invokevirtual 170, 3) := by decide +kernel
theorem dX7_raceOf_68 : decode cX7_raceOf 68 = .ok (.if_icmp .gt 7, 3) := by decide +kernel
theorem dX7_raceOf_71 : decode cX7_raceOf 71 = .ok (.iconst 1, 1) := by decide +kernel
theorem dX7_raceOf_72 : decode cX7_raceOf 72 = .ok (.goto 4, 3) := by decide +kernel
theorem dX7_raceOf_75 : decode cX7_raceOf 75 = .ok (.iconst 0, 1) := by decide +kernel
theorem dX7_raceOf_76 : decode cX7_raceOf 76 = .ok (.istore 5, 2) := by decide +kernel
theorem dX7_raceOf_78 : decode cX7_raceOf 78 = .ok (.iload 5, 2) := by decide +kernel
theorem dX7_raceOf_80 : decode cX7_raceOf 80 = .ok (.ifCond .eq 42, 3) := by decide +kernel
theorem dX7_raceOf_83 : decode cX7_raceOf 83 = .ok (.iload_n 2, 1) := by decide +kernel
theorem dX7_raceOf_84 : decode cX7_raceOf 84 = .ok (.aload_n 0, 1) := by decide +kernel
theorem dX7_raceOf_85 : decode cX7_raceOf 85 = .ok (.iload_n 3, 1) := by decide +kernel
theorem dX7_raceOf_86 : decode cX7_raceOf 86 = .ok (.invokevirtual 170, 3) := by decide +kernel
theorem dX7_raceOf_89 : decode cX7_raceOf 89 = .ok (.iconst 3, 1) := by decide +kernel
theorem dX7_raceOf_90 : decode cX7_raceOf 90 = .ok (.irem, 1) := by decide +kernel
theorem dX7_raceOf_91 : decode cX7_raceOf 91 = .ok (.ixor, 1) := by decide +kernel
theorem dX7_raceOf_92 : decode cX7_raceOf 92 = .ok (.aload_n 0, 1) := by decide +kernel
theorem dX7_raceOf_93 : decode cX7_raceOf 93 = .ok (.iload_n 3, 1) := by decide +kernel
theorem dX7_raceOf_94 : decode cX7_raceOf 94 = .ok (.invokevirtual 170, 3) := by decide +kernel
theorem dX7_raceOf_97 : decode cX7_raceOf 97 = .ok (.iload 4, 2) := by decide +kernel
theorem dX7_raceOf_99 : decode cX7_raceOf 99 = .ok (.isub, 1) := by decide +kernel
theorem dX7_raceOf_100 : decode cX7_raceOf 100 = .ok (.iconst 3, 1) := by decide +kernel
theorem dX7_raceOf_101 : decode cX7_raceOf 101 = .ok (.irem, 1) := by decide +kernel
theorem dX7_raceOf_102 : decode cX7_raceOf 102 = .ok (.ixor, 1) := by decide +kernel
theorem dX7_raceOf_103 : decode cX7_raceOf 103 = .ok (.ifCond .ne 19, 3) := by decide +kernel
theorem dX7_raceOf_106 : decode cX7_raceOf 106 = .ok (.iload_n 1, 1) := by decide +kernel
theorem dX7_raceOf_107 : decode cX7_raceOf 107 = .ok (.ifCond .ne 7, 3) := by decide +kernel
theorem dX7_raceOf_110 : decode cX7_raceOf 110 = .ok (.iconst 1, 1) := by decide +kernel
theorem dX7_raceOf_111 : decode cX7_raceOf 111 = .ok (.goto 10, 3) := by decide +kernel
theorem dX7_raceOf_114 : decode cX7_raceOf 114 = .ok (.bipush 10, 2) := by decide +kernel
theorem dX7_raceOf_116 : decode cX7_raceOf 116 = .ok (.iload_n 3, 1) := by decide +kernel
theorem dX7_raceOf_117 : decode cX7_raceOf 117 = .ok (.imul, 1) := by decide +kernel
theorem dX7_raceOf_118 : decode cX7_raceOf 118 = .ok (.iload 4, 2) := by decide +kernel
theorem dX7_raceOf_120 : decode cX7_raceOf 120 = .ok (.iadd, 1) := by decide +kernel
theorem dX7_raceOf_121 : decode cX7_raceOf 121 = .ok (.ireturn, 1) := by decide +kernel
theorem dX7_raceOf_122 : decode cX7_raceOf 122 = .ok (.iinc 4 1, 3) := by decide +kernel
theorem dX7_raceOf_125 : decode cX7_raceOf 125 = .ok (.goto (-70), 3) := by decide +kernel
theorem dX7_raceOf_128 : decode cX7_raceOf 128 = .ok (.iinc 3 1, 3) := by decide +kernel
theorem dX7_raceOf_131 : decode cX7_raceOf 131 = .ok (.goto (-87), 3) := by decide +kernel
theorem dX7_raceOf_134 : decode cX7_raceOf 134 = .ok (.iconst (-1), 1) := by decide +kernel
theorem dX7_raceOf_135 : decode cX7_raceOf 135 = .ok (.ireturn, 1) := by decide +kernel
set_option maxRecDepth 20000 in
theorem ggX7_race_X7_in : GoodIn wsX7_race wsX7_in := goodIn_r _ [4] (by decide +kernel) (by decide +kernel)
set_option maxRecDepth 20000 in
theorem gX7_race_X7_in : GoodIn wsX7_race (va_wsS RX7 58 yX7_in wsX7_in) := goodIn_app (goodIn_of _ (by decide +kernel)) ggX7_race_X7_in
set_option maxRecDepth 20000 in
theorem ggX7_race_X7_lacks : GoodIn wsX7_race wsX7_lacks := goodIn_r _ [8, 9, 20, 21, 22, 23, 24, 25, 26, 27, 28, 29, 30, 31, 32, 33, 34, 35, 36, 37, 38, 39, 40, 41, 42, 43, 44, 45, 46, 47, 48] (by decide +kernel) (by decide +kernel)
set_option maxRecDepth 20000 in
theorem gX7_race_X7_lacks : GoodIn wsX7_race (wsV RX7 118 RX7 yX7_lacks wsX7_lacks) := goodIn_app (goodIn_of _ (by decide +kernel)) ggX7_race_X7_lacks
set_option maxRecDepth 20000 in
theorem ggX7_race_X7_raceOf : GoodIn wsX7_race wsX7_raceOf := goodIn_r _ [13, 9, 14, 15, 16, 3, 17, 18, 19, 20, 21, 22, 23, 24, 25, 26, 27, 28, 29, 30, 31, 32, 33, 34, 35, 36, 37, 38, 39, 40, 41, 42, 43, 44, 45, 46, 47, 48] (by decide +kernel) (by decide +kernel)
set_option maxRecDepth 20000 in
theorem gX7_race_X7_raceOf : GoodIn wsX7_race (wsV RX7 173 RX7 yX7_raceOf wsX7_raceOf) := goodIn_app (goodIn_of _ (by decide +kernel)) ggX7_race_X7_raceOf
theorem dX7_race_0 : decode cX7_race 0 = .ok (.iload_n 1, 1) := by decide +kernel
theorem dX7_race_1 : decode cX7_race 1 = .ok (.i2l, 1) := by decide +kernel
theorem dX7_race_2 : decode cX7_race 2 = .ok (.lconst 0, 1) := by decide +kernel
theorem dX7_race_3 : decode cX7_race 3 = .ok (.lconst 1, 1) := by decide +kernel
theorem dX7_race_4 : decode cX7_race 4 = .ok (.invokestatic 58, 3) := by decide +kernel
theorem dX7_race_7 : decode cX7_race 7 = .ok (.ifCond .ne 6, 3) := by decide +kernel
theorem dX7_race_10 : decode cX7_race 10 = .ok (.bipush (-102), 2) := by decide +kernel
theorem dX7_race_12 : decode cX7_race 12 = .ok (.ireturn, 1) := by decide +kernel
theorem dX7_race_13 : decode cX7_race 13 = .ok (.aload_n 0, 1) := by decide +kernel
theorem dX7_race_14 : decode cX7_race 14 = .ok (.invokevirtual 118, 3) := by decide +kernel
theorem dX7_race_17 : decode cX7_race 17 = .ok (.ifCond .eq 8, 3) := by decide +kernel
theorem dX7_race_20 : decode cX7_race 20 = .ok (.bipush (-103), 2) := by decide +kernel
theorem dX7_race_22 : decode cX7_race 22 = .ok (.goto 8, 3) := by decide +kernel
theorem dX7_race_25 : decode cX7_race 25 = .ok (.aload_n 0, 1) := by decide +kernel
theorem dX7_race_26 : decode cX7_race 26 = .ok (.iload_n 1, 1) := by decide +kernel
theorem dX7_race_27 : decode cX7_race 27 = .ok (.invokevirtual 173, 3) := by decide +kernel
theorem dX7_race_30 : decode cX7_race 30 = .ok (.ireturn, 1) := by decide +kernel
set_option maxRecDepth 20000 in
theorem ggX7_oddsOf_X7_copy : GoodIn wsX7_oddsOf wsX7_copy := goodIn_r _ [6] (by decide +kernel) (by decide +kernel)
set_option maxRecDepth 20000 in
theorem gX7_oddsOf_X7_copy : GoodIn wsX7_oddsOf (va_wsS RX7 129 yX7_copy wsX7_copy) := goodIn_app (goodIn_of _ (by decide +kernel)) ggX7_oddsOf_X7_copy
set_option maxRecDepth 20000 in
theorem ggX7_oddsOf_X7_grow : GoodIn wsX7_oddsOf wsX7_grow := goodIn_r _ [10, 11, 12, 13, 14, 15, 16, 5, 17, 18, 19, 20, 21, 22, 23, 24, 25, 26, 27, 28, 29, 30, 31, 32, 33, 34, 35, 36, 37, 38, 39, 40, 41, 42, 43, 44, 45, 46, 47, 48, 49, 50, 51, 52, 53, 54] (by decide +kernel) (by decide +kernel)
set_option maxRecDepth 20000 in
theorem gX7_oddsOf_X7_grow : GoodIn wsX7_oddsOf (wsV RX7 125 RX7 yX7_grow wsX7_grow) := goodIn_app (goodIn_of _ (by decide +kernel)) ggX7_oddsOf_X7_grow
set_option maxRecDepth 20000 in
theorem ggX7_oddsOf_X7_isClosed : GoodIn wsX7_oddsOf wsX7_isClosed := goodIn_r _ [21, 22, 26, 27, 28, 29, 30, 31, 32, 33, 34, 35, 36, 37, 38, 39, 40, 41, 42, 43, 44, 45, 46, 47, 48, 49, 50, 51, 52, 53, 54] (by decide +kernel) (by decide +kernel)
set_option maxRecDepth 20000 in
theorem gX7_oddsOf_X7_isClosed : GoodIn wsX7_oddsOf (wsV RX7 106 RX7 yX7_isClosed wsX7_isClosed) := goodIn_app (goodIn_of _ (by decide +kernel)) ggX7_oddsOf_X7_isClosed
theorem dX7_oddsOf_0 : decode cX7_oddsOf 0 = .ok (.iconst 1, 1) := by decide +kernel
theorem dX7_oddsOf_1 : decode cX7_oddsOf 1 = .ok (.iconst 2, 1) := by decide +kernel
theorem dX7_oddsOf_2 : decode cX7_oddsOf 2 = .ok (.iload_n 2, 1) := by decide +kernel
theorem dX7_oddsOf_3 : decode cX7_oddsOf 3 = .ok (.imul, 1) := by decide +kernel
theorem dX7_oddsOf_4 : decode cX7_oddsOf 4 = .ok (.ishl, 1) := by decide +kernel
theorem dX7_oddsOf_5 : decode cX7_oddsOf 5 = .ok (.istore 4, 2) := by decide +kernel
theorem dX7_oddsOf_7 : decode cX7_oddsOf 7 = .ok (.iconst 0, 1) := by decide +kernel
theorem dX7_oddsOf_8 : decode cX7_oddsOf 8 = .ok (.istore 5, 2) := by decide +kernel
theorem dX7_oddsOf_10 : decode cX7_oddsOf 10 = .ok (.iconst 0, 1) := by decide +kernel
theorem dX7_oddsOf_11 : decode cX7_oddsOf 11 = .ok (.istore 6, 2) := by decide +kernel
theorem dX7_oddsOf_13 : decode cX7_oddsOf 13 = .ok (.iload 6, 2) := by decide +kernel
theorem dX7_oddsOf_15 : decode cX7_oddsOf 15 = .ok (.iload 4, 2) := by decide +kernel
theorem dX7_oddsOf_17 : decode cX7_oddsOf 17 = .ok (.if_icmp .ge 74, 3) := by decide +kernel
theorem dX7_oddsOf_20 : decode cX7_oddsOf 20 = .ok (.aload_n 0, 1) := by decide +kernel
theorem dX7_oddsOf_21 : decode cX7_oddsOf 21 = .ok (.getfield 22, 3) := by decide +kernel
theorem dX7_oddsOf_24 : decode cX7_oddsOf 24 = .ok (.aload_n 0, 1) := by decide +kernel
theorem dX7_oddsOf_25 : decode cX7_oddsOf 25 = .ok (.getfield 28, 3) := by decide +kernel
theorem dX7_oddsOf_28 : decode cX7_oddsOf 28 = .ok (.invokestatic 129, 3) := by decide +kernel
theorem dX7_oddsOf_31 : decode cX7_oddsOf 31 = .ok (.iconst 0, 1) := by decide +kernel
theorem dX7_oddsOf_32 : decode cX7_oddsOf 32 = .ok (.istore 7, 2) := by decide +kernel
theorem dX7_oddsOf_34 : decode cX7_oddsOf 34 = .ok (.iload 7, 2) := by decide +kernel
theorem dX7_oddsOf_36 : decode cX7_oddsOf 36 = .ok (.iload_n 2, 1) := by decide +kernel
theorem dX7_oddsOf_37 : decode cX7_oddsOf 37 = .ok (.if_icmp .ge 26, 3) := by decide +kernel
theorem dX7_oddsOf_40 : decode cX7_oddsOf 40 = .ok (.aload_n 0, 1) := by decide +kernel
theorem dX7_oddsOf_41 : decode cX7_oddsOf 41 = .ok (.aload_n 0, 1) := by decide +kernel
theorem dX7_oddsOf_42 : decode cX7_oddsOf 42 = .ok (.getfield 28, 3) := by decide +kernel
theorem dX7_oddsOf_45 : decode cX7_oddsOf 45 = .ok (.iload 6, 2) := by decide +kernel
theorem dX7_oddsOf_47 : decode cX7_oddsOf 47 = .ok (.iconst 2, 1) := by decide +kernel
theorem dX7_oddsOf_48 : decode cX7_oddsOf 48 = .ok (.iload 7, 2) := by decide +kernel
theorem dX7_oddsOf_50 : decode cX7_oddsOf 50 = .ok (.imul, 1) := by decide +kernel
theorem dX7_oddsOf_51 : decode cX7_oddsOf 51 = .ok (.ishr, 1) := by decide +kernel
theorem dX7_oddsOf_52 : decode cX7_oddsOf 52 = .ok (.iconst 3, 1) := by decide +kernel
theorem dX7_oddsOf_53 : decode cX7_oddsOf 53 = .ok (.iand, 1) := by decide +kernel
theorem dX7_oddsOf_54 : decode cX7_oddsOf 54 = .ok (.invokevirtual 125, 3) := by decide +kernel
theorem dX7_oddsOf_57 : decode cX7_oddsOf 57 = .ok (.iinc 7 1, 3) := by decide +kernel
theorem dX7_oddsOf_60 : decode cX7_oddsOf 60 = .ok (.goto (-26), 3) := by decide +kernel
theorem dX7_oddsOf_63 : decode cX7_oddsOf 63 = .ok (.iload 5, 2) := by decide +kernel
theorem dX7_oddsOf_65 : decode cX7_oddsOf 65 = .ok (.aload_n 0, 1) := by decide +kernel
theorem dX7_oddsOf_66 : decode cX7_oddsOf 66 = .ok (.aload_n 0, 1) := by decide +kernel
theorem dX7_oddsOf_67 : decode cX7_oddsOf 67 = .ok (.getfield 28, 3) := by decide +kernel
theorem dX7_oddsOf_70 : decode cX7_oddsOf 70 = .ok (.iload_n 1, 1) := by decide +kernel
theorem dX7_oddsOf_71 : decode cX7_oddsOf 71 = .ok (.invokevirtual 106, 3) := by decide +kernel
theorem dX7_oddsOf_74 : decode cX7_oddsOf 74 = .ok (.ifCond .eq 7, 3) := by decide +kernel
theorem dX7_oddsOf_77 : decode cX7_oddsOf 77 = .ok (.iconst 1, 1) := by decide +kernel
theorem dX7_oddsOf_78 : decode cX7_oddsOf 78 = .ok (.goto 4, 3) := by decide +kernel
theorem dX7_oddsOf_81 : decode cX7_oddsOf 81 = .ok (.iconst 0, 1) := by decide +kernel
theorem dX7_oddsOf_82 : decode cX7_oddsOf 82 = .ok (.iadd, 1) := by decide +kernel
theorem dX7_oddsOf_83 : decode cX7_oddsOf 83 = .ok (.istore 5, 2) := by decide +kernel
theorem dX7_oddsOf_85 : decode cX7_oddsOf 85 = .ok (.iinc 6 1, 3) := by decide +kernel
theorem dX7_oddsOf_88 : decode cX7_oddsOf 88 = .ok (.goto (-75), 3) := by decide +kernel
theorem dX7_oddsOf_91 : decode cX7_oddsOf 91 = .ok (.iload 4, 2) := by decide +kernel
theorem dX7_oddsOf_93 : decode cX7_oddsOf 93 = .ok (.istore 6, 2) := by decide +kernel
theorem dX7_oddsOf_95 : decode cX7_oddsOf 95 = .ok (.iload 5, 2) := by decide +kernel
theorem dX7_oddsOf_97 : decode cX7_oddsOf 97 = .ok (.istore 7, 2) := by decide +kernel
theorem dX7_oddsOf_99 : decode cX7_oddsOf 99 = .ok (.iload 7, 2) := by decide +kernel
theorem dX7_oddsOf_101 : decode cX7_oddsOf 101 = .ok (.ifCond .le 21, 3) := by decide +kernel
theorem dX7_oddsOf_104 : decode cX7_oddsOf 104 = .ok (.iload 6, 2) := by decide +kernel
theorem dX7_oddsOf_106 : decode cX7_oddsOf 106 = .ok (.iload 7, 2) := by decide +kernel
theorem dX7_oddsOf_108 : decode cX7_oddsOf 108 = .ok (.irem, 1) := by decide +kernel
theorem dX7_oddsOf_109 : decode cX7_oddsOf 109 = .ok (.istore 8, 2) := by decide +kernel
theorem dX7_oddsOf_111 : decode cX7_oddsOf 111 = .ok (.iload 7, 2) := by decide +kernel
theorem dX7_oddsOf_113 : decode cX7_oddsOf 113 = .ok (.istore 6, 2) := by decide +kernel
theorem dX7_oddsOf_115 : decode cX7_oddsOf 115 = .ok (.iload 8, 2) := by decide +kernel
theorem dX7_oddsOf_117 : decode cX7_oddsOf 117 = .ok (.istore 7, 2) := by decide +kernel
theorem dX7_oddsOf_119 : decode cX7_oddsOf 119 = .ok (.goto (-20), 3) := by decide +kernel
theorem dX7_oddsOf_122 : decode cX7_oddsOf 122 = .ok (.iload_n 3, 1) := by decide +kernel
theorem dX7_oddsOf_123 : decode cX7_oddsOf 123 = .ok (.ifCond .ne 11, 3) := by decide +kernel
theorem dX7_oddsOf_126 : decode cX7_oddsOf 126 = .ok (.iload 5, 2) := by decide +kernel
theorem dX7_oddsOf_128 : decode cX7_oddsOf 128 = .ok (.iload 6, 2) := by decide +kernel
theorem dX7_oddsOf_130 : decode cX7_oddsOf 130 = .ok (.idiv, 1) := by decide +kernel
theorem dX7_oddsOf_131 : decode cX7_oddsOf 131 = .ok (.goto 8, 3) := by decide +kernel
theorem dX7_oddsOf_134 : decode cX7_oddsOf 134 = .ok (.iload 4, 2) := by decide +kernel
theorem dX7_oddsOf_136 : decode cX7_oddsOf 136 = .ok (.iload 6, 2) := by decide +kernel
theorem dX7_oddsOf_138 : decode cX7_oddsOf 138 = .ok (.idiv, 1) := by decide +kernel
theorem dX7_oddsOf_139 : decode cX7_oddsOf 139 = .ok (.ireturn, 1) := by decide +kernel
set_option maxRecDepth 20000 in
theorem ggX7_odds_X7_isClause : GoodIn wsX7_odds wsX7_isClause := goodIn_r _ [6, 7, 8, 9, 5, 10, 38, 39, 40, 41, 42, 43, 44, 45, 46, 47, 48, 49, 50, 51, 52, 53, 54, 55, 56, 57, 58, 59, 60, 61, 62, 63, 64, 65, 66] (by decide +kernel) (by decide +kernel)
set_option maxRecDepth 20000 in
theorem gX7_odds_X7_isClause : GoodIn wsX7_odds (wsV RX7 176 RX7 yX7_isClause wsX7_isClause) := goodIn_app (goodIn_of _ (by decide +kernel)) ggX7_odds_X7_isClause
set_option maxRecDepth 20000 in
theorem ggX7_odds_X7_in : GoodIn wsX7_odds wsX7_in := goodIn_r _ [10] (by decide +kernel) (by decide +kernel)
set_option maxRecDepth 20000 in
theorem gX7_odds_X7_in : GoodIn wsX7_odds (va_wsS RX7 58 yX7_in wsX7_in) := goodIn_app (goodIn_of _ (by decide +kernel)) ggX7_odds_X7_in
set_option maxRecDepth 20000 in
theorem ggX7_odds_X7_oddsOf : GoodIn wsX7_odds wsX7_oddsOf := goodIn_r _ [14, 15, 16, 17, 18, 5, 19, 20, 21, 22, 23, 7, 24, 25, 26, 27, 28, 29, 30, 31, 32, 33, 34, 35, 36, 37, 38, 39, 40, 41, 42, 43, 44, 45, 46, 47, 48, 49, 50, 51, 52, 53, 54, 55, 56, 57, 58, 59, 60, 61, 62, 63, 64, 65, 66] (by decide +kernel) (by decide +kernel)
set_option maxRecDepth 20000 in
theorem gX7_odds_X7_oddsOf : GoodIn wsX7_odds (wsV RX7 181 RX7 yX7_oddsOf wsX7_oddsOf) := goodIn_app (goodIn_of _ (by decide +kernel)) ggX7_odds_X7_oddsOf
theorem dX7_odds_0 : decode cX7_odds 0 = .ok (.aload_n 0, 1) := by decide +kernel
theorem dX7_odds_1 : decode cX7_odds 1 = .ok (.iload_n 1, 1) := by decide +kernel
theorem dX7_odds_2 : decode cX7_odds 2 = .ok (.invokevirtual 176, 3) := by decide +kernel
theorem dX7_odds_5 : decode cX7_odds 5 = .ok (.ifCond .ne 6, 3) := by decide +kernel
theorem dX7_odds_8 : decode cX7_odds 8 = .ok (.bipush (-101), 2) := by decide +kernel
theorem dX7_odds_10 : decode cX7_odds 10 = .ok (.ireturn, 1) := by decide +kernel
theorem dX7_odds_11 : decode cX7_odds 11 = .ok (.iload_n 2, 1) := by decide +kernel
theorem dX7_odds_12 : decode cX7_odds 12 = .ok (.i2l, 1) := by decide +kernel
theorem dX7_odds_13 : decode cX7_odds 13 = .ok (.lconst 1, 1) := by decide +kernel
theorem dX7_odds_14 : decode cX7_odds 14 = .ok (.ldc2_w 179, 3) := by decide +kernel
theorem dX7_odds_17 : decode cX7_odds 17 = .ok (.invokestatic 58, 3) := by decide +kernel
theorem dX7_odds_20 : decode cX7_odds 20 = .ok (.ifCond .eq 23, 3) := by decide +kernel
theorem dX7_odds_23 : decode cX7_odds 23 = .ok (.iload_n 3, 1) := by decide +kernel
theorem dX7_odds_24 : decode cX7_odds 24 = .ok (.i2l, 1) := by decide +kernel
theorem dX7_odds_25 : decode cX7_odds 25 = .ok (.lconst 0, 1) := by decide +kernel
theorem dX7_odds_26 : decode cX7_odds 26 = .ok (.lconst 1, 1) := by decide +kernel
theorem dX7_odds_27 : decode cX7_odds 27 = .ok (.invokestatic 58, 3) := by decide +kernel
theorem dX7_odds_30 : decode cX7_odds 30 = .ok (.ifCond .eq 13, 3) := by decide +kernel
theorem dX7_odds_33 : decode cX7_odds 33 = .ok (.aload_n 0, 1) := by decide +kernel
theorem dX7_odds_34 : decode cX7_odds 34 = .ok (.iload_n 1, 1) := by decide +kernel
theorem dX7_odds_35 : decode cX7_odds 35 = .ok (.iload_n 2, 1) := by decide +kernel
theorem dX7_odds_36 : decode cX7_odds 36 = .ok (.iload_n 3, 1) := by decide +kernel
theorem dX7_odds_37 : decode cX7_odds 37 = .ok (.invokevirtual 181, 3) := by decide +kernel
theorem dX7_odds_40 : decode cX7_odds 40 = .ok (.goto 5, 3) := by decide +kernel
theorem dX7_odds_43 : decode cX7_odds 43 = .ok (.bipush (-102), 2) := by decide +kernel
theorem dX7_odds_45 : decode cX7_odds 45 = .ok (.ireturn, 1) := by decide +kernel
set_option maxRecDepth 20000 in
theorem ggX7_tellClause_X7_isClosed : GoodIn wsX7_tellClause wsX7_isClosed := goodIn_r _ [9, 2, 56, 57, 58, 59, 60, 61, 62, 63, 64, 65, 66, 67, 68, 69, 70, 71, 72, 73, 74, 75, 76, 77, 78, 79, 80, 81, 82, 83, 84] (by decide +kernel) (by decide +kernel)
set_option maxRecDepth 20000 in
theorem gX7_tellClause_X7_isClosed : GoodIn wsX7_tellClause (wsV RX7 106 RX7 yX7_isClosed wsX7_isClosed) := goodIn_app (goodIn_of _ (by decide +kernel)) ggX7_tellClause_X7_isClosed
set_option maxRecDepth 20000 in
theorem ggX7_tellClause_X7_forceBits : GoodIn wsX7_tellClause wsX7_forceBits := goodIn_r _ [13, 14, 1, 3, 5, 6, 7, 8, 9, 2, 56, 57, 58, 59, 60, 61, 62, 63, 64, 65, 66, 67, 68, 69, 70, 71, 72, 73, 74, 75, 76, 77, 78, 79, 80, 81, 82, 83, 84] (by decide +kernel) (by decide +kernel)
set_option maxRecDepth 20000 in
theorem gX7_tellClause_X7_forceBits : GoodIn wsX7_tellClause (wsV RX7 143 RX7 yX7_forceBits wsX7_forceBits) := goodIn_app (goodIn_of _ (by decide +kernel)) ggX7_tellClause_X7_forceBits
set_option maxRecDepth 20000 in
theorem ggX7_tellClause_X7_whenOf : GoodIn wsX7_tellClause wsX7_whenOf := goodIn_r _ [18, 19, 20, 21, 22, 8, 23, 4, 24, 14, 25, 26, 27, 28, 5, 6, 7, 9, 2, 29, 30, 31, 32, 33, 34, 35, 36, 37, 38, 3, 1, 39, 40, 41, 42, 43, 44, 45, 56, 57, 58, 59, 60, 61, 62, 63, 64, 65, 66, 67, 68, 69, 70, 71, 72, 73, 74, 75, 76, 77, 78, 79, 80, 81, 82, 83, 84] (by decide +kernel) (by decide +kernel)
set_option maxRecDepth 20000 in
theorem gX7_tellClause_X7_whenOf : GoodIn wsX7_tellClause (wsV RX7 184 RX7 yX7_whenOf wsX7_whenOf) := goodIn_app (goodIn_of _ (by decide +kernel)) ggX7_tellClause_X7_whenOf
set_option maxRecDepth 20000 in
theorem ggX7_tellClause_X7_sortsOf : GoodIn wsX7_tellClause wsX7_sortsOf := goodIn_r _ [49, 50, 51, 43, 44, 8, 45, 56, 57, 58, 59, 60, 61, 62, 63, 64, 65, 66, 67, 68, 69, 70, 71, 72, 73, 74, 75, 76, 77, 78, 79, 80, 81, 82, 83, 84] (by decide +kernel) (by decide +kernel)
set_option maxRecDepth 20000 in
theorem gX7_tellClause_X7_sortsOf : GoodIn wsX7_tellClause (wsV RX7 187 RX7 yX7_sortsOf wsX7_sortsOf) := goodIn_app (goodIn_of _ (by decide +kernel)) ggX7_tellClause_X7_sortsOf
set_option maxRecDepth 20000 in
theorem ggX7_tellClause_X7_tryOf : GoodIn wsX7_tellClause wsX7_tryOf := goodIn_r _ [55, 46, 47, 48, 8, 49, 50, 51, 43, 44, 45, 56, 57, 58, 59, 60, 61, 62, 63, 64, 65, 66, 67, 68, 69, 70, 71, 72, 73, 74, 75, 76, 77, 78, 79, 80, 81, 82, 83, 84] (by decide +kernel) (by decide +kernel)
set_option maxRecDepth 20000 in
theorem gX7_tellClause_X7_tryOf : GoodIn wsX7_tellClause (wsV RX7 190 RX7 yX7_tryOf wsX7_tryOf) := goodIn_app (goodIn_of _ (by decide +kernel)) ggX7_tellClause_X7_tryOf
theorem dX7_tellClause_0 : decode cX7_tellClause 0 = .ok (.iload_n 2, 1) := by decide +kernel
theorem dX7_tellClause_1 : decode cX7_tellClause 1 = .ok (.tableswitch 128 0 8 #[51, 58, 65, 72, 79, 97, 110, 116, 122], 51) := by decide +kernel
theorem dX7_tellClause_52 : decode cX7_tellClause 52 = .ok (.aload_n 0, 1) := by decide +kernel
theorem dX7_tellClause_53 : decode cX7_tellClause 53 = .ok (.getfield 13, 3) := by decide +kernel
theorem dX7_tellClause_56 : decode cX7_tellClause 56 = .ok (.iload_n 1, 1) := by decide +kernel
theorem dX7_tellClause_57 : decode cX7_tellClause 57 = .ok (.iaload, 1) := by decide +kernel
theorem dX7_tellClause_58 : decode cX7_tellClause 58 = .ok (.ireturn, 1) := by decide +kernel
theorem dX7_tellClause_59 : decode cX7_tellClause 59 = .ok (.aload_n 0, 1) := by decide +kernel
theorem dX7_tellClause_60 : decode cX7_tellClause 60 = .ok (.getfield 16, 3) := by decide +kernel
theorem dX7_tellClause_63 : decode cX7_tellClause 63 = .ok (.iload_n 1, 1) := by decide +kernel
theorem dX7_tellClause_64 : decode cX7_tellClause 64 = .ok (.iaload, 1) := by decide +kernel
theorem dX7_tellClause_65 : decode cX7_tellClause 65 = .ok (.ireturn, 1) := by decide +kernel
theorem dX7_tellClause_66 : decode cX7_tellClause 66 = .ok (.aload_n 0, 1) := by decide +kernel
theorem dX7_tellClause_67 : decode cX7_tellClause 67 = .ok (.getfield 19, 3) := by decide +kernel
theorem dX7_tellClause_70 : decode cX7_tellClause 70 = .ok (.iload_n 1, 1) := by decide +kernel
theorem dX7_tellClause_71 : decode cX7_tellClause 71 = .ok (.iaload, 1) := by decide +kernel
theorem dX7_tellClause_72 : decode cX7_tellClause 72 = .ok (.ireturn, 1) := by decide +kernel
theorem dX7_tellClause_73 : decode cX7_tellClause 73 = .ok (.aload_n 0, 1) := by decide +kernel
theorem dX7_tellClause_74 : decode cX7_tellClause 74 = .ok (.getfield 22, 3) := by decide +kernel
theorem dX7_tellClause_77 : decode cX7_tellClause 77 = .ok (.iload_n 1, 1) := by decide +kernel
theorem dX7_tellClause_78 : decode cX7_tellClause 78 = .ok (.iaload, 1) := by decide +kernel
theorem dX7_tellClause_79 : decode cX7_tellClause 79 = .ok (.ireturn, 1) := by decide +kernel
theorem dX7_tellClause_80 : decode cX7_tellClause 80 = .ok (.aload_n 0, 1) := by decide +kernel
theorem dX7_tellClause_81 : decode cX7_tellClause 81 = .ok (.aload_n 0, 1) := by decide +kernel
theorem dX7_tellClause_82 : decode cX7_tellClause 82 = .ok (.getfield 22, 3) := by decide +kernel
theorem dX7_tellClause_85 : decode cX7_tellClause 85 = .ok (.iload_n 1, 1) := by decide +kernel
theorem dX7_tellClause_86 : decode cX7_tellClause 86 = .ok (.invokevirtual 106, 3) := by decide +kernel
theorem dX7_tellClause_89 : decode cX7_tellClause 89 = .ok (.ifCond .eq 7, 3) := by decide +kernel
theorem dX7_tellClause_92 : decode cX7_tellClause 92 = .ok (.iconst 1, 1) := by decide +kernel
theorem dX7_tellClause_93 : decode cX7_tellClause 93 = .ok (.goto 4, 3) := by decide +kernel
theorem dX7_tellClause_96 : decode cX7_tellClause 96 = .ok (.iconst 0, 1) := by decide +kernel
theorem dX7_tellClause_97 : decode cX7_tellClause 97 = .ok (.ireturn, 1) := by decide +kernel
theorem dX7_tellClause_98 : decode cX7_tellClause 98 = .ok (.aload_n 0, 1) := by decide +kernel
theorem dX7_tellClause_99 : decode cX7_tellClause 99 = .ok (.aload_n 0, 1) := by decide +kernel
theorem dX7_tellClause_100 : decode cX7_tellClause 100 = .ok (.getfield 22, 3) := by decide +kernel
theorem dX7_tellClause_103 : decode cX7_tellClause 103 = .ok (.invokevirtual 143, 3) := by decide +kernel
theorem dX7_tellClause_106 : decode cX7_tellClause 106 = .ok (.iload_n 1, 1) := by decide +kernel
theorem dX7_tellClause_107 : decode cX7_tellClause 107 = .ok (.ishr, 1) := by decide +kernel
theorem dX7_tellClause_108 : decode cX7_tellClause 108 = .ok (.iconst 1, 1) := by decide +kernel
theorem dX7_tellClause_109 : decode cX7_tellClause 109 = .ok (.iand, 1) := by decide +kernel
theorem dX7_tellClause_110 : decode cX7_tellClause 110 = .ok (.ireturn, 1) := by decide +kernel
theorem dX7_tellClause_111 : decode cX7_tellClause 111 = .ok (.aload_n 0, 1) := by decide +kernel
theorem dX7_tellClause_112 : decode cX7_tellClause 112 = .ok (.iload_n 1, 1) := by decide +kernel
theorem dX7_tellClause_113 : decode cX7_tellClause 113 = .ok (.invokevirtual 184, 3) := by decide +kernel
theorem dX7_tellClause_116 : decode cX7_tellClause 116 = .ok (.ireturn, 1) := by decide +kernel
theorem dX7_tellClause_117 : decode cX7_tellClause 117 = .ok (.aload_n 0, 1) := by decide +kernel
theorem dX7_tellClause_118 : decode cX7_tellClause 118 = .ok (.iload_n 1, 1) := by decide +kernel
theorem dX7_tellClause_119 : decode cX7_tellClause 119 = .ok (.invokevirtual 187, 3) := by decide +kernel
theorem dX7_tellClause_122 : decode cX7_tellClause 122 = .ok (.ireturn, 1) := by decide +kernel
theorem dX7_tellClause_123 : decode cX7_tellClause 123 = .ok (.aload_n 0, 1) := by decide +kernel
theorem dX7_tellClause_124 : decode cX7_tellClause 124 = .ok (.iload_n 1, 1) := by decide +kernel
theorem dX7_tellClause_125 : decode cX7_tellClause 125 = .ok (.invokevirtual 190, 3) := by decide +kernel
theorem dX7_tellClause_128 : decode cX7_tellClause 128 = .ok (.ireturn, 1) := by decide +kernel
theorem dX7_tellClause_129 : decode cX7_tellClause 129 = .ok (.bipush (-102), 2) := by decide +kernel
theorem dX7_tellClause_131 : decode cX7_tellClause 131 = .ok (.ireturn, 1) := by decide +kernel
set_option maxRecDepth 20000 in
theorem ggX7_clause_X7_isClause : GoodIn wsX7_clause wsX7_isClause := goodIn_r _ [5, 6, 7, 8, 4, 9, 67, 68, 69, 70, 71, 72, 73, 74, 75, 76, 77, 78, 79, 80, 81, 82, 83, 84, 85, 86, 87, 88, 89, 90, 91, 92, 93, 94, 95] (by decide +kernel) (by decide +kernel)
set_option maxRecDepth 20000 in
theorem gX7_clause_X7_isClause : GoodIn wsX7_clause (wsV RX7 176 RX7 yX7_isClause wsX7_isClause) := goodIn_app (goodIn_of _ (by decide +kernel)) ggX7_clause_X7_isClause
set_option maxRecDepth 20000 in
theorem ggX7_clause_X7_tellClause : GoodIn wsX7_clause wsX7_tellClause := goodIn_r _ [13, 14, 15, 16, 17, 18, 19, 20, 4, 21, 22, 23, 24, 25, 6, 26, 27, 28, 29, 30, 31, 32, 33, 34, 35, 36, 37, 38, 39, 40, 41, 42, 43, 44, 45, 46, 47, 48, 49, 50, 51, 52, 53, 54, 55, 56, 57, 58, 59, 60, 61, 62, 63, 64, 65, 66, 67, 68, 69, 70, 71, 72, 73, 74, 75, 76, 77, 78, 79, 80, 81, 82, 83, 84, 85, 86, 87, 88, 89, 90, 91, 92, 93, 94, 95] (by decide +kernel) (by decide +kernel)
set_option maxRecDepth 20000 in
theorem gX7_clause_X7_tellClause : GoodIn wsX7_clause (wsV RX7 193 RX7 yX7_tellClause wsX7_tellClause) := goodIn_app (goodIn_of _ (by decide +kernel)) ggX7_clause_X7_tellClause
theorem dX7_clause_0 : decode cX7_clause 0 = .ok (.aload_n 0, 1) := by decide +kernel
theorem dX7_clause_1 : decode cX7_clause 1 = .ok (.iload_n 1, 1) := by decide +kernel
theorem dX7_clause_2 : decode cX7_clause 2 = .ok (.invokevirtual 176, 3) := by decide +kernel
theorem dX7_clause_5 : decode cX7_clause 5 = .ok (.ifCond .eq 12, 3) := by decide +kernel
theorem dX7_clause_8 : decode cX7_clause 8 = .ok (.aload_n 0, 1) := by decide +kernel
theorem dX7_clause_9 : decode cX7_clause 9 = .ok (.iload_n 1, 1) := by decide +kernel
theorem dX7_clause_10 : decode cX7_clause 10 = .ok (.iload_n 2, 1) := by decide +kernel
theorem dX7_clause_11 : decode cX7_clause 11 = .ok (.invokevirtual 193, 3) := by decide +kernel
theorem dX7_clause_14 : decode cX7_clause 14 = .ok (.goto 5, 3) := by decide +kernel
theorem dX7_clause_17 : decode cX7_clause 17 = .ok (.bipush (-101), 2) := by decide +kernel
theorem dX7_clause_19 : decode cX7_clause 19 = .ok (.ireturn, 1) := by decide +kernel
set_option maxRecDepth 20000 in
theorem ggX7_as_X7_isClause : GoodIn wsX7_as wsX7_isClause := goodIn_r _ [7, 8, 9, 10, 6, 11, 12, 13, 14, 15, 16, 17, 18, 19, 20, 21, 22, 23, 24, 25, 26, 27, 28, 29, 30, 31, 32, 33, 34, 35, 36, 37, 38, 39, 40] (by decide +kernel) (by decide +kernel)
set_option maxRecDepth 20000 in
theorem gX7_as_X7_isClause : GoodIn wsX7_as (wsV RX7 176 RX7 yX7_isClause wsX7_isClause) := goodIn_app (goodIn_of _ (by decide +kernel)) ggX7_as_X7_isClause
set_option maxRecDepth 20000 in
theorem ggX7_as_X7_in : GoodIn wsX7_as wsX7_in := goodIn_r _ [11] (by decide +kernel) (by decide +kernel)
set_option maxRecDepth 20000 in
theorem gX7_as_X7_in : GoodIn wsX7_as (va_wsS RX7 58 yX7_in wsX7_in) := goodIn_app (goodIn_of _ (by decide +kernel)) ggX7_as_X7_in
theorem dX7_as_0 : decode cX7_as 0 = .ok (.aload_n 0, 1) := by decide +kernel
theorem dX7_as_1 : decode cX7_as 1 = .ok (.iload_n 1, 1) := by decide +kernel
theorem dX7_as_2 : decode cX7_as 2 = .ok (.invokevirtual 176, 3) := by decide +kernel
theorem dX7_as_5 : decode cX7_as 5 = .ok (.ifCond .ne 6, 3) := by decide +kernel
theorem dX7_as_8 : decode cX7_as 8 = .ok (.bipush (-101), 2) := by decide +kernel
theorem dX7_as_10 : decode cX7_as 10 = .ok (.ireturn, 1) := by decide +kernel
theorem dX7_as_11 : decode cX7_as 11 = .ok (.iload_n 2, 1) := by decide +kernel
theorem dX7_as_12 : decode cX7_as 12 = .ok (.i2l, 1) := by decide +kernel
theorem dX7_as_13 : decode cX7_as 13 = .ok (.lconst 0, 1) := by decide +kernel
theorem dX7_as_14 : decode cX7_as 14 = .ok (.ldc2_w 179, 3) := by decide +kernel
theorem dX7_as_17 : decode cX7_as 17 = .ok (.invokestatic 58, 3) := by decide +kernel
theorem dX7_as_20 : decode cX7_as 20 = .ok (.ifCond .ne 6, 3) := by decide +kernel
theorem dX7_as_23 : decode cX7_as 23 = .ok (.bipush (-102), 2) := by decide +kernel
theorem dX7_as_25 : decode cX7_as 25 = .ok (.ireturn, 1) := by decide +kernel
theorem dX7_as_26 : decode cX7_as 26 = .ok (.iload_n 2, 1) := by decide +kernel
theorem dX7_as_27 : decode cX7_as 27 = .ok (.ifCond .eq 28, 3) := by decide +kernel
theorem dX7_as_30 : decode cX7_as 30 = .ok (.iload_n 2, 1) := by decide +kernel
theorem dX7_as_31 : decode cX7_as 31 = .ok (.aload_n 0, 1) := by decide +kernel
theorem dX7_as_32 : decode cX7_as 32 = .ok (.getfield 13, 3) := by decide +kernel
theorem dX7_as_35 : decode cX7_as 35 = .ok (.iload_n 1, 1) := by decide +kernel
theorem dX7_as_36 : decode cX7_as 36 = .ok (.iaload, 1) := by decide +kernel
theorem dX7_as_37 : decode cX7_as 37 = .ok (.if_icmp .eq 18, 3) := by decide +kernel
theorem dX7_as_40 : decode cX7_as 40 = .ok (.iload_n 2, 1) := by decide +kernel
theorem dX7_as_41 : decode cX7_as 41 = .ok (.iconst 2, 1) := by decide +kernel
theorem dX7_as_42 : decode cX7_as 42 = .ok (.if_icmp .ne 17, 3) := by decide +kernel
theorem dX7_as_45 : decode cX7_as 45 = .ok (.aload_n 0, 1) := by decide +kernel
theorem dX7_as_46 : decode cX7_as 46 = .ok (.getfield 13, 3) := by decide +kernel
theorem dX7_as_49 : decode cX7_as 49 = .ok (.iload_n 1, 1) := by decide +kernel
theorem dX7_as_50 : decode cX7_as 50 = .ok (.iaload, 1) := by decide +kernel
theorem dX7_as_51 : decode cX7_as 51 = .ok (.iconst 4, 1) := by decide +kernel
theorem dX7_as_52 : decode cX7_as 52 = .ok (.if_icmp .ne 7, 3) := by decide +kernel
theorem dX7_as_55 : decode cX7_as 55 = .ok (.iconst 1, 1) := by decide +kernel
theorem dX7_as_56 : decode cX7_as 56 = .ok (.goto 4, 3) := by decide +kernel
theorem dX7_as_59 : decode cX7_as 59 = .ok (.iconst 0, 1) := by decide +kernel
theorem dX7_as_60 : decode cX7_as 60 = .ok (.istore_n 3, 1) := by decide +kernel
theorem dX7_as_61 : decode cX7_as 61 = .ok (.iload_n 3, 1) := by decide +kernel
theorem dX7_as_62 : decode cX7_as 62 = .ok (.ifCond .eq 7, 3) := by decide +kernel
theorem dX7_as_65 : decode cX7_as 65 = .ok (.iload_n 1, 1) := by decide +kernel
theorem dX7_as_66 : decode cX7_as 66 = .ok (.goto 4, 3) := by decide +kernel
theorem dX7_as_69 : decode cX7_as 69 = .ok (.iconst (-1), 1) := by decide +kernel
theorem dX7_as_70 : decode cX7_as 70 = .ok (.ireturn, 1) := by decide +kernel
set_option maxRecDepth 20000 in
theorem ggX7_week_X7_lacks : GoodIn wsX7_week wsX7_lacks := goodIn_r _ [7, 8, 33, 34, 35, 36, 37, 38, 39, 40, 41, 42, 43, 44, 45, 46, 47, 48, 49, 50, 51, 52, 53, 54, 55, 56, 57, 58, 59, 60, 61] (by decide +kernel) (by decide +kernel)
set_option maxRecDepth 20000 in
theorem gX7_week_X7_lacks : GoodIn wsX7_week (wsV RX7 118 RX7 yX7_lacks wsX7_lacks) := goodIn_app (goodIn_of _ (by decide +kernel)) ggX7_week_X7_lacks
