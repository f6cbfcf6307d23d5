theorem dX4_shipped_1 : decode cX4_shipped 1 = .ok (.getfield 13, 3) := by decide +kernel
theorem dX4_shipped_4 : decode cX4_shipped 4 = .ok (.iload_n 1, 1) := by decide +kernel
theorem dX4_shipped_5 : decode cX4_shipped 5 = .ok (.iaload, 1) := by decide +kernel
theorem dX4_shipped_6 : decode cX4_shipped 6 = .ok (.iload_n 2, 1) := by decide +kernel
theorem dX4_shipped_7 : decode cX4_shipped 7 = .ok (.if_icmp .ge 16, 3) := by decide +kernel
theorem dX4_shipped_10 : decode cX4_shipped 10 = .ok (.aload_n 0, 1) := by decide +kernel
theorem dX4_shipped_11 : decode cX4_shipped 11 = .ok (.iload_n 1, 1) := by decide +kernel
theorem dX4_shipped_12 : decode cX4_shipped 12 = .ok (.iconst 3, 1) := by decide +kernel
theorem dX4_shipped_13 : decode cX4_shipped 13 = .ok (.aload_n 0, 1) := by decide +kernel
theorem dX4_shipped_14 : decode cX4_shipped 14 = .ok (.getfield 13, 3) := by decide +kernel
theorem dX4_shipped_17 : decode cX4_shipped 17 = .ok (.iload_n 1, 1) := by decide +kernel
theorem dX4_shipped_18 : decode cX4_shipped 18 = .ok (.iaload, 1) := by decide +kernel
theorem dX4_shipped_19 : decode cX4_shipped 19 = .ok (.invokevirtual 61, 3) := by decide +kernel
theorem dX4_shipped_22 : decode cX4_shipped 22 = .ok (.return_, 1) := by decide +kernel
theorem dX4_shipped_23 : decode cX4_shipped 23 = .ok (.iload_n 2, 1) := by decide +kernel
theorem dX4_shipped_24 : decode cX4_shipped 24 = .ok (.ifCond .le 47, 3) := by decide +kernel
theorem dX4_shipped_27 : decode cX4_shipped 27 = .ok (.aload_n 0, 1) := by decide +kernel
theorem dX4_shipped_28 : decode cX4_shipped 28 = .ok (.getfield 32, 3) := by decide +kernel
theorem dX4_shipped_31 : decode cX4_shipped 31 = .ok (.bipush 64, 2) := by decide +kernel
theorem dX4_shipped_33 : decode cX4_shipped 33 = .ok (.iload_n 1, 1) := by decide +kernel
theorem dX4_shipped_34 : decode cX4_shipped 34 = .ok (.imul, 1) := by decide +kernel
theorem dX4_shipped_35 : decode cX4_shipped 35 = .ok (.iload_n 2, 1) := by decide +kernel
theorem dX4_shipped_36 : decode cX4_shipped 36 = .ok (.iadd, 1) := by decide +kernel
theorem dX4_shipped_37 : decode cX4_shipped 37 = .ok (.iconst 1, 1) := by decide +kernel
theorem dX4_shipped_38 : decode cX4_shipped 38 = .ok (.isub, 1) := by decide +kernel
theorem dX4_shipped_39 : decode cX4_shipped 39 = .ok (.iaload, 1) := by decide +kernel
theorem dX4_shipped_40 : decode cX4_shipped 40 = .ok (.aload_n 0, 1) := by decide +kernel
theorem dX4_shipped_41 : decode cX4_shipped 41 = .ok (.getfield 44, 3) := by decide +kernel
theorem dX4_shipped_44 : decode cX4_shipped 44 = .ok (.bipush 7, 2) := by decide +kernel
theorem dX4_shipped_46 : decode cX4_shipped 46 = .ok (.iaload, 1) := by decide +kernel
theorem dX4_shipped_47 : decode cX4_shipped 47 = .ok (.if_icmp .eq 24, 3) := by decide +kernel
theorem dX4_shipped_50 : decode cX4_shipped 50 = .ok (.aload_n 0, 1) := by decide +kernel
theorem dX4_shipped_51 : decode cX4_shipped 51 = .ok (.iload_n 1, 1) := by decide +kernel
theorem dX4_shipped_52 : decode cX4_shipped 52 = .ok (.iload_n 2, 1) := by decide +kernel
theorem dX4_shipped_53 : decode cX4_shipped 53 = .ok (.iconst 1, 1) := by decide +kernel
theorem dX4_shipped_54 : decode cX4_shipped 54 = .ok (.isub, 1) := by decide +kernel
theorem dX4_shipped_55 : decode cX4_shipped 55 = .ok (.invokevirtual 80, 3) := by decide +kernel
theorem dX4_shipped_58 : decode cX4_shipped 58 = .ok (.ifCond .eq 12, 3) := by decide +kernel
theorem dX4_shipped_61 : decode cX4_shipped 61 = .ok (.aload_n 0, 1) := by decide +kernel
theorem dX4_shipped_62 : decode cX4_shipped 62 = .ok (.iload_n 1, 1) := by decide +kernel
theorem dX4_shipped_63 : decode cX4_shipped 63 = .ok (.iconst 3, 1) := by decide +kernel
theorem dX4_shipped_64 : decode cX4_shipped 64 = .ok (.iload_n 2, 1) := by decide +kernel
theorem dX4_shipped_65 : decode cX4_shipped 65 = .ok (.iconst 1, 1) := by decide +kernel
theorem dX4_shipped_66 : decode cX4_shipped 66 = .ok (.isub, 1) := by decide +kernel
theorem dX4_shipped_67 : decode cX4_shipped 67 = .ok (.invokevirtual 61, 3) := by decide +kernel
theorem dX4_shipped_70 : decode cX4_shipped 70 = .ok (.return_, 1) := by decide +kernel
theorem dX4_shipped_71 : decode cX4_shipped 71 = .ok (.bipush 64, 2) := by decide +kernel
theorem dX4_shipped_73 : decode cX4_shipped 73 = .ok (.iload_n 1, 1) := by decide +kernel
theorem dX4_shipped_74 : decode cX4_shipped 74 = .ok (.imul, 1) := by decide +kernel
theorem dX4_shipped_75 : decode cX4_shipped 75 = .ok (.iload_n 2, 1) := by decide +kernel
theorem dX4_shipped_76 : decode cX4_shipped 76 = .ok (.iadd, 1) := by decide +kernel
theorem dX4_shipped_77 : decode cX4_shipped 77 = .ok (.istore_n 3, 1) := by decide +kernel
theorem dX4_shipped_78 : decode cX4_shipped 78 = .ok (.aload_n 0, 1) := by decide +kernel
theorem dX4_shipped_79 : decode cX4_shipped 79 = .ok (.getfield 13, 3) := by decide +kernel
theorem dX4_shipped_82 : decode cX4_shipped 82 = .ok (.iload_n 1, 1) := by decide +kernel
theorem dX4_shipped_83 : decode cX4_shipped 83 = .ok (.iaload, 1) := by decide +kernel
theorem dX4_shipped_84 : decode cX4_shipped 84 = .ok (.iload_n 2, 1) := by decide +kernel
theorem dX4_shipped_85 : decode cX4_shipped 85 = .ok (.if_icmp .le 59, 3) := by decide +kernel
theorem dX4_shipped_88 : decode cX4_shipped 88 = .ok (.aload_n 0, 1) := by decide +kernel
theorem dX4_shipped_89 : decode cX4_shipped 89 = .ok (.getfield 32, 3) := by decide +kernel
theorem dX4_shipped_92 : decode cX4_shipped 92 = .ok (.iload_n 3, 1) := by decide +kernel
theorem dX4_shipped_93 : decode cX4_shipped 93 = .ok (.iaload, 1) := by decide +kernel
theorem dX4_shipped_94 : decode cX4_shipped 94 = .ok (.aload_n 0, 1) := by decide +kernel
theorem dX4_shipped_95 : decode cX4_shipped 95 = .ok (.getfield 44, 3) := by decide +kernel
theorem dX4_shipped_98 : decode cX4_shipped 98 = .ok (.iconst 4, 1) := by decide +kernel
theorem dX4_shipped_99 : decode cX4_shipped 99 = .ok (.iaload, 1) := by decide +kernel
theorem dX4_shipped_100 : decode cX4_shipped 100 = .ok (.if_icmp .ne 34, 3) := by decide +kernel
theorem dX4_shipped_103 : decode cX4_shipped 103 = .ok (.aload_n 0, 1) := by decide +kernel
theorem dX4_shipped_104 : decode cX4_shipped 104 = .ok (.getfield 35, 3) := by decide +kernel
theorem dX4_shipped_107 : decode cX4_shipped 107 = .ok (.iload_n 3, 1) := by decide +kernel
theorem dX4_shipped_108 : decode cX4_shipped 108 = .ok (.iaload, 1) := by decide +kernel
theorem dX4_shipped_109 : decode cX4_shipped 109 = .ok (.aload_n 0, 1) := by decide +kernel
theorem dX4_shipped_110 : decode cX4_shipped 110 = .ok (.getfield 44, 3) := by decide +kernel
theorem dX4_shipped_113 : decode cX4_shipped 113 = .ok (.iconst 5, 1) := by decide +kernel
theorem dX4_shipped_114 : decode cX4_shipped 114 = .ok (.iaload, 1) := by decide +kernel
theorem dX4_shipped_115 : decode cX4_shipped 115 = .ok (.if_icmp .ne 19, 3) := by decide +kernel
theorem dX4_shipped_118 : decode cX4_shipped 118 = .ok (.aload_n 0, 1) := by decide +kernel
theorem dX4_shipped_119 : decode cX4_shipped 119 = .ok (.getfield 38, 3) := by decide +kernel
theorem dX4_shipped_122 : decode cX4_shipped 122 = .ok (.iload_n 3, 1) := by decide +kernel
theorem dX4_shipped_123 : decode cX4_shipped 123 = .ok (.iaload, 1) := by decide +kernel
theorem dX4_shipped_124 : decode cX4_shipped 124 = .ok (.aload_n 0, 1) := by decide +kernel
theorem dX4_shipped_125 : decode cX4_shipped 125 = .ok (.getfield 44, 3) := by decide +kernel
theorem dX4_shipped_128 : decode cX4_shipped 128 = .ok (.bipush 6, 2) := by decide +kernel
theorem dX4_shipped_130 : decode cX4_shipped 130 = .ok (.iaload, 1) := by decide +kernel
theorem dX4_shipped_131 : decode cX4_shipped 131 = .ok (.if_icmp .eq 13, 3) := by decide +kernel
theorem dX4_shipped_134 : decode cX4_shipped 134 = .ok (.aload_n 0, 1) := by decide +kernel
theorem dX4_shipped_135 : decode cX4_shipped 135 = .ok (.iload_n 1, 1) := by decide +kernel
theorem dX4_shipped_136 : decode cX4_shipped 136 = .ok (.iload_n 2, 1) := by decide +kernel
theorem dX4_shipped_137 : decode cX4_shipped 137 = .ok (.invokevirtual 80, 3) := by decide +kernel
theorem dX4_shipped_140 : decode cX4_shipped 140 = .ok (.ifCond .ne 4, 3) := by decide +kernel
theorem dX4_shipped_143 : decode cX4_shipped 143 = .ok (.return_, 1) := by decide +kernel
theorem dX4_shipped_144 : decode cX4_shipped 144 = .ok (.aload_n 0, 1) := by decide +kernel
theorem dX4_shipped_145 : decode cX4_shipped 145 = .ok (.getfield 13, 3) := by decide +kernel
theorem dX4_shipped_148 : decode cX4_shipped 148 = .ok (.iload_n 1, 1) := by decide +kernel
theorem dX4_shipped_149 : decode cX4_shipped 149 = .ok (.iaload, 1) := by decide +kernel
theorem dX4_shipped_150 : decode cX4_shipped 150 = .ok (.iload_n 2, 1) := by decide +kernel
theorem dX4_shipped_151 : decode cX4_shipped 151 = .ok (.if_icmp .ne 31, 3) := by decide +kernel
theorem dX4_shipped_154 : decode cX4_shipped 154 = .ok (.aload_n 0, 1) := by decide +kernel
theorem dX4_shipped_155 : decode cX4_shipped 155 = .ok (.iload_n 1, 1) := by decide +kernel
theorem dX4_shipped_156 : decode cX4_shipped 156 = .ok (.aload_n 0, 1) := by decide +kernel
theorem dX4_shipped_157 : decode cX4_shipped 157 = .ok (.getfield 44, 3) := by decide +kernel
theorem dX4_shipped_160 : decode cX4_shipped 160 = .ok (.iconst 4, 1) := by decide +kernel
theorem dX4_shipped_161 : decode cX4_shipped 161 = .ok (.iaload, 1) := by decide +kernel
theorem dX4_shipped_162 : decode cX4_shipped 162 = .ok (.aload_n 0, 1) := by decide +kernel
theorem dX4_shipped_163 : decode cX4_shipped 163 = .ok (.getfield 44, 3) := by decide +kernel
theorem dX4_shipped_166 : decode cX4_shipped 166 = .ok (.iconst 5, 1) := by decide +kernel
theorem dX4_shipped_167 : decode cX4_shipped 167 = .ok (.iaload, 1) := by decide +kernel
theorem dX4_shipped_168 : decode cX4_shipped 168 = .ok (.aload_n 0, 1) := by decide +kernel
theorem dX4_shipped_169 : decode cX4_shipped 169 = .ok (.getfield 44, 3) := by decide +kernel
theorem dX4_shipped_172 : decode cX4_shipped 172 = .ok (.bipush 6, 2) := by decide +kernel
theorem dX4_shipped_174 : decode cX4_shipped 174 = .ok (.iaload, 1) := by decide +kernel
theorem dX4_shipped_175 : decode cX4_shipped 175 = .ok (.invokevirtual 57, 3) := by decide +kernel
theorem dX4_shipped_178 : decode cX4_shipped 178 = .ok (.ifCond .ne 4, 3) := by decide +kernel
theorem dX4_shipped_181 : decode cX4_shipped 181 = .ok (.return_, 1) := by decide +kernel
theorem dX4_shipped_182 : decode cX4_shipped 182 = .ok (.aload_n 0, 1) := by decide +kernel
theorem dX4_shipped_183 : decode cX4_shipped 183 = .ok (.getfield 13, 3) := by decide +kernel
theorem dX4_shipped_186 : decode cX4_shipped 186 = .ok (.iload_n 1, 1) := by decide +kernel
theorem dX4_shipped_187 : decode cX4_shipped 187 = .ok (.iaload, 1) := by decide +kernel
theorem dX4_shipped_188 : decode cX4_shipped 188 = .ok (.aload_n 0, 1) := by decide +kernel
theorem dX4_shipped_189 : decode cX4_shipped 189 = .ok (.getfield 44, 3) := by decide +kernel
theorem dX4_shipped_192 : decode cX4_shipped 192 = .ok (.bipush 8, 2) := by decide +kernel
theorem dX4_shipped_194 : decode cX4_shipped 194 = .ok (.iaload, 1) := by decide +kernel
theorem dX4_shipped_195 : decode cX4_shipped 195 = .ok (.if_icmp .le 19, 3) := by decide +kernel
theorem dX4_shipped_198 : decode cX4_shipped 198 = .ok (.aload_n 0, 1) := by decide +kernel
theorem dX4_shipped_199 : decode cX4_shipped 199 = .ok (.iload_n 1, 1) := by decide +kernel
theorem dX4_shipped_200 : decode cX4_shipped 200 = .ok (.aload_n 0, 1) := by decide +kernel
theorem dX4_shipped_201 : decode cX4_shipped 201 = .ok (.getfield 44, 3) := by decide +kernel
theorem dX4_shipped_204 : decode cX4_shipped 204 = .ok (.bipush 8, 2) := by decide +kernel
theorem dX4_shipped_206 : decode cX4_shipped 206 = .ok (.iaload, 1) := by decide +kernel
theorem dX4_shipped_207 : decode cX4_shipped 207 = .ok (.invokevirtual 80, 3) := by decide +kernel
theorem dX4_shipped_210 : decode cX4_shipped 210 = .ok (.ifCond .ne 4, 3) := by decide +kernel
theorem dX4_shipped_213 : decode cX4_shipped 213 = .ok (.return_, 1) := by decide +kernel
theorem dX4_shipped_214 : decode cX4_shipped 214 = .ok (.aload_n 0, 1) := by decide +kernel
theorem dX4_shipped_215 : decode cX4_shipped 215 = .ok (.iload_n 1, 1) := by decide +kernel
theorem dX4_shipped_216 : decode cX4_shipped 216 = .ok (.iconst 2, 1) := by decide +kernel
theorem dX4_shipped_217 : decode cX4_shipped 217 = .ok (.iload_n 2, 1) := by decide +kernel
theorem dX4_shipped_218 : decode cX4_shipped 218 = .ok (.invokevirtual 61, 3) := by decide +kernel
theorem dX4_shipped_221 : decode cX4_shipped 221 = .ok (.return_, 1) := by decide +kernel
set_option maxRecDepth 20000 in
theorem ggX4_drop_X4_remove : GoodIn wsX4_drop wsX4_remove := goodIn_r _ [6, 1, 7, 8, 9, 10, 11, 12, 13, 14, 15, 16, 17, 18, 19, 20] (by decide +kernel) (by decide +kernel)
set_option maxRecDepth 20000 in
theorem gX4_drop_X4_remove : GoodIn wsX4_drop (wsV RX4 65 RX4 yX4_remove wsX4_remove) := goodIn_app (goodIn_of _ (by decide +kernel)) ggX4_drop_X4_remove
theorem dX4_drop_0 : decode cX4_drop 0 = .ok (.iload_n 1, 1) := by decide +kernel
theorem dX4_drop_1 : decode cX4_drop 1 = .ok (.ifCond .lt 11, 3) := by decide +kernel
theorem dX4_drop_4 : decode cX4_drop 4 = .ok (.iload_n 1, 1) := by decide +kernel
theorem dX4_drop_5 : decode cX4_drop 5 = .ok (.aload_n 0, 1) := by decide +kernel
theorem dX4_drop_6 : decode cX4_drop 6 = .ok (.getfield 50, 3) := by decide +kernel
theorem dX4_drop_9 : decode cX4_drop 9 = .ok (.if_icmp .lt 5, 3) := by decide +kernel
theorem dX4_drop_12 : decode cX4_drop 12 = .ok (.iconst 0, 1) := by decide +kernel
theorem dX4_drop_13 : decode cX4_drop 13 = .ok (.ireturn, 1) := by decide +kernel
theorem dX4_drop_14 : decode cX4_drop 14 = .ok (.aload_n 0, 1) := by decide +kernel
theorem dX4_drop_15 : decode cX4_drop 15 = .ok (.iload_n 1, 1) := by decide +kernel
theorem dX4_drop_16 : decode cX4_drop 16 = .ok (.invokevirtual 65, 3) := by decide +kernel
theorem dX4_drop_19 : decode cX4_drop 19 = .ok (.iconst 1, 1) := by decide +kernel
theorem dX4_drop_20 : decode cX4_drop 20 = .ok (.ireturn, 1) := by decide +kernel
set_option maxRecDepth 20000 in
theorem ggX4_fuse_X4_isNode : GoodIn wsX4_fuse wsX4_isNode := goodIn_r _ [5] (by decide +kernel) (by decide +kernel)
set_option maxRecDepth 20000 in
theorem gX4_fuse_X4_isNode : GoodIn wsX4_fuse (va_wsS RX4 54 yX4_isNode wsX4_isNode) := goodIn_app (goodIn_of _ (by decide +kernel)) ggX4_fuse_X4_isNode
theorem dX4_fuse_0 : decode cX4_fuse 0 = .ok (.iload_n 1, 1) := by decide +kernel
theorem dX4_fuse_1 : decode cX4_fuse 1 = .ok (.invokestatic 54, 3) := by decide +kernel
theorem dX4_fuse_4 : decode cX4_fuse 4 = .ok (.ifCond .ne 5, 3) := by decide +kernel
theorem dX4_fuse_7 : decode cX4_fuse 7 = .ok (.iconst (-1), 1) := by decide +kernel
theorem dX4_fuse_8 : decode cX4_fuse 8 = .ok (.ireturn, 1) := by decide +kernel
theorem dX4_fuse_9 : decode cX4_fuse 9 = .ok (.aload_n 0, 1) := by decide +kernel
theorem dX4_fuse_10 : decode cX4_fuse 10 = .ok (.getfield 26, 3) := by decide +kernel
theorem dX4_fuse_13 : decode cX4_fuse 13 = .ok (.iload_n 1, 1) := by decide +kernel
theorem dX4_fuse_14 : decode cX4_fuse 14 = .ok (.iload_n 2, 1) := by decide +kernel
theorem dX4_fuse_15 : decode cX4_fuse 15 = .ok (.ifCond .ge 7, 3) := by decide +kernel
theorem dX4_fuse_18 : decode cX4_fuse 18 = .ok (.iconst (-1), 1) := by decide +kernel
theorem dX4_fuse_19 : decode cX4_fuse 19 = .ok (.goto 4, 3) := by decide +kernel
theorem dX4_fuse_22 : decode cX4_fuse 22 = .ok (.iload_n 2, 1) := by decide +kernel
theorem dX4_fuse_23 : decode cX4_fuse 23 = .ok (.iastore, 1) := by decide +kernel
theorem dX4_fuse_24 : decode cX4_fuse 24 = .ok (.iconst 1, 1) := by decide +kernel
theorem dX4_fuse_25 : decode cX4_fuse 25 = .ok (.ireturn, 1) := by decide +kernel
set_option maxRecDepth 20000 in
theorem ggX4_crash_X4_isNode : GoodIn wsX4_crash wsX4_isNode := goodIn_r _ [7] (by decide +kernel) (by decide +kernel)
set_option maxRecDepth 20000 in
theorem gX4_crash_X4_isNode : GoodIn wsX4_crash (va_wsS RX4 54 yX4_isNode wsX4_isNode) := goodIn_app (goodIn_of _ (by decide +kernel)) ggX4_crash_X4_isNode
theorem dX4_crash_0 : decode cX4_crash 0 = .ok (.iload_n 1, 1) := by decide +kernel
theorem dX4_crash_1 : decode cX4_crash 1 = .ok (.invokestatic 54, 3) := by decide +kernel
theorem dX4_crash_4 : decode cX4_crash 4 = .ok (.ifCond .ne 5, 3) := by decide +kernel
theorem dX4_crash_7 : decode cX4_crash 7 = .ok (.iconst (-1), 1) := by decide +kernel
theorem dX4_crash_8 : decode cX4_crash 8 = .ok (.ireturn, 1) := by decide +kernel
theorem dX4_crash_9 : decode cX4_crash 9 = .ok (.aload_n 0, 1) := by decide +kernel
theorem dX4_crash_10 : decode cX4_crash 10 = .ok (.getfield 16, 3) := by decide +kernel
theorem dX4_crash_13 : decode cX4_crash 13 = .ok (.iload_n 1, 1) := by decide +kernel
theorem dX4_crash_14 : decode cX4_crash 14 = .ok (.baload, 1) := by decide +kernel
theorem dX4_crash_15 : decode cX4_crash 15 = .ok (.ifCond .eq 7, 3) := by decide +kernel
theorem dX4_crash_18 : decode cX4_crash 18 = .ok (.iconst 0, 1) := by decide +kernel
theorem dX4_crash_19 : decode cX4_crash 19 = .ok (.goto 4, 3) := by decide +kernel
theorem dX4_crash_22 : decode cX4_crash 22 = .ok (.iconst 1, 1) := by decide +kernel
theorem dX4_crash_23 : decode cX4_crash 23 = .ok (.istore_n 2, 1) := by decide +kernel
theorem dX4_crash_24 : decode cX4_crash 24 = .ok (.aload_n 0, 1) := by decide +kernel
theorem dX4_crash_25 : decode cX4_crash 25 = .ok (.getfield 16, 3) := by decide +kernel
theorem dX4_crash_28 : decode cX4_crash 28 = .ok (.iload_n 1, 1) := by decide +kernel
theorem dX4_crash_29 : decode cX4_crash 29 = .ok (.iconst 1, 1) := by decide +kernel
theorem dX4_crash_30 : decode cX4_crash 30 = .ok (.bastore, 1) := by decide +kernel
theorem dX4_crash_31 : decode cX4_crash 31 = .ok (.aload_n 0, 1) := by decide +kernel
theorem dX4_crash_32 : decode cX4_crash 32 = .ok (.getfield 20, 3) := by decide +kernel
theorem dX4_crash_35 : decode cX4_crash 35 = .ok (.iload_n 1, 1) := by decide +kernel
theorem dX4_crash_36 : decode cX4_crash 36 = .ok (.iconst 0, 1) := by decide +kernel
theorem dX4_crash_37 : decode cX4_crash 37 = .ok (.bastore, 1) := by decide +kernel
theorem dX4_crash_38 : decode cX4_crash 38 = .ok (.aload_n 0, 1) := by decide +kernel
theorem dX4_crash_39 : decode cX4_crash 39 = .ok (.getfield 26, 3) := by decide +kernel
theorem dX4_crash_42 : decode cX4_crash 42 = .ok (.iload_n 1, 1) := by decide +kernel
theorem dX4_crash_43 : decode cX4_crash 43 = .ok (.iconst (-1), 1) := by decide +kernel
theorem dX4_crash_44 : decode cX4_crash 44 = .ok (.iastore, 1) := by decide +kernel
theorem dX4_crash_45 : decode cX4_crash 45 = .ok (.iload_n 2, 1) := by decide +kernel
theorem dX4_crash_46 : decode cX4_crash 46 = .ok (.ireturn, 1) := by decide +kernel
set_option maxRecDepth 20000 in
theorem ggX4_recover_X4_isNode : GoodIn wsX4_recover wsX4_isNode := goodIn_r _ [8] (by decide +kernel) (by decide +kernel)
set_option maxRecDepth 20000 in
theorem gX4_recover_X4_isNode : GoodIn wsX4_recover (va_wsS RX4 54 yX4_isNode wsX4_isNode) := goodIn_app (goodIn_of _ (by decide +kernel)) ggX4_recover_X4_isNode
theorem dX4_recover_0 : decode cX4_recover 0 = .ok (.iload_n 1, 1) := by decide +kernel
theorem dX4_recover_1 : decode cX4_recover 1 = .ok (.invokestatic 54, 3) := by decide +kernel
theorem dX4_recover_4 : decode cX4_recover 4 = .ok (.ifCond .ne 5, 3) := by decide +kernel
theorem dX4_recover_7 : decode cX4_recover 7 = .ok (.iconst (-1), 1) := by decide +kernel
theorem dX4_recover_8 : decode cX4_recover 8 = .ok (.ireturn, 1) := by decide +kernel
theorem dX4_recover_9 : decode cX4_recover 9 = .ok (.aload_n 0, 1) := by decide +kernel
theorem dX4_recover_10 : decode cX4_recover 10 = .ok (.getfield 16, 3) := by decide +kernel
theorem dX4_recover_13 : decode cX4_recover 13 = .ok (.iload_n 1, 1) := by decide +kernel
theorem dX4_recover_14 : decode cX4_recover 14 = .ok (.baload, 1) := by decide +kernel
theorem dX4_recover_15 : decode cX4_recover 15 = .ok (.ifCond .ne 6, 3) := by decide +kernel
theorem dX4_recover_18 : decode cX4_recover 18 = .ok (.bipush (-2), 2) := by decide +kernel
theorem dX4_recover_20 : decode cX4_recover 20 = .ok (.ireturn, 1) := by decide +kernel
theorem dX4_recover_21 : decode cX4_recover 21 = .ok (.aload_n 0, 1) := by decide +kernel
theorem dX4_recover_22 : decode cX4_recover 22 = .ok (.getfield 16, 3) := by decide +kernel
theorem dX4_recover_25 : decode cX4_recover 25 = .ok (.iload_n 1, 1) := by decide +kernel
theorem dX4_recover_26 : decode cX4_recover 26 = .ok (.iconst 0, 1) := by decide +kernel
theorem dX4_recover_27 : decode cX4_recover 27 = .ok (.bastore, 1) := by decide +kernel
theorem dX4_recover_28 : decode cX4_recover 28 = .ok (.aload_n 0, 1) := by decide +kernel
theorem dX4_recover_29 : decode cX4_recover 29 = .ok (.getfield 20, 3) := by decide +kernel
theorem dX4_recover_32 : decode cX4_recover 32 = .ok (.iload_n 1, 1) := by decide +kernel
theorem dX4_recover_33 : decode cX4_recover 33 = .ok (.iconst 0, 1) := by decide +kernel
theorem dX4_recover_34 : decode cX4_recover 34 = .ok (.bastore, 1) := by decide +kernel
theorem dX4_recover_35 : decode cX4_recover 35 = .ok (.aload_n 0, 1) := by decide +kernel
theorem dX4_recover_36 : decode cX4_recover 36 = .ok (.getfield 26, 3) := by decide +kernel
theorem dX4_recover_39 : decode cX4_recover 39 = .ok (.iload_n 1, 1) := by decide +kernel
theorem dX4_recover_40 : decode cX4_recover 40 = .ok (.iconst (-1), 1) := by decide +kernel
theorem dX4_recover_41 : decode cX4_recover 41 = .ok (.iastore, 1) := by decide +kernel
theorem dX4_recover_42 : decode cX4_recover 42 = .ok (.aload_n 0, 1) := by decide +kernel
theorem dX4_recover_43 : decode cX4_recover 43 = .ok (.getfield 13, 3) := by decide +kernel
theorem dX4_recover_46 : decode cX4_recover 46 = .ok (.iload_n 1, 1) := by decide +kernel
theorem dX4_recover_47 : decode cX4_recover 47 = .ok (.iaload, 1) := by decide +kernel
theorem dX4_recover_48 : decode cX4_recover 48 = .ok (.ireturn, 1) := by decide +kernel
set_option maxRecDepth 20000 in
theorem ggX4_promote_X4_isNode : GoodIn wsX4_promote wsX4_isNode := goodIn_r _ [8] (by decide +kernel) (by decide +kernel)
set_option maxRecDepth 20000 in
theorem gX4_promote_X4_isNode : GoodIn wsX4_promote (va_wsS RX4 54 yX4_isNode wsX4_isNode) := goodIn_app (goodIn_of _ (by decide +kernel)) ggX4_promote_X4_isNode
set_option maxRecDepth 20000 in
theorem ggX4_promote_X4_becomeTerm : GoodIn wsX4_promote wsX4_becomeTerm := goodIn_r _ [12, 2, 13, 14, 15, 7, 16, 17, 1, 3, 18, 19, 20, 21, 22, 23, 24, 25, 26, 27, 28, 29, 30, 31] (by decide +kernel) (by decide +kernel)
set_option maxRecDepth 20000 in
theorem gX4_promote_X4_becomeTerm : GoodIn wsX4_promote (wsV RX4 69 RX4 yX4_becomeTerm wsX4_becomeTerm) := goodIn_app (goodIn_of _ (by decide +kernel)) ggX4_promote_X4_becomeTerm
theorem dX4_promote_0 : decode cX4_promote 0 = .ok (.iload_n 1, 1) := by decide +kernel
theorem dX4_promote_1 : decode cX4_promote 1 = .ok (.invokestatic 54, 3) := by decide +kernel
theorem dX4_promote_4 : decode cX4_promote 4 = .ok (.ifCond .ne 5, 3) := by decide +kernel
theorem dX4_promote_7 : decode cX4_promote 7 = .ok (.iconst (-1), 1) := by decide +kernel
theorem dX4_promote_8 : decode cX4_promote 8 = .ok (.ireturn, 1) := by decide +kernel
theorem dX4_promote_9 : decode cX4_promote 9 = .ok (.aload_n 0, 1) := by decide +kernel
theorem dX4_promote_10 : decode cX4_promote 10 = .ok (.getfield 16, 3) := by decide +kernel
theorem dX4_promote_13 : decode cX4_promote 13 = .ok (.iload_n 1, 1) := by decide +kernel
theorem dX4_promote_14 : decode cX4_promote 14 = .ok (.baload, 1) := by decide +kernel
theorem dX4_promote_15 : decode cX4_promote 15 = .ok (.ifCond .eq 6, 3) := by decide +kernel
theorem dX4_promote_18 : decode cX4_promote 18 = .ok (.bipush (-4), 2) := by decide +kernel
theorem dX4_promote_20 : decode cX4_promote 20 = .ok (.ireturn, 1) := by decide +kernel
theorem dX4_promote_21 : decode cX4_promote 21 = .ok (.aload_n 0, 1) := by decide +kernel
theorem dX4_promote_22 : decode cX4_promote 22 = .ok (.getfield 7, 3) := by decide +kernel
theorem dX4_promote_25 : decode cX4_promote 25 = .ok (.iload_n 1, 1) := by decide +kernel
theorem dX4_promote_26 : decode cX4_promote 26 = .ok (.iaload, 1) := by decide +kernel
theorem dX4_promote_27 : decode cX4_promote 27 = .ok (.iconst 2, 1) := by decide +kernel
theorem dX4_promote_28 : decode cX4_promote 28 = .ok (.irem, 1) := by decide +kernel
theorem dX4_promote_29 : decode cX4_promote 29 = .ok (.iload_n 1, 1) := by decide +kernel
theorem dX4_promote_30 : decode cX4_promote 30 = .ok (.if_icmp .ne 14, 3) := by decide +kernel
theorem dX4_promote_33 : decode cX4_promote 33 = .ok (.aload_n 0, 1) := by decide +kernel
theorem dX4_promote_34 : decode cX4_promote 34 = .ok (.getfield 7, 3) := by decide +kernel
theorem dX4_promote_37 : decode cX4_promote 37 = .ok (.iload_n 1, 1) := by decide +kernel
theorem dX4_promote_38 : decode cX4_promote 38 = .ok (.iaload, 1) := by decide +kernel
theorem dX4_promote_39 : decode cX4_promote 39 = .ok (.iconst 2, 1) := by decide +kernel
theorem dX4_promote_40 : decode cX4_promote 40 = .ok (.iadd, 1) := by decide +kernel
theorem dX4_promote_41 : decode cX4_promote 41 = .ok (.goto 11, 3) := by decide +kernel
theorem dX4_promote_44 : decode cX4_promote 44 = .ok (.aload_n 0, 1) := by decide +kernel
theorem dX4_promote_45 : decode cX4_promote 45 = .ok (.getfield 7, 3) := by decide +kernel
theorem dX4_promote_48 : decode cX4_promote 48 = .ok (.iload_n 1, 1) := by decide +kernel
theorem dX4_promote_49 : decode cX4_promote 49 = .ok (.iaload, 1) := by decide +kernel
theorem dX4_promote_50 : decode cX4_promote 50 = .ok (.iconst 1, 1) := by decide +kernel
theorem dX4_promote_51 : decode cX4_promote 51 = .ok (.iadd, 1) := by decide +kernel
theorem dX4_promote_52 : decode cX4_promote 52 = .ok (.istore_n 2, 1) := by decide +kernel
theorem dX4_promote_53 : decode cX4_promote 53 = .ok (.aload_n 0, 1) := by decide +kernel
theorem dX4_promote_54 : decode cX4_promote 54 = .ok (.iload_n 1, 1) := by decide +kernel
theorem dX4_promote_55 : decode cX4_promote 55 = .ok (.iload_n 2, 1) := by decide +kernel
theorem dX4_promote_56 : decode cX4_promote 56 = .ok (.invokevirtual 69, 3) := by decide +kernel
theorem dX4_promote_59 : decode cX4_promote 59 = .ok (.ifCond .ne 6, 3) := by decide +kernel
theorem dX4_promote_62 : decode cX4_promote 62 = .ok (.bipush (-4), 2) := by decide +kernel
theorem dX4_promote_64 : decode cX4_promote 64 = .ok (.ireturn, 1) := by decide +kernel
theorem dX4_promote_65 : decode cX4_promote 65 = .ok (.aload_n 0, 1) := by decide +kernel
theorem dX4_promote_66 : decode cX4_promote 66 = .ok (.getfield 20, 3) := by decide +kernel
theorem dX4_promote_69 : decode cX4_promote 69 = .ok (.iload_n 1, 1) := by decide +kernel
theorem dX4_promote_70 : decode cX4_promote 70 = .ok (.iconst 1, 1) := by decide +kernel
theorem dX4_promote_71 : decode cX4_promote 71 = .ok (.bastore, 1) := by decide +kernel
theorem dX4_promote_72 : decode cX4_promote 72 = .ok (.aload_n 0, 1) := by decide +kernel
theorem dX4_promote_73 : decode cX4_promote 73 = .ok (.getfield 23, 3) := by decide +kernel
theorem dX4_promote_76 : decode cX4_promote 76 = .ok (.iload_n 1, 1) := by decide +kernel
theorem dX4_promote_77 : decode cX4_promote 77 = .ok (.iconst (-1), 1) := by decide +kernel
theorem dX4_promote_78 : decode cX4_promote 78 = .ok (.iastore, 1) := by decide +kernel
theorem dX4_promote_79 : decode cX4_promote 79 = .ok (.iload_n 2, 1) := by decide +kernel
theorem dX4_promote_80 : decode cX4_promote 80 = .ok (.ireturn, 1) := by decide +kernel
set_option maxRecDepth 20000 in
theorem ggX4_rejoin_X4_isNode : GoodIn wsX4_rejoin wsX4_isNode := goodIn_r _ [8] (by decide +kernel) (by decide +kernel)
set_option maxRecDepth 20000 in
theorem gX4_rejoin_X4_isNode : GoodIn wsX4_rejoin (va_wsS RX4 54 yX4_isNode wsX4_isNode) := goodIn_app (goodIn_of _ (by decide +kernel)) ggX4_rejoin_X4_isNode
set_option maxRecDepth 20000 in
theorem ggX4_rejoin_X4_send : GoodIn wsX4_rejoin wsX4_send := goodIn_r _ [12, 3, 13, 14, 15, 16, 17, 4, 18, 19, 20, 21, 22, 23, 24, 25, 26, 27, 28, 29, 30] (by decide +kernel) (by decide +kernel)
set_option maxRecDepth 20000 in
theorem gX4_rejoin_X4_send : GoodIn wsX4_rejoin (wsV RX4 61 RX4 yX4_send wsX4_send) := goodIn_app (goodIn_of _ (by decide +kernel)) ggX4_rejoin_X4_send
theorem dX4_rejoin_0 : decode cX4_rejoin 0 = .ok (.iload_n 1, 1) := by decide +kernel
theorem dX4_rejoin_1 : decode cX4_rejoin 1 = .ok (.invokestatic 54, 3) := by decide +kernel
theorem dX4_rejoin_4 : decode cX4_rejoin 4 = .ok (.ifCond .ne 5, 3) := by decide +kernel
theorem dX4_rejoin_7 : decode cX4_rejoin 7 = .ok (.iconst (-1), 1) := by decide +kernel
theorem dX4_rejoin_8 : decode cX4_rejoin 8 = .ok (.ireturn, 1) := by decide +kernel
theorem dX4_rejoin_9 : decode cX4_rejoin 9 = .ok (.aload_n 0, 1) := by decide +kernel
theorem dX4_rejoin_10 : decode cX4_rejoin 10 = .ok (.getfield 16, 3) := by decide +kernel
theorem dX4_rejoin_13 : decode cX4_rejoin 13 = .ok (.iload_n 1, 1) := by decide +kernel
theorem dX4_rejoin_14 : decode cX4_rejoin 14 = .ok (.baload, 1) := by decide +kernel
theorem dX4_rejoin_15 : decode cX4_rejoin 15 = .ok (.ifCond .eq 6, 3) := by decide +kernel
theorem dX4_rejoin_18 : decode cX4_rejoin 18 = .ok (.bipush (-4), 2) := by decide +kernel
theorem dX4_rejoin_20 : decode cX4_rejoin 20 = .ok (.ireturn, 1) := by decide +kernel
theorem dX4_rejoin_21 : decode cX4_rejoin 21 = .ok (.aload_n 0, 1) := by decide +kernel
theorem dX4_rejoin_22 : decode cX4_rejoin 22 = .ok (.getfield 20, 3) := by decide +kernel
theorem dX4_rejoin_25 : decode cX4_rejoin 25 = .ok (.iload_n 1, 1) := by decide +kernel
theorem dX4_rejoin_26 : decode cX4_rejoin 26 = .ok (.baload, 1) := by decide +kernel
theorem dX4_rejoin_27 : decode cX4_rejoin 27 = .ok (.ifCond .eq 6, 3) := by decide +kernel
theorem dX4_rejoin_30 : decode cX4_rejoin 30 = .ok (.bipush (-2), 2) := by decide +kernel
theorem dX4_rejoin_32 : decode cX4_rejoin 32 = .ok (.ireturn, 1) := by decide +kernel
theorem dX4_rejoin_33 : decode cX4_rejoin 33 = .ok (.aload_n 0, 1) := by decide +kernel
theorem dX4_rejoin_34 : decode cX4_rejoin 34 = .ok (.getfield 50, 3) := by decide +kernel
theorem dX4_rejoin_37 : decode cX4_rejoin 37 = .ok (.bipush 16, 2) := by decide +kernel
theorem dX4_rejoin_39 : decode cX4_rejoin 39 = .ok (.if_icmp .ne 6, 3) := by decide +kernel
theorem dX4_rejoin_42 : decode cX4_rejoin 42 = .ok (.bipush (-3), 2) := by decide +kernel
theorem dX4_rejoin_44 : decode cX4_rejoin 44 = .ok (.ireturn, 1) := by decide +kernel
theorem dX4_rejoin_45 : decode cX4_rejoin 45 = .ok (.aload_n 0, 1) := by decide +kernel
theorem dX4_rejoin_46 : decode cX4_rejoin 46 = .ok (.iload_n 1, 1) := by decide +kernel
theorem dX4_rejoin_47 : decode cX4_rejoin 47 = .ok (.iconst 3, 1) := by decide +kernel
theorem dX4_rejoin_48 : decode cX4_rejoin 48 = .ok (.aload_n 0, 1) := by decide +kernel
theorem dX4_rejoin_49 : decode cX4_rejoin 49 = .ok (.getfield 13, 3) := by decide +kernel
theorem dX4_rejoin_52 : decode cX4_rejoin 52 = .ok (.iload_n 1, 1) := by decide +kernel
theorem dX4_rejoin_53 : decode cX4_rejoin 53 = .ok (.iaload, 1) := by decide +kernel
theorem dX4_rejoin_54 : decode cX4_rejoin 54 = .ok (.invokevirtual 61, 3) := by decide +kernel
theorem dX4_rejoin_57 : decode cX4_rejoin 57 = .ok (.iconst 1, 1) := by decide +kernel
theorem dX4_rejoin_58 : decode cX4_rejoin 58 = .ok (.ireturn, 1) := by decide +kernel
set_option maxRecDepth 20000 in
theorem ggX4_told_X4_isNode : GoodIn wsX4_told wsX4_isNode := goodIn_r _ [11] (by decide +kernel) (by decide +kernel)
set_option maxRecDepth 20000 in
theorem gX4_told_X4_isNode : GoodIn wsX4_told (va_wsS RX4 54 yX4_isNode wsX4_isNode) := goodIn_app (goodIn_of _ (by decide +kernel)) ggX4_told_X4_isNode
theorem dX4_told_0 : decode cX4_told 0 = .ok (.iload_n 1, 1) := by decide +kernel
theorem dX4_told_1 : decode cX4_told 1 = .ok (.invokestatic 54, 3) := by decide +kernel
theorem dX4_told_4 : decode cX4_told 4 = .ok (.ifCond .ne 5, 3) := by decide +kernel
theorem dX4_told_7 : decode cX4_told 7 = .ok (.iconst (-1), 1) := by decide +kernel
theorem dX4_told_8 : decode cX4_told 8 = .ok (.ireturn, 1) := by decide +kernel
theorem dX4_told_9 : decode cX4_told 9 = .ok (.iload_n 2, 1) := by decide +kernel
theorem dX4_told_10 : decode cX4_told 10 = .ok (.tableswitch 120 0 6 #[42, 49, 56, 71, 86, 106, 113], 42) := by decide +kernel
theorem dX4_told_52 : decode cX4_told 52 = .ok (.aload_n 0, 1) := by decide +kernel
theorem dX4_told_53 : decode cX4_told 53 = .ok (.getfield 7, 3) := by decide +kernel
theorem dX4_told_56 : decode cX4_told 56 = .ok (.iload_n 1, 1) := by decide +kernel
theorem dX4_told_57 : decode cX4_told 57 = .ok (.iaload, 1) := by decide +kernel
theorem dX4_told_58 : decode cX4_told 58 = .ok (.ireturn, 1) := by decide +kernel
theorem dX4_told_59 : decode cX4_told 59 = .ok (.aload_n 0, 1) := by decide +kernel
theorem dX4_told_60 : decode cX4_told 60 = .ok (.getfield 13, 3) := by decide +kernel
theorem dX4_told_63 : decode cX4_told 63 = .ok (.iload_n 1, 1) := by decide +kernel
theorem dX4_told_64 : decode cX4_told 64 = .ok (.iaload, 1) := by decide +kernel
theorem dX4_told_65 : decode cX4_told 65 = .ok (.ireturn, 1) := by decide +kernel
theorem dX4_told_66 : decode cX4_told 66 = .ok (.aload_n 0, 1) := by decide +kernel
theorem dX4_told_67 : decode cX4_told 67 = .ok (.getfield 16, 3) := by decide +kernel
theorem dX4_told_70 : decode cX4_told 70 = .ok (.iload_n 1, 1) := by decide +kernel
theorem dX4_told_71 : decode cX4_told 71 = .ok (.baload, 1) := by decide +kernel
theorem dX4_told_72 : decode cX4_told 72 = .ok (.ifCond .eq 7, 3) := by decide +kernel
theorem dX4_told_75 : decode cX4_told 75 = .ok (.iconst 0, 1) := by decide +kernel
theorem dX4_told_76 : decode cX4_told 76 = .ok (.goto 4, 3) := by decide +kernel
theorem dX4_told_79 : decode cX4_told 79 = .ok (.iconst 1, 1) := by decide +kernel
theorem dX4_told_80 : decode cX4_told 80 = .ok (.ireturn, 1) := by decide +kernel
theorem dX4_told_81 : decode cX4_told 81 = .ok (.aload_n 0, 1) := by decide +kernel
theorem dX4_told_82 : decode cX4_told 82 = .ok (.getfield 20, 3) := by decide +kernel
theorem dX4_told_85 : decode cX4_told 85 = .ok (.iload_n 1, 1) := by decide +kernel
theorem dX4_told_86 : decode cX4_told 86 = .ok (.baload, 1) := by decide +kernel
theorem dX4_told_87 : decode cX4_told 87 = .ok (.ifCond .eq 7, 3) := by decide +kernel
theorem dX4_told_90 : decode cX4_told 90 = .ok (.iconst 1, 1) := by decide +kernel
theorem dX4_told_91 : decode cX4_told 91 = .ok (.goto 4, 3) := by decide +kernel
theorem dX4_told_94 : decode cX4_told 94 = .ok (.iconst 0, 1) := by decide +kernel
theorem dX4_told_95 : decode cX4_told 95 = .ok (.ireturn, 1) := by decide +kernel
theorem dX4_told_96 : decode cX4_told 96 = .ok (.aload_n 0, 1) := by decide +kernel
theorem dX4_told_97 : decode cX4_told 97 = .ok (.getfield 20, 3) := by decide +kernel
theorem dX4_told_100 : decode cX4_told 100 = .ok (.iload_n 1, 1) := by decide +kernel
theorem dX4_told_101 : decode cX4_told 101 = .ok (.baload, 1) := by decide +kernel
theorem dX4_told_102 : decode cX4_told 102 = .ok (.ifCond .eq 12, 3) := by decide +kernel
theorem dX4_told_105 : decode cX4_told 105 = .ok (.aload_n 0, 1) := by decide +kernel
theorem dX4_told_106 : decode cX4_told 106 = .ok (.getfield 23, 3) := by decide +kernel
theorem dX4_told_109 : decode cX4_told 109 = .ok (.iload_n 1, 1) := by decide +kernel
theorem dX4_told_110 : decode cX4_told 110 = .ok (.iaload, 1) := by decide +kernel
theorem dX4_told_111 : decode cX4_told 111 = .ok (.goto 4, 3) := by decide +kernel
theorem dX4_told_114 : decode cX4_told 114 = .ok (.iconst (-1), 1) := by decide +kernel
theorem dX4_told_115 : decode cX4_told 115 = .ok (.ireturn, 1) := by decide +kernel
theorem dX4_told_116 : decode cX4_told 116 = .ok (.aload_n 0, 1) := by decide +kernel
theorem dX4_told_117 : decode cX4_told 117 = .ok (.getfield 26, 3) := by decide +kernel
theorem dX4_told_120 : decode cX4_told 120 = .ok (.iload_n 1, 1) := by decide +kernel
theorem dX4_told_121 : decode cX4_told 121 = .ok (.iaload, 1) := by decide +kernel
theorem dX4_told_122 : decode cX4_told 122 = .ok (.ireturn, 1) := by decide +kernel
theorem dX4_told_123 : decode cX4_told 123 = .ok (.aload_n 0, 1) := by decide +kernel
theorem dX4_told_124 : decode cX4_told 124 = .ok (.getfield 29, 3) := by decide +kernel
theorem dX4_told_127 : decode cX4_told 127 = .ok (.iload_n 1, 1) := by decide +kernel
theorem dX4_told_128 : decode cX4_told 128 = .ok (.iaload, 1) := by decide +kernel
theorem dX4_told_129 : decode cX4_told 129 = .ok (.ireturn, 1) := by decide +kernel
theorem dX4_told_130 : decode cX4_told 130 = .ok (.iconst (-1), 1) := by decide +kernel
theorem dX4_told_131 : decode cX4_told 131 = .ok (.ireturn, 1) := by decide +kernel
set_option maxRecDepth 20000 in
theorem ggX4_entry_X4_isNode : GoodIn wsX4_entry wsX4_isNode := goodIn_r _ [8] (by decide +kernel) (by decide +kernel)
set_option maxRecDepth 20000 in
theorem gX4_entry_X4_isNode : GoodIn wsX4_entry (va_wsS RX4 54 yX4_isNode wsX4_isNode) := goodIn_app (goodIn_of _ (by decide +kernel)) ggX4_entry_X4_isNode
theorem dX4_entry_0 : decode cX4_entry 0 = .ok (.iload_n 1, 1) := by decide +kernel
theorem dX4_entry_1 : decode cX4_entry 1 = .ok (.invokestatic 54, 3) := by decide +kernel
theorem dX4_entry_4 : decode cX4_entry 4 = .ok (.ifCond .eq 17, 3) := by decide +kernel
theorem dX4_entry_7 : decode cX4_entry 7 = .ok (.iload_n 2, 1) := by decide +kernel
theorem dX4_entry_8 : decode cX4_entry 8 = .ok (.ifCond .lt 13, 3) := by decide +kernel
theorem dX4_entry_11 : decode cX4_entry 11 = .ok (.iload_n 2, 1) := by decide +kernel
theorem dX4_entry_12 : decode cX4_entry 12 = .ok (.aload_n 0, 1) := by decide +kernel
theorem dX4_entry_13 : decode cX4_entry 13 = .ok (.getfield 13, 3) := by decide +kernel
theorem dX4_entry_16 : decode cX4_entry 16 = .ok (.iload_n 1, 1) := by decide +kernel
theorem dX4_entry_17 : decode cX4_entry 17 = .ok (.iaload, 1) := by decide +kernel
theorem dX4_entry_18 : decode cX4_entry 18 = .ok (.if_icmp .lt 5, 3) := by decide +kernel
theorem dX4_entry_21 : decode cX4_entry 21 = .ok (.iconst 0, 1) := by decide +kernel
theorem dX4_entry_22 : decode cX4_entry 22 = .ok (.ireturn, 1) := by decide +kernel
theorem dX4_entry_23 : decode cX4_entry 23 = .ok (.bipush 64, 2) := by decide +kernel
theorem dX4_entry_25 : decode cX4_entry 25 = .ok (.iload_n 1, 1) := by decide +kernel
theorem dX4_entry_26 : decode cX4_entry 26 = .ok (.imul, 1) := by decide +kernel
theorem dX4_entry_27 : decode cX4_entry 27 = .ok (.iload_n 2, 1) := by decide +kernel
theorem dX4_entry_28 : decode cX4_entry 28 = .ok (.iadd, 1) := by decide +kernel
theorem dX4_entry_29 : decode cX4_entry 29 = .ok (.istore 4, 2) := by decide +kernel
theorem dX4_entry_31 : decode cX4_entry 31 = .ok (.iload_n 3, 1) := by decide +kernel
theorem dX4_entry_32 : decode cX4_entry 32 = .ok (.ifCond .ne 13, 3) := by decide +kernel
theorem dX4_entry_35 : decode cX4_entry 35 = .ok (.aload_n 0, 1) := by decide +kernel
theorem dX4_entry_36 : decode cX4_entry 36 = .ok (.getfield 32, 3) := by decide +kernel
theorem dX4_entry_39 : decode cX4_entry 39 = .ok (.iload 4, 2) := by decide +kernel
theorem dX4_entry_41 : decode cX4_entry 41 = .ok (.iaload, 1) := by decide +kernel
theorem dX4_entry_42 : decode cX4_entry 42 = .ok (.goto 34, 3) := by decide +kernel
theorem dX4_entry_45 : decode cX4_entry 45 = .ok (.iload_n 3, 1) := by decide +kernel
theorem dX4_entry_46 : decode cX4_entry 46 = .ok (.iconst 1, 1) := by decide +kernel
theorem dX4_entry_47 : decode cX4_entry 47 = .ok (.if_icmp .ne 13, 3) := by decide +kernel
theorem dX4_entry_50 : decode cX4_entry 50 = .ok (.aload_n 0, 1) := by decide +kernel
theorem dX4_entry_51 : decode cX4_entry 51 = .ok (.getfield 35, 3) := by decide +kernel
theorem dX4_entry_54 : decode cX4_entry 54 = .ok (.iload 4, 2) := by decide +kernel
theorem dX4_entry_56 : decode cX4_entry 56 = .ok (.iaload, 1) := by decide +kernel
theorem dX4_entry_57 : decode cX4_entry 57 = .ok (.goto 19, 3) := by decide +kernel
theorem dX4_entry_60 : decode cX4_entry 60 = .ok (.iload_n 3, 1) := by decide +kernel
theorem dX4_entry_61 : decode cX4_entry 61 = .ok (.iconst 2, 1) := by decide +kernel
theorem dX4_entry_62 : decode cX4_entry 62 = .ok (.if_icmp .ne 13, 3) := by decide +kernel
theorem dX4_entry_65 : decode cX4_entry 65 = .ok (.aload_n 0, 1) := by decide +kernel
theorem dX4_entry_66 : decode cX4_entry 66 = .ok (.getfield 38, 3) := by decide +kernel
theorem dX4_entry_69 : decode cX4_entry 69 = .ok (.iload 4, 2) := by decide +kernel
theorem dX4_entry_71 : decode cX4_entry 71 = .ok (.iaload, 1) := by decide +kernel
theorem dX4_entry_72 : decode cX4_entry 72 = .ok (.goto 4, 3) := by decide +kernel
theorem dX4_entry_75 : decode cX4_entry 75 = .ok (.iconst 0, 1) := by decide +kernel
theorem dX4_entry_76 : decode cX4_entry 76 = .ok (.ireturn, 1) := by decide +kernel
theorem dX4_message_0 : decode cX4_message 0 = .ok (.iload_n 1, 1) := by decide +kernel
theorem dX4_message_1 : decode cX4_message 1 = .ok (.ifCond .lt 20, 3) := by decide +kernel
theorem dX4_message_4 : decode cX4_message 4 = .ok (.iload_n 1, 1) := by decide +kernel
theorem dX4_message_5 : decode cX4_message 5 = .ok (.aload_n 0, 1) := by decide +kernel
theorem dX4_message_6 : decode cX4_message 6 = .ok (.getfield 50, 3) := by decide +kernel
theorem dX4_message_9 : decode cX4_message 9 = .ok (.if_icmp .ge 12, 3) := by decide +kernel
theorem dX4_message_12 : decode cX4_message 12 = .ok (.iload_n 2, 1) := by decide +kernel
theorem dX4_message_13 : decode cX4_message 13 = .ok (.ifCond .lt 8, 3) := by decide +kernel
theorem dX4_message_16 : decode cX4_message 16 = .ok (.iload_n 2, 1) := by decide +kernel
theorem dX4_message_17 : decode cX4_message 17 = .ok (.iconst 3, 1) := by decide +kernel
theorem dX4_message_18 : decode cX4_message 18 = .ok (.if_icmp .le 5, 3) := by decide +kernel
theorem dX4_message_21 : decode cX4_message 21 = .ok (.iconst (-1), 1) := by decide +kernel
theorem dX4_message_22 : decode cX4_message 22 = .ok (.ireturn, 1) := by decide +kernel
theorem dX4_message_23 : decode cX4_message 23 = .ok (.aload_n 0, 1) := by decide +kernel
theorem dX4_message_24 : decode cX4_message 24 = .ok (.getfield 41, 3) := by decide +kernel
theorem dX4_message_27 : decode cX4_message 27 = .ok (.bipush 9, 2) := by decide +kernel
theorem dX4_message_29 : decode cX4_message 29 = .ok (.iload_n 1, 1) := by decide +kernel
theorem dX4_message_30 : decode cX4_message 30 = .ok (.imul, 1) := by decide +kernel
theorem dX4_message_31 : decode cX4_message 31 = .ok (.iload_n 2, 1) := by decide +kernel
theorem dX4_message_32 : decode cX4_message 32 = .ok (.iadd, 1) := by decide +kernel
theorem dX4_message_33 : decode cX4_message 33 = .ok (.iaload, 1) := by decide +kernel
theorem dX4_message_34 : decode cX4_message 34 = .ok (.ireturn, 1) := by decide +kernel
theorem dX4_same_0 : decode cX4_same 0 = .ok (.iconst 0, 1) := by decide +kernel
theorem dX4_same_1 : decode cX4_same 1 = .ok (.istore_n 1, 1) := by decide +kernel
theorem dX4_same_2 : decode cX4_same 2 = .ok (.iload_n 1, 1) := by decide +kernel
theorem dX4_same_3 : decode cX4_same 3 = .ok (.aload_n 0, 1) := by decide +kernel
theorem dX4_same_4 : decode cX4_same 4 = .ok (.getfield 13, 3) := by decide +kernel
theorem dX4_same_7 : decode cX4_same 7 = .ok (.iconst 0, 1) := by decide +kernel
theorem dX4_same_8 : decode cX4_same 8 = .ok (.iaload, 1) := by decide +kernel
theorem dX4_same_9 : decode cX4_same 9 = .ok (.if_icmp .ge 73, 3) := by decide +kernel
theorem dX4_same_12 : decode cX4_same 12 = .ok (.iload_n 1, 1) := by decide +kernel
theorem dX4_same_13 : decode cX4_same 13 = .ok (.aload_n 0, 1) := by decide +kernel
theorem dX4_same_14 : decode cX4_same 14 = .ok (.getfield 13, 3) := by decide +kernel
theorem dX4_same_17 : decode cX4_same 17 = .ok (.iconst 1, 1) := by decide +kernel
theorem dX4_same_18 : decode cX4_same 18 = .ok (.iaload, 1) := by decide +kernel
theorem dX4_same_19 : decode cX4_same 19 = .ok (.if_icmp .ge 63, 3) := by decide +kernel
theorem dX4_same_22 : decode cX4_same 22 = .ok (.aload_n 0, 1) := by decide +kernel
theorem dX4_same_23 : decode cX4_same 23 = .ok (.getfield 32, 3) := by decide +kernel
theorem dX4_same_26 : decode cX4_same 26 = .ok (.iload_n 1, 1) := by decide +kernel
theorem dX4_same_27 : decode cX4_same 27 = .ok (.iaload, 1) := by decide +kernel
theorem dX4_same_28 : decode cX4_same 28 = .ok (.aload_n 0, 1) := by decide +kernel
theorem dX4_same_29 : decode cX4_same 29 = .ok (.getfield 32, 3) := by decide +kernel
theorem dX4_same_32 : decode cX4_same 32 = .ok (.bipush 64, 2) := by decide +kernel
theorem dX4_same_34 : decode cX4_same 34 = .ok (.iload_n 1, 1) := by decide +kernel
theorem dX4_same_35 : decode cX4_same 35 = .ok (.iadd, 1) := by decide +kernel
theorem dX4_same_36 : decode cX4_same 36 = .ok (.iaload, 1) := by decide +kernel
theorem dX4_same_37 : decode cX4_same 37 = .ok (.if_icmp .ne 45, 3) := by decide +kernel
theorem dX4_same_40 : decode cX4_same 40 = .ok (.aload_n 0, 1) := by decide +kernel
theorem dX4_same_41 : decode cX4_same 41 = .ok (.getfield 35, 3) := by decide +kernel
theorem dX4_same_44 : decode cX4_same 44 = .ok (.iload_n 1, 1) := by decide +kernel
theorem dX4_same_45 : decode cX4_same 45 = .ok (.iaload, 1) := by decide +kernel
theorem dX4_same_46 : decode cX4_same 46 = .ok (.aload_n 0, 1) := by decide +kernel
theorem dX4_same_47 : decode cX4_same 47 = .ok (.getfield 35, 3) := by decide +kernel
theorem dX4_same_50 : decode cX4_same 50 = .ok (.bipush 64, 2) := by decide +kernel
theorem dX4_same_52 : decode cX4_same 52 = .ok (.iload_n 1, 1) := by decide +kernel
theorem dX4_same_53 : decode cX4_same 53 = .ok (.iadd, 1) := by decide +kernel
theorem dX4_same_54 : decode cX4_same 54 = .ok (.iaload, 1) := by decide +kernel
theorem dX4_same_55 : decode cX4_same 55 = .ok (.if_icmp .ne 27, 3) := by decide +kernel
theorem dX4_same_58 : decode cX4_same 58 = .ok (.aload_n 0, 1) := by decide +kernel
theorem dX4_same_59 : decode cX4_same 59 = .ok (.getfield 38, 3) := by decide +kernel
theorem dX4_same_62 : decode cX4_same 62 = .ok (.iload_n 1, 1) := by decide +kernel
theorem dX4_same_63 : decode cX4_same 63 = .ok (.iaload, 1) := by decide +kernel
theorem dX4_same_64 : decode cX4_same 64 = .ok (.aload_n 0, 1) := by decide +kernel
theorem dX4_same_65 : decode cX4_same 65 = .ok (.getfield 38, 3) := by decide +kernel
theorem dX4_same_68 : decode cX4_same 68 = .ok (.bipush 64, 2) := by decide +kernel
theorem dX4_same_70 : decode cX4_same 70 = .ok (.iload_n 1, 1) := by decide +kernel
theorem dX4_same_71 : decode cX4_same 71 = .ok (.iadd, 1) := by decide +kernel
theorem dX4_same_72 : decode cX4_same 72 = .ok (.iaload, 1) := by decide +kernel
theorem dX4_same_73 : decode cX4_same 73 = .ok (.if_icmp .ne 9, 3) := by decide +kernel
theorem dX4_same_76 : decode cX4_same 76 = .ok (.iinc 1 1, 3) := by decide +kernel
theorem dX4_same_79 : decode cX4_same 79 = .ok (.goto (-77), 3) := by decide +kernel
theorem dX4_same_82 : decode cX4_same 82 = .ok (.iload_n 1, 1) := by decide +kernel
theorem dX4_same_83 : decode cX4_same 83 = .ok (.ireturn, 1) := by decide +kernel
theorem dJ9_max_7cf53_0 : decode cJ9_max_7cf53 0 = .ok (.iload_n 0, 1) := by decide +kernel
theorem dJ9_max_7cf53_1 : decode cJ9_max_7cf53 1 = .ok (.iload_n 1, 1) := by decide +kernel
theorem dJ9_max_7cf53_2 : decode cJ9_max_7cf53 2 = .ok (.if_icmp .lt 7, 3) := by decide +kernel
theorem dJ9_max_7cf53_5 : decode cJ9_max_7cf53 5 = .ok (.iload_n 0, 1) := by decide +kernel
theorem dJ9_max_7cf53_6 : decode cJ9_max_7cf53 6 = .ok (.goto 4, 3) := by decide +kernel
theorem dJ9_max_7cf53_9 : decode cJ9_max_7cf53 9 = .ok (.iload_n 1, 1) := by decide +kernel
theorem dJ9_max_7cf53_10 : decode cJ9_max_7cf53 10 = .ok (.ireturn, 1) := by decide +kernel
theorem dJ9_min_7cf53_0 : decode cJ9_min_7cf53 0 = .ok (.iload_n 0, 1) := by decide +kernel
theorem dJ9_min_7cf53_1 : decode cJ9_min_7cf53 1 = .ok (.iload_n 1, 1) := by decide +kernel
theorem dJ9_min_7cf53_2 : decode cJ9_min_7cf53 2 = .ok (.if_icmp .gt 7, 3) := by decide +kernel
theorem dJ9_min_7cf53_5 : decode cJ9_min_7cf53 5 = .ok (.iload_n 0, 1) := by decide +kernel
theorem dJ9_min_7cf53_6 : decode cJ9_min_7cf53 6 = .ok (.goto 4, 3) := by decide +kernel
theorem dJ9_min_7cf53_9 : decode cJ9_min_7cf53 9 = .ok (.iload_n 1, 1) := by decide +kernel
theorem dJ9_min_7cf53_10 : decode cJ9_min_7cf53 10 = .ok (.ireturn, 1) := by decide +kernel
set_option maxRecDepth 20000 in
theorem ggL_law_X3_init : GoodIn wsL_law wsX3_init := goodIn_r _ [8, 9, 10, 11, 12, 13, 14, 15, 16, 17, 18, 19, 20, 21, 22, 23, 24, 25, 26, 27, 28, 29, 30, 31, 32, 33, 34, 35, 36, 37, 38, 39, 40, 41, 42, 43, 44, 45, 46, 351, 352, 353, 354, 355, 356, 357, 358, 359, 360, 361, 335, 336, 337, 362, 363, 364, 365, 366, 367, 368, 369, 370, 371, 372, 373] (by decide +kernel) (by decide +kernel)
set_option maxRecDepth 20000 in
theorem gL_law_X3_init : GoodIn wsL_law (wsX3_init) := ggL_law_X3_init
set_option maxRecDepth 20000 in
theorem ggL_law_X4_init : GoodIn wsL_law wsX4_init := goodIn_r _ [49, 50, 10, 11, 28, 51, 52, 53, 54, 55, 56, 57, 58, 59, 60, 61, 62, 63, 338, 339, 340, 341, 342, 343, 344, 345, 346, 347, 348, 349, 350] (by decide +kernel) (by decide +kernel)
set_option maxRecDepth 20000 in
theorem gL_law_X4_init : GoodIn wsL_law (wsX4_init) := ggL_law_X4_init
set_option maxRecDepth 20000 in
theorem ggL_law_X3_put : GoodIn wsL_law wsX3_put := goodIn_r _ [67, 68, 69, 70, 20, 71, 72, 73, 74, 2, 75, 15, 16, 76, 77, 78, 79, 80, 81, 19, 82, 83, 84, 85, 86, 14, 87, 88, 29, 30, 31, 89, 90, 91, 92, 34, 93, 94, 95, 96, 97, 32, 27, 98, 99, 100, 101, 102, 103, 104, 105, 106, 107, 108, 109, 110, 111, 112, 113, 114, 115, 116, 117, 40, 118, 119, 120, 121, 122, 123, 124, 351, 352, 353, 354, 355, 356, 357, 358, 359, 360, 361, 335, 336, 337, 362, 363, 364, 365, 366, 367, 368, 369, 370, 371, 372, 373] (by decide +kernel) (by decide +kernel)
set_option maxRecDepth 20000 in
theorem gL_law_X3_put : GoodIn wsL_law (wsV RL 13 RX3 yX3_put wsX3_put) := goodIn_app (goodIn_of _ (by decide +kernel)) ggL_law_X3_put
set_option maxRecDepth 20000 in
theorem ggL_law_X4_put : GoodIn wsL_law wsX4_put := goodIn_r _ [128, 54, 55, 52, 129, 51, 130, 131, 5, 132, 133, 134, 135, 136, 59, 60, 61, 137, 138, 139, 140, 57, 58, 141, 142, 143, 144, 62, 338, 339, 340, 341, 342, 343, 344, 345, 346, 347, 348, 349, 350] (by decide +kernel) (by decide +kernel)
set_option maxRecDepth 20000 in
theorem gL_law_X4_put : GoodIn wsL_law (wsV RL 17 RX4 yX4_put wsX4_put) := goodIn_app (goodIn_of _ (by decide +kernel)) ggL_law_X4_put
set_option maxRecDepth 20000 in
theorem ggL_law_X3_get : GoodIn wsL_law wsX3_get := goodIn_r _ [148, 70, 104, 106, 72, 73, 74, 2, 75, 15, 16, 76, 77, 78, 351, 352, 353, 354, 355, 356, 357, 358, 359, 360, 361, 335, 336, 337] (by decide +kernel) (by decide +kernel)
set_option maxRecDepth 20000 in
theorem gL_law_X3_get : GoodIn wsL_law (wsV RL 18 RX3 yX3_get wsX3_get) := goodIn_app (goodIn_of _ (by decide +kernel)) ggL_law_X3_get
set_option maxRecDepth 20000 in
theorem ggL_law_X4_get : GoodIn wsL_law wsX4_get := goodIn_r _ [152, 52, 60, 61, 130, 131, 5, 132, 338, 339, 340, 341, 342, 343, 344, 345, 346, 347, 348, 349, 350] (by decide +kernel) (by decide +kernel)
set_option maxRecDepth 20000 in
theorem gL_law_X4_get : GoodIn wsL_law (wsV RL 22 RX4 yX4_get wsX4_get) := goodIn_app (goodIn_of _ (by decide +kernel)) ggL_law_X4_get
set_option maxRecDepth 20000 in
theorem ggL_law_X3_pump : GoodIn wsL_law wsX3_pump := goodIn_r _ [156, 20, 157, 15, 16, 68, 158, 159, 160, 161, 19, 162, 83, 40, 43, 163, 164, 165, 166, 167, 168, 169, 2, 170, 171, 71, 69, 172, 114, 115, 116, 117, 118, 119, 120, 121, 122, 123, 124, 80, 81, 82, 173, 174, 175, 14, 176, 27, 177, 178, 179, 180, 26, 89, 90, 91, 92, 34, 93, 94, 95, 96, 97, 32, 181, 182, 183, 184, 70, 108, 185, 186, 187, 188, 29, 189, 111, 112, 113, 88, 190, 191, 192, 193, 194, 195, 196, 103, 105, 107, 109, 110, 197, 198, 199, 200, 30, 31, 201, 84, 85, 86, 87, 202, 203, 204, 205, 206, 207, 208, 209, 210, 98, 99, 100, 101, 102, 104, 106, 211, 212, 213, 214, 215, 216, 217, 335, 336, 337, 365, 366, 367, 368, 369, 370, 371, 372, 373, 351, 352, 353, 354, 355, 356, 357, 358, 359, 360, 361, 362, 363, 364] (by decide +kernel) (by decide +kernel)
set_option maxRecDepth 20000 in
theorem gL_law_X3_pump : GoodIn wsL_law (wsV RL 23 RX3 yX3_pump wsX3_pump) := goodIn_app (goodIn_of _ (by decide +kernel)) ggL_law_X3_pump
set_option maxRecDepth 20000 in
theorem ggL_law_X4_pump : GoodIn wsL_law wsX4_pump := goodIn_r _ [221, 129, 63, 62, 54, 51, 55, 56, 52, 222, 223, 224, 5, 225, 141, 142, 143, 144, 59, 60, 61, 226, 227, 228, 229, 137, 138, 139, 140, 57, 58, 230, 231, 232, 233, 234, 235, 236, 237, 133, 134, 135, 136, 238, 239, 240, 241, 338, 339, 340, 341, 342, 343, 344, 345, 346, 347, 348, 349, 350] (by decide +kernel) (by decide +kernel)
set_option maxRecDepth 20000 in
theorem gL_law_X4_pump : GoodIn wsL_law (wsV RL 27 RX4 yX4_pump wsX4_pump) := goodIn_app (goodIn_of _ (by decide +kernel)) ggL_law_X4_pump
set_option maxRecDepth 20000 in
theorem ggL_law_X3_drop : GoodIn wsL_law wsX3_drop := goodIn_r _ [245, 20, 159, 160, 161, 19, 162, 83, 40, 43, 163, 164, 165, 166, 335, 336, 337, 362, 363, 364] (by decide +kernel) (by decide +kernel)
set_option maxRecDepth 20000 in
theorem gL_law_X3_drop : GoodIn wsL_law (wsV RL 28 RX3 yX3_drop wsX3_drop) := goodIn_app (goodIn_of _ (by decide +kernel)) ggL_law_X3_drop
set_option maxRecDepth 20000 in
theorem ggL_law_X4_drop : GoodIn wsL_law wsX4_drop := goodIn_r _ [249, 129, 222, 223, 224, 5, 225, 62, 338, 339, 340, 341, 342, 343, 344, 345, 346, 347, 348, 349, 350] (by decide +kernel) (by decide +kernel)
set_option maxRecDepth 20000 in
theorem gL_law_X4_drop : GoodIn wsL_law (wsV RL 32 RX4 yX4_drop wsX4_drop) := goodIn_app (goodIn_of _ (by decide +kernel)) ggL_law_X4_drop
set_option maxRecDepth 20000 in
theorem ggL_law_X3_fuse : GoodIn wsL_law wsX3_fuse := goodIn_r _ [253, 207, 208, 209, 210, 254, 72, 73, 74, 2, 75, 15, 16, 351, 352, 353, 354, 355, 356, 357, 358, 359, 360, 361, 335, 336, 337] (by decide +kernel) (by decide +kernel)
set_option maxRecDepth 20000 in
theorem gL_law_X3_fuse : GoodIn wsL_law (wsV RL 33 RX3 yX3_fuse wsX3_fuse) := goodIn_app (goodIn_of _ (by decide +kernel)) ggL_law_X3_fuse
set_option maxRecDepth 20000 in
theorem ggL_law_X4_fuse : GoodIn wsL_law wsX4_fuse := goodIn_r _ [258, 57, 130, 131, 5, 132, 338, 339, 340, 341, 342, 343, 344, 345, 346, 347, 348, 349, 350] (by decide +kernel) (by decide +kernel)
set_option maxRecDepth 20000 in
theorem gL_law_X4_fuse : GoodIn wsL_law (wsV RL 36 RX4 yX4_fuse wsX4_fuse) := goodIn_app (goodIn_of _ (by decide +kernel)) ggL_law_X4_fuse
set_option maxRecDepth 20000 in
theorem ggL_law_X3_crash : GoodIn wsL_law wsX3_crash := goodIn_r _ [262, 68, 72, 73, 74, 2, 75, 15, 16, 263, 95, 96, 14, 97, 32, 27, 34, 351, 352, 353, 354, 355, 356, 357, 358, 359, 360, 361, 335, 336, 337] (by decide +kernel) (by decide +kernel)
set_option maxRecDepth 20000 in
theorem gL_law_X3_crash : GoodIn wsL_law (wsV RL 37 RX3 yX3_crash wsX3_crash) := goodIn_app (goodIn_of _ (by decide +kernel)) ggL_law_X3_crash
set_option maxRecDepth 20000 in
theorem ggL_law_X4_crash : GoodIn wsL_law wsX4_crash := goodIn_r _ [267, 54, 55, 57, 130, 131, 5, 132, 338, 339, 340, 341, 342, 343, 344, 345, 346, 347, 348, 349, 350] (by decide +kernel) (by decide +kernel)
set_option maxRecDepth 20000 in
theorem gL_law_X4_crash : GoodIn wsL_law (wsV RL 41 RX4 yX4_crash wsX4_crash) := goodIn_app (goodIn_of _ (by decide +kernel)) ggL_law_X4_crash
set_option maxRecDepth 20000 in
theorem ggL_law_X3_recover : GoodIn wsL_law wsX3_recover := goodIn_r _ [271, 68, 70, 72, 73, 74, 2, 75, 15, 16, 272, 273, 274, 14, 275, 32, 34, 351, 352, 353, 354, 355, 356, 357, 358, 359, 360, 361, 335, 336, 337] (by decide +kernel) (by decide +kernel)
set_option maxRecDepth 20000 in
theorem gL_law_X3_recover : GoodIn wsL_law (wsV RL 42 RX3 yX3_recover wsX3_recover) := goodIn_app (goodIn_of _ (by decide +kernel)) ggL_law_X3_recover
set_option maxRecDepth 20000 in
theorem ggL_law_X4_recover : GoodIn wsL_law wsX4_recover := goodIn_r _ [279, 54, 55, 57, 52, 130, 131, 5, 132, 338, 339, 340, 341, 342, 343, 344, 345, 346, 347, 348, 349, 350] (by decide +kernel) (by decide +kernel)
set_option maxRecDepth 20000 in
theorem gL_law_X4_recover : GoodIn wsL_law (wsV RL 45 RX4 yX4_recover wsX4_recover) := goodIn_app (goodIn_of _ (by decide +kernel)) ggL_law_X4_recover
set_option maxRecDepth 20000 in
theorem ggL_law_X3_promote : GoodIn wsL_law wsX3_promote := goodIn_r _ [283, 68, 69, 206, 71, 72, 73, 74, 2, 75, 15, 16, 284, 285, 286, 14, 287, 26, 25, 288, 178, 179, 180, 89, 90, 91, 92, 34, 93, 94, 95, 96, 97, 32, 27, 351, 352, 353, 354, 355, 356, 357, 358, 359, 360, 361, 335, 336, 337] (by decide +kernel) (by decide +kernel)
set_option maxRecDepth 20000 in
theorem gL_law_X3_promote : GoodIn wsL_law (wsV RL 46 RX3 yX3_promote wsX3_promote) := goodIn_app (goodIn_of _ (by decide +kernel)) ggL_law_X3_promote
set_option maxRecDepth 20000 in
theorem ggL_law_X4_promote : GoodIn wsL_law wsX4_promote := goodIn_r _ [292, 54, 51, 55, 56, 130, 131, 5, 132, 226, 227, 228, 229, 137, 138, 139, 140, 57, 58, 338, 339, 340, 341, 342, 343, 344, 345, 346, 347, 348, 349, 350] (by decide +kernel) (by decide +kernel)
set_option maxRecDepth 20000 in
theorem gL_law_X4_promote : GoodIn wsL_law (wsV RL 49 RX4 yX4_promote wsX4_promote) := goodIn_app (goodIn_of _ (by decide +kernel)) ggL_law_X4_promote
set_option maxRecDepth 20000 in
theorem ggL_law_X3_rejoin : GoodIn wsL_law wsX3_rejoin := goodIn_r _ [296, 68, 69, 20, 70, 72, 73, 74, 2, 75, 15, 16, 79, 80, 81, 19, 82, 83, 114, 115, 116, 117, 40, 118, 119, 120, 121, 122, 123, 124, 351, 352, 353, 354, 355, 356, 357, 358, 359, 360, 361, 335, 336, 337, 362, 363, 364, 365, 366, 367, 368, 369, 370, 371, 372, 373] (by decide +kernel) (by decide +kernel)
set_option maxRecDepth 20000 in
theorem gL_law_X3_rejoin : GoodIn wsL_law (wsV RL 50 RX3 yX3_rejoin wsX3_rejoin) := goodIn_app (goodIn_of _ (by decide +kernel)) ggL_law_X3_rejoin
set_option maxRecDepth 20000 in
theorem ggL_law_X4_rejoin : GoodIn wsL_law wsX4_rejoin := goodIn_r _ [300, 54, 55, 129, 52, 130, 131, 5, 132, 141, 142, 143, 144, 62, 51, 59, 60, 61, 338, 339, 340, 341, 342, 343, 344, 345, 346, 347, 348, 349, 350] (by decide +kernel) (by decide +kernel)
set_option maxRecDepth 20000 in
theorem gL_law_X4_rejoin : GoodIn wsL_law (wsV RL 53 RX4 yX4_rejoin wsX4_rejoin) := goodIn_app (goodIn_of _ (by decide +kernel)) ggL_law_X4_rejoin
set_option maxRecDepth 20000 in
theorem ggL_law_X3_told : GoodIn wsL_law wsX3_told := goodIn_r _ [304, 71, 70, 68, 69, 206, 254, 305, 72, 73, 74, 2, 75, 15, 16, 351, 352, 353, 354, 355, 356, 357, 358, 359, 360, 361, 335, 336, 337] (by decide +kernel) (by decide +kernel)
set_option maxRecDepth 20000 in
theorem gL_law_X3_told : GoodIn wsL_law (wsV RL 54 RX3 yX3_told wsX3_told) := goodIn_app (goodIn_of _ (by decide +kernel)) ggL_law_X3_told
set_option maxRecDepth 20000 in
theorem ggL_law_X4_told : GoodIn wsL_law wsX4_told := goodIn_r _ [309, 51, 52, 54, 55, 56, 57, 58, 130, 131, 5, 132, 338, 339, 340, 341, 342, 343, 344, 345, 346, 347, 348, 349, 350] (by decide +kernel) (by decide +kernel)
set_option maxRecDepth 20000 in
theorem gL_law_X4_told : GoodIn wsL_law (wsV RL 57 RX4 yX4_told wsX4_told) := goodIn_app (goodIn_of _ (by decide +kernel)) ggL_law_X4_told
set_option maxRecDepth 20000 in
theorem ggL_law_X3_entry : GoodIn wsL_law wsX3_entry := goodIn_r _ [313, 102, 104, 106, 72, 73, 74, 2, 75, 15, 16, 110, 111, 112, 14, 113, 88, 351, 352, 353, 354, 355, 356, 357, 358, 359, 360, 361, 335, 336, 337] (by decide +kernel) (by decide +kernel)
set_option maxRecDepth 20000 in
theorem gL_law_X3_entry : GoodIn wsL_law (wsV RL 58 RX3 yX3_entry wsX3_entry) := goodIn_app (goodIn_of _ (by decide +kernel)) ggL_law_X3_entry
set_option maxRecDepth 20000 in
theorem ggL_law_X4_entry : GoodIn wsL_law wsX4_entry := goodIn_r _ [317, 52, 59, 60, 61, 130, 131, 5, 132, 338, 339, 340, 341, 342, 343, 344, 345, 346, 347, 348, 349, 350] (by decide +kernel) (by decide +kernel)
set_option maxRecDepth 20000 in
theorem gL_law_X4_entry : GoodIn wsL_law (wsV RL 61 RX4 yX4_entry wsX4_entry) := goodIn_app (goodIn_of _ (by decide +kernel)) ggL_law_X4_entry
set_option maxRecDepth 20000 in
theorem ggL_law_X3_message : GoodIn wsL_law wsX3_message := goodIn_r _ [321, 20, 158, 157, 171, 172, 322, 164, 165, 19, 166, 83, 40, 335, 336, 337, 365, 366, 367, 368, 369, 370, 371, 372, 373, 362, 363, 364] (by decide +kernel) (by decide +kernel)
set_option maxRecDepth 20000 in
theorem gL_law_X3_message : GoodIn wsL_law (wsV RL 62 RX3 yX3_message wsX3_message) := goodIn_app (goodIn_of _ (by decide +kernel)) ggL_law_X3_message
set_option maxRecDepth 20000 in
theorem ggL_law_X4_message : GoodIn wsL_law wsX4_message := goodIn_r _ [326, 129, 62, 338, 339, 340, 341, 342, 343, 344, 345, 346, 347, 348, 349, 350] (by decide +kernel) (by decide +kernel)
set_option maxRecDepth 20000 in
theorem gL_law_X4_message : GoodIn wsL_law (wsV RL 65 RX4 yX4_message wsX4_message) := goodIn_app (goodIn_of _ (by decide +kernel)) ggL_law_X4_message
set_option maxRecDepth 20000 in
theorem ggL_law_X3_same : GoodIn wsL_law wsX3_same := goodIn_r _ [330, 15, 70, 16, 215, 216, 209, 217, 102, 104, 106, 197, 198, 199, 14, 200, 30, 31, 201, 186, 187, 188, 29, 189, 111, 112, 113, 88, 335, 336, 337, 351, 352, 353, 354, 355, 356, 357, 358, 359, 360, 361] (by decide +kernel) (by decide +kernel)
set_option maxRecDepth 20000 in
theorem gL_law_X3_same : GoodIn wsL_law (wsV RL 66 RX3 yX3_same wsX3_same) := goodIn_app (goodIn_of _ (by decide +kernel)) ggL_law_X3_same
set_option maxRecDepth 20000 in
theorem ggL_law_X4_same : GoodIn wsL_law wsX4_same := goodIn_r _ [334, 52, 59, 60, 61, 338, 339, 340, 341, 342, 343, 344, 345, 346, 347, 348, 349, 350] (by decide +kernel) (by decide +kernel)
set_option maxRecDepth 20000 in
theorem gL_law_X4_same : GoodIn wsL_law (wsV RL 69 RX4 yX4_same wsX4_same) := goodIn_app (goodIn_of _ (by decide +kernel)) ggL_law_X4_same
theorem dL_law_0 : decode cL_law 0 = .ok (.new 7, 3) := by decide +kernel
