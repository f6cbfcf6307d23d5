theorem dX4_init_125 : decode cX4_init 125 = .ok (.aload_n 0, 1) := by decide +kernel
theorem dX4_init_126 : decode cX4_init 126 = .ok (.getfield 26, 3) := by decide +kernel
theorem dX4_init_129 : decode cX4_init 129 = .ok (.iconst 0, 1) := by decide +kernel
theorem dX4_init_130 : decode cX4_init 130 = .ok (.iconst (-1), 1) := by decide +kernel
theorem dX4_init_131 : decode cX4_init 131 = .ok (.iastore, 1) := by decide +kernel
theorem dX4_init_132 : decode cX4_init 132 = .ok (.aload_n 0, 1) := by decide +kernel
theorem dX4_init_133 : decode cX4_init 133 = .ok (.getfield 26, 3) := by decide +kernel
theorem dX4_init_136 : decode cX4_init 136 = .ok (.iconst 1, 1) := by decide +kernel
theorem dX4_init_137 : decode cX4_init 137 = .ok (.iconst (-1), 1) := by decide +kernel
theorem dX4_init_138 : decode cX4_init 138 = .ok (.iastore, 1) := by decide +kernel
theorem dX4_init_139 : decode cX4_init 139 = .ok (.return_, 1) := by decide +kernel
theorem dX4_isNode_0 : decode cX4_isNode 0 = .ok (.iload_n 0, 1) := by decide +kernel
theorem dX4_isNode_1 : decode cX4_isNode 1 = .ok (.ifCond .eq 8, 3) := by decide +kernel
theorem dX4_isNode_4 : decode cX4_isNode 4 = .ok (.iload_n 0, 1) := by decide +kernel
theorem dX4_isNode_5 : decode cX4_isNode 5 = .ok (.iconst 1, 1) := by decide +kernel
theorem dX4_isNode_6 : decode cX4_isNode 6 = .ok (.if_icmp .ne 7, 3) := by decide +kernel
theorem dX4_isNode_9 : decode cX4_isNode 9 = .ok (.iconst 1, 1) := by decide +kernel
theorem dX4_isNode_10 : decode cX4_isNode 10 = .ok (.goto 4, 3) := by decide +kernel
theorem dX4_isNode_13 : decode cX4_isNode 13 = .ok (.iconst 0, 1) := by decide +kernel
theorem dX4_isNode_14 : decode cX4_isNode 14 = .ok (.ireturn, 1) := by decide +kernel
theorem dX4_writes_0 : decode cX4_writes 0 = .ok (.aload_n 0, 1) := by decide +kernel
theorem dX4_writes_1 : decode cX4_writes 1 = .ok (.getfield 26, 3) := by decide +kernel
theorem dX4_writes_4 : decode cX4_writes 4 = .ok (.iload_n 1, 1) := by decide +kernel
theorem dX4_writes_5 : decode cX4_writes 5 = .ok (.iaload, 1) := by decide +kernel
theorem dX4_writes_6 : decode cX4_writes 6 = .ok (.ifCond .ne 26, 3) := by decide +kernel
theorem dX4_writes_9 : decode cX4_writes 9 = .ok (.aload_n 0, 1) := by decide +kernel
theorem dX4_writes_10 : decode cX4_writes 10 = .ok (.getfield 16, 3) := by decide +kernel
theorem dX4_writes_13 : decode cX4_writes 13 = .ok (.iload_n 1, 1) := by decide +kernel
theorem dX4_writes_14 : decode cX4_writes 14 = .ok (.iconst 1, 1) := by decide +kernel
theorem dX4_writes_15 : decode cX4_writes 15 = .ok (.bastore, 1) := by decide +kernel
theorem dX4_writes_16 : decode cX4_writes 16 = .ok (.aload_n 0, 1) := by decide +kernel
theorem dX4_writes_17 : decode cX4_writes 17 = .ok (.getfield 20, 3) := by decide +kernel
theorem dX4_writes_20 : decode cX4_writes 20 = .ok (.iload_n 1, 1) := by decide +kernel
theorem dX4_writes_21 : decode cX4_writes 21 = .ok (.iconst 0, 1) := by decide +kernel
theorem dX4_writes_22 : decode cX4_writes 22 = .ok (.bastore, 1) := by decide +kernel
theorem dX4_writes_23 : decode cX4_writes 23 = .ok (.aload_n 0, 1) := by decide +kernel
theorem dX4_writes_24 : decode cX4_writes 24 = .ok (.getfield 26, 3) := by decide +kernel
theorem dX4_writes_27 : decode cX4_writes 27 = .ok (.iload_n 1, 1) := by decide +kernel
theorem dX4_writes_28 : decode cX4_writes 28 = .ok (.iconst (-1), 1) := by decide +kernel
theorem dX4_writes_29 : decode cX4_writes 29 = .ok (.iastore, 1) := by decide +kernel
theorem dX4_writes_30 : decode cX4_writes 30 = .ok (.iconst 0, 1) := by decide +kernel
theorem dX4_writes_31 : decode cX4_writes 31 = .ok (.ireturn, 1) := by decide +kernel
theorem dX4_writes_32 : decode cX4_writes 32 = .ok (.aload_n 0, 1) := by decide +kernel
theorem dX4_writes_33 : decode cX4_writes 33 = .ok (.getfield 26, 3) := by decide +kernel
theorem dX4_writes_36 : decode cX4_writes 36 = .ok (.iload_n 1, 1) := by decide +kernel
theorem dX4_writes_37 : decode cX4_writes 37 = .ok (.aload_n 0, 1) := by decide +kernel
theorem dX4_writes_38 : decode cX4_writes 38 = .ok (.getfield 26, 3) := by decide +kernel
theorem dX4_writes_41 : decode cX4_writes 41 = .ok (.iload_n 1, 1) := by decide +kernel
theorem dX4_writes_42 : decode cX4_writes 42 = .ok (.iaload, 1) := by decide +kernel
theorem dX4_writes_43 : decode cX4_writes 43 = .ok (.ifCond .le 14, 3) := by decide +kernel
theorem dX4_writes_46 : decode cX4_writes 46 = .ok (.aload_n 0, 1) := by decide +kernel
theorem dX4_writes_47 : decode cX4_writes 47 = .ok (.getfield 26, 3) := by decide +kernel
theorem dX4_writes_50 : decode cX4_writes 50 = .ok (.iload_n 1, 1) := by decide +kernel
theorem dX4_writes_51 : decode cX4_writes 51 = .ok (.iaload, 1) := by decide +kernel
theorem dX4_writes_52 : decode cX4_writes 52 = .ok (.iconst 1, 1) := by decide +kernel
theorem dX4_writes_53 : decode cX4_writes 53 = .ok (.isub, 1) := by decide +kernel
theorem dX4_writes_54 : decode cX4_writes 54 = .ok (.goto 9, 3) := by decide +kernel
theorem dX4_writes_57 : decode cX4_writes 57 = .ok (.aload_n 0, 1) := by decide +kernel
theorem dX4_writes_58 : decode cX4_writes 58 = .ok (.getfield 26, 3) := by decide +kernel
theorem dX4_writes_61 : decode cX4_writes 61 = .ok (.iload_n 1, 1) := by decide +kernel
theorem dX4_writes_62 : decode cX4_writes 62 = .ok (.iaload, 1) := by decide +kernel
theorem dX4_writes_63 : decode cX4_writes 63 = .ok (.iastore, 1) := by decide +kernel
theorem dX4_writes_64 : decode cX4_writes 64 = .ok (.aload_n 0, 1) := by decide +kernel
theorem dX4_writes_65 : decode cX4_writes 65 = .ok (.getfield 29, 3) := by decide +kernel
theorem dX4_writes_68 : decode cX4_writes 68 = .ok (.iload_n 1, 1) := by decide +kernel
theorem dX4_writes_69 : decode cX4_writes 69 = .ok (.dup2, 1) := by decide +kernel
theorem dX4_writes_70 : decode cX4_writes 70 = .ok (.iaload, 1) := by decide +kernel
theorem dX4_writes_71 : decode cX4_writes 71 = .ok (.iconst 1, 1) := by decide +kernel
theorem dX4_writes_72 : decode cX4_writes 72 = .ok (.iadd, 1) := by decide +kernel
theorem dX4_writes_73 : decode cX4_writes 73 = .ok (.iastore, 1) := by decide +kernel
theorem dX4_writes_74 : decode cX4_writes 74 = .ok (.iconst 1, 1) := by decide +kernel
theorem dX4_writes_75 : decode cX4_writes 75 = .ok (.ireturn, 1) := by decide +kernel
set_option maxRecDepth 20000 in
theorem ggX4_putBehind_X4_writes : GoodIn wsX4_putBehind wsX4_writes := goodIn_r _ [9, 10, 11, 12, 13, 14, 15, 16, 17, 18, 19, 20, 21, 22, 23, 24, 25, 26] (by decide +kernel) (by decide +kernel)
set_option maxRecDepth 20000 in
theorem gX4_putBehind_X4_writes : GoodIn wsX4_putBehind (wsV RX4 47 RX4 yX4_writes wsX4_writes) := goodIn_app (goodIn_of _ (by decide +kernel)) ggX4_putBehind_X4_writes
theorem dX4_putBehind_0 : decode cX4_putBehind 0 = .ok (.aload_n 0, 1) := by decide +kernel
theorem dX4_putBehind_1 : decode cX4_putBehind 1 = .ok (.iload_n 1, 1) := by decide +kernel
theorem dX4_putBehind_2 : decode cX4_putBehind 2 = .ok (.invokevirtual 47, 3) := by decide +kernel
theorem dX4_putBehind_5 : decode cX4_putBehind 5 = .ok (.ifCond .ne 5, 3) := by decide +kernel
theorem dX4_putBehind_8 : decode cX4_putBehind 8 = .ok (.iconst 0, 1) := by decide +kernel
theorem dX4_putBehind_9 : decode cX4_putBehind 9 = .ok (.ireturn, 1) := by decide +kernel
theorem dX4_putBehind_10 : decode cX4_putBehind 10 = .ok (.bipush 64, 2) := by decide +kernel
theorem dX4_putBehind_12 : decode cX4_putBehind 12 = .ok (.iload_n 1, 1) := by decide +kernel
theorem dX4_putBehind_13 : decode cX4_putBehind 13 = .ok (.imul, 1) := by decide +kernel
theorem dX4_putBehind_14 : decode cX4_putBehind 14 = .ok (.aload_n 0, 1) := by decide +kernel
theorem dX4_putBehind_15 : decode cX4_putBehind 15 = .ok (.getfield 13, 3) := by decide +kernel
theorem dX4_putBehind_18 : decode cX4_putBehind 18 = .ok (.iload_n 1, 1) := by decide +kernel
theorem dX4_putBehind_19 : decode cX4_putBehind 19 = .ok (.iaload, 1) := by decide +kernel
theorem dX4_putBehind_20 : decode cX4_putBehind 20 = .ok (.iadd, 1) := by decide +kernel
theorem dX4_putBehind_21 : decode cX4_putBehind 21 = .ok (.istore 5, 2) := by decide +kernel
theorem dX4_putBehind_23 : decode cX4_putBehind 23 = .ok (.aload_n 0, 1) := by decide +kernel
theorem dX4_putBehind_24 : decode cX4_putBehind 24 = .ok (.getfield 32, 3) := by decide +kernel
theorem dX4_putBehind_27 : decode cX4_putBehind 27 = .ok (.iload 5, 2) := by decide +kernel
theorem dX4_putBehind_29 : decode cX4_putBehind 29 = .ok (.iload_n 2, 1) := by decide +kernel
theorem dX4_putBehind_30 : decode cX4_putBehind 30 = .ok (.iastore, 1) := by decide +kernel
theorem dX4_putBehind_31 : decode cX4_putBehind 31 = .ok (.aload_n 0, 1) := by decide +kernel
theorem dX4_putBehind_32 : decode cX4_putBehind 32 = .ok (.getfield 35, 3) := by decide +kernel
theorem dX4_putBehind_35 : decode cX4_putBehind 35 = .ok (.iload 5, 2) := by decide +kernel
theorem dX4_putBehind_37 : decode cX4_putBehind 37 = .ok (.iload_n 3, 1) := by decide +kernel
theorem dX4_putBehind_38 : decode cX4_putBehind 38 = .ok (.iastore, 1) := by decide +kernel
theorem dX4_putBehind_39 : decode cX4_putBehind 39 = .ok (.aload_n 0, 1) := by decide +kernel
theorem dX4_putBehind_40 : decode cX4_putBehind 40 = .ok (.getfield 38, 3) := by decide +kernel
theorem dX4_putBehind_43 : decode cX4_putBehind 43 = .ok (.iload 5, 2) := by decide +kernel
theorem dX4_putBehind_45 : decode cX4_putBehind 45 = .ok (.iload 4, 2) := by decide +kernel
theorem dX4_putBehind_47 : decode cX4_putBehind 47 = .ok (.iastore, 1) := by decide +kernel
theorem dX4_putBehind_48 : decode cX4_putBehind 48 = .ok (.aload_n 0, 1) := by decide +kernel
theorem dX4_putBehind_49 : decode cX4_putBehind 49 = .ok (.getfield 13, 3) := by decide +kernel
theorem dX4_putBehind_52 : decode cX4_putBehind 52 = .ok (.iload_n 1, 1) := by decide +kernel
theorem dX4_putBehind_53 : decode cX4_putBehind 53 = .ok (.dup2, 1) := by decide +kernel
theorem dX4_putBehind_54 : decode cX4_putBehind 54 = .ok (.iaload, 1) := by decide +kernel
theorem dX4_putBehind_55 : decode cX4_putBehind 55 = .ok (.iconst 1, 1) := by decide +kernel
theorem dX4_putBehind_56 : decode cX4_putBehind 56 = .ok (.iadd, 1) := by decide +kernel
theorem dX4_putBehind_57 : decode cX4_putBehind 57 = .ok (.iastore, 1) := by decide +kernel
theorem dX4_putBehind_58 : decode cX4_putBehind 58 = .ok (.iconst 1, 1) := by decide +kernel
theorem dX4_putBehind_59 : decode cX4_putBehind 59 = .ok (.ireturn, 1) := by decide +kernel
set_option maxRecDepth 20000 in
theorem ggX4_cutTo_X4_writes : GoodIn wsX4_cutTo wsX4_writes := goodIn_r _ [6, 7, 8, 9, 10, 11, 12, 13, 14, 15, 16, 17, 18, 19, 20, 21, 22, 23] (by decide +kernel) (by decide +kernel)
set_option maxRecDepth 20000 in
theorem gX4_cutTo_X4_writes : GoodIn wsX4_cutTo (wsV RX4 47 RX4 yX4_writes wsX4_writes) := goodIn_app (goodIn_of _ (by decide +kernel)) ggX4_cutTo_X4_writes
theorem dX4_cutTo_0 : decode cX4_cutTo 0 = .ok (.aload_n 0, 1) := by decide +kernel
theorem dX4_cutTo_1 : decode cX4_cutTo 1 = .ok (.iload_n 1, 1) := by decide +kernel
theorem dX4_cutTo_2 : decode cX4_cutTo 2 = .ok (.invokevirtual 47, 3) := by decide +kernel
theorem dX4_cutTo_5 : decode cX4_cutTo 5 = .ok (.ifCond .ne 5, 3) := by decide +kernel
theorem dX4_cutTo_8 : decode cX4_cutTo 8 = .ok (.iconst 0, 1) := by decide +kernel
theorem dX4_cutTo_9 : decode cX4_cutTo 9 = .ok (.ireturn, 1) := by decide +kernel
theorem dX4_cutTo_10 : decode cX4_cutTo 10 = .ok (.aload_n 0, 1) := by decide +kernel
theorem dX4_cutTo_11 : decode cX4_cutTo 11 = .ok (.getfield 13, 3) := by decide +kernel
theorem dX4_cutTo_14 : decode cX4_cutTo 14 = .ok (.iload_n 1, 1) := by decide +kernel
theorem dX4_cutTo_15 : decode cX4_cutTo 15 = .ok (.iload_n 2, 1) := by decide +kernel
theorem dX4_cutTo_16 : decode cX4_cutTo 16 = .ok (.iastore, 1) := by decide +kernel
theorem dX4_cutTo_17 : decode cX4_cutTo 17 = .ok (.iconst 1, 1) := by decide +kernel
theorem dX4_cutTo_18 : decode cX4_cutTo 18 = .ok (.ireturn, 1) := by decide +kernel
set_option maxRecDepth 20000 in
theorem ggX4_becomeTerm_X4_writes : GoodIn wsX4_becomeTerm wsX4_writes := goodIn_r _ [6, 7, 8, 9, 10, 11, 12, 13, 14, 15, 16, 17, 18, 19, 20, 21, 22, 23] (by decide +kernel) (by decide +kernel)
set_option maxRecDepth 20000 in
theorem gX4_becomeTerm_X4_writes : GoodIn wsX4_becomeTerm (wsV RX4 47 RX4 yX4_writes wsX4_writes) := goodIn_app (goodIn_of _ (by decide +kernel)) ggX4_becomeTerm_X4_writes
theorem dX4_becomeTerm_0 : decode cX4_becomeTerm 0 = .ok (.aload_n 0, 1) := by decide +kernel
theorem dX4_becomeTerm_1 : decode cX4_becomeTerm 1 = .ok (.iload_n 1, 1) := by decide +kernel
theorem dX4_becomeTerm_2 : decode cX4_becomeTerm 2 = .ok (.invokevirtual 47, 3) := by decide +kernel
theorem dX4_becomeTerm_5 : decode cX4_becomeTerm 5 = .ok (.ifCond .ne 5, 3) := by decide +kernel
theorem dX4_becomeTerm_8 : decode cX4_becomeTerm 8 = .ok (.iconst 0, 1) := by decide +kernel
theorem dX4_becomeTerm_9 : decode cX4_becomeTerm 9 = .ok (.ireturn, 1) := by decide +kernel
theorem dX4_becomeTerm_10 : decode cX4_becomeTerm 10 = .ok (.aload_n 0, 1) := by decide +kernel
theorem dX4_becomeTerm_11 : decode cX4_becomeTerm 11 = .ok (.getfield 7, 3) := by decide +kernel
theorem dX4_becomeTerm_14 : decode cX4_becomeTerm 14 = .ok (.iload_n 1, 1) := by decide +kernel
theorem dX4_becomeTerm_15 : decode cX4_becomeTerm 15 = .ok (.iload_n 2, 1) := by decide +kernel
theorem dX4_becomeTerm_16 : decode cX4_becomeTerm 16 = .ok (.iastore, 1) := by decide +kernel
theorem dX4_becomeTerm_17 : decode cX4_becomeTerm 17 = .ok (.iconst 1, 1) := by decide +kernel
theorem dX4_becomeTerm_18 : decode cX4_becomeTerm 18 = .ok (.ireturn, 1) := by decide +kernel
theorem dX4_send_0 : decode cX4_send 0 = .ok (.aload_n 0, 1) := by decide +kernel
theorem dX4_send_1 : decode cX4_send 1 = .ok (.getfield 50, 3) := by decide +kernel
theorem dX4_send_4 : decode cX4_send 4 = .ok (.bipush 16, 2) := by decide +kernel
theorem dX4_send_6 : decode cX4_send 6 = .ok (.if_icmp .ne 4, 3) := by decide +kernel
theorem dX4_send_9 : decode cX4_send 9 = .ok (.return_, 1) := by decide +kernel
theorem dX4_send_10 : decode cX4_send 10 = .ok (.bipush 9, 2) := by decide +kernel
theorem dX4_send_12 : decode cX4_send 12 = .ok (.aload_n 0, 1) := by decide +kernel
theorem dX4_send_13 : decode cX4_send 13 = .ok (.getfield 50, 3) := by decide +kernel
theorem dX4_send_16 : decode cX4_send 16 = .ok (.imul, 1) := by decide +kernel
theorem dX4_send_17 : decode cX4_send 17 = .ok (.istore 4, 2) := by decide +kernel
theorem dX4_send_19 : decode cX4_send 19 = .ok (.aload_n 0, 1) := by decide +kernel
theorem dX4_send_20 : decode cX4_send 20 = .ok (.getfield 41, 3) := by decide +kernel
theorem dX4_send_23 : decode cX4_send 23 = .ok (.iload 4, 2) := by decide +kernel
theorem dX4_send_25 : decode cX4_send 25 = .ok (.iload_n 2, 1) := by decide +kernel
theorem dX4_send_26 : decode cX4_send 26 = .ok (.iastore, 1) := by decide +kernel
theorem dX4_send_27 : decode cX4_send 27 = .ok (.aload_n 0, 1) := by decide +kernel
theorem dX4_send_28 : decode cX4_send 28 = .ok (.getfield 41, 3) := by decide +kernel
theorem dX4_send_31 : decode cX4_send 31 = .ok (.iload 4, 2) := by decide +kernel
theorem dX4_send_33 : decode cX4_send 33 = .ok (.iconst 1, 1) := by decide +kernel
theorem dX4_send_34 : decode cX4_send 34 = .ok (.iadd, 1) := by decide +kernel
theorem dX4_send_35 : decode cX4_send 35 = .ok (.iconst 1, 1) := by decide +kernel
theorem dX4_send_36 : decode cX4_send 36 = .ok (.iload_n 1, 1) := by decide +kernel
theorem dX4_send_37 : decode cX4_send 37 = .ok (.isub, 1) := by decide +kernel
theorem dX4_send_38 : decode cX4_send 38 = .ok (.iastore, 1) := by decide +kernel
theorem dX4_send_39 : decode cX4_send 39 = .ok (.aload_n 0, 1) := by decide +kernel
theorem dX4_send_40 : decode cX4_send 40 = .ok (.getfield 41, 3) := by decide +kernel
theorem dX4_send_43 : decode cX4_send 43 = .ok (.iload 4, 2) := by decide +kernel
theorem dX4_send_45 : decode cX4_send 45 = .ok (.iconst 2, 1) := by decide +kernel
theorem dX4_send_46 : decode cX4_send 46 = .ok (.iadd, 1) := by decide +kernel
theorem dX4_send_47 : decode cX4_send 47 = .ok (.aload_n 0, 1) := by decide +kernel
theorem dX4_send_48 : decode cX4_send 48 = .ok (.getfield 7, 3) := by decide +kernel
theorem dX4_send_51 : decode cX4_send 51 = .ok (.iload_n 1, 1) := by decide +kernel
theorem dX4_send_52 : decode cX4_send 52 = .ok (.iaload, 1) := by decide +kernel
theorem dX4_send_53 : decode cX4_send 53 = .ok (.iastore, 1) := by decide +kernel
theorem dX4_send_54 : decode cX4_send 54 = .ok (.aload_n 0, 1) := by decide +kernel
theorem dX4_send_55 : decode cX4_send 55 = .ok (.getfield 41, 3) := by decide +kernel
theorem dX4_send_58 : decode cX4_send 58 = .ok (.iload 4, 2) := by decide +kernel
theorem dX4_send_60 : decode cX4_send 60 = .ok (.iconst 3, 1) := by decide +kernel
theorem dX4_send_61 : decode cX4_send 61 = .ok (.iadd, 1) := by decide +kernel
theorem dX4_send_62 : decode cX4_send 62 = .ok (.iload_n 3, 1) := by decide +kernel
theorem dX4_send_63 : decode cX4_send 63 = .ok (.iastore, 1) := by decide +kernel
theorem dX4_send_64 : decode cX4_send 64 = .ok (.iconst 4, 1) := by decide +kernel
theorem dX4_send_65 : decode cX4_send 65 = .ok (.istore 5, 2) := by decide +kernel
theorem dX4_send_67 : decode cX4_send 67 = .ok (.iload 5, 2) := by decide +kernel
theorem dX4_send_69 : decode cX4_send 69 = .ok (.bipush 9, 2) := by decide +kernel
theorem dX4_send_71 : decode cX4_send 71 = .ok (.if_icmp .ge 20, 3) := by decide +kernel
theorem dX4_send_74 : decode cX4_send 74 = .ok (.aload_n 0, 1) := by decide +kernel
theorem dX4_send_75 : decode cX4_send 75 = .ok (.getfield 41, 3) := by decide +kernel
theorem dX4_send_78 : decode cX4_send 78 = .ok (.iload 4, 2) := by decide +kernel
theorem dX4_send_80 : decode cX4_send 80 = .ok (.iload 5, 2) := by decide +kernel
theorem dX4_send_82 : decode cX4_send 82 = .ok (.iadd, 1) := by decide +kernel
theorem dX4_send_83 : decode cX4_send 83 = .ok (.iconst 0, 1) := by decide +kernel
theorem dX4_send_84 : decode cX4_send 84 = .ok (.iastore, 1) := by decide +kernel
theorem dX4_send_85 : decode cX4_send 85 = .ok (.iinc 5 1, 3) := by decide +kernel
theorem dX4_send_88 : decode cX4_send 88 = .ok (.goto (-21), 3) := by decide +kernel
theorem dX4_send_91 : decode cX4_send 91 = .ok (.iload_n 2, 1) := by decide +kernel
theorem dX4_send_92 : decode cX4_send 92 = .ok (.iconst 1, 1) := by decide +kernel
theorem dX4_send_93 : decode cX4_send 93 = .ok (.if_icmp .ne 103, 3) := by decide +kernel
theorem dX4_send_96 : decode cX4_send 96 = .ok (.bipush 64, 2) := by decide +kernel
theorem dX4_send_98 : decode cX4_send 98 = .ok (.iload_n 1, 1) := by decide +kernel
theorem dX4_send_99 : decode cX4_send 99 = .ok (.imul, 1) := by decide +kernel
theorem dX4_send_100 : decode cX4_send 100 = .ok (.iload_n 3, 1) := by decide +kernel
theorem dX4_send_101 : decode cX4_send 101 = .ok (.iadd, 1) := by decide +kernel
theorem dX4_send_102 : decode cX4_send 102 = .ok (.istore 5, 2) := by decide +kernel
theorem dX4_send_104 : decode cX4_send 104 = .ok (.aload_n 0, 1) := by decide +kernel
theorem dX4_send_105 : decode cX4_send 105 = .ok (.getfield 41, 3) := by decide +kernel
theorem dX4_send_108 : decode cX4_send 108 = .ok (.iload 4, 2) := by decide +kernel
theorem dX4_send_110 : decode cX4_send 110 = .ok (.iconst 4, 1) := by decide +kernel
theorem dX4_send_111 : decode cX4_send 111 = .ok (.iadd, 1) := by decide +kernel
theorem dX4_send_112 : decode cX4_send 112 = .ok (.aload_n 0, 1) := by decide +kernel
theorem dX4_send_113 : decode cX4_send 113 = .ok (.getfield 32, 3) := by decide +kernel
theorem dX4_send_116 : decode cX4_send 116 = .ok (.iload 5, 2) := by decide +kernel
theorem dX4_send_118 : decode cX4_send 118 = .ok (.iaload, 1) := by decide +kernel
theorem dX4_send_119 : decode cX4_send 119 = .ok (.iastore, 1) := by decide +kernel
theorem dX4_send_120 : decode cX4_send 120 = .ok (.aload_n 0, 1) := by decide +kernel
theorem dX4_send_121 : decode cX4_send 121 = .ok (.getfield 41, 3) := by decide +kernel
theorem dX4_send_124 : decode cX4_send 124 = .ok (.iload 4, 2) := by decide +kernel
theorem dX4_send_126 : decode cX4_send 126 = .ok (.iconst 5, 1) := by decide +kernel
theorem dX4_send_127 : decode cX4_send 127 = .ok (.iadd, 1) := by decide +kernel
theorem dX4_send_128 : decode cX4_send 128 = .ok (.aload_n 0, 1) := by decide +kernel
theorem dX4_send_129 : decode cX4_send 129 = .ok (.getfield 35, 3) := by decide +kernel
theorem dX4_send_132 : decode cX4_send 132 = .ok (.iload 5, 2) := by decide +kernel
theorem dX4_send_134 : decode cX4_send 134 = .ok (.iaload, 1) := by decide +kernel
theorem dX4_send_135 : decode cX4_send 135 = .ok (.iastore, 1) := by decide +kernel
theorem dX4_send_136 : decode cX4_send 136 = .ok (.aload_n 0, 1) := by decide +kernel
theorem dX4_send_137 : decode cX4_send 137 = .ok (.getfield 41, 3) := by decide +kernel
theorem dX4_send_140 : decode cX4_send 140 = .ok (.iload 4, 2) := by decide +kernel
theorem dX4_send_142 : decode cX4_send 142 = .ok (.bipush 6, 2) := by decide +kernel
theorem dX4_send_144 : decode cX4_send 144 = .ok (.iadd, 1) := by decide +kernel
theorem dX4_send_145 : decode cX4_send 145 = .ok (.aload_n 0, 1) := by decide +kernel
theorem dX4_send_146 : decode cX4_send 146 = .ok (.getfield 38, 3) := by decide +kernel
theorem dX4_send_149 : decode cX4_send 149 = .ok (.iload 5, 2) := by decide +kernel
theorem dX4_send_151 : decode cX4_send 151 = .ok (.iaload, 1) := by decide +kernel
theorem dX4_send_152 : decode cX4_send 152 = .ok (.iastore, 1) := by decide +kernel
theorem dX4_send_153 : decode cX4_send 153 = .ok (.aload_n 0, 1) := by decide +kernel
theorem dX4_send_154 : decode cX4_send 154 = .ok (.getfield 41, 3) := by decide +kernel
theorem dX4_send_157 : decode cX4_send 157 = .ok (.iload 4, 2) := by decide +kernel
theorem dX4_send_159 : decode cX4_send 159 = .ok (.bipush 7, 2) := by decide +kernel
theorem dX4_send_161 : decode cX4_send 161 = .ok (.iadd, 1) := by decide +kernel
theorem dX4_send_162 : decode cX4_send 162 = .ok (.iload_n 3, 1) := by decide +kernel
theorem dX4_send_163 : decode cX4_send 163 = .ok (.ifCond .ne 7, 3) := by decide +kernel
theorem dX4_send_166 : decode cX4_send 166 = .ok (.iconst 0, 1) := by decide +kernel
theorem dX4_send_167 : decode cX4_send 167 = .ok (.goto 12, 3) := by decide +kernel
theorem dX4_send_170 : decode cX4_send 170 = .ok (.aload_n 0, 1) := by decide +kernel
theorem dX4_send_171 : decode cX4_send 171 = .ok (.getfield 32, 3) := by decide +kernel
theorem dX4_send_174 : decode cX4_send 174 = .ok (.iload 5, 2) := by decide +kernel
theorem dX4_send_176 : decode cX4_send 176 = .ok (.iconst 1, 1) := by decide +kernel
theorem dX4_send_177 : decode cX4_send 177 = .ok (.isub, 1) := by decide +kernel
theorem dX4_send_178 : decode cX4_send 178 = .ok (.iaload, 1) := by decide +kernel
theorem dX4_send_179 : decode cX4_send 179 = .ok (.iastore, 1) := by decide +kernel
theorem dX4_send_180 : decode cX4_send 180 = .ok (.aload_n 0, 1) := by decide +kernel
theorem dX4_send_181 : decode cX4_send 181 = .ok (.getfield 41, 3) := by decide +kernel
theorem dX4_send_184 : decode cX4_send 184 = .ok (.iload 4, 2) := by decide +kernel
theorem dX4_send_186 : decode cX4_send 186 = .ok (.bipush 8, 2) := by decide +kernel
theorem dX4_send_188 : decode cX4_send 188 = .ok (.iadd, 1) := by decide +kernel
theorem dX4_send_189 : decode cX4_send 189 = .ok (.aload_n 0, 1) := by decide +kernel
theorem dX4_send_190 : decode cX4_send 190 = .ok (.getfield 13, 3) := by decide +kernel
theorem dX4_send_193 : decode cX4_send 193 = .ok (.iload_n 1, 1) := by decide +kernel
theorem dX4_send_194 : decode cX4_send 194 = .ok (.iaload, 1) := by decide +kernel
theorem dX4_send_195 : decode cX4_send 195 = .ok (.iastore, 1) := by decide +kernel
theorem dX4_send_196 : decode cX4_send 196 = .ok (.aload_n 0, 1) := by decide +kernel
theorem dX4_send_197 : decode cX4_send 197 = .ok (.dup, 1) := by decide +kernel
theorem dX4_send_198 : decode cX4_send 198 = .ok (.getfield 50, 3) := by decide +kernel
theorem dX4_send_201 : decode cX4_send 201 = .ok (.iconst 1, 1) := by decide +kernel
theorem dX4_send_202 : decode cX4_send 202 = .ok (.iadd, 1) := by decide +kernel
theorem dX4_send_203 : decode cX4_send 203 = .ok (.putfield 50, 3) := by decide +kernel
theorem dX4_send_206 : decode cX4_send 206 = .ok (.return_, 1) := by decide +kernel
theorem dX4_remove_0 : decode cX4_remove 0 = .ok (.aload_n 0, 1) := by decide +kernel
theorem dX4_remove_1 : decode cX4_remove 1 = .ok (.dup, 1) := by decide +kernel
theorem dX4_remove_2 : decode cX4_remove 2 = .ok (.getfield 50, 3) := by decide +kernel
theorem dX4_remove_5 : decode cX4_remove 5 = .ok (.iconst 1, 1) := by decide +kernel
theorem dX4_remove_6 : decode cX4_remove 6 = .ok (.isub, 1) := by decide +kernel
theorem dX4_remove_7 : decode cX4_remove 7 = .ok (.putfield 50, 3) := by decide +kernel
theorem dX4_remove_10 : decode cX4_remove 10 = .ok (.bipush 9, 2) := by decide +kernel
theorem dX4_remove_12 : decode cX4_remove 12 = .ok (.iload_n 1, 1) := by decide +kernel
theorem dX4_remove_13 : decode cX4_remove 13 = .ok (.imul, 1) := by decide +kernel
theorem dX4_remove_14 : decode cX4_remove 14 = .ok (.istore_n 2, 1) := by decide +kernel
theorem dX4_remove_15 : decode cX4_remove 15 = .ok (.iload_n 2, 1) := by decide +kernel
theorem dX4_remove_16 : decode cX4_remove 16 = .ok (.bipush 9, 2) := by decide +kernel
theorem dX4_remove_18 : decode cX4_remove 18 = .ok (.aload_n 0, 1) := by decide +kernel
theorem dX4_remove_19 : decode cX4_remove 19 = .ok (.getfield 50, 3) := by decide +kernel
theorem dX4_remove_22 : decode cX4_remove 22 = .ok (.imul, 1) := by decide +kernel
theorem dX4_remove_23 : decode cX4_remove 23 = .ok (.if_icmp .ge 24, 3) := by decide +kernel
theorem dX4_remove_26 : decode cX4_remove 26 = .ok (.aload_n 0, 1) := by decide +kernel
theorem dX4_remove_27 : decode cX4_remove 27 = .ok (.getfield 41, 3) := by decide +kernel
theorem dX4_remove_30 : decode cX4_remove 30 = .ok (.iload_n 2, 1) := by decide +kernel
theorem dX4_remove_31 : decode cX4_remove 31 = .ok (.aload_n 0, 1) := by decide +kernel
theorem dX4_remove_32 : decode cX4_remove 32 = .ok (.getfield 41, 3) := by decide +kernel
theorem dX4_remove_35 : decode cX4_remove 35 = .ok (.iload_n 2, 1) := by decide +kernel
theorem dX4_remove_36 : decode cX4_remove 36 = .ok (.bipush 9, 2) := by decide +kernel
theorem dX4_remove_38 : decode cX4_remove 38 = .ok (.iadd, 1) := by decide +kernel
theorem dX4_remove_39 : decode cX4_remove 39 = .ok (.iaload, 1) := by decide +kernel
theorem dX4_remove_40 : decode cX4_remove 40 = .ok (.iastore, 1) := by decide +kernel
theorem dX4_remove_41 : decode cX4_remove 41 = .ok (.iinc 2 1, 3) := by decide +kernel
theorem dX4_remove_44 : decode cX4_remove 44 = .ok (.goto (-29), 3) := by decide +kernel
theorem dX4_remove_47 : decode cX4_remove 47 = .ok (.return_, 1) := by decide +kernel
set_option maxRecDepth 20000 in
theorem ggX4_put_X4_isNode : GoodIn wsX4_put wsX4_isNode := goodIn_r _ [9] (by decide +kernel) (by decide +kernel)
set_option maxRecDepth 20000 in
theorem gX4_put_X4_isNode : GoodIn wsX4_put (va_wsS RX4 54 yX4_isNode wsX4_isNode) := goodIn_app (goodIn_of _ (by decide +kernel)) ggX4_put_X4_isNode
set_option maxRecDepth 20000 in
theorem ggX4_put_X4_putBehind : GoodIn wsX4_put wsX4_putBehind := goodIn_r _ [13, 3, 14, 15, 16, 17, 18, 19, 8, 20, 21, 1, 2, 22, 28, 29, 30, 31, 32, 33, 34, 35, 36, 37, 38, 39, 40] (by decide +kernel) (by decide +kernel)
set_option maxRecDepth 20000 in
theorem gX4_put_X4_putBehind : GoodIn wsX4_put (wsV RX4 57 RX4 yX4_putBehind wsX4_putBehind) := goodIn_app (goodIn_of _ (by decide +kernel)) ggX4_put_X4_putBehind
set_option maxRecDepth 20000 in
theorem ggX4_put_X4_send : GoodIn wsX4_put wsX4_send := goodIn_r _ [26, 4, 27, 5, 14, 15, 16, 3, 28, 29, 30, 31, 32, 33, 34, 35, 36, 37, 38, 39, 40] (by decide +kernel) (by decide +kernel)
set_option maxRecDepth 20000 in
theorem gX4_put_X4_send : GoodIn wsX4_put (wsV RX4 61 RX4 yX4_send wsX4_send) := goodIn_app (goodIn_of _ (by decide +kernel)) ggX4_put_X4_send
theorem dX4_put_0 : decode cX4_put 0 = .ok (.iload_n 1, 1) := by decide +kernel
theorem dX4_put_1 : decode cX4_put 1 = .ok (.invokestatic 54, 3) := by decide +kernel
theorem dX4_put_4 : decode cX4_put 4 = .ok (.ifCond .eq 13, 3) := by decide +kernel
theorem dX4_put_7 : decode cX4_put 7 = .ok (.iload_n 2, 1) := by decide +kernel
theorem dX4_put_8 : decode cX4_put 8 = .ok (.ifCond .lt 9, 3) := by decide +kernel
theorem dX4_put_11 : decode cX4_put 11 = .ok (.iload_n 2, 1) := by decide +kernel
theorem dX4_put_12 : decode cX4_put 12 = .ok (.bipush 15, 2) := by decide +kernel
theorem dX4_put_14 : decode cX4_put 14 = .ok (.if_icmp .le 5, 3) := by decide +kernel
theorem dX4_put_17 : decode cX4_put 17 = .ok (.iconst (-1), 1) := by decide +kernel
theorem dX4_put_18 : decode cX4_put 18 = .ok (.ireturn, 1) := by decide +kernel
theorem dX4_put_19 : decode cX4_put 19 = .ok (.aload_n 0, 1) := by decide +kernel
theorem dX4_put_20 : decode cX4_put 20 = .ok (.getfield 16, 3) := by decide +kernel
theorem dX4_put_23 : decode cX4_put 23 = .ok (.iload_n 1, 1) := by decide +kernel
theorem dX4_put_24 : decode cX4_put 24 = .ok (.baload, 1) := by decide +kernel
theorem dX4_put_25 : decode cX4_put 25 = .ok (.ifCond .eq 6, 3) := by decide +kernel
theorem dX4_put_28 : decode cX4_put 28 = .ok (.bipush (-4), 2) := by decide +kernel
theorem dX4_put_30 : decode cX4_put 30 = .ok (.ireturn, 1) := by decide +kernel
theorem dX4_put_31 : decode cX4_put 31 = .ok (.aload_n 0, 1) := by decide +kernel
theorem dX4_put_32 : decode cX4_put 32 = .ok (.getfield 20, 3) := by decide +kernel
theorem dX4_put_35 : decode cX4_put 35 = .ok (.iload_n 1, 1) := by decide +kernel
theorem dX4_put_36 : decode cX4_put 36 = .ok (.baload, 1) := by decide +kernel
theorem dX4_put_37 : decode cX4_put 37 = .ok (.ifCond .ne 6, 3) := by decide +kernel
theorem dX4_put_40 : decode cX4_put 40 = .ok (.bipush (-2), 2) := by decide +kernel
theorem dX4_put_42 : decode cX4_put 42 = .ok (.ireturn, 1) := by decide +kernel
theorem dX4_put_43 : decode cX4_put 43 = .ok (.aload_n 0, 1) := by decide +kernel
theorem dX4_put_44 : decode cX4_put 44 = .ok (.getfield 13, 3) := by decide +kernel
theorem dX4_put_47 : decode cX4_put 47 = .ok (.iload_n 1, 1) := by decide +kernel
theorem dX4_put_48 : decode cX4_put 48 = .ok (.iaload, 1) := by decide +kernel
theorem dX4_put_49 : decode cX4_put 49 = .ok (.bipush 64, 2) := by decide +kernel
theorem dX4_put_51 : decode cX4_put 51 = .ok (.if_icmp .eq 12, 3) := by decide +kernel
theorem dX4_put_54 : decode cX4_put 54 = .ok (.aload_n 0, 1) := by decide +kernel
theorem dX4_put_55 : decode cX4_put 55 = .ok (.getfield 50, 3) := by decide +kernel
theorem dX4_put_58 : decode cX4_put 58 = .ok (.bipush 16, 2) := by decide +kernel
theorem dX4_put_60 : decode cX4_put 60 = .ok (.if_icmp .ne 6, 3) := by decide +kernel
theorem dX4_put_63 : decode cX4_put 63 = .ok (.bipush (-3), 2) := by decide +kernel
theorem dX4_put_65 : decode cX4_put 65 = .ok (.ireturn, 1) := by decide +kernel
theorem dX4_put_66 : decode cX4_put 66 = .ok (.aload_n 0, 1) := by decide +kernel
theorem dX4_put_67 : decode cX4_put 67 = .ok (.iload_n 1, 1) := by decide +kernel
theorem dX4_put_68 : decode cX4_put 68 = .ok (.aload_n 0, 1) := by decide +kernel
theorem dX4_put_69 : decode cX4_put 69 = .ok (.getfield 7, 3) := by decide +kernel
theorem dX4_put_72 : decode cX4_put 72 = .ok (.iload_n 1, 1) := by decide +kernel
theorem dX4_put_73 : decode cX4_put 73 = .ok (.iaload, 1) := by decide +kernel
theorem dX4_put_74 : decode cX4_put 74 = .ok (.iload_n 2, 1) := by decide +kernel
theorem dX4_put_75 : decode cX4_put 75 = .ok (.iload_n 3, 1) := by decide +kernel
theorem dX4_put_76 : decode cX4_put 76 = .ok (.invokevirtual 57, 3) := by decide +kernel
theorem dX4_put_79 : decode cX4_put 79 = .ok (.ifCond .ne 6, 3) := by decide +kernel
theorem dX4_put_82 : decode cX4_put 82 = .ok (.bipush (-4), 2) := by decide +kernel
theorem dX4_put_84 : decode cX4_put 84 = .ok (.ireturn, 1) := by decide +kernel
theorem dX4_put_85 : decode cX4_put 85 = .ok (.aload_n 0, 1) := by decide +kernel
theorem dX4_put_86 : decode cX4_put 86 = .ok (.iload_n 1, 1) := by decide +kernel
theorem dX4_put_87 : decode cX4_put 87 = .ok (.iconst 1, 1) := by decide +kernel
theorem dX4_put_88 : decode cX4_put 88 = .ok (.aload_n 0, 1) := by decide +kernel
theorem dX4_put_89 : decode cX4_put 89 = .ok (.getfield 13, 3) := by decide +kernel
theorem dX4_put_92 : decode cX4_put 92 = .ok (.iload_n 1, 1) := by decide +kernel
theorem dX4_put_93 : decode cX4_put 93 = .ok (.iaload, 1) := by decide +kernel
theorem dX4_put_94 : decode cX4_put 94 = .ok (.iconst 1, 1) := by decide +kernel
theorem dX4_put_95 : decode cX4_put 95 = .ok (.isub, 1) := by decide +kernel
theorem dX4_put_96 : decode cX4_put 96 = .ok (.invokevirtual 61, 3) := by decide +kernel
theorem dX4_put_99 : decode cX4_put 99 = .ok (.aload_n 0, 1) := by decide +kernel
theorem dX4_put_100 : decode cX4_put 100 = .ok (.getfield 13, 3) := by decide +kernel
theorem dX4_put_103 : decode cX4_put 103 = .ok (.iload_n 1, 1) := by decide +kernel
theorem dX4_put_104 : decode cX4_put 104 = .ok (.iaload, 1) := by decide +kernel
theorem dX4_put_105 : decode cX4_put 105 = .ok (.iconst 1, 1) := by decide +kernel
theorem dX4_put_106 : decode cX4_put 106 = .ok (.isub, 1) := by decide +kernel
theorem dX4_put_107 : decode cX4_put 107 = .ok (.ireturn, 1) := by decide +kernel
set_option maxRecDepth 20000 in
theorem ggX4_get_X4_isNode : GoodIn wsX4_get wsX4_isNode := goodIn_r _ [7] (by decide +kernel) (by decide +kernel)
set_option maxRecDepth 20000 in
theorem gX4_get_X4_isNode : GoodIn wsX4_get (va_wsS RX4 54 yX4_isNode wsX4_isNode) := goodIn_app (goodIn_of _ (by decide +kernel)) ggX4_get_X4_isNode
theorem dX4_get_0 : decode cX4_get 0 = .ok (.iload_n 1, 1) := by decide +kernel
theorem dX4_get_1 : decode cX4_get 1 = .ok (.invokestatic 54, 3) := by decide +kernel
theorem dX4_get_4 : decode cX4_get 4 = .ok (.ifCond .eq 13, 3) := by decide +kernel
theorem dX4_get_7 : decode cX4_get 7 = .ok (.iload_n 2, 1) := by decide +kernel
theorem dX4_get_8 : decode cX4_get 8 = .ok (.ifCond .lt 9, 3) := by decide +kernel
theorem dX4_get_11 : decode cX4_get 11 = .ok (.iload_n 2, 1) := by decide +kernel
theorem dX4_get_12 : decode cX4_get 12 = .ok (.bipush 15, 2) := by decide +kernel
theorem dX4_get_14 : decode cX4_get 14 = .ok (.if_icmp .le 5, 3) := by decide +kernel
theorem dX4_get_17 : decode cX4_get 17 = .ok (.iconst (-1), 1) := by decide +kernel
theorem dX4_get_18 : decode cX4_get 18 = .ok (.ireturn, 1) := by decide +kernel
theorem dX4_get_19 : decode cX4_get 19 = .ok (.iconst 0, 1) := by decide +kernel
theorem dX4_get_20 : decode cX4_get 20 = .ok (.istore_n 3, 1) := by decide +kernel
theorem dX4_get_21 : decode cX4_get 21 = .ok (.iconst 0, 1) := by decide +kernel
theorem dX4_get_22 : decode cX4_get 22 = .ok (.istore 4, 2) := by decide +kernel
theorem dX4_get_24 : decode cX4_get 24 = .ok (.iload 4, 2) := by decide +kernel
theorem dX4_get_26 : decode cX4_get 26 = .ok (.aload_n 0, 1) := by decide +kernel
theorem dX4_get_27 : decode cX4_get 27 = .ok (.getfield 13, 3) := by decide +kernel
theorem dX4_get_30 : decode cX4_get 30 = .ok (.iload_n 1, 1) := by decide +kernel
theorem dX4_get_31 : decode cX4_get 31 = .ok (.iaload, 1) := by decide +kernel
theorem dX4_get_32 : decode cX4_get 32 = .ok (.if_icmp .ge 42, 3) := by decide +kernel
theorem dX4_get_35 : decode cX4_get 35 = .ok (.aload_n 0, 1) := by decide +kernel
theorem dX4_get_36 : decode cX4_get 36 = .ok (.getfield 35, 3) := by decide +kernel
theorem dX4_get_39 : decode cX4_get 39 = .ok (.bipush 64, 2) := by decide +kernel
theorem dX4_get_41 : decode cX4_get 41 = .ok (.iload_n 1, 1) := by decide +kernel
theorem dX4_get_42 : decode cX4_get 42 = .ok (.imul, 1) := by decide +kernel
theorem dX4_get_43 : decode cX4_get 43 = .ok (.iload 4, 2) := by decide +kernel
theorem dX4_get_45 : decode cX4_get 45 = .ok (.iadd, 1) := by decide +kernel
theorem dX4_get_46 : decode cX4_get 46 = .ok (.iaload, 1) := by decide +kernel
theorem dX4_get_47 : decode cX4_get 47 = .ok (.iload_n 2, 1) := by decide +kernel
theorem dX4_get_48 : decode cX4_get 48 = .ok (.if_icmp .ne 18, 3) := by decide +kernel
theorem dX4_get_51 : decode cX4_get 51 = .ok (.aload_n 0, 1) := by decide +kernel
theorem dX4_get_52 : decode cX4_get 52 = .ok (.getfield 38, 3) := by decide +kernel
theorem dX4_get_55 : decode cX4_get 55 = .ok (.bipush 64, 2) := by decide +kernel
theorem dX4_get_57 : decode cX4_get 57 = .ok (.iload_n 1, 1) := by decide +kernel
theorem dX4_get_58 : decode cX4_get 58 = .ok (.imul, 1) := by decide +kernel
theorem dX4_get_59 : decode cX4_get 59 = .ok (.iload 4, 2) := by decide +kernel
theorem dX4_get_61 : decode cX4_get 61 = .ok (.iadd, 1) := by decide +kernel
theorem dX4_get_62 : decode cX4_get 62 = .ok (.iaload, 1) := by decide +kernel
theorem dX4_get_63 : decode cX4_get 63 = .ok (.goto 4, 3) := by decide +kernel
theorem dX4_get_66 : decode cX4_get 66 = .ok (.iload_n 3, 1) := by decide +kernel
theorem dX4_get_67 : decode cX4_get 67 = .ok (.istore_n 3, 1) := by decide +kernel
theorem dX4_get_68 : decode cX4_get 68 = .ok (.iinc 4 1, 3) := by decide +kernel
theorem dX4_get_71 : decode cX4_get 71 = .ok (.goto (-47), 3) := by decide +kernel
theorem dX4_get_74 : decode cX4_get 74 = .ok (.iload_n 3, 1) := by decide +kernel
theorem dX4_get_75 : decode cX4_get 75 = .ok (.ireturn, 1) := by decide +kernel
set_option maxRecDepth 20000 in
theorem ggX4_pump_X4_remove : GoodIn wsX4_pump wsX4_remove := goodIn_r _ [13, 1, 3, 47, 48, 49, 50, 51, 52, 53, 54, 55, 56, 57, 58, 59] (by decide +kernel) (by decide +kernel)
set_option maxRecDepth 20000 in
theorem gX4_pump_X4_remove : GoodIn wsX4_pump (wsV RX4 65 RX4 yX4_remove wsX4_remove) := goodIn_app (goodIn_of _ (by decide +kernel)) ggX4_pump_X4_remove
set_option maxRecDepth 20000 in
theorem ggX4_pump_X4_send : GoodIn wsX4_pump wsX4_send := goodIn_r _ [17, 1, 3, 5, 18, 19, 20, 8, 47, 48, 49, 50, 51, 52, 53, 54, 55, 56, 57, 58, 59] (by decide +kernel) (by decide +kernel)
set_option maxRecDepth 20000 in
theorem gX4_pump_X4_send : GoodIn wsX4_pump (wsV RX4 61 RX4 yX4_send wsX4_send) := goodIn_app (goodIn_of _ (by decide +kernel)) ggX4_pump_X4_send
set_option maxRecDepth 20000 in
theorem ggX4_pump_X4_becomeTerm : GoodIn wsX4_pump wsX4_becomeTerm := goodIn_r _ [24, 5, 25, 26, 27, 12, 28, 29, 4, 6, 30, 47, 48, 49, 50, 51, 52, 53, 54, 55, 56, 57, 58, 59] (by decide +kernel) (by decide +kernel)
set_option maxRecDepth 20000 in
theorem gX4_pump_X4_becomeTerm : GoodIn wsX4_pump (wsV RX4 69 RX4 yX4_becomeTerm wsX4_becomeTerm) := goodIn_app (goodIn_of _ (by decide +kernel)) ggX4_pump_X4_becomeTerm
set_option maxRecDepth 20000 in
theorem ggX4_pump_X4_shipped : GoodIn wsX4_pump wsX4_shipped := goodIn_r _ [34, 8, 18, 2, 19, 20, 14, 15, 16, 12, 17, 1, 3, 5, 35, 36, 37, 38, 25, 26, 27, 28, 29, 4, 6, 30, 39, 40, 41, 42, 47, 48, 49, 50, 51, 52, 53, 54, 55, 56, 57, 58, 59] (by decide +kernel) (by decide +kernel)
set_option maxRecDepth 20000 in
theorem gX4_pump_X4_shipped : GoodIn wsX4_pump (wsV RX4 73 RX4 yX4_shipped wsX4_shipped) := goodIn_app (goodIn_of _ (by decide +kernel)) ggX4_pump_X4_shipped
set_option maxRecDepth 20000 in
theorem ggX4_pump_X4_shipIfThere : GoodIn wsX4_pump wsX4_shipIfThere := goodIn_r _ [46, 8, 14, 15, 16, 12, 17, 1, 3, 5, 18, 19, 20, 47, 48, 49, 50, 51, 52, 53, 54, 55, 56, 57, 58, 59] (by decide +kernel) (by decide +kernel)
set_option maxRecDepth 20000 in
theorem gX4_pump_X4_shipIfThere : GoodIn wsX4_pump (wsV RX4 77 RX4 yX4_shipIfThere wsX4_shipIfThere) := goodIn_app (goodIn_of _ (by decide +kernel)) ggX4_pump_X4_shipIfThere
theorem dX4_pump_0 : decode cX4_pump 0 = .ok (.aload_n 0, 1) := by decide +kernel
theorem dX4_pump_1 : decode cX4_pump 1 = .ok (.getfield 50, 3) := by decide +kernel
theorem dX4_pump_4 : decode cX4_pump 4 = .ok (.ifCond .ne 5, 3) := by decide +kernel
theorem dX4_pump_7 : decode cX4_pump 7 = .ok (.iconst 0, 1) := by decide +kernel
theorem dX4_pump_8 : decode cX4_pump 8 = .ok (.ireturn, 1) := by decide +kernel
theorem dX4_pump_9 : decode cX4_pump 9 = .ok (.iconst 0, 1) := by decide +kernel
theorem dX4_pump_10 : decode cX4_pump 10 = .ok (.istore_n 1, 1) := by decide +kernel
theorem dX4_pump_11 : decode cX4_pump 11 = .ok (.iload_n 1, 1) := by decide +kernel
theorem dX4_pump_12 : decode cX4_pump 12 = .ok (.bipush 9, 2) := by decide +kernel
theorem dX4_pump_14 : decode cX4_pump 14 = .ok (.if_icmp .ge 21, 3) := by decide +kernel
theorem dX4_pump_17 : decode cX4_pump 17 = .ok (.aload_n 0, 1) := by decide +kernel
theorem dX4_pump_18 : decode cX4_pump 18 = .ok (.getfield 44, 3) := by decide +kernel
theorem dX4_pump_21 : decode cX4_pump 21 = .ok (.iload_n 1, 1) := by decide +kernel
theorem dX4_pump_22 : decode cX4_pump 22 = .ok (.aload_n 0, 1) := by decide +kernel
theorem dX4_pump_23 : decode cX4_pump 23 = .ok (.getfield 41, 3) := by decide +kernel
theorem dX4_pump_26 : decode cX4_pump 26 = .ok (.iload_n 1, 1) := by decide +kernel
theorem dX4_pump_27 : decode cX4_pump 27 = .ok (.iaload, 1) := by decide +kernel
theorem dX4_pump_28 : decode cX4_pump 28 = .ok (.iastore, 1) := by decide +kernel
theorem dX4_pump_29 : decode cX4_pump 29 = .ok (.iinc 1 1, 3) := by decide +kernel
theorem dX4_pump_32 : decode cX4_pump 32 = .ok (.goto (-21), 3) := by decide +kernel
theorem dX4_pump_35 : decode cX4_pump 35 = .ok (.aload_n 0, 1) := by decide +kernel
theorem dX4_pump_36 : decode cX4_pump 36 = .ok (.iconst 0, 1) := by decide +kernel
theorem dX4_pump_37 : decode cX4_pump 37 = .ok (.invokevirtual 65, 3) := by decide +kernel
theorem dX4_pump_40 : decode cX4_pump 40 = .ok (.aload_n 0, 1) := by decide +kernel
theorem dX4_pump_41 : decode cX4_pump 41 = .ok (.getfield 44, 3) := by decide +kernel
theorem dX4_pump_44 : decode cX4_pump 44 = .ok (.iconst 1, 1) := by decide +kernel
theorem dX4_pump_45 : decode cX4_pump 45 = .ok (.iaload, 1) := by decide +kernel
theorem dX4_pump_46 : decode cX4_pump 46 = .ok (.istore_n 1, 1) := by decide +kernel
theorem dX4_pump_47 : decode cX4_pump 47 = .ok (.aload_n 0, 1) := by decide +kernel
theorem dX4_pump_48 : decode cX4_pump 48 = .ok (.getfield 16, 3) := by decide +kernel
theorem dX4_pump_51 : decode cX4_pump 51 = .ok (.iload_n 1, 1) := by decide +kernel
theorem dX4_pump_52 : decode cX4_pump 52 = .ok (.baload, 1) := by decide +kernel
theorem dX4_pump_53 : decode cX4_pump 53 = .ok (.ifCond .eq 13, 3) := by decide +kernel
theorem dX4_pump_56 : decode cX4_pump 56 = .ok (.bipush 10, 2) := by decide +kernel
theorem dX4_pump_58 : decode cX4_pump 58 = .ok (.aload_n 0, 1) := by decide +kernel
theorem dX4_pump_59 : decode cX4_pump 59 = .ok (.getfield 44, 3) := by decide +kernel
theorem dX4_pump_62 : decode cX4_pump 62 = .ok (.iconst 0, 1) := by decide +kernel
theorem dX4_pump_63 : decode cX4_pump 63 = .ok (.iaload, 1) := by decide +kernel
theorem dX4_pump_64 : decode cX4_pump 64 = .ok (.iadd, 1) := by decide +kernel
theorem dX4_pump_65 : decode cX4_pump 65 = .ok (.ireturn, 1) := by decide +kernel
theorem dX4_pump_66 : decode cX4_pump 66 = .ok (.aload_n 0, 1) := by decide +kernel
theorem dX4_pump_67 : decode cX4_pump 67 = .ok (.getfield 44, 3) := by decide +kernel
theorem dX4_pump_70 : decode cX4_pump 70 = .ok (.iconst 2, 1) := by decide +kernel
theorem dX4_pump_71 : decode cX4_pump 71 = .ok (.iaload, 1) := by decide +kernel
theorem dX4_pump_72 : decode cX4_pump 72 = .ok (.aload_n 0, 1) := by decide +kernel
theorem dX4_pump_73 : decode cX4_pump 73 = .ok (.getfield 7, 3) := by decide +kernel
theorem dX4_pump_76 : decode cX4_pump 76 = .ok (.iload_n 1, 1) := by decide +kernel
theorem dX4_pump_77 : decode cX4_pump 77 = .ok (.iaload, 1) := by decide +kernel
theorem dX4_pump_78 : decode cX4_pump 78 = .ok (.if_icmp .ge 30, 3) := by decide +kernel
theorem dX4_pump_81 : decode cX4_pump 81 = .ok (.aload_n 0, 1) := by decide +kernel
theorem dX4_pump_82 : decode cX4_pump 82 = .ok (.getfield 44, 3) := by decide +kernel
theorem dX4_pump_85 : decode cX4_pump 85 = .ok (.iconst 0, 1) := by decide +kernel
theorem dX4_pump_86 : decode cX4_pump 86 = .ok (.iaload, 1) := by decide +kernel
theorem dX4_pump_87 : decode cX4_pump 87 = .ok (.iconst 1, 1) := by decide +kernel
theorem dX4_pump_88 : decode cX4_pump 88 = .ok (.if_icmp .ne 10, 3) := by decide +kernel
theorem dX4_pump_91 : decode cX4_pump 91 = .ok (.aload_n 0, 1) := by decide +kernel
theorem dX4_pump_92 : decode cX4_pump 92 = .ok (.iload_n 1, 1) := by decide +kernel
theorem dX4_pump_93 : decode cX4_pump 93 = .ok (.iconst 3, 1) := by decide +kernel
theorem dX4_pump_94 : decode cX4_pump 94 = .ok (.iconst (-1), 1) := by decide +kernel
theorem dX4_pump_95 : decode cX4_pump 95 = .ok (.invokevirtual 61, 3) := by decide +kernel
theorem dX4_pump_98 : decode cX4_pump 98 = .ok (.bipush 20, 2) := by decide +kernel
theorem dX4_pump_100 : decode cX4_pump 100 = .ok (.aload_n 0, 1) := by decide +kernel
theorem dX4_pump_101 : decode cX4_pump 101 = .ok (.getfield 44, 3) := by decide +kernel
theorem dX4_pump_104 : decode cX4_pump 104 = .ok (.iconst 0, 1) := by decide +kernel
theorem dX4_pump_105 : decode cX4_pump 105 = .ok (.iaload, 1) := by decide +kernel
theorem dX4_pump_106 : decode cX4_pump 106 = .ok (.iadd, 1) := by decide +kernel
theorem dX4_pump_107 : decode cX4_pump 107 = .ok (.ireturn, 1) := by decide +kernel
theorem dX4_pump_108 : decode cX4_pump 108 = .ok (.aload_n 0, 1) := by decide +kernel
theorem dX4_pump_109 : decode cX4_pump 109 = .ok (.getfield 44, 3) := by decide +kernel
theorem dX4_pump_112 : decode cX4_pump 112 = .ok (.iconst 2, 1) := by decide +kernel
theorem dX4_pump_113 : decode cX4_pump 113 = .ok (.iaload, 1) := by decide +kernel
theorem dX4_pump_114 : decode cX4_pump 114 = .ok (.aload_n 0, 1) := by decide +kernel
theorem dX4_pump_115 : decode cX4_pump 115 = .ok (.getfield 7, 3) := by decide +kernel
theorem dX4_pump_118 : decode cX4_pump 118 = .ok (.iload_n 1, 1) := by decide +kernel
theorem dX4_pump_119 : decode cX4_pump 119 = .ok (.iaload, 1) := by decide +kernel
theorem dX4_pump_120 : decode cX4_pump 120 = .ok (.if_icmp .le 31, 3) := by decide +kernel
theorem dX4_pump_123 : decode cX4_pump 123 = .ok (.aload_n 0, 1) := by decide +kernel
theorem dX4_pump_124 : decode cX4_pump 124 = .ok (.iload_n 1, 1) := by decide +kernel
theorem dX4_pump_125 : decode cX4_pump 125 = .ok (.aload_n 0, 1) := by decide +kernel
theorem dX4_pump_126 : decode cX4_pump 126 = .ok (.getfield 44, 3) := by decide +kernel
theorem dX4_pump_129 : decode cX4_pump 129 = .ok (.iconst 2, 1) := by decide +kernel
theorem dX4_pump_130 : decode cX4_pump 130 = .ok (.iaload, 1) := by decide +kernel
theorem dX4_pump_131 : decode cX4_pump 131 = .ok (.invokevirtual 69, 3) := by decide +kernel
theorem dX4_pump_134 : decode cX4_pump 134 = .ok (.ifCond .ne 10, 3) := by decide +kernel
theorem dX4_pump_137 : decode cX4_pump 137 = .ok (.aload_n 0, 1) := by decide +kernel
theorem dX4_pump_138 : decode cX4_pump 138 = .ok (.getfield 44, 3) := by decide +kernel
theorem dX4_pump_141 : decode cX4_pump 141 = .ok (.iconst 0, 1) := by decide +kernel
theorem dX4_pump_142 : decode cX4_pump 142 = .ok (.iaload, 1) := by decide +kernel
theorem dX4_pump_143 : decode cX4_pump 143 = .ok (.ireturn, 1) := by decide +kernel
theorem dX4_pump_144 : decode cX4_pump 144 = .ok (.aload_n 0, 1) := by decide +kernel
theorem dX4_pump_145 : decode cX4_pump 145 = .ok (.getfield 20, 3) := by decide +kernel
theorem dX4_pump_148 : decode cX4_pump 148 = .ok (.iload_n 1, 1) := by decide +kernel
theorem dX4_pump_149 : decode cX4_pump 149 = .ok (.iconst 0, 1) := by decide +kernel
theorem dX4_pump_150 : decode cX4_pump 150 = .ok (.bastore, 1) := by decide +kernel
theorem dX4_pump_151 : decode cX4_pump 151 = .ok (.aload_n 0, 1) := by decide +kernel
theorem dX4_pump_152 : decode cX4_pump 152 = .ok (.getfield 20, 3) := by decide +kernel
theorem dX4_pump_155 : decode cX4_pump 155 = .ok (.iload_n 1, 1) := by decide +kernel
theorem dX4_pump_156 : decode cX4_pump 156 = .ok (.baload, 1) := by decide +kernel
theorem dX4_pump_157 : decode cX4_pump 157 = .ok (.aload_n 0, 1) := by decide +kernel
theorem dX4_pump_158 : decode cX4_pump 158 = .ok (.getfield 44, 3) := by decide +kernel
theorem dX4_pump_161 : decode cX4_pump 161 = .ok (.iconst 0, 1) := by decide +kernel
theorem dX4_pump_162 : decode cX4_pump 162 = .ok (.iaload, 1) := by decide +kernel
theorem dX4_pump_163 : decode cX4_pump 163 = .ok (.iconst 1, 1) := by decide +kernel
theorem dX4_pump_164 : decode cX4_pump 164 = .ok (.if_icmp .ne 7, 3) := by decide +kernel
theorem dX4_pump_167 : decode cX4_pump 167 = .ok (.iconst 1, 1) := by decide +kernel
theorem dX4_pump_168 : decode cX4_pump 168 = .ok (.goto 4, 3) := by decide +kernel
theorem dX4_pump_171 : decode cX4_pump 171 = .ok (.iconst 0, 1) := by decide +kernel
theorem dX4_pump_172 : decode cX4_pump 172 = .ok (.if_icmp .ne 13, 3) := by decide +kernel
theorem dX4_pump_175 : decode cX4_pump 175 = .ok (.bipush 20, 2) := by decide +kernel
theorem dX4_pump_177 : decode cX4_pump 177 = .ok (.aload_n 0, 1) := by decide +kernel
theorem dX4_pump_178 : decode cX4_pump 178 = .ok (.getfield 44, 3) := by decide +kernel
theorem dX4_pump_181 : decode cX4_pump 181 = .ok (.iconst 0, 1) := by decide +kernel
theorem dX4_pump_182 : decode cX4_pump 182 = .ok (.iaload, 1) := by decide +kernel
theorem dX4_pump_183 : decode cX4_pump 183 = .ok (.iadd, 1) := by decide +kernel
theorem dX4_pump_184 : decode cX4_pump 184 = .ok (.ireturn, 1) := by decide +kernel
theorem dX4_pump_185 : decode cX4_pump 185 = .ok (.aload_n 0, 1) := by decide +kernel
theorem dX4_pump_186 : decode cX4_pump 186 = .ok (.getfield 44, 3) := by decide +kernel
theorem dX4_pump_189 : decode cX4_pump 189 = .ok (.iconst 0, 1) := by decide +kernel
theorem dX4_pump_190 : decode cX4_pump 190 = .ok (.iaload, 1) := by decide +kernel
theorem dX4_pump_191 : decode cX4_pump 191 = .ok (.iconst 1, 1) := by decide +kernel
theorem dX4_pump_192 : decode cX4_pump 192 = .ok (.if_icmp .ne 26, 3) := by decide +kernel
theorem dX4_pump_195 : decode cX4_pump 195 = .ok (.aload_n 0, 1) := by decide +kernel
theorem dX4_pump_196 : decode cX4_pump 196 = .ok (.getfield 20, 3) := by decide +kernel
theorem dX4_pump_199 : decode cX4_pump 199 = .ok (.iload_n 1, 1) := by decide +kernel
theorem dX4_pump_200 : decode cX4_pump 200 = .ok (.baload, 1) := by decide +kernel
theorem dX4_pump_201 : decode cX4_pump 201 = .ok (.ifCond .ne 17, 3) := by decide +kernel
theorem dX4_pump_204 : decode cX4_pump 204 = .ok (.aload_n 0, 1) := by decide +kernel
theorem dX4_pump_205 : decode cX4_pump 205 = .ok (.iload_n 1, 1) := by decide +kernel
theorem dX4_pump_206 : decode cX4_pump 206 = .ok (.aload_n 0, 1) := by decide +kernel
theorem dX4_pump_207 : decode cX4_pump 207 = .ok (.getfield 44, 3) := by decide +kernel
theorem dX4_pump_210 : decode cX4_pump 210 = .ok (.iconst 3, 1) := by decide +kernel
theorem dX4_pump_211 : decode cX4_pump 211 = .ok (.iaload, 1) := by decide +kernel
theorem dX4_pump_212 : decode cX4_pump 212 = .ok (.invokevirtual 73, 3) := by decide +kernel
theorem dX4_pump_215 : decode cX4_pump 215 = .ok (.goto 139, 3) := by decide +kernel
theorem dX4_pump_218 : decode cX4_pump 218 = .ok (.aload_n 0, 1) := by decide +kernel
theorem dX4_pump_219 : decode cX4_pump 219 = .ok (.getfield 44, 3) := by decide +kernel
theorem dX4_pump_222 : decode cX4_pump 222 = .ok (.iconst 0, 1) := by decide +kernel
theorem dX4_pump_223 : decode cX4_pump 223 = .ok (.iaload, 1) := by decide +kernel
theorem dX4_pump_224 : decode cX4_pump 224 = .ok (.iconst 2, 1) := by decide +kernel
theorem dX4_pump_225 : decode cX4_pump 225 = .ok (.if_icmp .ne 64, 3) := by decide +kernel
theorem dX4_pump_228 : decode cX4_pump 228 = .ok (.aload_n 0, 1) := by decide +kernel
theorem dX4_pump_229 : decode cX4_pump 229 = .ok (.getfield 20, 3) := by decide +kernel
theorem dX4_pump_232 : decode cX4_pump 232 = .ok (.iload_n 1, 1) := by decide +kernel
theorem dX4_pump_233 : decode cX4_pump 233 = .ok (.baload, 1) := by decide +kernel
theorem dX4_pump_234 : decode cX4_pump 234 = .ok (.ifCond .eq 55, 3) := by decide +kernel
theorem dX4_pump_237 : decode cX4_pump 237 = .ok (.aload_n 0, 1) := by decide +kernel
theorem dX4_pump_238 : decode cX4_pump 238 = .ok (.getfield 23, 3) := by decide +kernel
theorem dX4_pump_241 : decode cX4_pump 241 = .ok (.iload_n 1, 1) := by decide +kernel
theorem dX4_pump_242 : decode cX4_pump 242 = .ok (.aload_n 0, 1) := by decide +kernel
theorem dX4_pump_243 : decode cX4_pump 243 = .ok (.getfield 44, 3) := by decide +kernel
theorem dX4_pump_246 : decode cX4_pump 246 = .ok (.iconst 3, 1) := by decide +kernel
theorem dX4_pump_247 : decode cX4_pump 247 = .ok (.iaload, 1) := by decide +kernel
theorem dX4_pump_248 : decode cX4_pump 248 = .ok (.aload_n 0, 1) := by decide +kernel
theorem dX4_pump_249 : decode cX4_pump 249 = .ok (.getfield 23, 3) := by decide +kernel
theorem dX4_pump_252 : decode cX4_pump 252 = .ok (.iload_n 1, 1) := by decide +kernel
theorem dX4_pump_253 : decode cX4_pump 253 = .ok (.iaload, 1) := by decide +kernel
theorem dX4_pump_254 : decode cX4_pump 254 = .ok (.if_icmp .le 12, 3) := by decide +kernel
theorem dX4_pump_257 : decode cX4_pump 257 = .ok (.aload_n 0, 1) := by decide +kernel
theorem dX4_pump_258 : decode cX4_pump 258 = .ok (.getfield 44, 3) := by decide +kernel
theorem dX4_pump_261 : decode cX4_pump 261 = .ok (.iconst 3, 1) := by decide +kernel
theorem dX4_pump_262 : decode cX4_pump 262 = .ok (.iaload, 1) := by decide +kernel
theorem dX4_pump_263 : decode cX4_pump 263 = .ok (.goto 9, 3) := by decide +kernel
theorem dX4_pump_266 : decode cX4_pump 266 = .ok (.aload_n 0, 1) := by decide +kernel
theorem dX4_pump_267 : decode cX4_pump 267 = .ok (.getfield 23, 3) := by decide +kernel
theorem dX4_pump_270 : decode cX4_pump 270 = .ok (.iload_n 1, 1) := by decide +kernel
theorem dX4_pump_271 : decode cX4_pump 271 = .ok (.iaload, 1) := by decide +kernel
theorem dX4_pump_272 : decode cX4_pump 272 = .ok (.iastore, 1) := by decide +kernel
theorem dX4_pump_273 : decode cX4_pump 273 = .ok (.aload_n 0, 1) := by decide +kernel
theorem dX4_pump_274 : decode cX4_pump 274 = .ok (.iload_n 1, 1) := by decide +kernel
theorem dX4_pump_275 : decode cX4_pump 275 = .ok (.aload_n 0, 1) := by decide +kernel
theorem dX4_pump_276 : decode cX4_pump 276 = .ok (.getfield 44, 3) := by decide +kernel
theorem dX4_pump_279 : decode cX4_pump 279 = .ok (.iconst 3, 1) := by decide +kernel
theorem dX4_pump_280 : decode cX4_pump 280 = .ok (.iaload, 1) := by decide +kernel
theorem dX4_pump_281 : decode cX4_pump 281 = .ok (.iconst 1, 1) := by decide +kernel
theorem dX4_pump_282 : decode cX4_pump 282 = .ok (.iadd, 1) := by decide +kernel
theorem dX4_pump_283 : decode cX4_pump 283 = .ok (.invokevirtual 77, 3) := by decide +kernel
theorem dX4_pump_286 : decode cX4_pump 286 = .ok (.goto 68, 3) := by decide +kernel
theorem dX4_pump_289 : decode cX4_pump 289 = .ok (.aload_n 0, 1) := by decide +kernel
theorem dX4_pump_290 : decode cX4_pump 290 = .ok (.getfield 44, 3) := by decide +kernel
theorem dX4_pump_293 : decode cX4_pump 293 = .ok (.iconst 0, 1) := by decide +kernel
theorem dX4_pump_294 : decode cX4_pump 294 = .ok (.iaload, 1) := by decide +kernel
theorem dX4_pump_295 : decode cX4_pump 295 = .ok (.iconst 3, 1) := by decide +kernel
theorem dX4_pump_296 : decode cX4_pump 296 = .ok (.if_icmp .ne 58, 3) := by decide +kernel
theorem dX4_pump_299 : decode cX4_pump 299 = .ok (.aload_n 0, 1) := by decide +kernel
theorem dX4_pump_300 : decode cX4_pump 300 = .ok (.getfield 20, 3) := by decide +kernel
theorem dX4_pump_303 : decode cX4_pump 303 = .ok (.iload_n 1, 1) := by decide +kernel
theorem dX4_pump_304 : decode cX4_pump 304 = .ok (.baload, 1) := by decide +kernel
theorem dX4_pump_305 : decode cX4_pump 305 = .ok (.ifCond .eq 49, 3) := by decide +kernel
theorem dX4_pump_308 : decode cX4_pump 308 = .ok (.aload_n 0, 1) := by decide +kernel
theorem dX4_pump_309 : decode cX4_pump 309 = .ok (.getfield 44, 3) := by decide +kernel
theorem dX4_pump_312 : decode cX4_pump 312 = .ok (.iconst 3, 1) := by decide +kernel
theorem dX4_pump_313 : decode cX4_pump 313 = .ok (.iaload, 1) := by decide +kernel
theorem dX4_pump_314 : decode cX4_pump 314 = .ok (.ifCond .lt 40, 3) := by decide +kernel
theorem dX4_pump_317 : decode cX4_pump 317 = .ok (.aload_n 0, 1) := by decide +kernel
theorem dX4_pump_318 : decode cX4_pump 318 = .ok (.iload_n 1, 1) := by decide +kernel
theorem dX4_pump_319 : decode cX4_pump 319 = .ok (.aload_n 0, 1) := by decide +kernel
theorem dX4_pump_320 : decode cX4_pump 320 = .ok (.getfield 44, 3) := by decide +kernel
theorem dX4_pump_323 : decode cX4_pump 323 = .ok (.iconst 3, 1) := by decide +kernel
theorem dX4_pump_324 : decode cX4_pump 324 = .ok (.iaload, 1) := by decide +kernel
theorem dX4_pump_325 : decode cX4_pump 325 = .ok (.aload_n 0, 1) := by decide +kernel
theorem dX4_pump_326 : decode cX4_pump 326 = .ok (.getfield 13, 3) := by decide +kernel
theorem dX4_pump_329 : decode cX4_pump 329 = .ok (.iload_n 1, 1) := by decide +kernel
theorem dX4_pump_330 : decode cX4_pump 330 = .ok (.iaload, 1) := by decide +kernel
theorem dX4_pump_331 : decode cX4_pump 331 = .ok (.if_icmp .ge 12, 3) := by decide +kernel
theorem dX4_pump_334 : decode cX4_pump 334 = .ok (.aload_n 0, 1) := by decide +kernel
theorem dX4_pump_335 : decode cX4_pump 335 = .ok (.getfield 44, 3) := by decide +kernel
theorem dX4_pump_338 : decode cX4_pump 338 = .ok (.iconst 3, 1) := by decide +kernel
theorem dX4_pump_339 : decode cX4_pump 339 = .ok (.iaload, 1) := by decide +kernel
theorem dX4_pump_340 : decode cX4_pump 340 = .ok (.goto 11, 3) := by decide +kernel
theorem dX4_pump_343 : decode cX4_pump 343 = .ok (.aload_n 0, 1) := by decide +kernel
theorem dX4_pump_344 : decode cX4_pump 344 = .ok (.getfield 13, 3) := by decide +kernel
theorem dX4_pump_347 : decode cX4_pump 347 = .ok (.iload_n 1, 1) := by decide +kernel
theorem dX4_pump_348 : decode cX4_pump 348 = .ok (.iaload, 1) := by decide +kernel
theorem dX4_pump_349 : decode cX4_pump 349 = .ok (.iconst 1, 1) := by decide +kernel
theorem dX4_pump_350 : decode cX4_pump 350 = .ok (.isub, 1) := by decide +kernel
theorem dX4_pump_351 : decode cX4_pump 351 = .ok (.invokevirtual 77, 3) := by decide +kernel
theorem dX4_pump_354 : decode cX4_pump 354 = .ok (.aload_n 0, 1) := by decide +kernel
theorem dX4_pump_355 : decode cX4_pump 355 = .ok (.getfield 44, 3) := by decide +kernel
theorem dX4_pump_358 : decode cX4_pump 358 = .ok (.iconst 0, 1) := by decide +kernel
theorem dX4_pump_359 : decode cX4_pump 359 = .ok (.iaload, 1) := by decide +kernel
theorem dX4_pump_360 : decode cX4_pump 360 = .ok (.ireturn, 1) := by decide +kernel
set_option maxRecDepth 20000 in
theorem ggX4_shipIfThere_X4_send : GoodIn wsX4_shipIfThere wsX4_send := goodIn_r _ [6, 7, 8, 9, 10, 11, 12, 1, 13, 14, 15, 16, 17, 18, 19, 20, 21, 22, 23, 24, 25] (by decide +kernel) (by decide +kernel)
set_option maxRecDepth 20000 in
theorem gX4_shipIfThere_X4_send : GoodIn wsX4_shipIfThere (wsV RX4 61 RX4 yX4_send wsX4_send) := goodIn_app (goodIn_of _ (by decide +kernel)) ggX4_shipIfThere_X4_send
theorem dX4_shipIfThere_0 : decode cX4_shipIfThere 0 = .ok (.iload_n 2, 1) := by decide +kernel
theorem dX4_shipIfThere_1 : decode cX4_shipIfThere 1 = .ok (.ifCond .lt 20, 3) := by decide +kernel
theorem dX4_shipIfThere_4 : decode cX4_shipIfThere 4 = .ok (.iload_n 2, 1) := by decide +kernel
theorem dX4_shipIfThere_5 : decode cX4_shipIfThere 5 = .ok (.aload_n 0, 1) := by decide +kernel
theorem dX4_shipIfThere_6 : decode cX4_shipIfThere 6 = .ok (.getfield 13, 3) := by decide +kernel
theorem dX4_shipIfThere_9 : decode cX4_shipIfThere 9 = .ok (.iload_n 1, 1) := by decide +kernel
theorem dX4_shipIfThere_10 : decode cX4_shipIfThere 10 = .ok (.iaload, 1) := by decide +kernel
theorem dX4_shipIfThere_11 : decode cX4_shipIfThere 11 = .ok (.if_icmp .ge 10, 3) := by decide +kernel
theorem dX4_shipIfThere_14 : decode cX4_shipIfThere 14 = .ok (.aload_n 0, 1) := by decide +kernel
theorem dX4_shipIfThere_15 : decode cX4_shipIfThere 15 = .ok (.iload_n 1, 1) := by decide +kernel
theorem dX4_shipIfThere_16 : decode cX4_shipIfThere 16 = .ok (.iconst 1, 1) := by decide +kernel
theorem dX4_shipIfThere_17 : decode cX4_shipIfThere 17 = .ok (.iload_n 2, 1) := by decide +kernel
theorem dX4_shipIfThere_18 : decode cX4_shipIfThere 18 = .ok (.invokevirtual 61, 3) := by decide +kernel
theorem dX4_shipIfThere_21 : decode cX4_shipIfThere 21 = .ok (.return_, 1) := by decide +kernel
set_option maxRecDepth 20000 in
theorem ggX4_shipped_X4_send : GoodIn wsX4_shipped wsX4_send := goodIn_r _ [10, 11, 12, 13, 2, 4, 5, 1, 30, 31, 32, 33, 34, 35, 36, 37, 38, 39, 40, 41, 42] (by decide +kernel) (by decide +kernel)
set_option maxRecDepth 20000 in
theorem gX4_shipped_X4_send : GoodIn wsX4_shipped (wsV RX4 61 RX4 yX4_send wsX4_send) := goodIn_app (goodIn_of _ (by decide +kernel)) ggX4_shipped_X4_send
set_option maxRecDepth 20000 in
theorem ggX4_shipped_X4_cutTo : GoodIn wsX4_shipped wsX4_cutTo := goodIn_r _ [17, 1, 18, 19, 20, 9, 21, 22, 23, 24, 25, 30, 31, 32, 33, 34, 35, 36, 37, 38, 39, 40, 41, 42] (by decide +kernel) (by decide +kernel)
set_option maxRecDepth 20000 in
theorem gX4_shipped_X4_cutTo : GoodIn wsX4_shipped (wsV RX4 80 RX4 yX4_cutTo wsX4_cutTo) := goodIn_app (goodIn_of _ (by decide +kernel)) ggX4_shipped_X4_cutTo
set_option maxRecDepth 20000 in
theorem ggX4_shipped_X4_putBehind : GoodIn wsX4_shipped wsX4_putBehind := goodIn_r _ [29, 1, 2, 4, 5, 18, 19, 20, 9, 21, 22, 23, 24, 25, 30, 31, 32, 33, 34, 35, 36, 37, 38, 39, 40, 41, 42] (by decide +kernel) (by decide +kernel)
set_option maxRecDepth 20000 in
theorem gX4_shipped_X4_putBehind : GoodIn wsX4_shipped (wsV RX4 57 RX4 yX4_putBehind wsX4_putBehind) := goodIn_app (goodIn_of _ (by decide +kernel)) ggX4_shipped_X4_putBehind
theorem dX4_shipped_0 : decode cX4_shipped 0 = .ok (.aload_n 0, 1) := by decide +kernel
