theorem dX3_crash_1 : decode cX3_crash 1 = .ok (.iload_n 1, 1) := by decide +kernel
theorem dX3_crash_2 : decode cX3_crash 2 = .ok (.invokevirtual 28, 3) := by decide +kernel
theorem dX3_crash_5 : decode cX3_crash 5 = .ok (.astore_n 2, 1) := by decide +kernel
theorem dX3_crash_6 : decode cX3_crash 6 = .ok (.aload_n 2, 1) := by decide +kernel
theorem dX3_crash_7 : decode cX3_crash 7 = .ok (.ifnonnull 5, 3) := by decide +kernel
theorem dX3_crash_10 : decode cX3_crash 10 = .ok (.iconst (-1), 1) := by decide +kernel
theorem dX3_crash_11 : decode cX3_crash 11 = .ok (.ireturn, 1) := by decide +kernel
theorem dX3_crash_12 : decode cX3_crash 12 = .ok (.aload_n 2, 1) := by decide +kernel
theorem dX3_crash_13 : decode cX3_crash 13 = .ok (.getfield 36, 3) := by decide +kernel
theorem dX3_crash_16 : decode cX3_crash 16 = .ok (.ifCond .eq 7, 3) := by decide +kernel
theorem dX3_crash_19 : decode cX3_crash 19 = .ok (.iconst 1, 1) := by decide +kernel
theorem dX3_crash_20 : decode cX3_crash 20 = .ok (.goto 4, 3) := by decide +kernel
theorem dX3_crash_23 : decode cX3_crash 23 = .ok (.iconst 0, 1) := by decide +kernel
theorem dX3_crash_24 : decode cX3_crash 24 = .ok (.istore_n 3, 1) := by decide +kernel
theorem dX3_crash_25 : decode cX3_crash 25 = .ok (.aload_n 2, 1) := by decide +kernel
theorem dX3_crash_26 : decode cX3_crash 26 = .ok (.invokevirtual 94, 3) := by decide +kernel
theorem dX3_crash_29 : decode cX3_crash 29 = .ok (.iload_n 3, 1) := by decide +kernel
theorem dX3_crash_30 : decode cX3_crash 30 = .ok (.ireturn, 1) := by decide +kernel
set_option maxRecDepth 20000 in
theorem ggX3_recover_X3_nodeOf : GoodIn wsX3_recover wsX3_nodeOf := goodIn_r _ [7, 8, 9, 28, 29, 30] (by decide +kernel) (by decide +kernel)
set_option maxRecDepth 20000 in
theorem gX3_recover_X3_nodeOf : GoodIn wsX3_recover (wsV RX3 28 RX3 yX3_nodeOf wsX3_nodeOf) := goodIn_app (goodIn_of _ (by decide +kernel)) ggX3_recover_X3_nodeOf
set_option maxRecDepth 20000 in
theorem ggX3_recover_X2_comeUp : GoodIn wsX3_recover wsX2_comeUp := goodIn_r _ [14, 15, 16, 17, 18, 19, 20, 21, 22, 23, 24, 25, 26, 27] (by decide +kernel) (by decide +kernel)
set_option maxRecDepth 20000 in
theorem gX3_recover_X2_comeUp : GoodIn wsX3_recover (wsV RX3 97 RX2 yX2_comeUp wsX2_comeUp) := goodIn_app (goodIn_of _ (by decide +kernel)) ggX3_recover_X2_comeUp
theorem dX3_recover_0 : decode cX3_recover 0 = .ok (.aload_n 0, 1) := by decide +kernel
theorem dX3_recover_1 : decode cX3_recover 1 = .ok (.iload_n 1, 1) := by decide +kernel
theorem dX3_recover_2 : decode cX3_recover 2 = .ok (.invokevirtual 28, 3) := by decide +kernel
theorem dX3_recover_5 : decode cX3_recover 5 = .ok (.astore_n 2, 1) := by decide +kernel
theorem dX3_recover_6 : decode cX3_recover 6 = .ok (.aload_n 2, 1) := by decide +kernel
theorem dX3_recover_7 : decode cX3_recover 7 = .ok (.ifnonnull 5, 3) := by decide +kernel
theorem dX3_recover_10 : decode cX3_recover 10 = .ok (.iconst (-1), 1) := by decide +kernel
theorem dX3_recover_11 : decode cX3_recover 11 = .ok (.ireturn, 1) := by decide +kernel
theorem dX3_recover_12 : decode cX3_recover 12 = .ok (.aload_n 2, 1) := by decide +kernel
theorem dX3_recover_13 : decode cX3_recover 13 = .ok (.getfield 36, 3) := by decide +kernel
theorem dX3_recover_16 : decode cX3_recover 16 = .ok (.ifCond .eq 6, 3) := by decide +kernel
theorem dX3_recover_19 : decode cX3_recover 19 = .ok (.bipush (-2), 2) := by decide +kernel
theorem dX3_recover_21 : decode cX3_recover 21 = .ok (.ireturn, 1) := by decide +kernel
theorem dX3_recover_22 : decode cX3_recover 22 = .ok (.aload_n 2, 1) := by decide +kernel
theorem dX3_recover_23 : decode cX3_recover 23 = .ok (.invokevirtual 97, 3) := by decide +kernel
theorem dX3_recover_26 : decode cX3_recover 26 = .ok (.aload_n 2, 1) := by decide +kernel
theorem dX3_recover_27 : decode cX3_recover 27 = .ok (.getfield 43, 3) := by decide +kernel
theorem dX3_recover_30 : decode cX3_recover 30 = .ok (.ireturn, 1) := by decide +kernel
set_option maxRecDepth 20000 in
theorem ggX3_promote_X3_nodeOf : GoodIn wsX3_promote wsX3_nodeOf := goodIn_r _ [9, 10, 11, 46, 47, 48] (by decide +kernel) (by decide +kernel)
set_option maxRecDepth 20000 in
theorem gX3_promote_X3_nodeOf : GoodIn wsX3_promote (wsV RX3 28 RX3 yX3_nodeOf wsX3_nodeOf) := goodIn_app (goodIn_of _ (by decide +kernel)) ggX3_promote_X3_nodeOf
set_option maxRecDepth 20000 in
theorem ggX3_promote_X2_nextOwnTerm : GoodIn wsX3_promote wsX2_nextOwnTerm := goodIn_r _ [16, 17, 18, 35, 36, 37, 38, 39, 40, 41, 42, 43, 44, 45] (by decide +kernel) (by decide +kernel)
set_option maxRecDepth 20000 in
theorem gX3_promote_X2_nextOwnTerm : GoodIn wsX3_promote (wsV RX3 100 RX2 yX2_nextOwnTerm wsX2_nextOwnTerm) := goodIn_app (goodIn_of _ (by decide +kernel)) ggX3_promote_X2_nextOwnTerm
set_option maxRecDepth 20000 in
theorem ggX3_promote_X2_changeTerm : GoodIn wsX3_promote wsX2_changeTerm := goodIn_r _ [22, 17, 23, 24, 25, 15, 26, 27, 28, 29, 30, 31, 32, 33, 34, 35, 36, 37, 38, 39, 40, 41, 42, 43, 44, 45] (by decide +kernel) (by decide +kernel)
set_option maxRecDepth 20000 in
theorem gX3_promote_X2_changeTerm : GoodIn wsX3_promote (wsV RX3 104 RX2 yX2_changeTerm wsX2_changeTerm) := goodIn_app (goodIn_of _ (by decide +kernel)) ggX3_promote_X2_changeTerm
theorem dX3_promote_0 : decode cX3_promote 0 = .ok (.aload_n 0, 1) := by decide +kernel
theorem dX3_promote_1 : decode cX3_promote 1 = .ok (.iload_n 1, 1) := by decide +kernel
theorem dX3_promote_2 : decode cX3_promote 2 = .ok (.invokevirtual 28, 3) := by decide +kernel
theorem dX3_promote_5 : decode cX3_promote 5 = .ok (.astore_n 2, 1) := by decide +kernel
theorem dX3_promote_6 : decode cX3_promote 6 = .ok (.aload_n 2, 1) := by decide +kernel
theorem dX3_promote_7 : decode cX3_promote 7 = .ok (.ifnonnull 5, 3) := by decide +kernel
theorem dX3_promote_10 : decode cX3_promote 10 = .ok (.iconst (-1), 1) := by decide +kernel
theorem dX3_promote_11 : decode cX3_promote 11 = .ok (.ireturn, 1) := by decide +kernel
theorem dX3_promote_12 : decode cX3_promote 12 = .ok (.aload_n 2, 1) := by decide +kernel
theorem dX3_promote_13 : decode cX3_promote 13 = .ok (.getfield 36, 3) := by decide +kernel
theorem dX3_promote_16 : decode cX3_promote 16 = .ok (.ifCond .eq 14, 3) := by decide +kernel
theorem dX3_promote_19 : decode cX3_promote 19 = .ok (.aload_n 2, 1) := by decide +kernel
theorem dX3_promote_20 : decode cX3_promote 20 = .ok (.aload_n 2, 1) := by decide +kernel
theorem dX3_promote_21 : decode cX3_promote 21 = .ok (.invokevirtual 100, 3) := by decide +kernel
theorem dX3_promote_24 : decode cX3_promote 24 = .ok (.invokevirtual 104, 3) := by decide +kernel
theorem dX3_promote_27 : decode cX3_promote 27 = .ok (.ifCond .ne 6, 3) := by decide +kernel
theorem dX3_promote_30 : decode cX3_promote 30 = .ok (.bipush (-4), 2) := by decide +kernel
theorem dX3_promote_32 : decode cX3_promote 32 = .ok (.ireturn, 1) := by decide +kernel
theorem dX3_promote_33 : decode cX3_promote 33 = .ok (.aload_n 2, 1) := by decide +kernel
theorem dX3_promote_34 : decode cX3_promote 34 = .ok (.iconst 1, 1) := by decide +kernel
theorem dX3_promote_35 : decode cX3_promote 35 = .ok (.putfield 40, 3) := by decide +kernel
theorem dX3_promote_38 : decode cX3_promote 38 = .ok (.aload_n 2, 1) := by decide +kernel
theorem dX3_promote_39 : decode cX3_promote 39 = .ok (.iconst (-1), 1) := by decide +kernel
theorem dX3_promote_40 : decode cX3_promote 40 = .ok (.putfield 107, 3) := by decide +kernel
theorem dX3_promote_43 : decode cX3_promote 43 = .ok (.aload_n 2, 1) := by decide +kernel
theorem dX3_promote_44 : decode cX3_promote 44 = .ok (.getfield 51, 3) := by decide +kernel
theorem dX3_promote_47 : decode cX3_promote 47 = .ok (.ireturn, 1) := by decide +kernel
set_option maxRecDepth 20000 in
theorem ggX3_rejoin_X3_nodeOf : GoodIn wsX3_rejoin wsX3_nodeOf := goodIn_r _ [9, 10, 11, 41, 42, 43] (by decide +kernel) (by decide +kernel)
set_option maxRecDepth 20000 in
theorem gX3_rejoin_X3_nodeOf : GoodIn wsX3_rejoin (wsV RX3 28 RX3 yX3_nodeOf wsX3_nodeOf) := goodIn_app (goodIn_of _ (by decide +kernel)) ggX3_rejoin_X3_nodeOf
set_option maxRecDepth 20000 in
theorem ggX3_rejoin_X0_isFull : GoodIn wsX3_rejoin wsX0_isFull := goodIn_r _ [16, 17, 44, 45, 46] (by decide +kernel) (by decide +kernel)
set_option maxRecDepth 20000 in
theorem gX3_rejoin_X0_isFull : GoodIn wsX3_rejoin (wsV RX3 47 RX0 yX0_isFull wsX0_isFull) := goodIn_app (goodIn_of _ (by decide +kernel)) ggX3_rejoin_X0_isFull
set_option maxRecDepth 20000 in
theorem ggX3_rejoin_X0_send : GoodIn wsX3_rejoin wsX0_send := goodIn_r _ [21, 22, 17, 23, 24, 25, 26, 27, 28, 29, 13, 14, 15, 16, 44, 45, 46, 47, 48, 49, 50, 51, 52, 53, 54, 55, 30, 31, 32, 33, 34, 35, 36, 37, 38, 39, 40] (by decide +kernel) (by decide +kernel)
set_option maxRecDepth 20000 in
theorem gX3_rejoin_X0_send : GoodIn wsX3_rejoin (wsV RX3 110 RX0 yX0_send wsX0_send) := goodIn_app (goodIn_of _ (by decide +kernel)) ggX3_rejoin_X0_send
theorem dX3_rejoin_0 : decode cX3_rejoin 0 = .ok (.aload_n 0, 1) := by decide +kernel
theorem dX3_rejoin_1 : decode cX3_rejoin 1 = .ok (.iload_n 1, 1) := by decide +kernel
theorem dX3_rejoin_2 : decode cX3_rejoin 2 = .ok (.invokevirtual 28, 3) := by decide +kernel
theorem dX3_rejoin_5 : decode cX3_rejoin 5 = .ok (.astore_n 2, 1) := by decide +kernel
theorem dX3_rejoin_6 : decode cX3_rejoin 6 = .ok (.aload_n 2, 1) := by decide +kernel
theorem dX3_rejoin_7 : decode cX3_rejoin 7 = .ok (.ifnonnull 5, 3) := by decide +kernel
theorem dX3_rejoin_10 : decode cX3_rejoin 10 = .ok (.iconst (-1), 1) := by decide +kernel
theorem dX3_rejoin_11 : decode cX3_rejoin 11 = .ok (.ireturn, 1) := by decide +kernel
theorem dX3_rejoin_12 : decode cX3_rejoin 12 = .ok (.aload_n 2, 1) := by decide +kernel
theorem dX3_rejoin_13 : decode cX3_rejoin 13 = .ok (.getfield 36, 3) := by decide +kernel
theorem dX3_rejoin_16 : decode cX3_rejoin 16 = .ok (.ifCond .ne 6, 3) := by decide +kernel
theorem dX3_rejoin_19 : decode cX3_rejoin 19 = .ok (.bipush (-4), 2) := by decide +kernel
theorem dX3_rejoin_21 : decode cX3_rejoin 21 = .ok (.ireturn, 1) := by decide +kernel
theorem dX3_rejoin_22 : decode cX3_rejoin 22 = .ok (.aload_n 2, 1) := by decide +kernel
theorem dX3_rejoin_23 : decode cX3_rejoin 23 = .ok (.getfield 40, 3) := by decide +kernel
theorem dX3_rejoin_26 : decode cX3_rejoin 26 = .ok (.ifCond .eq 6, 3) := by decide +kernel
theorem dX3_rejoin_29 : decode cX3_rejoin 29 = .ok (.bipush (-2), 2) := by decide +kernel
theorem dX3_rejoin_31 : decode cX3_rejoin 31 = .ok (.ireturn, 1) := by decide +kernel
theorem dX3_rejoin_32 : decode cX3_rejoin 32 = .ok (.aload_n 0, 1) := by decide +kernel
theorem dX3_rejoin_33 : decode cX3_rejoin 33 = .ok (.getfield 24, 3) := by decide +kernel
theorem dX3_rejoin_36 : decode cX3_rejoin 36 = .ok (.invokevirtual 47, 3) := by decide +kernel
theorem dX3_rejoin_39 : decode cX3_rejoin 39 = .ok (.ifCond .eq 6, 3) := by decide +kernel
theorem dX3_rejoin_42 : decode cX3_rejoin 42 = .ok (.bipush (-3), 2) := by decide +kernel
theorem dX3_rejoin_44 : decode cX3_rejoin 44 = .ok (.ireturn, 1) := by decide +kernel
theorem dX3_rejoin_45 : decode cX3_rejoin 45 = .ok (.aload_n 0, 1) := by decide +kernel
theorem dX3_rejoin_46 : decode cX3_rejoin 46 = .ok (.getfield 24, 3) := by decide +kernel
theorem dX3_rejoin_49 : decode cX3_rejoin 49 = .ok (.iconst 3, 1) := by decide +kernel
theorem dX3_rejoin_50 : decode cX3_rejoin 50 = .ok (.aload_n 2, 1) := by decide +kernel
theorem dX3_rejoin_51 : decode cX3_rejoin 51 = .ok (.aload_n 2, 1) := by decide +kernel
theorem dX3_rejoin_52 : decode cX3_rejoin 52 = .ok (.getfield 43, 3) := by decide +kernel
theorem dX3_rejoin_55 : decode cX3_rejoin 55 = .ok (.invokevirtual 110, 3) := by decide +kernel
theorem dX3_rejoin_58 : decode cX3_rejoin 58 = .ok (.pop, 1) := by decide +kernel
theorem dX3_rejoin_59 : decode cX3_rejoin 59 = .ok (.iconst 1, 1) := by decide +kernel
theorem dX3_rejoin_60 : decode cX3_rejoin 60 = .ok (.ireturn, 1) := by decide +kernel
set_option maxRecDepth 20000 in
theorem ggX3_told_X3_nodeOf : GoodIn wsX3_told wsX3_nodeOf := goodIn_r _ [12, 13, 14, 26, 27, 28] (by decide +kernel) (by decide +kernel)
set_option maxRecDepth 20000 in
theorem gX3_told_X3_nodeOf : GoodIn wsX3_told (wsV RX3 28 RX3 yX3_nodeOf wsX3_nodeOf) := goodIn_app (goodIn_of _ (by decide +kernel)) ggX3_told_X3_nodeOf
theorem dX3_told_0 : decode cX3_told 0 = .ok (.aload_n 0, 1) := by decide +kernel
theorem dX3_told_1 : decode cX3_told 1 = .ok (.iload_n 1, 1) := by decide +kernel
theorem dX3_told_2 : decode cX3_told 2 = .ok (.invokevirtual 28, 3) := by decide +kernel
theorem dX3_told_5 : decode cX3_told 5 = .ok (.astore_n 3, 1) := by decide +kernel
theorem dX3_told_6 : decode cX3_told 6 = .ok (.aload_n 3, 1) := by decide +kernel
theorem dX3_told_7 : decode cX3_told 7 = .ok (.ifnonnull 5, 3) := by decide +kernel
theorem dX3_told_10 : decode cX3_told 10 = .ok (.iconst (-1), 1) := by decide +kernel
theorem dX3_told_11 : decode cX3_told 11 = .ok (.ireturn, 1) := by decide +kernel
theorem dX3_told_12 : decode cX3_told 12 = .ok (.iload_n 2, 1) := by decide +kernel
theorem dX3_told_13 : decode cX3_told 13 = .ok (.tableswitch 105 0 6 #[43, 48, 53, 66, 79, 95, 100], 43) := by decide +kernel
theorem dX3_told_56 : decode cX3_told 56 = .ok (.aload_n 3, 1) := by decide +kernel
theorem dX3_told_57 : decode cX3_told 57 = .ok (.getfield 51, 3) := by decide +kernel
theorem dX3_told_60 : decode cX3_told 60 = .ok (.ireturn, 1) := by decide +kernel
theorem dX3_told_61 : decode cX3_told 61 = .ok (.aload_n 3, 1) := by decide +kernel
theorem dX3_told_62 : decode cX3_told 62 = .ok (.getfield 43, 3) := by decide +kernel
theorem dX3_told_65 : decode cX3_told 65 = .ok (.ireturn, 1) := by decide +kernel
theorem dX3_told_66 : decode cX3_told 66 = .ok (.aload_n 3, 1) := by decide +kernel
theorem dX3_told_67 : decode cX3_told 67 = .ok (.getfield 36, 3) := by decide +kernel
theorem dX3_told_70 : decode cX3_told 70 = .ok (.ifCond .eq 7, 3) := by decide +kernel
theorem dX3_told_73 : decode cX3_told 73 = .ok (.iconst 1, 1) := by decide +kernel
theorem dX3_told_74 : decode cX3_told 74 = .ok (.goto 4, 3) := by decide +kernel
theorem dX3_told_77 : decode cX3_told 77 = .ok (.iconst 0, 1) := by decide +kernel
theorem dX3_told_78 : decode cX3_told 78 = .ok (.ireturn, 1) := by decide +kernel
theorem dX3_told_79 : decode cX3_told 79 = .ok (.aload_n 3, 1) := by decide +kernel
theorem dX3_told_80 : decode cX3_told 80 = .ok (.getfield 40, 3) := by decide +kernel
theorem dX3_told_83 : decode cX3_told 83 = .ok (.ifCond .eq 7, 3) := by decide +kernel
theorem dX3_told_86 : decode cX3_told 86 = .ok (.iconst 1, 1) := by decide +kernel
theorem dX3_told_87 : decode cX3_told 87 = .ok (.goto 4, 3) := by decide +kernel
theorem dX3_told_90 : decode cX3_told 90 = .ok (.iconst 0, 1) := by decide +kernel
theorem dX3_told_91 : decode cX3_told 91 = .ok (.ireturn, 1) := by decide +kernel
theorem dX3_told_92 : decode cX3_told 92 = .ok (.aload_n 3, 1) := by decide +kernel
theorem dX3_told_93 : decode cX3_told 93 = .ok (.getfield 40, 3) := by decide +kernel
theorem dX3_told_96 : decode cX3_told 96 = .ok (.ifCond .eq 10, 3) := by decide +kernel
theorem dX3_told_99 : decode cX3_told 99 = .ok (.aload_n 3, 1) := by decide +kernel
theorem dX3_told_100 : decode cX3_told 100 = .ok (.getfield 107, 3) := by decide +kernel
theorem dX3_told_103 : decode cX3_told 103 = .ok (.goto 4, 3) := by decide +kernel
theorem dX3_told_106 : decode cX3_told 106 = .ok (.iconst (-1), 1) := by decide +kernel
theorem dX3_told_107 : decode cX3_told 107 = .ok (.ireturn, 1) := by decide +kernel
theorem dX3_told_108 : decode cX3_told 108 = .ok (.aload_n 3, 1) := by decide +kernel
theorem dX3_told_109 : decode cX3_told 109 = .ok (.getfield 91, 3) := by decide +kernel
theorem dX3_told_112 : decode cX3_told 112 = .ok (.ireturn, 1) := by decide +kernel
theorem dX3_told_113 : decode cX3_told 113 = .ok (.aload_n 3, 1) := by decide +kernel
theorem dX3_told_114 : decode cX3_told 114 = .ok (.getfield 114, 3) := by decide +kernel
theorem dX3_told_117 : decode cX3_told 117 = .ok (.ireturn, 1) := by decide +kernel
theorem dX3_told_118 : decode cX3_told 118 = .ok (.iconst (-1), 1) := by decide +kernel
theorem dX3_told_119 : decode cX3_told 119 = .ok (.ireturn, 1) := by decide +kernel
set_option maxRecDepth 20000 in
theorem ggX3_entry_X3_nodeOf : GoodIn wsX3_entry wsX3_nodeOf := goodIn_r _ [8, 9, 10, 28, 29, 30] (by decide +kernel) (by decide +kernel)
set_option maxRecDepth 20000 in
theorem gX3_entry_X3_nodeOf : GoodIn wsX3_entry (wsV RX3 28 RX3 yX3_nodeOf wsX3_nodeOf) := goodIn_app (goodIn_of _ (by decide +kernel)) ggX3_entry_X3_nodeOf
set_option maxRecDepth 20000 in
theorem ggX3_entry_X2_hasEntry : GoodIn wsX3_entry wsX2_hasEntry := goodIn_r _ [15, 16, 17, 18, 19, 20, 21, 22, 23, 24, 25, 26, 27] (by decide +kernel) (by decide +kernel)
set_option maxRecDepth 20000 in
theorem gX3_entry_X2_hasEntry : GoodIn wsX3_entry (wsV RX3 117 RX2 yX2_hasEntry wsX2_hasEntry) := goodIn_app (goodIn_of _ (by decide +kernel)) ggX3_entry_X2_hasEntry
theorem dX3_entry_0 : decode cX3_entry 0 = .ok (.aload_n 0, 1) := by decide +kernel
theorem dX3_entry_1 : decode cX3_entry 1 = .ok (.iload_n 1, 1) := by decide +kernel
theorem dX3_entry_2 : decode cX3_entry 2 = .ok (.invokevirtual 28, 3) := by decide +kernel
theorem dX3_entry_5 : decode cX3_entry 5 = .ok (.astore 4, 2) := by decide +kernel
theorem dX3_entry_7 : decode cX3_entry 7 = .ok (.aload 4, 2) := by decide +kernel
theorem dX3_entry_9 : decode cX3_entry 9 = .ok (.ifnull 12, 3) := by decide +kernel
theorem dX3_entry_12 : decode cX3_entry 12 = .ok (.aload 4, 2) := by decide +kernel
theorem dX3_entry_14 : decode cX3_entry 14 = .ok (.iload_n 2, 1) := by decide +kernel
theorem dX3_entry_15 : decode cX3_entry 15 = .ok (.invokevirtual 117, 3) := by decide +kernel
theorem dX3_entry_18 : decode cX3_entry 18 = .ok (.ifCond .ne 5, 3) := by decide +kernel
theorem dX3_entry_21 : decode cX3_entry 21 = .ok (.iconst 0, 1) := by decide +kernel
theorem dX3_entry_22 : decode cX3_entry 22 = .ok (.ireturn, 1) := by decide +kernel
theorem dX3_entry_23 : decode cX3_entry 23 = .ok (.iload_n 3, 1) := by decide +kernel
theorem dX3_entry_24 : decode cX3_entry 24 = .ok (.tableswitch 52 0 2 #[28, 36, 44], 28) := by decide +kernel
theorem dX3_entry_52 : decode cX3_entry 52 = .ok (.aload 4, 2) := by decide +kernel
theorem dX3_entry_54 : decode cX3_entry 54 = .ok (.getfield 120, 3) := by decide +kernel
theorem dX3_entry_57 : decode cX3_entry 57 = .ok (.iload_n 2, 1) := by decide +kernel
theorem dX3_entry_58 : decode cX3_entry 58 = .ok (.iaload, 1) := by decide +kernel
theorem dX3_entry_59 : decode cX3_entry 59 = .ok (.ireturn, 1) := by decide +kernel
theorem dX3_entry_60 : decode cX3_entry 60 = .ok (.aload 4, 2) := by decide +kernel
theorem dX3_entry_62 : decode cX3_entry 62 = .ok (.getfield 62, 3) := by decide +kernel
theorem dX3_entry_65 : decode cX3_entry 65 = .ok (.iload_n 2, 1) := by decide +kernel
theorem dX3_entry_66 : decode cX3_entry 66 = .ok (.iaload, 1) := by decide +kernel
theorem dX3_entry_67 : decode cX3_entry 67 = .ok (.ireturn, 1) := by decide +kernel
theorem dX3_entry_68 : decode cX3_entry 68 = .ok (.aload 4, 2) := by decide +kernel
theorem dX3_entry_70 : decode cX3_entry 70 = .ok (.getfield 66, 3) := by decide +kernel
theorem dX3_entry_73 : decode cX3_entry 73 = .ok (.iload_n 2, 1) := by decide +kernel
theorem dX3_entry_74 : decode cX3_entry 74 = .ok (.iaload, 1) := by decide +kernel
theorem dX3_entry_75 : decode cX3_entry 75 = .ok (.ireturn, 1) := by decide +kernel
theorem dX3_entry_76 : decode cX3_entry 76 = .ok (.iconst 0, 1) := by decide +kernel
theorem dX3_entry_77 : decode cX3_entry 77 = .ok (.ireturn, 1) := by decide +kernel
set_option maxRecDepth 20000 in
theorem ggX3_message_X0_at : GoodIn wsX3_message wsX0_at := goodIn_r _ [10, 11, 12, 25, 26, 27] (by decide +kernel) (by decide +kernel)
set_option maxRecDepth 20000 in
theorem gX3_message_X0_at : GoodIn wsX3_message (wsV RX3 123 RX0 yX0_at wsX0_at) := goodIn_app (goodIn_of _ (by decide +kernel)) ggX3_message_X0_at
theorem dX3_message_0 : decode cX3_message 0 = .ok (.aload_n 0, 1) := by decide +kernel
theorem dX3_message_1 : decode cX3_message 1 = .ok (.getfield 24, 3) := by decide +kernel
theorem dX3_message_4 : decode cX3_message 4 = .ok (.iload_n 1, 1) := by decide +kernel
theorem dX3_message_5 : decode cX3_message 5 = .ok (.invokevirtual 123, 3) := by decide +kernel
theorem dX3_message_8 : decode cX3_message 8 = .ok (.astore_n 3, 1) := by decide +kernel
theorem dX3_message_9 : decode cX3_message 9 = .ok (.aload_n 3, 1) := by decide +kernel
theorem dX3_message_10 : decode cX3_message 10 = .ok (.ifnonnull 5, 3) := by decide +kernel
theorem dX3_message_13 : decode cX3_message 13 = .ok (.iconst (-1), 1) := by decide +kernel
theorem dX3_message_14 : decode cX3_message 14 = .ok (.ireturn, 1) := by decide +kernel
theorem dX3_message_15 : decode cX3_message 15 = .ok (.iload_n 2, 1) := by decide +kernel
theorem dX3_message_16 : decode cX3_message 16 = .ok (.tableswitch 52 0 3 #[32, 37, 42, 47], 32) := by decide +kernel
theorem dX3_message_48 : decode cX3_message 48 = .ok (.aload_n 3, 1) := by decide +kernel
theorem dX3_message_49 : decode cX3_message 49 = .ok (.getfield 78, 3) := by decide +kernel
theorem dX3_message_52 : decode cX3_message 52 = .ok (.ireturn, 1) := by decide +kernel
theorem dX3_message_53 : decode cX3_message 53 = .ok (.aload_n 3, 1) := by decide +kernel
theorem dX3_message_54 : decode cX3_message 54 = .ok (.getfield 73, 3) := by decide +kernel
theorem dX3_message_57 : decode cX3_message 57 = .ok (.ireturn, 1) := by decide +kernel
theorem dX3_message_58 : decode cX3_message 58 = .ok (.aload_n 3, 1) := by decide +kernel
theorem dX3_message_59 : decode cX3_message 59 = .ok (.getfield 126, 3) := by decide +kernel
theorem dX3_message_62 : decode cX3_message 62 = .ok (.ireturn, 1) := by decide +kernel
theorem dX3_message_63 : decode cX3_message 63 = .ok (.aload_n 3, 1) := by decide +kernel
theorem dX3_message_64 : decode cX3_message 64 = .ok (.getfield 127, 3) := by decide +kernel
theorem dX3_message_67 : decode cX3_message 67 = .ok (.ireturn, 1) := by decide +kernel
theorem dX3_message_68 : decode cX3_message 68 = .ok (.iconst (-1), 1) := by decide +kernel
theorem dX3_message_69 : decode cX3_message 69 = .ok (.ireturn, 1) := by decide +kernel
set_option maxRecDepth 20000 in
theorem ggX3_same_X2_isEntry : GoodIn wsX3_same wsX2_isEntry := goodIn_r _ [15, 16, 17, 18, 19, 20, 14, 21, 22, 23, 24, 25, 26, 27, 31, 32, 33, 34, 35, 36, 37, 38, 39, 40, 41] (by decide +kernel) (by decide +kernel)
set_option maxRecDepth 20000 in
theorem gX3_same_X2_isEntry : GoodIn wsX3_same (wsV RX3 133 RX2 yX2_isEntry wsX2_isEntry) := goodIn_app (goodIn_of _ (by decide +kernel)) ggX3_same_X2_isEntry
theorem dX3_same_0 : decode cX3_same 0 = .ok (.aload_n 0, 1) := by decide +kernel
theorem dX3_same_1 : decode cX3_same 1 = .ok (.getfield 12, 3) := by decide +kernel
theorem dX3_same_4 : decode cX3_same 4 = .ok (.getfield 43, 3) := by decide +kernel
theorem dX3_same_7 : decode cX3_same 7 = .ok (.aload_n 0, 1) := by decide +kernel
theorem dX3_same_8 : decode cX3_same 8 = .ok (.getfield 18, 3) := by decide +kernel
theorem dX3_same_11 : decode cX3_same 11 = .ok (.getfield 43, 3) := by decide +kernel
theorem dX3_same_14 : decode cX3_same 14 = .ok (.invokestatic 130, 3) := by decide +kernel
theorem dX3_same_17 : decode cX3_same 17 = .ok (.istore_n 1, 1) := by decide +kernel
theorem dX3_same_18 : decode cX3_same 18 = .ok (.iconst 0, 1) := by decide +kernel
theorem dX3_same_19 : decode cX3_same 19 = .ok (.istore_n 2, 1) := by decide +kernel
theorem dX3_same_20 : decode cX3_same 20 = .ok (.iload_n 2, 1) := by decide +kernel
theorem dX3_same_21 : decode cX3_same 21 = .ok (.iload_n 1, 1) := by decide +kernel
theorem dX3_same_22 : decode cX3_same 22 = .ok (.if_icmp .ge 47, 3) := by decide +kernel
theorem dX3_same_25 : decode cX3_same 25 = .ok (.aload_n 0, 1) := by decide +kernel
theorem dX3_same_26 : decode cX3_same 26 = .ok (.getfield 18, 3) := by decide +kernel
theorem dX3_same_29 : decode cX3_same 29 = .ok (.iload_n 2, 1) := by decide +kernel
theorem dX3_same_30 : decode cX3_same 30 = .ok (.aload_n 0, 1) := by decide +kernel
theorem dX3_same_31 : decode cX3_same 31 = .ok (.getfield 12, 3) := by decide +kernel
theorem dX3_same_34 : decode cX3_same 34 = .ok (.getfield 120, 3) := by decide +kernel
theorem dX3_same_37 : decode cX3_same 37 = .ok (.iload_n 2, 1) := by decide +kernel
theorem dX3_same_38 : decode cX3_same 38 = .ok (.iaload, 1) := by decide +kernel
theorem dX3_same_39 : decode cX3_same 39 = .ok (.aload_n 0, 1) := by decide +kernel
theorem dX3_same_40 : decode cX3_same 40 = .ok (.getfield 12, 3) := by decide +kernel
theorem dX3_same_43 : decode cX3_same 43 = .ok (.getfield 62, 3) := by decide +kernel
theorem dX3_same_46 : decode cX3_same 46 = .ok (.iload_n 2, 1) := by decide +kernel
theorem dX3_same_47 : decode cX3_same 47 = .ok (.iaload, 1) := by decide +kernel
theorem dX3_same_48 : decode cX3_same 48 = .ok (.aload_n 0, 1) := by decide +kernel
theorem dX3_same_49 : decode cX3_same 49 = .ok (.getfield 12, 3) := by decide +kernel
theorem dX3_same_52 : decode cX3_same 52 = .ok (.getfield 66, 3) := by decide +kernel
theorem dX3_same_55 : decode cX3_same 55 = .ok (.iload_n 2, 1) := by decide +kernel
theorem dX3_same_56 : decode cX3_same 56 = .ok (.iaload, 1) := by decide +kernel
theorem dX3_same_57 : decode cX3_same 57 = .ok (.invokevirtual 133, 3) := by decide +kernel
theorem dX3_same_60 : decode cX3_same 60 = .ok (.ifCond .eq 9, 3) := by decide +kernel
theorem dX3_same_63 : decode cX3_same 63 = .ok (.iinc 2 1, 3) := by decide +kernel
theorem dX3_same_66 : decode cX3_same 66 = .ok (.goto (-46), 3) := by decide +kernel
theorem dX3_same_69 : decode cX3_same 69 = .ok (.iload_n 2, 1) := by decide +kernel
theorem dX3_same_70 : decode cX3_same 70 = .ok (.ireturn, 1) := by decide +kernel
theorem dX3_nodeOf_0 : decode cX3_nodeOf 0 = .ok (.iload_n 1, 1) := by decide +kernel
theorem dX3_nodeOf_1 : decode cX3_nodeOf 1 = .ok (.ifCond .ne 8, 3) := by decide +kernel
theorem dX3_nodeOf_4 : decode cX3_nodeOf 4 = .ok (.aload_n 0, 1) := by decide +kernel
theorem dX3_nodeOf_5 : decode cX3_nodeOf 5 = .ok (.getfield 12, 3) := by decide +kernel
theorem dX3_nodeOf_8 : decode cX3_nodeOf 8 = .ok (.areturn, 1) := by decide +kernel
theorem dX3_nodeOf_9 : decode cX3_nodeOf 9 = .ok (.iload_n 1, 1) := by decide +kernel
theorem dX3_nodeOf_10 : decode cX3_nodeOf 10 = .ok (.iconst 1, 1) := by decide +kernel
theorem dX3_nodeOf_11 : decode cX3_nodeOf 11 = .ok (.if_icmp .ne 10, 3) := by decide +kernel
theorem dX3_nodeOf_14 : decode cX3_nodeOf 14 = .ok (.aload_n 0, 1) := by decide +kernel
theorem dX3_nodeOf_15 : decode cX3_nodeOf 15 = .ok (.getfield 18, 3) := by decide +kernel
theorem dX3_nodeOf_18 : decode cX3_nodeOf 18 = .ok (.goto 4, 3) := by decide +kernel
theorem dX3_nodeOf_21 : decode cX3_nodeOf 21 = .ok (.aconst_null, 1) := by decide +kernel
theorem dX3_nodeOf_22 : decode cX3_nodeOf 22 = .ok (.areturn, 1) := by decide +kernel
theorem dX3_isKey_0 : decode cX3_isKey 0 = .ok (.iload_n 0, 1) := by decide +kernel
theorem dX3_isKey_1 : decode cX3_isKey 1 = .ok (.ifCond .lt 13, 3) := by decide +kernel
theorem dX3_isKey_4 : decode cX3_isKey 4 = .ok (.iload_n 0, 1) := by decide +kernel
theorem dX3_isKey_5 : decode cX3_isKey 5 = .ok (.bipush 16, 2) := by decide +kernel
theorem dX3_isKey_7 : decode cX3_isKey 7 = .ok (.if_icmp .ge 7, 3) := by decide +kernel
theorem dX3_isKey_10 : decode cX3_isKey 10 = .ok (.iconst 1, 1) := by decide +kernel
theorem dX3_isKey_11 : decode cX3_isKey 11 = .ok (.goto 4, 3) := by decide +kernel
theorem dX3_isKey_14 : decode cX3_isKey 14 = .ok (.iconst 0, 1) := by decide +kernel
theorem dX3_isKey_15 : decode cX3_isKey 15 = .ok (.ireturn, 1) := by decide +kernel
set_option maxRecDepth 20000 in
theorem ggX3_arrive_X0_send : GoodIn wsX3_arrive wsX0_send := goodIn_r _ [11, 12, 13, 14, 15, 16, 17, 18, 19, 20, 21, 22, 10, 23, 132, 133, 134, 109, 110, 111, 112, 113, 114, 115, 116, 117, 118, 119, 120, 121, 122, 123, 124, 125, 126, 127, 128] (by decide +kernel) (by decide +kernel)
set_option maxRecDepth 20000 in
theorem gX3_arrive_X0_send : GoodIn wsX3_arrive (wsV RX3 110 RX0 yX0_send wsX0_send) := goodIn_app (goodIn_of _ (by decide +kernel)) ggX3_arrive_X0_send
set_option maxRecDepth 20000 in
theorem ggX3_arrive_X2_follow : GoodIn wsX3_arrive wsX2_follow := goodIn_r _ [28, 29, 30, 31, 32, 27, 33, 34, 35, 36, 37, 38, 39, 40, 41, 42, 43, 44, 45, 118, 119, 120, 121, 122, 123, 124, 125, 126, 127, 128] (by decide +kernel) (by decide +kernel)
set_option maxRecDepth 20000 in
theorem gX3_arrive_X2_follow : GoodIn wsX3_arrive (wsV RX3 137 RX2 yX2_follow wsX2_follow) := goodIn_app (goodIn_of _ (by decide +kernel)) ggX3_arrive_X2_follow
set_option maxRecDepth 20000 in
theorem ggX3_arrive_X3_takeShip : GoodIn wsX3_arrive wsX3_takeShip := goodIn_r _ [50, 6, 51, 4, 52, 7, 8, 9, 10, 11, 12, 13, 14, 15, 16, 17, 18, 19, 20, 21, 22, 23, 53, 54, 55, 27, 56, 57, 58, 59, 60, 61, 62, 63, 64, 65, 66, 35, 36, 37, 38, 39, 40, 41, 42, 43, 44, 45, 29, 67, 68, 49, 69, 70, 71, 72, 73, 74, 75, 76, 77, 78, 79, 80, 81, 82, 83, 84, 85, 109, 110, 111, 112, 113, 114, 115, 116, 117, 118, 119, 120, 121, 122, 123, 124, 125, 126, 127, 128, 129, 130, 131, 132, 133, 134] (by decide +kernel) (by decide +kernel)
set_option maxRecDepth 20000 in
theorem gX3_arrive_X3_takeShip : GoodIn wsX3_arrive (wsV RX3 140 RX3 yX3_takeShip wsX3_takeShip) := goodIn_app (goodIn_of _ (by decide +kernel)) ggX3_arrive_X3_takeShip
set_option maxRecDepth 20000 in
theorem ggX3_arrive_X3_takeAck : GoodIn wsX3_arrive wsX3_takeAck := goodIn_r _ [89, 90, 91, 92, 93, 94, 95, 96, 97, 49, 98, 4, 99, 70, 100, 71, 101, 72, 52, 51, 73, 74, 59, 60, 27, 61, 62, 7, 8, 9, 10, 11, 12, 13, 14, 15, 16, 17, 18, 19, 20, 21, 22, 23, 118, 119, 120, 121, 122, 123, 124, 125, 126, 127, 128, 129, 130, 131, 109, 110, 111, 112, 113, 114, 115, 116, 117, 132, 133, 134] (by decide +kernel) (by decide +kernel)
set_option maxRecDepth 20000 in
theorem gX3_arrive_X3_takeAck : GoodIn wsX3_arrive (wsV RX3 144 RX3 yX3_takeAck wsX3_takeAck) := goodIn_app (goodIn_of _ (by decide +kernel)) ggX3_arrive_X3_takeAck
set_option maxRecDepth 20000 in
theorem ggX3_arrive_X3_takeWant : GoodIn wsX3_arrive wsX3_takeWant := goodIn_r _ [105, 51, 106, 107, 93, 108, 95, 96, 97, 49, 98, 4, 99, 70, 100, 71, 101, 72, 52, 73, 74, 59, 60, 27, 61, 62, 7, 8, 9, 10, 11, 12, 13, 14, 15, 16, 17, 18, 19, 20, 21, 22, 23, 118, 119, 120, 121, 122, 123, 124, 125, 126, 127, 128, 129, 130, 131, 109, 110, 111, 112, 113, 114, 115, 116, 117, 132, 133, 134] (by decide +kernel) (by decide +kernel)
set_option maxRecDepth 20000 in
theorem gX3_arrive_X3_takeWant : GoodIn wsX3_arrive (wsV RX3 148 RX3 yX3_takeWant wsX3_takeWant) := goodIn_app (goodIn_of _ (by decide +kernel)) ggX3_arrive_X3_takeWant
theorem dX3_arrive_0 : decode cX3_arrive 0 = .ok (.aload_n 1, 1) := by decide +kernel
theorem dX3_arrive_1 : decode cX3_arrive 1 = .ok (.getfield 126, 3) := by decide +kernel
theorem dX3_arrive_4 : decode cX3_arrive 4 = .ok (.aload_n 2, 1) := by decide +kernel
theorem dX3_arrive_5 : decode cX3_arrive 5 = .ok (.getfield 51, 3) := by decide +kernel
theorem dX3_arrive_8 : decode cX3_arrive 8 = .ok (.if_icmp .ge 24, 3) := by decide +kernel
theorem dX3_arrive_11 : decode cX3_arrive 11 = .ok (.aload_n 1, 1) := by decide +kernel
theorem dX3_arrive_12 : decode cX3_arrive 12 = .ok (.getfield 78, 3) := by decide +kernel
theorem dX3_arrive_15 : decode cX3_arrive 15 = .ok (.iconst 1, 1) := by decide +kernel
theorem dX3_arrive_16 : decode cX3_arrive 16 = .ok (.if_icmp .ne 14, 3) := by decide +kernel
theorem dX3_arrive_19 : decode cX3_arrive 19 = .ok (.aload_n 0, 1) := by decide +kernel
theorem dX3_arrive_20 : decode cX3_arrive 20 = .ok (.getfield 24, 3) := by decide +kernel
theorem dX3_arrive_23 : decode cX3_arrive 23 = .ok (.iconst 3, 1) := by decide +kernel
theorem dX3_arrive_24 : decode cX3_arrive 24 = .ok (.aload_n 2, 1) := by decide +kernel
theorem dX3_arrive_25 : decode cX3_arrive 25 = .ok (.iconst (-1), 1) := by decide +kernel
theorem dX3_arrive_26 : decode cX3_arrive 26 = .ok (.invokevirtual 110, 3) := by decide +kernel
theorem dX3_arrive_29 : decode cX3_arrive 29 = .ok (.pop, 1) := by decide +kernel
theorem dX3_arrive_30 : decode cX3_arrive 30 = .ok (.iconst 0, 1) := by decide +kernel
theorem dX3_arrive_31 : decode cX3_arrive 31 = .ok (.ireturn, 1) := by decide +kernel
theorem dX3_arrive_32 : decode cX3_arrive 32 = .ok (.aload_n 1, 1) := by decide +kernel
theorem dX3_arrive_33 : decode cX3_arrive 33 = .ok (.getfield 126, 3) := by decide +kernel
theorem dX3_arrive_36 : decode cX3_arrive 36 = .ok (.aload_n 2, 1) := by decide +kernel
theorem dX3_arrive_37 : decode cX3_arrive 37 = .ok (.getfield 51, 3) := by decide +kernel
theorem dX3_arrive_40 : decode cX3_arrive 40 = .ok (.if_icmp .le 16, 3) := by decide +kernel
theorem dX3_arrive_43 : decode cX3_arrive 43 = .ok (.aload_n 2, 1) := by decide +kernel
theorem dX3_arrive_44 : decode cX3_arrive 44 = .ok (.aload_n 1, 1) := by decide +kernel
theorem dX3_arrive_45 : decode cX3_arrive 45 = .ok (.getfield 126, 3) := by decide +kernel
theorem dX3_arrive_48 : decode cX3_arrive 48 = .ok (.invokevirtual 137, 3) := by decide +kernel
theorem dX3_arrive_51 : decode cX3_arrive 51 = .ok (.ifCond .ne 5, 3) := by decide +kernel
theorem dX3_arrive_54 : decode cX3_arrive 54 = .ok (.iconst 1, 1) := by decide +kernel
theorem dX3_arrive_55 : decode cX3_arrive 55 = .ok (.ireturn, 1) := by decide +kernel
theorem dX3_arrive_56 : decode cX3_arrive 56 = .ok (.aload_n 1, 1) := by decide +kernel
theorem dX3_arrive_57 : decode cX3_arrive 57 = .ok (.getfield 78, 3) := by decide +kernel
theorem dX3_arrive_60 : decode cX3_arrive 60 = .ok (.iconst 1, 1) := by decide +kernel
theorem dX3_arrive_61 : decode cX3_arrive 61 = .ok (.if_icmp .eq 7, 3) := by decide +kernel
theorem dX3_arrive_64 : decode cX3_arrive 64 = .ok (.iconst 1, 1) := by decide +kernel
theorem dX3_arrive_65 : decode cX3_arrive 65 = .ok (.goto 4, 3) := by decide +kernel
theorem dX3_arrive_68 : decode cX3_arrive 68 = .ok (.iconst 0, 1) := by decide +kernel
theorem dX3_arrive_69 : decode cX3_arrive 69 = .ok (.istore_n 3, 1) := by decide +kernel
theorem dX3_arrive_70 : decode cX3_arrive 70 = .ok (.iload_n 3, 1) := by decide +kernel
theorem dX3_arrive_71 : decode cX3_arrive 71 = .ok (.aload_n 2, 1) := by decide +kernel
theorem dX3_arrive_72 : decode cX3_arrive 72 = .ok (.getfield 40, 3) := by decide +kernel
theorem dX3_arrive_75 : decode cX3_arrive 75 = .ok (.if_icmp .eq 5, 3) := by decide +kernel
theorem dX3_arrive_78 : decode cX3_arrive 78 = .ok (.iconst 0, 1) := by decide +kernel
theorem dX3_arrive_79 : decode cX3_arrive 79 = .ok (.ireturn, 1) := by decide +kernel
theorem dX3_arrive_80 : decode cX3_arrive 80 = .ok (.aload_n 1, 1) := by decide +kernel
theorem dX3_arrive_81 : decode cX3_arrive 81 = .ok (.getfield 78, 3) := by decide +kernel
theorem dX3_arrive_84 : decode cX3_arrive 84 = .ok (.lookupswitch 49 #[(1, 28), (2, 37)], 28) := by decide +kernel
theorem dX3_arrive_112 : decode cX3_arrive 112 = .ok (.aload_n 0, 1) := by decide +kernel
theorem dX3_arrive_113 : decode cX3_arrive 113 = .ok (.aload_n 1, 1) := by decide +kernel
theorem dX3_arrive_114 : decode cX3_arrive 114 = .ok (.aload_n 2, 1) := by decide +kernel
theorem dX3_arrive_115 : decode cX3_arrive 115 = .ok (.invokevirtual 140, 3) := by decide +kernel
theorem dX3_arrive_118 : decode cX3_arrive 118 = .ok (.goto 24, 3) := by decide +kernel
theorem dX3_arrive_121 : decode cX3_arrive 121 = .ok (.aload_n 0, 1) := by decide +kernel
theorem dX3_arrive_122 : decode cX3_arrive 122 = .ok (.aload_n 1, 1) := by decide +kernel
theorem dX3_arrive_123 : decode cX3_arrive 123 = .ok (.getfield 127, 3) := by decide +kernel
theorem dX3_arrive_126 : decode cX3_arrive 126 = .ok (.aload_n 2, 1) := by decide +kernel
theorem dX3_arrive_127 : decode cX3_arrive 127 = .ok (.invokevirtual 144, 3) := by decide +kernel
theorem dX3_arrive_130 : decode cX3_arrive 130 = .ok (.goto 12, 3) := by decide +kernel
theorem dX3_arrive_133 : decode cX3_arrive 133 = .ok (.aload_n 0, 1) := by decide +kernel
theorem dX3_arrive_134 : decode cX3_arrive 134 = .ok (.aload_n 1, 1) := by decide +kernel
theorem dX3_arrive_135 : decode cX3_arrive 135 = .ok (.getfield 127, 3) := by decide +kernel
theorem dX3_arrive_138 : decode cX3_arrive 138 = .ok (.aload_n 2, 1) := by decide +kernel
theorem dX3_arrive_139 : decode cX3_arrive 139 = .ok (.invokevirtual 148, 3) := by decide +kernel
theorem dX3_arrive_142 : decode cX3_arrive 142 = .ok (.iconst 1, 1) := by decide +kernel
theorem dX3_arrive_143 : decode cX3_arrive 143 = .ok (.ireturn, 1) := by decide +kernel
set_option maxRecDepth 20000 in
theorem ggX3_takeShip_X0_send : GoodIn wsX3_takeShip wsX0_send := goodIn_r _ [9, 10, 11, 12, 13, 14, 15, 16, 17, 18, 19, 20, 8, 21, 92, 93, 94, 69, 70, 71, 72, 73, 74, 75, 76, 77, 78, 79, 80, 81, 82, 83, 84, 85, 86, 87, 88] (by decide +kernel) (by decide +kernel)
set_option maxRecDepth 20000 in
theorem gX3_takeShip_X0_send : GoodIn wsX3_takeShip (wsV RX3 110 RX0 yX0_send wsX0_send) := goodIn_app (goodIn_of _ (by decide +kernel)) ggX3_takeShip_X0_send
set_option maxRecDepth 20000 in
theorem ggX3_takeShip_X2_hasEntryOfTerm : GoodIn wsX3_takeShip wsX2_hasEntryOfTerm := goodIn_r _ [26, 27, 28, 29, 30, 25, 31, 32, 78, 79, 80, 81, 82, 83, 84, 85, 86, 87, 88] (by decide +kernel) (by decide +kernel)
set_option maxRecDepth 20000 in
theorem gX3_takeShip_X2_hasEntryOfTerm : GoodIn wsX3_takeShip (wsV RX3 154 RX2 yX2_hasEntryOfTerm wsX2_hasEntryOfTerm) := goodIn_app (goodIn_of _ (by decide +kernel)) ggX3_takeShip_X2_hasEntryOfTerm
set_option maxRecDepth 20000 in
theorem ggX3_takeShip_X2_cutTo : GoodIn wsX3_takeShip wsX2_cutTo := goodIn_r _ [36, 32, 37, 38, 39, 25, 40, 41, 42, 43, 44, 45, 46, 47, 48, 78, 79, 80, 81, 82, 83, 84, 85, 86, 87, 88] (by decide +kernel) (by decide +kernel)
set_option maxRecDepth 20000 in
theorem gX3_takeShip_X2_cutTo : GoodIn wsX3_takeShip (wsV RX3 158 RX2 yX2_cutTo wsX2_cutTo) := goodIn_app (goodIn_of _ (by decide +kernel)) ggX3_takeShip_X2_cutTo
set_option maxRecDepth 20000 in
theorem ggX3_takeShip_X3_fitLog : GoodIn wsX3_takeShip wsX3_fitLog := goodIn_r _ [52, 1, 53, 54, 55, 2, 56, 57, 29, 30, 25, 31, 32, 58, 59, 60, 61, 62, 63, 64, 23, 24, 26, 27, 28, 33, 34, 35, 36, 37, 38, 39, 40, 41, 42, 43, 44, 45, 46, 47, 48, 65, 66, 67, 68, 69, 70, 71, 72, 73, 74, 75, 76, 77, 78, 79, 80, 81, 82, 83, 84, 85, 86, 87, 88] (by decide +kernel) (by decide +kernel)
set_option maxRecDepth 20000 in
theorem gX3_takeShip_X3_fitLog : GoodIn wsX3_takeShip (va_wsS RX3 161 yX3_fitLog wsX3_fitLog) := goodIn_app (goodIn_of _ (by decide +kernel)) ggX3_takeShip_X3_fitLog
theorem dX3_takeShip_0 : decode cX3_takeShip 0 = .ok (.aload_n 1, 1) := by decide +kernel
theorem dX3_takeShip_1 : decode cX3_takeShip 1 = .ok (.getfield 127, 3) := by decide +kernel
theorem dX3_takeShip_4 : decode cX3_takeShip 4 = .ok (.istore_n 3, 1) := by decide +kernel
theorem dX3_takeShip_5 : decode cX3_takeShip 5 = .ok (.aload_n 2, 1) := by decide +kernel
theorem dX3_takeShip_6 : decode cX3_takeShip 6 = .ok (.getfield 43, 3) := by decide +kernel
theorem dX3_takeShip_9 : decode cX3_takeShip 9 = .ok (.iload_n 3, 1) := by decide +kernel
theorem dX3_takeShip_10 : decode cX3_takeShip 10 = .ok (.if_icmp .ge 20, 3) := by decide +kernel
theorem dX3_takeShip_13 : decode cX3_takeShip 13 = .ok (.aload_n 0, 1) := by decide +kernel
theorem dX3_takeShip_14 : decode cX3_takeShip 14 = .ok (.getfield 24, 3) := by decide +kernel
theorem dX3_takeShip_17 : decode cX3_takeShip 17 = .ok (.iconst 3, 1) := by decide +kernel
theorem dX3_takeShip_18 : decode cX3_takeShip 18 = .ok (.aload_n 2, 1) := by decide +kernel
theorem dX3_takeShip_19 : decode cX3_takeShip 19 = .ok (.aload_n 2, 1) := by decide +kernel
theorem dX3_takeShip_20 : decode cX3_takeShip 20 = .ok (.getfield 43, 3) := by decide +kernel
theorem dX3_takeShip_23 : decode cX3_takeShip 23 = .ok (.invokevirtual 110, 3) := by decide +kernel
theorem dX3_takeShip_26 : decode cX3_takeShip 26 = .ok (.pop, 1) := by decide +kernel
theorem dX3_takeShip_27 : decode cX3_takeShip 27 = .ok (.goto 66, 3) := by decide +kernel
theorem dX3_takeShip_30 : decode cX3_takeShip 30 = .ok (.iload_n 3, 1) := by decide +kernel
theorem dX3_takeShip_31 : decode cX3_takeShip 31 = .ok (.ifCond .le 43, 3) := by decide +kernel
theorem dX3_takeShip_34 : decode cX3_takeShip 34 = .ok (.aload_n 2, 1) := by decide +kernel
theorem dX3_takeShip_35 : decode cX3_takeShip 35 = .ok (.iload_n 3, 1) := by decide +kernel
theorem dX3_takeShip_36 : decode cX3_takeShip 36 = .ok (.iconst 1, 1) := by decide +kernel
theorem dX3_takeShip_37 : decode cX3_takeShip 37 = .ok (.isub, 1) := by decide +kernel
theorem dX3_takeShip_38 : decode cX3_takeShip 38 = .ok (.aload_n 1, 1) := by decide +kernel
theorem dX3_takeShip_39 : decode cX3_takeShip 39 = .ok (.getfield 151, 3) := by decide +kernel
theorem dX3_takeShip_42 : decode cX3_takeShip 42 = .ok (.invokevirtual 154, 3) := by decide +kernel
theorem dX3_takeShip_45 : decode cX3_takeShip 45 = .ok (.ifCond .ne 29, 3) := by decide +kernel
theorem dX3_takeShip_48 : decode cX3_takeShip 48 = .ok (.aload_n 2, 1) := by decide +kernel
theorem dX3_takeShip_49 : decode cX3_takeShip 49 = .ok (.iload_n 3, 1) := by decide +kernel
theorem dX3_takeShip_50 : decode cX3_takeShip 50 = .ok (.iconst 1, 1) := by decide +kernel
theorem dX3_takeShip_51 : decode cX3_takeShip 51 = .ok (.isub, 1) := by decide +kernel
theorem dX3_takeShip_52 : decode cX3_takeShip 52 = .ok (.invokevirtual 158, 3) := by decide +kernel
theorem dX3_takeShip_55 : decode cX3_takeShip 55 = .ok (.ifCond .eq 38, 3) := by decide +kernel
theorem dX3_takeShip_58 : decode cX3_takeShip 58 = .ok (.aload_n 0, 1) := by decide +kernel
theorem dX3_takeShip_59 : decode cX3_takeShip 59 = .ok (.getfield 24, 3) := by decide +kernel
theorem dX3_takeShip_62 : decode cX3_takeShip 62 = .ok (.iconst 3, 1) := by decide +kernel
theorem dX3_takeShip_63 : decode cX3_takeShip 63 = .ok (.aload_n 2, 1) := by decide +kernel
theorem dX3_takeShip_64 : decode cX3_takeShip 64 = .ok (.iload_n 3, 1) := by decide +kernel
theorem dX3_takeShip_65 : decode cX3_takeShip 65 = .ok (.iconst 1, 1) := by decide +kernel
theorem dX3_takeShip_66 : decode cX3_takeShip 66 = .ok (.isub, 1) := by decide +kernel
theorem dX3_takeShip_67 : decode cX3_takeShip 67 = .ok (.invokevirtual 110, 3) := by decide +kernel
theorem dX3_takeShip_70 : decode cX3_takeShip 70 = .ok (.pop, 1) := by decide +kernel
theorem dX3_takeShip_71 : decode cX3_takeShip 71 = .ok (.goto 22, 3) := by decide +kernel
theorem dX3_takeShip_74 : decode cX3_takeShip 74 = .ok (.aload_n 1, 1) := by decide +kernel
theorem dX3_takeShip_75 : decode cX3_takeShip 75 = .ok (.aload_n 2, 1) := by decide +kernel
theorem dX3_takeShip_76 : decode cX3_takeShip 76 = .ok (.invokestatic 161, 3) := by decide +kernel
theorem dX3_takeShip_79 : decode cX3_takeShip 79 = .ok (.ifCond .eq 14, 3) := by decide +kernel
theorem dX3_takeShip_82 : decode cX3_takeShip 82 = .ok (.aload_n 0, 1) := by decide +kernel
theorem dX3_takeShip_83 : decode cX3_takeShip 83 = .ok (.getfield 24, 3) := by decide +kernel
theorem dX3_takeShip_86 : decode cX3_takeShip 86 = .ok (.iconst 2, 1) := by decide +kernel
theorem dX3_takeShip_87 : decode cX3_takeShip 87 = .ok (.aload_n 2, 1) := by decide +kernel
theorem dX3_takeShip_88 : decode cX3_takeShip 88 = .ok (.iload_n 3, 1) := by decide +kernel
theorem dX3_takeShip_89 : decode cX3_takeShip 89 = .ok (.invokevirtual 110, 3) := by decide +kernel
theorem dX3_takeShip_92 : decode cX3_takeShip 92 = .ok (.pop, 1) := by decide +kernel
theorem dX3_takeShip_93 : decode cX3_takeShip 93 = .ok (.return_, 1) := by decide +kernel
set_option maxRecDepth 20000 in
theorem ggX3_fitLog_X2_hasEntry : GoodIn wsX3_fitLog wsX2_hasEntry := goodIn_r _ [11, 12, 54, 55, 56, 57, 58, 59, 60, 61, 62, 63, 64] (by decide +kernel) (by decide +kernel)
set_option maxRecDepth 20000 in
theorem gX3_fitLog_X2_hasEntry : GoodIn wsX3_fitLog (wsV RX3 117 RX2 yX2_hasEntry wsX2_hasEntry) := goodIn_app (goodIn_of _ (by decide +kernel)) ggX3_fitLog_X2_hasEntry
set_option maxRecDepth 20000 in
theorem ggX3_fitLog_X2_isEntry : GoodIn wsX3_fitLog wsX2_isEntry := goodIn_r _ [16, 17, 18, 19, 20, 21, 10, 22, 23, 24, 8, 9, 11, 12, 54, 55, 56, 57, 58, 59, 60, 61, 62, 63, 64] (by decide +kernel) (by decide +kernel)
set_option maxRecDepth 20000 in
theorem gX3_fitLog_X2_isEntry : GoodIn wsX3_fitLog (wsV RX3 133 RX2 yX2_isEntry wsX2_isEntry) := goodIn_app (goodIn_of _ (by decide +kernel)) ggX3_fitLog_X2_isEntry
set_option maxRecDepth 20000 in
theorem ggX3_fitLog_X2_cutTo : GoodIn wsX3_fitLog wsX2_cutTo := goodIn_r _ [28, 12, 29, 30, 31, 10, 32, 33, 34, 35, 36, 37, 38, 39, 40, 54, 55, 56, 57, 58, 59, 60, 61, 62, 63, 64] (by decide +kernel) (by decide +kernel)
set_option maxRecDepth 20000 in
theorem gX3_fitLog_X2_cutTo : GoodIn wsX3_fitLog (wsV RX3 158 RX2 yX2_cutTo wsX2_cutTo) := goodIn_app (goodIn_of _ (by decide +kernel)) ggX3_fitLog_X2_cutTo
set_option maxRecDepth 20000 in
theorem ggX3_fitLog_X2_append : GoodIn wsX3_fitLog wsX2_append := goodIn_r _ [44, 12, 23, 17, 18, 29, 30, 31, 10, 32, 33, 34, 35, 36, 37, 38, 39, 40, 54, 55, 56, 57, 58, 59, 60, 61, 62, 63, 64] (by decide +kernel) (by decide +kernel)
set_option maxRecDepth 20000 in
theorem gX3_fitLog_X2_append : GoodIn wsX3_fitLog (wsV RX3 54 RX2 yX2_append wsX2_append) := goodIn_app (goodIn_of _ (by decide +kernel)) ggX3_fitLog_X2_append
theorem dX3_fitLog_0 : decode cX3_fitLog 0 = .ok (.aload_n 0, 1) := by decide +kernel
theorem dX3_fitLog_1 : decode cX3_fitLog 1 = .ok (.getfield 127, 3) := by decide +kernel
theorem dX3_fitLog_4 : decode cX3_fitLog 4 = .ok (.istore_n 2, 1) := by decide +kernel
theorem dX3_fitLog_5 : decode cX3_fitLog 5 = .ok (.aload_n 1, 1) := by decide +kernel
theorem dX3_fitLog_6 : decode cX3_fitLog 6 = .ok (.iload_n 2, 1) := by decide +kernel
theorem dX3_fitLog_7 : decode cX3_fitLog 7 = .ok (.invokevirtual 117, 3) := by decide +kernel
theorem dX3_fitLog_10 : decode cX3_fitLog 10 = .ok (.ifCond .eq 27, 3) := by decide +kernel
theorem dX3_fitLog_13 : decode cX3_fitLog 13 = .ok (.aload_n 1, 1) := by decide +kernel
theorem dX3_fitLog_14 : decode cX3_fitLog 14 = .ok (.iload_n 2, 1) := by decide +kernel
theorem dX3_fitLog_15 : decode cX3_fitLog 15 = .ok (.aload_n 0, 1) := by decide +kernel
theorem dX3_fitLog_16 : decode cX3_fitLog 16 = .ok (.getfield 164, 3) := by decide +kernel
theorem dX3_fitLog_19 : decode cX3_fitLog 19 = .ok (.aload_n 0, 1) := by decide +kernel
theorem dX3_fitLog_20 : decode cX3_fitLog 20 = .ok (.getfield 167, 3) := by decide +kernel
theorem dX3_fitLog_23 : decode cX3_fitLog 23 = .ok (.aload_n 0, 1) := by decide +kernel
theorem dX3_fitLog_24 : decode cX3_fitLog 24 = .ok (.getfield 170, 3) := by decide +kernel
theorem dX3_fitLog_27 : decode cX3_fitLog 27 = .ok (.invokevirtual 133, 3) := by decide +kernel
theorem dX3_fitLog_30 : decode cX3_fitLog 30 = .ok (.ifCond .ne 7, 3) := by decide +kernel
theorem dX3_fitLog_33 : decode cX3_fitLog 33 = .ok (.iconst 1, 1) := by decide +kernel
theorem dX3_fitLog_34 : decode cX3_fitLog 34 = .ok (.goto 4, 3) := by decide +kernel
theorem dX3_fitLog_37 : decode cX3_fitLog 37 = .ok (.iconst 0, 1) := by decide +kernel
theorem dX3_fitLog_38 : decode cX3_fitLog 38 = .ok (.istore_n 3, 1) := by decide +kernel
theorem dX3_fitLog_39 : decode cX3_fitLog 39 = .ok (.iload_n 3, 1) := by decide +kernel
theorem dX3_fitLog_40 : decode cX3_fitLog 40 = .ok (.ifCond .eq 13, 3) := by decide +kernel
theorem dX3_fitLog_43 : decode cX3_fitLog 43 = .ok (.aload_n 1, 1) := by decide +kernel
theorem dX3_fitLog_44 : decode cX3_fitLog 44 = .ok (.iload_n 2, 1) := by decide +kernel
theorem dX3_fitLog_45 : decode cX3_fitLog 45 = .ok (.invokevirtual 158, 3) := by decide +kernel
theorem dX3_fitLog_48 : decode cX3_fitLog 48 = .ok (.ifCond .ne 5, 3) := by decide +kernel
theorem dX3_fitLog_51 : decode cX3_fitLog 51 = .ok (.iconst 0, 1) := by decide +kernel
theorem dX3_fitLog_52 : decode cX3_fitLog 52 = .ok (.ireturn, 1) := by decide +kernel
theorem dX3_fitLog_53 : decode cX3_fitLog 53 = .ok (.aload_n 1, 1) := by decide +kernel
theorem dX3_fitLog_54 : decode cX3_fitLog 54 = .ok (.getfield 43, 3) := by decide +kernel
theorem dX3_fitLog_57 : decode cX3_fitLog 57 = .ok (.iload_n 2, 1) := by decide +kernel
theorem dX3_fitLog_58 : decode cX3_fitLog 58 = .ok (.if_icmp .ne 24, 3) := by decide +kernel
theorem dX3_fitLog_61 : decode cX3_fitLog 61 = .ok (.aload_n 1, 1) := by decide +kernel
theorem dX3_fitLog_62 : decode cX3_fitLog 62 = .ok (.aload_n 0, 1) := by decide +kernel
theorem dX3_fitLog_63 : decode cX3_fitLog 63 = .ok (.getfield 164, 3) := by decide +kernel
theorem dX3_fitLog_66 : decode cX3_fitLog 66 = .ok (.aload_n 0, 1) := by decide +kernel
theorem dX3_fitLog_67 : decode cX3_fitLog 67 = .ok (.getfield 167, 3) := by decide +kernel
theorem dX3_fitLog_70 : decode cX3_fitLog 70 = .ok (.aload_n 0, 1) := by decide +kernel
theorem dX3_fitLog_71 : decode cX3_fitLog 71 = .ok (.getfield 170, 3) := by decide +kernel
theorem dX3_fitLog_74 : decode cX3_fitLog 74 = .ok (.invokevirtual 54, 3) := by decide +kernel
theorem dX3_fitLog_77 : decode cX3_fitLog 77 = .ok (.ifCond .ne 5, 3) := by decide +kernel
theorem dX3_fitLog_80 : decode cX3_fitLog 80 = .ok (.iconst 0, 1) := by decide +kernel
theorem dX3_fitLog_81 : decode cX3_fitLog 81 = .ok (.ireturn, 1) := by decide +kernel
theorem dX3_fitLog_82 : decode cX3_fitLog 82 = .ok (.aload_n 1, 1) := by decide +kernel
theorem dX3_fitLog_83 : decode cX3_fitLog 83 = .ok (.getfield 43, 3) := by decide +kernel
theorem dX3_fitLog_86 : decode cX3_fitLog 86 = .ok (.aload_n 0, 1) := by decide +kernel
theorem dX3_fitLog_87 : decode cX3_fitLog 87 = .ok (.getfield 173, 3) := by decide +kernel
theorem dX3_fitLog_90 : decode cX3_fitLog 90 = .ok (.if_icmp .le 14, 3) := by decide +kernel
theorem dX3_fitLog_93 : decode cX3_fitLog 93 = .ok (.aload_n 1, 1) := by decide +kernel
theorem dX3_fitLog_94 : decode cX3_fitLog 94 = .ok (.aload_n 0, 1) := by decide +kernel
theorem dX3_fitLog_95 : decode cX3_fitLog 95 = .ok (.getfield 173, 3) := by decide +kernel
theorem dX3_fitLog_98 : decode cX3_fitLog 98 = .ok (.invokevirtual 158, 3) := by decide +kernel
theorem dX3_fitLog_101 : decode cX3_fitLog 101 = .ok (.ifCond .eq 7, 3) := by decide +kernel
theorem dX3_fitLog_104 : decode cX3_fitLog 104 = .ok (.iconst 1, 1) := by decide +kernel
theorem dX3_fitLog_105 : decode cX3_fitLog 105 = .ok (.goto 4, 3) := by decide +kernel
theorem dX3_fitLog_108 : decode cX3_fitLog 108 = .ok (.iconst 0, 1) := by decide +kernel
theorem dX3_fitLog_109 : decode cX3_fitLog 109 = .ok (.ireturn, 1) := by decide +kernel
set_option maxRecDepth 20000 in
theorem ggX3_takeAck_X3_ship : GoodIn wsX3_takeAck wsX3_ship := goodIn_r _ [10, 11, 12, 13, 14, 15, 16, 17, 18, 19, 20, 21, 22, 23, 24, 25, 26, 27, 28, 29, 30, 31, 32, 33, 34, 35, 36, 37, 38, 39, 40, 41, 42, 43, 55, 56, 57, 44, 45, 46, 47, 48, 49, 50, 51, 52, 53, 54, 58, 59, 60, 61, 62, 63, 64, 65, 66, 67, 68, 69] (by decide +kernel) (by decide +kernel)
set_option maxRecDepth 20000 in
theorem gX3_takeAck_X3_ship : GoodIn wsX3_takeAck (wsV RX3 58 RX3 yX3_ship wsX3_ship) := goodIn_app (goodIn_of _ (by decide +kernel)) ggX3_takeAck_X3_ship
theorem dX3_takeAck_0 : decode cX3_takeAck 0 = .ok (.aload_n 2, 1) := by decide +kernel
theorem dX3_takeAck_1 : decode cX3_takeAck 1 = .ok (.aload_n 2, 1) := by decide +kernel
theorem dX3_takeAck_2 : decode cX3_takeAck 2 = .ok (.getfield 107, 3) := by decide +kernel
theorem dX3_takeAck_5 : decode cX3_takeAck 5 = .ok (.iload_n 1, 1) := by decide +kernel
theorem dX3_takeAck_6 : decode cX3_takeAck 6 = .ok (.invokestatic 85, 3) := by decide +kernel
theorem dX3_takeAck_9 : decode cX3_takeAck 9 = .ok (.putfield 107, 3) := by decide +kernel
theorem dX3_takeAck_12 : decode cX3_takeAck 12 = .ok (.aload_n 0, 1) := by decide +kernel
theorem dX3_takeAck_13 : decode cX3_takeAck 13 = .ok (.aload_n 2, 1) := by decide +kernel
theorem dX3_takeAck_14 : decode cX3_takeAck 14 = .ok (.iload_n 1, 1) := by decide +kernel
theorem dX3_takeAck_15 : decode cX3_takeAck 15 = .ok (.iconst 1, 1) := by decide +kernel
theorem dX3_takeAck_16 : decode cX3_takeAck 16 = .ok (.iadd, 1) := by decide +kernel
theorem dX3_takeAck_17 : decode cX3_takeAck 17 = .ok (.invokevirtual 58, 3) := by decide +kernel
theorem dX3_takeAck_20 : decode cX3_takeAck 20 = .ok (.return_, 1) := by decide +kernel
set_option maxRecDepth 20000 in
theorem ggX3_takeWant_X3_ship : GoodIn wsX3_takeWant wsX3_ship := goodIn_r _ [10, 11, 12, 13, 14, 15, 16, 17, 18, 1, 19, 20, 21, 22, 23, 24, 25, 26, 27, 28, 29, 30, 31, 32, 33, 34, 35, 36, 37, 38, 39, 40, 41, 42, 54, 55, 56, 43, 44, 45, 46, 47, 48, 49, 50, 51, 52, 53, 57, 58, 59, 60, 61, 62, 63, 64, 65, 66, 67, 68] (by decide +kernel) (by decide +kernel)
set_option maxRecDepth 20000 in
theorem gX3_takeWant_X3_ship : GoodIn wsX3_takeWant (wsV RX3 58 RX3 yX3_ship wsX3_ship) := goodIn_app (goodIn_of _ (by decide +kernel)) ggX3_takeWant_X3_ship
theorem dX3_takeWant_0 : decode cX3_takeWant 0 = .ok (.iload_n 1, 1) := by decide +kernel
theorem dX3_takeWant_1 : decode cX3_takeWant 1 = .ok (.ifCond .lt 18, 3) := by decide +kernel
theorem dX3_takeWant_4 : decode cX3_takeWant 4 = .ok (.aload_n 0, 1) := by decide +kernel
theorem dX3_takeWant_5 : decode cX3_takeWant 5 = .ok (.aload_n 2, 1) := by decide +kernel
theorem dX3_takeWant_6 : decode cX3_takeWant 6 = .ok (.iload_n 1, 1) := by decide +kernel
theorem dX3_takeWant_7 : decode cX3_takeWant 7 = .ok (.aload_n 2, 1) := by decide +kernel
theorem dX3_takeWant_8 : decode cX3_takeWant 8 = .ok (.getfield 43, 3) := by decide +kernel
theorem dX3_takeWant_11 : decode cX3_takeWant 11 = .ok (.iconst 1, 1) := by decide +kernel
theorem dX3_takeWant_12 : decode cX3_takeWant 12 = .ok (.isub, 1) := by decide +kernel
theorem dX3_takeWant_13 : decode cX3_takeWant 13 = .ok (.invokestatic 130, 3) := by decide +kernel
theorem dX3_takeWant_16 : decode cX3_takeWant 16 = .ok (.invokevirtual 58, 3) := by decide +kernel
theorem dX3_takeWant_19 : decode cX3_takeWant 19 = .ok (.return_, 1) := by decide +kernel
set_option maxRecDepth 20000 in
theorem ggX3_ship_X2_hasEntry : GoodIn wsX3_ship wsX2_hasEntry := goodIn_r _ [15, 16, 37, 38, 39, 40, 41, 42, 43, 44, 45, 46, 47] (by decide +kernel) (by decide +kernel)
set_option maxRecDepth 20000 in
theorem gX3_ship_X2_hasEntry : GoodIn wsX3_ship (wsV RX3 117 RX2 yX2_hasEntry wsX2_hasEntry) := goodIn_app (goodIn_of _ (by decide +kernel)) ggX3_ship_X2_hasEntry
set_option maxRecDepth 20000 in
theorem ggX3_ship_X0_send : GoodIn wsX3_ship wsX0_send := goodIn_r _ [21, 22, 23, 24, 25, 26, 27, 28, 29, 30, 31, 32, 20, 33, 57, 58, 59, 48, 49, 50, 51, 52, 53, 54, 55, 56, 37, 38, 39, 40, 41, 42, 43, 44, 45, 46, 47] (by decide +kernel) (by decide +kernel)
set_option maxRecDepth 20000 in
theorem gX3_ship_X0_send : GoodIn wsX3_ship (wsV RX3 110 RX0 yX0_send wsX0_send) := goodIn_app (goodIn_of _ (by decide +kernel)) ggX3_ship_X0_send
theorem dX3_ship_0 : decode cX3_ship 0 = .ok (.aload_n 1, 1) := by decide +kernel
theorem dX3_ship_1 : decode cX3_ship 1 = .ok (.iload_n 2, 1) := by decide +kernel
theorem dX3_ship_2 : decode cX3_ship 2 = .ok (.invokevirtual 117, 3) := by decide +kernel
theorem dX3_ship_5 : decode cX3_ship 5 = .ok (.ifCond .ne 4, 3) := by decide +kernel
theorem dX3_ship_8 : decode cX3_ship 8 = .ok (.return_, 1) := by decide +kernel
theorem dX3_ship_9 : decode cX3_ship 9 = .ok (.aload_n 0, 1) := by decide +kernel
theorem dX3_ship_10 : decode cX3_ship 10 = .ok (.getfield 24, 3) := by decide +kernel
theorem dX3_ship_13 : decode cX3_ship 13 = .ok (.iconst 1, 1) := by decide +kernel
theorem dX3_ship_14 : decode cX3_ship 14 = .ok (.aload_n 1, 1) := by decide +kernel
theorem dX3_ship_15 : decode cX3_ship 15 = .ok (.iload_n 2, 1) := by decide +kernel
theorem dX3_ship_16 : decode cX3_ship 16 = .ok (.invokevirtual 110, 3) := by decide +kernel
theorem dX3_ship_19 : decode cX3_ship 19 = .ok (.astore_n 3, 1) := by decide +kernel
theorem dX3_ship_20 : decode cX3_ship 20 = .ok (.aload_n 3, 1) := by decide +kernel
theorem dX3_ship_21 : decode cX3_ship 21 = .ok (.ifnonnull 4, 3) := by decide +kernel
theorem dX3_ship_24 : decode cX3_ship 24 = .ok (.return_, 1) := by decide +kernel
theorem dX3_ship_25 : decode cX3_ship 25 = .ok (.aload_n 3, 1) := by decide +kernel
theorem dX3_ship_26 : decode cX3_ship 26 = .ok (.aload_n 1, 1) := by decide +kernel
theorem dX3_ship_27 : decode cX3_ship 27 = .ok (.getfield 120, 3) := by decide +kernel
theorem dX3_ship_30 : decode cX3_ship 30 = .ok (.iload_n 2, 1) := by decide +kernel
theorem dX3_ship_31 : decode cX3_ship 31 = .ok (.iaload, 1) := by decide +kernel
theorem dX3_ship_32 : decode cX3_ship 32 = .ok (.putfield 164, 3) := by decide +kernel
theorem dX3_ship_35 : decode cX3_ship 35 = .ok (.aload_n 3, 1) := by decide +kernel
theorem dX3_ship_36 : decode cX3_ship 36 = .ok (.aload_n 1, 1) := by decide +kernel
theorem dX3_ship_37 : decode cX3_ship 37 = .ok (.getfield 62, 3) := by decide +kernel
theorem dX3_ship_40 : decode cX3_ship 40 = .ok (.iload_n 2, 1) := by decide +kernel
theorem dX3_ship_41 : decode cX3_ship 41 = .ok (.iaload, 1) := by decide +kernel
theorem dX3_ship_42 : decode cX3_ship 42 = .ok (.putfield 167, 3) := by decide +kernel
theorem dX3_ship_45 : decode cX3_ship 45 = .ok (.aload_n 3, 1) := by decide +kernel
theorem dX3_ship_46 : decode cX3_ship 46 = .ok (.aload_n 1, 1) := by decide +kernel
theorem dX3_ship_47 : decode cX3_ship 47 = .ok (.getfield 66, 3) := by decide +kernel
theorem dX3_ship_50 : decode cX3_ship 50 = .ok (.iload_n 2, 1) := by decide +kernel
theorem dX3_ship_51 : decode cX3_ship 51 = .ok (.iaload, 1) := by decide +kernel
theorem dX3_ship_52 : decode cX3_ship 52 = .ok (.putfield 170, 3) := by decide +kernel
theorem dX3_ship_55 : decode cX3_ship 55 = .ok (.aload_n 3, 1) := by decide +kernel
theorem dX3_ship_56 : decode cX3_ship 56 = .ok (.iload_n 2, 1) := by decide +kernel
theorem dX3_ship_57 : decode cX3_ship 57 = .ok (.ifCond .le 14, 3) := by decide +kernel
theorem dX3_ship_60 : decode cX3_ship 60 = .ok (.aload_n 1, 1) := by decide +kernel
theorem dX3_ship_61 : decode cX3_ship 61 = .ok (.getfield 120, 3) := by decide +kernel
theorem dX3_ship_64 : decode cX3_ship 64 = .ok (.iload_n 2, 1) := by decide +kernel
theorem dX3_ship_65 : decode cX3_ship 65 = .ok (.iconst 1, 1) := by decide +kernel
theorem dX3_ship_66 : decode cX3_ship 66 = .ok (.isub, 1) := by decide +kernel
theorem dX3_ship_67 : decode cX3_ship 67 = .ok (.iaload, 1) := by decide +kernel
theorem dX3_ship_68 : decode cX3_ship 68 = .ok (.goto 4, 3) := by decide +kernel
theorem dX3_ship_71 : decode cX3_ship 71 = .ok (.iconst 0, 1) := by decide +kernel
theorem dX3_ship_72 : decode cX3_ship 72 = .ok (.putfield 151, 3) := by decide +kernel
theorem dX3_ship_75 : decode cX3_ship 75 = .ok (.aload_n 3, 1) := by decide +kernel
theorem dX3_ship_76 : decode cX3_ship 76 = .ok (.aload_n 1, 1) := by decide +kernel
theorem dX3_ship_77 : decode cX3_ship 77 = .ok (.getfield 43, 3) := by decide +kernel
theorem dX3_ship_80 : decode cX3_ship 80 = .ok (.putfield 173, 3) := by decide +kernel
theorem dX3_ship_83 : decode cX3_ship 83 = .ok (.return_, 1) := by decide +kernel
theorem dX4_init_0 : decode cX4_init 0 = .ok (.aload_n 0, 1) := by decide +kernel
theorem dX4_init_1 : decode cX4_init 1 = .ok (.invokespecial 1, 3) := by decide +kernel
theorem dX4_init_4 : decode cX4_init 4 = .ok (.aload_n 0, 1) := by decide +kernel
theorem dX4_init_5 : decode cX4_init 5 = .ok (.iconst 2, 1) := by decide +kernel
theorem dX4_init_6 : decode cX4_init 6 = .ok (.newarray .int, 2) := by decide +kernel
theorem dX4_init_8 : decode cX4_init 8 = .ok (.putfield 7, 3) := by decide +kernel
theorem dX4_init_11 : decode cX4_init 11 = .ok (.aload_n 0, 1) := by decide +kernel
theorem dX4_init_12 : decode cX4_init 12 = .ok (.iconst 2, 1) := by decide +kernel
theorem dX4_init_13 : decode cX4_init 13 = .ok (.newarray .int, 2) := by decide +kernel
theorem dX4_init_15 : decode cX4_init 15 = .ok (.putfield 13, 3) := by decide +kernel
theorem dX4_init_18 : decode cX4_init 18 = .ok (.aload_n 0, 1) := by decide +kernel
theorem dX4_init_19 : decode cX4_init 19 = .ok (.iconst 2, 1) := by decide +kernel
theorem dX4_init_20 : decode cX4_init 20 = .ok (.newarray .boolean, 2) := by decide +kernel
theorem dX4_init_22 : decode cX4_init 22 = .ok (.putfield 16, 3) := by decide +kernel
theorem dX4_init_25 : decode cX4_init 25 = .ok (.aload_n 0, 1) := by decide +kernel
theorem dX4_init_26 : decode cX4_init 26 = .ok (.iconst 2, 1) := by decide +kernel
theorem dX4_init_27 : decode cX4_init 27 = .ok (.newarray .boolean, 2) := by decide +kernel
theorem dX4_init_29 : decode cX4_init 29 = .ok (.putfield 20, 3) := by decide +kernel
theorem dX4_init_32 : decode cX4_init 32 = .ok (.aload_n 0, 1) := by decide +kernel
theorem dX4_init_33 : decode cX4_init 33 = .ok (.iconst 2, 1) := by decide +kernel
theorem dX4_init_34 : decode cX4_init 34 = .ok (.newarray .int, 2) := by decide +kernel
theorem dX4_init_36 : decode cX4_init 36 = .ok (.putfield 23, 3) := by decide +kernel
theorem dX4_init_39 : decode cX4_init 39 = .ok (.aload_n 0, 1) := by decide +kernel
theorem dX4_init_40 : decode cX4_init 40 = .ok (.iconst 2, 1) := by decide +kernel
theorem dX4_init_41 : decode cX4_init 41 = .ok (.newarray .int, 2) := by decide +kernel
theorem dX4_init_43 : decode cX4_init 43 = .ok (.putfield 26, 3) := by decide +kernel
theorem dX4_init_46 : decode cX4_init 46 = .ok (.aload_n 0, 1) := by decide +kernel
theorem dX4_init_47 : decode cX4_init 47 = .ok (.iconst 2, 1) := by decide +kernel
theorem dX4_init_48 : decode cX4_init 48 = .ok (.newarray .int, 2) := by decide +kernel
theorem dX4_init_50 : decode cX4_init 50 = .ok (.putfield 29, 3) := by decide +kernel
theorem dX4_init_53 : decode cX4_init 53 = .ok (.aload_n 0, 1) := by decide +kernel
theorem dX4_init_54 : decode cX4_init 54 = .ok (.sipush 128, 3) := by decide +kernel
theorem dX4_init_57 : decode cX4_init 57 = .ok (.newarray .int, 2) := by decide +kernel
theorem dX4_init_59 : decode cX4_init 59 = .ok (.putfield 32, 3) := by decide +kernel
theorem dX4_init_62 : decode cX4_init 62 = .ok (.aload_n 0, 1) := by decide +kernel
theorem dX4_init_63 : decode cX4_init 63 = .ok (.sipush 128, 3) := by decide +kernel
theorem dX4_init_66 : decode cX4_init 66 = .ok (.newarray .int, 2) := by decide +kernel
theorem dX4_init_68 : decode cX4_init 68 = .ok (.putfield 35, 3) := by decide +kernel
theorem dX4_init_71 : decode cX4_init 71 = .ok (.aload_n 0, 1) := by decide +kernel
theorem dX4_init_72 : decode cX4_init 72 = .ok (.sipush 128, 3) := by decide +kernel
theorem dX4_init_75 : decode cX4_init 75 = .ok (.newarray .int, 2) := by decide +kernel
theorem dX4_init_77 : decode cX4_init 77 = .ok (.putfield 38, 3) := by decide +kernel
theorem dX4_init_80 : decode cX4_init 80 = .ok (.aload_n 0, 1) := by decide +kernel
theorem dX4_init_81 : decode cX4_init 81 = .ok (.sipush 144, 3) := by decide +kernel
theorem dX4_init_84 : decode cX4_init 84 = .ok (.newarray .int, 2) := by decide +kernel
theorem dX4_init_86 : decode cX4_init 86 = .ok (.putfield 41, 3) := by decide +kernel
theorem dX4_init_89 : decode cX4_init 89 = .ok (.aload_n 0, 1) := by decide +kernel
theorem dX4_init_90 : decode cX4_init 90 = .ok (.bipush 9, 2) := by decide +kernel
theorem dX4_init_92 : decode cX4_init 92 = .ok (.newarray .int, 2) := by decide +kernel
theorem dX4_init_94 : decode cX4_init 94 = .ok (.putfield 44, 3) := by decide +kernel
theorem dX4_init_97 : decode cX4_init 97 = .ok (.aload_n 0, 1) := by decide +kernel
theorem dX4_init_98 : decode cX4_init 98 = .ok (.getfield 7, 3) := by decide +kernel
theorem dX4_init_101 : decode cX4_init 101 = .ok (.iconst 0, 1) := by decide +kernel
theorem dX4_init_102 : decode cX4_init 102 = .ok (.iconst 2, 1) := by decide +kernel
theorem dX4_init_103 : decode cX4_init 103 = .ok (.iastore, 1) := by decide +kernel
theorem dX4_init_104 : decode cX4_init 104 = .ok (.aload_n 0, 1) := by decide +kernel
theorem dX4_init_105 : decode cX4_init 105 = .ok (.getfield 20, 3) := by decide +kernel
theorem dX4_init_108 : decode cX4_init 108 = .ok (.iconst 0, 1) := by decide +kernel
theorem dX4_init_109 : decode cX4_init 109 = .ok (.iconst 1, 1) := by decide +kernel
theorem dX4_init_110 : decode cX4_init 110 = .ok (.bastore, 1) := by decide +kernel
theorem dX4_init_111 : decode cX4_init 111 = .ok (.aload_n 0, 1) := by decide +kernel
theorem dX4_init_112 : decode cX4_init 112 = .ok (.getfield 23, 3) := by decide +kernel
theorem dX4_init_115 : decode cX4_init 115 = .ok (.iconst 0, 1) := by decide +kernel
theorem dX4_init_116 : decode cX4_init 116 = .ok (.iconst (-1), 1) := by decide +kernel
theorem dX4_init_117 : decode cX4_init 117 = .ok (.iastore, 1) := by decide +kernel
theorem dX4_init_118 : decode cX4_init 118 = .ok (.aload_n 0, 1) := by decide +kernel
theorem dX4_init_119 : decode cX4_init 119 = .ok (.getfield 23, 3) := by decide +kernel
theorem dX4_init_122 : decode cX4_init 122 = .ok (.iconst 1, 1) := by decide +kernel
theorem dX4_init_123 : decode cX4_init 123 = .ok (.iconst (-1), 1) := by decide +kernel
theorem dX4_init_124 : decode cX4_init 124 = .ok (.iastore, 1) := by decide +kernel
