theorem dX8_init_0 : decode cX8_init 0 = .ok (.aload_n 0, 1) := by decide +kernel
theorem dX8_init_1 : decode cX8_init 1 = .ok (.invokespecial 1, 3) := by decide +kernel
theorem dX8_init_4 : decode cX8_init 4 = .ok (.aload_n 0, 1) := by decide +kernel
theorem dX8_init_5 : decode cX8_init 5 = .ok (.sipush 1445, 3) := by decide +kernel
theorem dX8_init_8 : decode cX8_init 8 = .ok (.newarray .int, 2) := by decide +kernel
theorem dX8_init_10 : decode cX8_init 10 = .ok (.putfield 7, 3) := by decide +kernel
theorem dX8_init_13 : decode cX8_init 13 = .ok (.aload_n 0, 1) := by decide +kernel
theorem dX8_init_14 : decode cX8_init 14 = .ok (.sipush 7225, 3) := by decide +kernel
theorem dX8_init_17 : decode cX8_init 17 = .ok (.newarray .int, 2) := by decide +kernel
theorem dX8_init_19 : decode cX8_init 19 = .ok (.putfield 13, 3) := by decide +kernel
theorem dX8_init_22 : decode cX8_init 22 = .ok (.aload_n 0, 1) := by decide +kernel
theorem dX8_init_23 : decode cX8_init 23 = .ok (.bipush 100, 2) := by decide +kernel
theorem dX8_init_25 : decode cX8_init 25 = .ok (.newarray .char, 2) := by decide +kernel
theorem dX8_init_27 : decode cX8_init 27 = .ok (.putfield 16, 3) := by decide +kernel
theorem dX8_init_30 : decode cX8_init 30 = .ok (.aload_n 0, 1) := by decide +kernel
theorem dX8_init_31 : decode cX8_init 31 = .ok (.bipush 6, 2) := by decide +kernel
theorem dX8_init_33 : decode cX8_init 33 = .ok (.newarray .int, 2) := by decide +kernel
theorem dX8_init_35 : decode cX8_init 35 = .ok (.putfield 20, 3) := by decide +kernel
theorem dX8_init_38 : decode cX8_init 38 = .ok (.aload_n 0, 1) := by decide +kernel
theorem dX8_init_39 : decode cX8_init 39 = .ok (.bipush 60, 2) := by decide +kernel
theorem dX8_init_41 : decode cX8_init 41 = .ok (.newarray .int, 2) := by decide +kernel
theorem dX8_init_43 : decode cX8_init 43 = .ok (.putfield 23, 3) := by decide +kernel
theorem dX8_init_46 : decode cX8_init 46 = .ok (.aload_n 0, 1) := by decide +kernel
theorem dX8_init_47 : decode cX8_init 47 = .ok (.bipush 52, 2) := by decide +kernel
theorem dX8_init_49 : decode cX8_init 49 = .ok (.newarray .int, 2) := by decide +kernel
theorem dX8_init_51 : decode cX8_init 51 = .ok (.putfield 26, 3) := by decide +kernel
theorem dX8_init_54 : decode cX8_init 54 = .ok (.aload_n 0, 1) := by decide +kernel
theorem dX8_init_55 : decode cX8_init 55 = .ok (.bipush 32, 2) := by decide +kernel
theorem dX8_init_57 : decode cX8_init 57 = .ok (.newarray .int, 2) := by decide +kernel
theorem dX8_init_59 : decode cX8_init 59 = .ok (.putfield 29, 3) := by decide +kernel
theorem dX8_init_62 : decode cX8_init 62 = .ok (.aload_n 0, 1) := by decide +kernel
theorem dX8_init_63 : decode cX8_init 63 = .ok (.getfield 7, 3) := by decide +kernel
theorem dX8_init_66 : decode cX8_init 66 = .ok (.iconst 0, 1) := by decide +kernel
theorem dX8_init_67 : decode cX8_init 67 = .ok (.iconst 1, 1) := by decide +kernel
theorem dX8_init_68 : decode cX8_init 68 = .ok (.iastore, 1) := by decide +kernel
theorem dX8_init_69 : decode cX8_init 69 = .ok (.aload_n 0, 1) := by decide +kernel
theorem dX8_init_70 : decode cX8_init 70 = .ok (.getfield 7, 3) := by decide +kernel
theorem dX8_init_73 : decode cX8_init 73 = .ok (.iconst 3, 1) := by decide +kernel
theorem dX8_init_74 : decode cX8_init 74 = .ok (.iconst 3, 1) := by decide +kernel
theorem dX8_init_75 : decode cX8_init 75 = .ok (.iastore, 1) := by decide +kernel
theorem dX8_init_76 : decode cX8_init 76 = .ok (.aload_n 0, 1) := by decide +kernel
theorem dX8_init_77 : decode cX8_init 77 = .ok (.getfield 7, 3) := by decide +kernel
theorem dX8_init_80 : decode cX8_init 80 = .ok (.iconst 5, 1) := by decide +kernel
theorem dX8_init_81 : decode cX8_init 81 = .ok (.ldc 32, 2) := by decide +kernel
theorem dX8_init_83 : decode cX8_init 83 = .ok (.iastore, 1) := by decide +kernel
theorem dX8_init_84 : decode cX8_init 84 = .ok (.aload_n 0, 1) := by decide +kernel
theorem dX8_init_85 : decode cX8_init 85 = .ok (.getfield 7, 3) := by decide +kernel
theorem dX8_init_88 : decode cX8_init 88 = .ok (.bipush 10, 2) := by decide +kernel
theorem dX8_init_90 : decode cX8_init 90 = .ok (.iconst 1, 1) := by decide +kernel
theorem dX8_init_91 : decode cX8_init 91 = .ok (.iastore, 1) := by decide +kernel
theorem dX8_init_92 : decode cX8_init 92 = .ok (.aload_n 0, 1) := by decide +kernel
theorem dX8_init_93 : decode cX8_init 93 = .ok (.getfield 7, 3) := by decide +kernel
theorem dX8_init_96 : decode cX8_init 96 = .ok (.bipush 11, 2) := by decide +kernel
theorem dX8_init_98 : decode cX8_init 98 = .ok (.ldc 32, 2) := by decide +kernel
theorem dX8_init_100 : decode cX8_init 100 = .ok (.iastore, 1) := by decide +kernel
theorem dX8_init_101 : decode cX8_init 101 = .ok (.return_, 1) := by decide +kernel
theorem dX8_in_0 : decode cX8_in 0 = .ok (.iload_n 0, 1) := by decide +kernel
theorem dX8_in_1 : decode cX8_in 1 = .ok (.iload_n 1, 1) := by decide +kernel
theorem dX8_in_2 : decode cX8_in 2 = .ok (.if_icmp .lt 12, 3) := by decide +kernel
theorem dX8_in_5 : decode cX8_in 5 = .ok (.iload_n 0, 1) := by decide +kernel
theorem dX8_in_6 : decode cX8_in 6 = .ok (.iload_n 2, 1) := by decide +kernel
theorem dX8_in_7 : decode cX8_in 7 = .ok (.if_icmp .gt 7, 3) := by decide +kernel
theorem dX8_in_10 : decode cX8_in 10 = .ok (.iconst 1, 1) := by decide +kernel
theorem dX8_in_11 : decode cX8_in 11 = .ok (.goto 4, 3) := by decide +kernel
theorem dX8_in_14 : decode cX8_in 14 = .ok (.iconst 0, 1) := by decide +kernel
theorem dX8_in_15 : decode cX8_in 15 = .ok (.ireturn, 1) := by decide +kernel
theorem dX8_en_0 : decode cX8_en 0 = .ok (.aload_n 0, 1) := by decide +kernel
theorem dX8_en_1 : decode cX8_en 1 = .ok (.getfield 7, 3) := by decide +kernel
theorem dX8_en_4 : decode cX8_en 4 = .ok (.iconst 5, 1) := by decide +kernel
theorem dX8_en_5 : decode cX8_en 5 = .ok (.bipush 7, 2) := by decide +kernel
theorem dX8_en_7 : decode cX8_en 7 = .ok (.iload_n 1, 1) := by decide +kernel
theorem dX8_en_8 : decode cX8_en 8 = .ok (.imul, 1) := by decide +kernel
theorem dX8_en_9 : decode cX8_en 9 = .ok (.iadd, 1) := by decide +kernel
theorem dX8_en_10 : decode cX8_en 10 = .ok (.iload_n 2, 1) := by decide +kernel
theorem dX8_en_11 : decode cX8_en 11 = .ok (.iadd, 1) := by decide +kernel
theorem dX8_en_12 : decode cX8_en 12 = .ok (.iaload, 1) := by decide +kernel
theorem dX8_en_13 : decode cX8_en 13 = .ok (.ireturn, 1) := by decide +kernel
theorem dX8_br_0 : decode cX8_br 0 = .ok (.aload_n 0, 1) := by decide +kernel
theorem dX8_br_1 : decode cX8_br 1 = .ok (.getfield 7, 3) := by decide +kernel
theorem dX8_br_4 : decode cX8_br 4 = .ok (.sipush 425, 3) := by decide +kernel
theorem dX8_br_7 : decode cX8_br 7 = .ok (.iconst 4, 1) := by decide +kernel
theorem dX8_br_8 : decode cX8_br 8 = .ok (.iload_n 1, 1) := by decide +kernel
theorem dX8_br_9 : decode cX8_br 9 = .ok (.imul, 1) := by decide +kernel
theorem dX8_br_10 : decode cX8_br 10 = .ok (.iadd, 1) := by decide +kernel
theorem dX8_br_11 : decode cX8_br 11 = .ok (.iload_n 2, 1) := by decide +kernel
theorem dX8_br_12 : decode cX8_br 12 = .ok (.iadd, 1) := by decide +kernel
theorem dX8_br_13 : decode cX8_br 13 = .ok (.iaload, 1) := by decide +kernel
theorem dX8_br_14 : decode cX8_br 14 = .ok (.ireturn, 1) := by decide +kernel
set_option maxRecDepth 20000 in
theorem ggX8_isEntry_X8_in : GoodIn wsX8_isEntry wsX8_in := goodIn_r _ [5] (by decide +kernel) (by decide +kernel)
set_option maxRecDepth 20000 in
theorem gX8_isEntry_X8_in : GoodIn wsX8_isEntry (va_wsS RX8 33 yX8_in wsX8_in) := goodIn_app (goodIn_of _ (by decide +kernel)) ggX8_isEntry_X8_in
theorem dX8_isEntry_0 : decode cX8_isEntry 0 = .ok (.iload_n 1, 1) := by decide +kernel
theorem dX8_isEntry_1 : decode cX8_isEntry 1 = .ok (.iconst 0, 1) := by decide +kernel
theorem dX8_isEntry_2 : decode cX8_isEntry 2 = .ok (.aload_n 0, 1) := by decide +kernel
theorem dX8_isEntry_3 : decode cX8_isEntry 3 = .ok (.getfield 7, 3) := by decide +kernel
theorem dX8_isEntry_6 : decode cX8_isEntry 6 = .ok (.iconst 0, 1) := by decide +kernel
theorem dX8_isEntry_7 : decode cX8_isEntry 7 = .ok (.iaload, 1) := by decide +kernel
theorem dX8_isEntry_8 : decode cX8_isEntry 8 = .ok (.iconst 1, 1) := by decide +kernel
theorem dX8_isEntry_9 : decode cX8_isEntry 9 = .ok (.isub, 1) := by decide +kernel
theorem dX8_isEntry_10 : decode cX8_isEntry 10 = .ok (.invokestatic 33, 3) := by decide +kernel
theorem dX8_isEntry_13 : decode cX8_isEntry 13 = .ok (.ireturn, 1) := by decide +kernel
set_option maxRecDepth 20000 in
theorem ggX8_isBranch_X8_in : GoodIn wsX8_isBranch wsX8_in := goodIn_r _ [5] (by decide +kernel) (by decide +kernel)
set_option maxRecDepth 20000 in
theorem gX8_isBranch_X8_in : GoodIn wsX8_isBranch (va_wsS RX8 33 yX8_in wsX8_in) := goodIn_app (goodIn_of _ (by decide +kernel)) ggX8_isBranch_X8_in
theorem dX8_isBranch_0 : decode cX8_isBranch 0 = .ok (.iload_n 1, 1) := by decide +kernel
theorem dX8_isBranch_1 : decode cX8_isBranch 1 = .ok (.iconst 0, 1) := by decide +kernel
theorem dX8_isBranch_2 : decode cX8_isBranch 2 = .ok (.aload_n 0, 1) := by decide +kernel
theorem dX8_isBranch_3 : decode cX8_isBranch 3 = .ok (.getfield 7, 3) := by decide +kernel
theorem dX8_isBranch_6 : decode cX8_isBranch 6 = .ok (.iconst 2, 1) := by decide +kernel
theorem dX8_isBranch_7 : decode cX8_isBranch 7 = .ok (.iaload, 1) := by decide +kernel
theorem dX8_isBranch_8 : decode cX8_isBranch 8 = .ok (.iconst 1, 1) := by decide +kernel
theorem dX8_isBranch_9 : decode cX8_isBranch 9 = .ok (.isub, 1) := by decide +kernel
theorem dX8_isBranch_10 : decode cX8_isBranch 10 = .ok (.invokestatic 33, 3) := by decide +kernel
theorem dX8_isBranch_13 : decode cX8_isBranch 13 = .ok (.ireturn, 1) := by decide +kernel
theorem dX8_records_0 : decode cX8_records 0 = .ok (.aload_n 0, 1) := by decide +kernel
theorem dX8_records_1 : decode cX8_records 1 = .ok (.getfield 37, 3) := by decide +kernel
theorem dX8_records_4 : decode cX8_records 4 = .ok (.iconst 5, 1) := by decide +kernel
theorem dX8_records_5 : decode cX8_records 5 = .ok (.if_icmp .ne 44, 3) := by decide +kernel
theorem dX8_records_8 : decode cX8_records 8 = .ok (.iconst 0, 1) := by decide +kernel
theorem dX8_records_9 : decode cX8_records 9 = .ok (.istore_n 1, 1) := by decide +kernel
theorem dX8_records_10 : decode cX8_records 10 = .ok (.iload_n 1, 1) := by decide +kernel
theorem dX8_records_11 : decode cX8_records 11 = .ok (.sipush 5780, 3) := by decide +kernel
theorem dX8_records_14 : decode cX8_records 14 = .ok (.if_icmp .ge 25, 3) := by decide +kernel
theorem dX8_records_17 : decode cX8_records 17 = .ok (.aload_n 0, 1) := by decide +kernel
theorem dX8_records_18 : decode cX8_records 18 = .ok (.getfield 13, 3) := by decide +kernel
theorem dX8_records_21 : decode cX8_records 21 = .ok (.iload_n 1, 1) := by decide +kernel
theorem dX8_records_22 : decode cX8_records 22 = .ok (.aload_n 0, 1) := by decide +kernel
theorem dX8_records_23 : decode cX8_records 23 = .ok (.getfield 13, 3) := by decide +kernel
theorem dX8_records_26 : decode cX8_records 26 = .ok (.iload_n 1, 1) := by decide +kernel
theorem dX8_records_27 : decode cX8_records 27 = .ok (.sipush 1445, 3) := by decide +kernel
theorem dX8_records_30 : decode cX8_records 30 = .ok (.iadd, 1) := by decide +kernel
theorem dX8_records_31 : decode cX8_records 31 = .ok (.iaload, 1) := by decide +kernel
theorem dX8_records_32 : decode cX8_records 32 = .ok (.iastore, 1) := by decide +kernel
theorem dX8_records_33 : decode cX8_records 33 = .ok (.iinc 1 1, 3) := by decide +kernel
theorem dX8_records_36 : decode cX8_records 36 = .ok (.goto (-26), 3) := by decide +kernel
theorem dX8_records_39 : decode cX8_records 39 = .ok (.aload_n 0, 1) := by decide +kernel
theorem dX8_records_40 : decode cX8_records 40 = .ok (.dup, 1) := by decide +kernel
theorem dX8_records_41 : decode cX8_records 41 = .ok (.getfield 37, 3) := by decide +kernel
theorem dX8_records_44 : decode cX8_records 44 = .ok (.iconst 1, 1) := by decide +kernel
theorem dX8_records_45 : decode cX8_records 45 = .ok (.isub, 1) := by decide +kernel
theorem dX8_records_46 : decode cX8_records 46 = .ok (.putfield 37, 3) := by decide +kernel
theorem dX8_records_49 : decode cX8_records 49 = .ok (.iconst 0, 1) := by decide +kernel
theorem dX8_records_50 : decode cX8_records 50 = .ok (.istore_n 1, 1) := by decide +kernel
theorem dX8_records_51 : decode cX8_records 51 = .ok (.iload_n 1, 1) := by decide +kernel
theorem dX8_records_52 : decode cX8_records 52 = .ok (.sipush 1445, 3) := by decide +kernel
theorem dX8_records_55 : decode cX8_records 55 = .ok (.if_icmp .ge 30, 3) := by decide +kernel
theorem dX8_records_58 : decode cX8_records 58 = .ok (.aload_n 0, 1) := by decide +kernel
theorem dX8_records_59 : decode cX8_records 59 = .ok (.getfield 13, 3) := by decide +kernel
theorem dX8_records_62 : decode cX8_records 62 = .ok (.sipush 1445, 3) := by decide +kernel
theorem dX8_records_65 : decode cX8_records 65 = .ok (.aload_n 0, 1) := by decide +kernel
theorem dX8_records_66 : decode cX8_records 66 = .ok (.getfield 37, 3) := by decide +kernel
theorem dX8_records_69 : decode cX8_records 69 = .ok (.imul, 1) := by decide +kernel
theorem dX8_records_70 : decode cX8_records 70 = .ok (.iload_n 1, 1) := by decide +kernel
theorem dX8_records_71 : decode cX8_records 71 = .ok (.iadd, 1) := by decide +kernel
theorem dX8_records_72 : decode cX8_records 72 = .ok (.aload_n 0, 1) := by decide +kernel
theorem dX8_records_73 : decode cX8_records 73 = .ok (.getfield 7, 3) := by decide +kernel
theorem dX8_records_76 : decode cX8_records 76 = .ok (.iload_n 1, 1) := by decide +kernel
theorem dX8_records_77 : decode cX8_records 77 = .ok (.iaload, 1) := by decide +kernel
theorem dX8_records_78 : decode cX8_records 78 = .ok (.iastore, 1) := by decide +kernel
theorem dX8_records_79 : decode cX8_records 79 = .ok (.iinc 1 1, 3) := by decide +kernel
theorem dX8_records_82 : decode cX8_records 82 = .ok (.goto (-31), 3) := by decide +kernel
theorem dX8_records_85 : decode cX8_records 85 = .ok (.aload_n 0, 1) := by decide +kernel
theorem dX8_records_86 : decode cX8_records 86 = .ok (.dup, 1) := by decide +kernel
theorem dX8_records_87 : decode cX8_records 87 = .ok (.getfield 37, 3) := by decide +kernel
theorem dX8_records_90 : decode cX8_records 90 = .ok (.iconst 1, 1) := by decide +kernel
theorem dX8_records_91 : decode cX8_records 91 = .ok (.iadd, 1) := by decide +kernel
theorem dX8_records_92 : decode cX8_records 92 = .ok (.putfield 37, 3) := by decide +kernel
theorem dX8_records_95 : decode cX8_records 95 = .ok (.return_, 1) := by decide +kernel
set_option maxRecDepth 20000 in
theorem ggX8_depth_X8_en : GoodIn wsX8_depth wsX8_en := goodIn_r _ [5, 6, 7, 8, 9, 10, 11, 12, 13, 14, 15, 16] (by decide +kernel) (by decide +kernel)
set_option maxRecDepth 20000 in
theorem gX8_depth_X8_en : GoodIn wsX8_depth (wsV RX8 41 RX8 yX8_en wsX8_en) := goodIn_app (goodIn_of _ (by decide +kernel)) ggX8_depth_X8_en
theorem dX8_depth_0 : decode cX8_depth 0 = .ok (.iconst 1, 1) := by decide +kernel
theorem dX8_depth_1 : decode cX8_depth 1 = .ok (.istore_n 2, 1) := by decide +kernel
theorem dX8_depth_2 : decode cX8_depth 2 = .ok (.iload_n 1, 1) := by decide +kernel
theorem dX8_depth_3 : decode cX8_depth 3 = .ok (.istore_n 3, 1) := by decide +kernel
theorem dX8_depth_4 : decode cX8_depth 4 = .ok (.iload_n 3, 1) := by decide +kernel
theorem dX8_depth_5 : decode cX8_depth 5 = .ok (.ifCond .le 16, 3) := by decide +kernel
theorem dX8_depth_8 : decode cX8_depth 8 = .ok (.iinc 2 1, 3) := by decide +kernel
theorem dX8_depth_11 : decode cX8_depth 11 = .ok (.aload_n 0, 1) := by decide +kernel
theorem dX8_depth_12 : decode cX8_depth 12 = .ok (.iload_n 3, 1) := by decide +kernel
theorem dX8_depth_13 : decode cX8_depth 13 = .ok (.iconst 0, 1) := by decide +kernel
theorem dX8_depth_14 : decode cX8_depth 14 = .ok (.invokevirtual 41, 3) := by decide +kernel
theorem dX8_depth_17 : decode cX8_depth 17 = .ok (.istore_n 3, 1) := by decide +kernel
theorem dX8_depth_18 : decode cX8_depth 18 = .ok (.goto (-14), 3) := by decide +kernel
theorem dX8_depth_21 : decode cX8_depth 21 = .ok (.iload_n 2, 1) := by decide +kernel
theorem dX8_depth_22 : decode cX8_depth 22 = .ok (.ireturn, 1) := by decide +kernel
set_option maxRecDepth 20000 in
theorem ggX8_above_X8_en : GoodIn wsX8_above wsX8_en := goodIn_r _ [5, 6, 7, 8, 9, 10, 11, 12, 13, 14, 15, 16] (by decide +kernel) (by decide +kernel)
set_option maxRecDepth 20000 in
theorem gX8_above_X8_en : GoodIn wsX8_above (wsV RX8 41 RX8 yX8_en wsX8_en) := goodIn_app (goodIn_of _ (by decide +kernel)) ggX8_above_X8_en
theorem dX8_above_0 : decode cX8_above 0 = .ok (.iload_n 1, 1) := by decide +kernel
theorem dX8_above_1 : decode cX8_above 1 = .ok (.istore_n 3, 1) := by decide +kernel
theorem dX8_above_2 : decode cX8_above 2 = .ok (.iconst 0, 1) := by decide +kernel
theorem dX8_above_3 : decode cX8_above 3 = .ok (.istore 4, 2) := by decide +kernel
theorem dX8_above_5 : decode cX8_above 5 = .ok (.iload 4, 2) := by decide +kernel
theorem dX8_above_7 : decode cX8_above 7 = .ok (.iload_n 2, 1) := by decide +kernel
theorem dX8_above_8 : decode cX8_above 8 = .ok (.if_icmp .ge 16, 3) := by decide +kernel
theorem dX8_above_11 : decode cX8_above 11 = .ok (.aload_n 0, 1) := by decide +kernel
theorem dX8_above_12 : decode cX8_above 12 = .ok (.iload_n 3, 1) := by decide +kernel
theorem dX8_above_13 : decode cX8_above 13 = .ok (.iconst 0, 1) := by decide +kernel
theorem dX8_above_14 : decode cX8_above 14 = .ok (.invokevirtual 41, 3) := by decide +kernel
theorem dX8_above_17 : decode cX8_above 17 = .ok (.istore_n 3, 1) := by decide +kernel
theorem dX8_above_18 : decode cX8_above 18 = .ok (.iinc 4 1, 3) := by decide +kernel
theorem dX8_above_21 : decode cX8_above 21 = .ok (.goto (-16), 3) := by decide +kernel
theorem dX8_above_24 : decode cX8_above 24 = .ok (.iload_n 3, 1) := by decide +kernel
theorem dX8_above_25 : decode cX8_above 25 = .ok (.ireturn, 1) := by decide +kernel
set_option maxRecDepth 20000 in
theorem ggX8_isOnPath_X8_en : GoodIn wsX8_isOnPath wsX8_en := goodIn_r _ [5, 6, 7, 8, 9, 10, 11, 12, 13, 14, 15, 16] (by decide +kernel) (by decide +kernel)
set_option maxRecDepth 20000 in
theorem gX8_isOnPath_X8_en : GoodIn wsX8_isOnPath (wsV RX8 41 RX8 yX8_en wsX8_en) := goodIn_app (goodIn_of _ (by decide +kernel)) ggX8_isOnPath_X8_en
theorem dX8_isOnPath_0 : decode cX8_isOnPath 0 = .ok (.iload_n 2, 1) := by decide +kernel
theorem dX8_isOnPath_1 : decode cX8_isOnPath 1 = .ok (.istore_n 3, 1) := by decide +kernel
theorem dX8_isOnPath_2 : decode cX8_isOnPath 2 = .ok (.iload_n 3, 1) := by decide +kernel
theorem dX8_isOnPath_3 : decode cX8_isOnPath 3 = .ok (.iload_n 1, 1) := by decide +kernel
theorem dX8_isOnPath_4 : decode cX8_isOnPath 4 = .ok (.if_icmp .le 13, 3) := by decide +kernel
theorem dX8_isOnPath_7 : decode cX8_isOnPath 7 = .ok (.aload_n 0, 1) := by decide +kernel
theorem dX8_isOnPath_8 : decode cX8_isOnPath 8 = .ok (.iload_n 3, 1) := by decide +kernel
theorem dX8_isOnPath_9 : decode cX8_isOnPath 9 = .ok (.iconst 0, 1) := by decide +kernel
theorem dX8_isOnPath_10 : decode cX8_isOnPath 10 = .ok (.invokevirtual 41, 3) := by decide +kernel
theorem dX8_isOnPath_13 : decode cX8_isOnPath 13 = .ok (.istore_n 3, 1) := by decide +kernel
theorem dX8_isOnPath_14 : decode cX8_isOnPath 14 = .ok (.goto (-12), 3) := by decide +kernel
theorem dX8_isOnPath_17 : decode cX8_isOnPath 17 = .ok (.iload_n 3, 1) := by decide +kernel
theorem dX8_isOnPath_18 : decode cX8_isOnPath 18 = .ok (.iload_n 1, 1) := by decide +kernel
theorem dX8_isOnPath_19 : decode cX8_isOnPath 19 = .ok (.if_icmp .ne 7, 3) := by decide +kernel
theorem dX8_isOnPath_22 : decode cX8_isOnPath 22 = .ok (.iconst 1, 1) := by decide +kernel
theorem dX8_isOnPath_23 : decode cX8_isOnPath 23 = .ok (.goto 4, 3) := by decide +kernel
theorem dX8_isOnPath_26 : decode cX8_isOnPath 26 = .ok (.iconst 0, 1) := by decide +kernel
theorem dX8_isOnPath_27 : decode cX8_isOnPath 27 = .ok (.ireturn, 1) := by decide +kernel
set_option maxRecDepth 20000 in
theorem ggX8_counts_X8_en : GoodIn wsX8_counts wsX8_en := goodIn_r _ [6, 7, 11, 12, 13, 14, 15, 16, 17, 18, 19, 20] (by decide +kernel) (by decide +kernel)
set_option maxRecDepth 20000 in
theorem gX8_counts_X8_en : GoodIn wsX8_counts (wsV RX8 41 RX8 yX8_en wsX8_en) := goodIn_app (goodIn_of _ (by decide +kernel)) ggX8_counts_X8_en
set_option maxRecDepth 20000 in
theorem ggX8_counts_X8_in : GoodIn wsX8_counts wsX8_in := goodIn_r _ [10] (by decide +kernel) (by decide +kernel)
set_option maxRecDepth 20000 in
theorem gX8_counts_X8_in : GoodIn wsX8_counts (va_wsS RX8 33 yX8_in wsX8_in) := goodIn_app (goodIn_of _ (by decide +kernel)) ggX8_counts_X8_in
theorem dX8_counts_0 : decode cX8_counts 0 = .ok (.aload_n 0, 1) := by decide +kernel
theorem dX8_counts_1 : decode cX8_counts 1 = .ok (.iload_n 1, 1) := by decide +kernel
theorem dX8_counts_2 : decode cX8_counts 2 = .ok (.iconst 1, 1) := by decide +kernel
theorem dX8_counts_3 : decode cX8_counts 3 = .ok (.invokevirtual 41, 3) := by decide +kernel
theorem dX8_counts_6 : decode cX8_counts 6 = .ok (.istore_n 3, 1) := by decide +kernel
theorem dX8_counts_7 : decode cX8_counts 7 = .ok (.iload_n 3, 1) := by decide +kernel
theorem dX8_counts_8 : decode cX8_counts 8 = .ok (.iconst 2, 1) := by decide +kernel
theorem dX8_counts_9 : decode cX8_counts 9 = .ok (.if_icmp .eq 8, 3) := by decide +kernel
theorem dX8_counts_12 : decode cX8_counts 12 = .ok (.iload_n 3, 1) := by decide +kernel
theorem dX8_counts_13 : decode cX8_counts 13 = .ok (.iconst 3, 1) := by decide +kernel
theorem dX8_counts_14 : decode cX8_counts 14 = .ok (.if_icmp .ne 25, 3) := by decide +kernel
theorem dX8_counts_17 : decode cX8_counts 17 = .ok (.aload_n 0, 1) := by decide +kernel
theorem dX8_counts_18 : decode cX8_counts 18 = .ok (.getfield 20, 3) := by decide +kernel
theorem dX8_counts_21 : decode cX8_counts 21 = .ok (.aload_n 0, 1) := by decide +kernel
theorem dX8_counts_22 : decode cX8_counts 22 = .ok (.iload_n 1, 1) := by decide +kernel
theorem dX8_counts_23 : decode cX8_counts 23 = .ok (.iconst 2, 1) := by decide +kernel
theorem dX8_counts_24 : decode cX8_counts 24 = .ok (.invokevirtual 41, 3) := by decide +kernel
theorem dX8_counts_27 : decode cX8_counts 27 = .ok (.dup2, 1) := by decide +kernel
theorem dX8_counts_28 : decode cX8_counts 28 = .ok (.iaload, 1) := by decide +kernel
theorem dX8_counts_29 : decode cX8_counts 29 = .ok (.iload_n 2, 1) := by decide +kernel
theorem dX8_counts_30 : decode cX8_counts 30 = .ok (.aload_n 0, 1) := by decide +kernel
theorem dX8_counts_31 : decode cX8_counts 31 = .ok (.iload_n 1, 1) := by decide +kernel
theorem dX8_counts_32 : decode cX8_counts 32 = .ok (.iconst 4, 1) := by decide +kernel
theorem dX8_counts_33 : decode cX8_counts 33 = .ok (.invokevirtual 41, 3) := by decide +kernel
theorem dX8_counts_36 : decode cX8_counts 36 = .ok (.imul, 1) := by decide +kernel
theorem dX8_counts_37 : decode cX8_counts 37 = .ok (.isub, 1) := by decide +kernel
theorem dX8_counts_38 : decode cX8_counts 38 = .ok (.iastore, 1) := by decide +kernel
theorem dX8_counts_39 : decode cX8_counts 39 = .ok (.iload_n 3, 1) := by decide +kernel
theorem dX8_counts_40 : decode cX8_counts 40 = .ok (.iconst 1, 1) := by decide +kernel
theorem dX8_counts_41 : decode cX8_counts 41 = .ok (.iconst 3, 1) := by decide +kernel
theorem dX8_counts_42 : decode cX8_counts 42 = .ok (.invokestatic 33, 3) := by decide +kernel
theorem dX8_counts_45 : decode cX8_counts 45 = .ok (.ifCond .eq 25, 3) := by decide +kernel
theorem dX8_counts_48 : decode cX8_counts 48 = .ok (.aload_n 0, 1) := by decide +kernel
theorem dX8_counts_49 : decode cX8_counts 49 = .ok (.getfield 20, 3) := by decide +kernel
theorem dX8_counts_52 : decode cX8_counts 52 = .ok (.aload_n 0, 1) := by decide +kernel
theorem dX8_counts_53 : decode cX8_counts 53 = .ok (.iload_n 1, 1) := by decide +kernel
theorem dX8_counts_54 : decode cX8_counts 54 = .ok (.iconst 3, 1) := by decide +kernel
theorem dX8_counts_55 : decode cX8_counts 55 = .ok (.invokevirtual 41, 3) := by decide +kernel
theorem dX8_counts_58 : decode cX8_counts 58 = .ok (.dup2, 1) := by decide +kernel
theorem dX8_counts_59 : decode cX8_counts 59 = .ok (.iaload, 1) := by decide +kernel
theorem dX8_counts_60 : decode cX8_counts 60 = .ok (.iload_n 2, 1) := by decide +kernel
theorem dX8_counts_61 : decode cX8_counts 61 = .ok (.aload_n 0, 1) := by decide +kernel
theorem dX8_counts_62 : decode cX8_counts 62 = .ok (.iload_n 1, 1) := by decide +kernel
theorem dX8_counts_63 : decode cX8_counts 63 = .ok (.iconst 4, 1) := by decide +kernel
theorem dX8_counts_64 : decode cX8_counts 64 = .ok (.invokevirtual 41, 3) := by decide +kernel
theorem dX8_counts_67 : decode cX8_counts 67 = .ok (.imul, 1) := by decide +kernel
theorem dX8_counts_68 : decode cX8_counts 68 = .ok (.iadd, 1) := by decide +kernel
theorem dX8_counts_69 : decode cX8_counts 69 = .ok (.iastore, 1) := by decide +kernel
theorem dX8_counts_70 : decode cX8_counts 70 = .ok (.return_, 1) := by decide +kernel
set_option maxRecDepth 20000 in
theorem ggX8_balances_X8_counts : GoodIn wsX8_balances wsX8_counts := goodIn_r _ [6, 1, 7, 8, 9, 5, 10, 11, 12, 13, 14, 15, 16, 17, 18, 19, 20, 21, 22, 23, 24] (by decide +kernel) (by decide +kernel)
set_option maxRecDepth 20000 in
theorem gX8_balances_X8_counts : GoodIn wsX8_balances (wsV RX8 45 RX8 yX8_counts wsX8_counts) := goodIn_app (goodIn_of _ (by decide +kernel)) ggX8_balances_X8_counts
set_option maxRecDepth 20000 in
theorem ggX8_balances_X8_en : GoodIn wsX8_balances wsX8_en := goodIn_r _ [10, 11, 15, 16, 17, 18, 19, 20, 21, 22, 23, 24] (by decide +kernel) (by decide +kernel)
set_option maxRecDepth 20000 in
theorem gX8_balances_X8_en : GoodIn wsX8_balances (wsV RX8 41 RX8 yX8_en wsX8_en) := goodIn_app (goodIn_of _ (by decide +kernel)) ggX8_balances_X8_en
theorem dX8_balances_0 : decode cX8_balances 0 = .ok (.iconst 0, 1) := by decide +kernel
theorem dX8_balances_1 : decode cX8_balances 1 = .ok (.istore_n 2, 1) := by decide +kernel
theorem dX8_balances_2 : decode cX8_balances 2 = .ok (.iload_n 2, 1) := by decide +kernel
theorem dX8_balances_3 : decode cX8_balances 3 = .ok (.bipush 6, 2) := by decide +kernel
theorem dX8_balances_5 : decode cX8_balances 5 = .ok (.if_icmp .ge 16, 3) := by decide +kernel
theorem dX8_balances_8 : decode cX8_balances 8 = .ok (.aload_n 0, 1) := by decide +kernel
theorem dX8_balances_9 : decode cX8_balances 9 = .ok (.getfield 20, 3) := by decide +kernel
theorem dX8_balances_12 : decode cX8_balances 12 = .ok (.iload_n 2, 1) := by decide +kernel
theorem dX8_balances_13 : decode cX8_balances 13 = .ok (.iconst 0, 1) := by decide +kernel
theorem dX8_balances_14 : decode cX8_balances 14 = .ok (.iastore, 1) := by decide +kernel
theorem dX8_balances_15 : decode cX8_balances 15 = .ok (.iinc 2 1, 3) := by decide +kernel
theorem dX8_balances_18 : decode cX8_balances 18 = .ok (.goto (-16), 3) := by decide +kernel
theorem dX8_balances_21 : decode cX8_balances 21 = .ok (.iload_n 1, 1) := by decide +kernel
theorem dX8_balances_22 : decode cX8_balances 22 = .ok (.istore_n 2, 1) := by decide +kernel
theorem dX8_balances_23 : decode cX8_balances 23 = .ok (.iload_n 2, 1) := by decide +kernel
theorem dX8_balances_24 : decode cX8_balances 24 = .ok (.ifCond .le 19, 3) := by decide +kernel
theorem dX8_balances_27 : decode cX8_balances 27 = .ok (.aload_n 0, 1) := by decide +kernel
theorem dX8_balances_28 : decode cX8_balances 28 = .ok (.iload_n 2, 1) := by decide +kernel
theorem dX8_balances_29 : decode cX8_balances 29 = .ok (.iconst 1, 1) := by decide +kernel
theorem dX8_balances_30 : decode cX8_balances 30 = .ok (.invokevirtual 45, 3) := by decide +kernel
theorem dX8_balances_33 : decode cX8_balances 33 = .ok (.aload_n 0, 1) := by decide +kernel
theorem dX8_balances_34 : decode cX8_balances 34 = .ok (.iload_n 2, 1) := by decide +kernel
theorem dX8_balances_35 : decode cX8_balances 35 = .ok (.iconst 0, 1) := by decide +kernel
theorem dX8_balances_36 : decode cX8_balances 36 = .ok (.invokevirtual 41, 3) := by decide +kernel
theorem dX8_balances_39 : decode cX8_balances 39 = .ok (.istore_n 2, 1) := by decide +kernel
theorem dX8_balances_40 : decode cX8_balances 40 = .ok (.goto (-17), 3) := by decide +kernel
theorem dX8_balances_43 : decode cX8_balances 43 = .ok (.return_, 1) := by decide +kernel
theorem dX8_isLow_0 : decode cX8_isLow 0 = .ok (.iconst 0, 1) := by decide +kernel
theorem dX8_isLow_1 : decode cX8_isLow 1 = .ok (.istore_n 1, 1) := by decide +kernel
theorem dX8_isLow_2 : decode cX8_isLow 2 = .ok (.iconst 0, 1) := by decide +kernel
theorem dX8_isLow_3 : decode cX8_isLow 3 = .ok (.istore_n 2, 1) := by decide +kernel
theorem dX8_isLow_4 : decode cX8_isLow 4 = .ok (.iload_n 2, 1) := by decide +kernel
theorem dX8_isLow_5 : decode cX8_isLow 5 = .ok (.bipush 6, 2) := by decide +kernel
theorem dX8_isLow_7 : decode cX8_isLow 7 = .ok (.if_icmp .ge 28, 3) := by decide +kernel
theorem dX8_isLow_10 : decode cX8_isLow 10 = .ok (.iload_n 1, 1) := by decide +kernel
theorem dX8_isLow_11 : decode cX8_isLow 11 = .ok (.ifCond .ne 12, 3) := by decide +kernel
theorem dX8_isLow_14 : decode cX8_isLow 14 = .ok (.aload_n 0, 1) := by decide +kernel
theorem dX8_isLow_15 : decode cX8_isLow 15 = .ok (.getfield 20, 3) := by decide +kernel
theorem dX8_isLow_18 : decode cX8_isLow 18 = .ok (.iload_n 2, 1) := by decide +kernel
theorem dX8_isLow_19 : decode cX8_isLow 19 = .ok (.iaload, 1) := by decide +kernel
theorem dX8_isLow_20 : decode cX8_isLow 20 = .ok (.ifCond .ge 7, 3) := by decide +kernel
theorem dX8_isLow_23 : decode cX8_isLow 23 = .ok (.iconst 1, 1) := by decide +kernel
theorem dX8_isLow_24 : decode cX8_isLow 24 = .ok (.goto 4, 3) := by decide +kernel
theorem dX8_isLow_27 : decode cX8_isLow 27 = .ok (.iconst 0, 1) := by decide +kernel
theorem dX8_isLow_28 : decode cX8_isLow 28 = .ok (.istore_n 1, 1) := by decide +kernel
theorem dX8_isLow_29 : decode cX8_isLow 29 = .ok (.iinc 2 1, 3) := by decide +kernel
theorem dX8_isLow_32 : decode cX8_isLow 32 = .ok (.goto (-28), 3) := by decide +kernel
theorem dX8_isLow_35 : decode cX8_isLow 35 = .ok (.iload_n 1, 1) := by decide +kernel
theorem dX8_isLow_36 : decode cX8_isLow 36 = .ok (.ireturn, 1) := by decide +kernel
set_option maxRecDepth 20000 in
theorem ggX8_fitting_X8_en : GoodIn wsX8_fitting wsX8_en := goodIn_r _ [5, 6, 7, 8, 9, 10, 11, 12, 13, 14, 15, 16] (by decide +kernel) (by decide +kernel)
set_option maxRecDepth 20000 in
theorem gX8_fitting_X8_en : GoodIn wsX8_fitting (wsV RX8 41 RX8 yX8_en wsX8_en) := goodIn_app (goodIn_of _ (by decide +kernel)) ggX8_fitting_X8_en
theorem dX8_fitting_0 : decode cX8_fitting 0 = .ok (.iload_n 1, 1) := by decide +kernel
theorem dX8_fitting_1 : decode cX8_fitting 1 = .ok (.ifCond .ne 5, 3) := by decide +kernel
theorem dX8_fitting_4 : decode cX8_fitting 4 = .ok (.iconst 1, 1) := by decide +kernel
theorem dX8_fitting_5 : decode cX8_fitting 5 = .ok (.ireturn, 1) := by decide +kernel
theorem dX8_fitting_6 : decode cX8_fitting 6 = .ok (.bipush 31, 2) := by decide +kernel
theorem dX8_fitting_8 : decode cX8_fitting 8 = .ok (.aload_n 0, 1) := by decide +kernel
theorem dX8_fitting_9 : decode cX8_fitting 9 = .ok (.aload_n 0, 1) := by decide +kernel
theorem dX8_fitting_10 : decode cX8_fitting 10 = .ok (.iload_n 1, 1) := by decide +kernel
theorem dX8_fitting_11 : decode cX8_fitting 11 = .ok (.iconst 0, 1) := by decide +kernel
theorem dX8_fitting_12 : decode cX8_fitting 12 = .ok (.invokevirtual 41, 3) := by decide +kernel
theorem dX8_fitting_15 : decode cX8_fitting 15 = .ok (.iconst 5, 1) := by decide +kernel
theorem dX8_fitting_16 : decode cX8_fitting 16 = .ok (.invokevirtual 41, 3) := by decide +kernel
theorem dX8_fitting_19 : decode cX8_fitting 19 = .ok (.imul, 1) := by decide +kernel
theorem dX8_fitting_20 : decode cX8_fitting 20 = .ok (.bipush 7, 2) := by decide +kernel
theorem dX8_fitting_22 : decode cX8_fitting 22 = .ok (.aload_n 0, 1) := by decide +kernel
theorem dX8_fitting_23 : decode cX8_fitting 23 = .ok (.iload_n 1, 1) := by decide +kernel
theorem dX8_fitting_24 : decode cX8_fitting 24 = .ok (.iconst 1, 1) := by decide +kernel
theorem dX8_fitting_25 : decode cX8_fitting 25 = .ok (.invokevirtual 41, 3) := by decide +kernel
theorem dX8_fitting_28 : decode cX8_fitting 28 = .ok (.imul, 1) := by decide +kernel
theorem dX8_fitting_29 : decode cX8_fitting 29 = .ok (.iadd, 1) := by decide +kernel
theorem dX8_fitting_30 : decode cX8_fitting 30 = .ok (.bipush 11, 2) := by decide +kernel
theorem dX8_fitting_32 : decode cX8_fitting 32 = .ok (.aload_n 0, 1) := by decide +kernel
theorem dX8_fitting_33 : decode cX8_fitting 33 = .ok (.iload_n 1, 1) := by decide +kernel
theorem dX8_fitting_34 : decode cX8_fitting 34 = .ok (.iconst 2, 1) := by decide +kernel
theorem dX8_fitting_35 : decode cX8_fitting 35 = .ok (.invokevirtual 41, 3) := by decide +kernel
theorem dX8_fitting_38 : decode cX8_fitting 38 = .ok (.imul, 1) := by decide +kernel
theorem dX8_fitting_39 : decode cX8_fitting 39 = .ok (.iadd, 1) := by decide +kernel
theorem dX8_fitting_40 : decode cX8_fitting 40 = .ok (.bipush 13, 2) := by decide +kernel
theorem dX8_fitting_42 : decode cX8_fitting 42 = .ok (.aload_n 0, 1) := by decide +kernel
theorem dX8_fitting_43 : decode cX8_fitting 43 = .ok (.iload_n 1, 1) := by decide +kernel
theorem dX8_fitting_44 : decode cX8_fitting 44 = .ok (.iconst 3, 1) := by decide +kernel
theorem dX8_fitting_45 : decode cX8_fitting 45 = .ok (.invokevirtual 41, 3) := by decide +kernel
theorem dX8_fitting_48 : decode cX8_fitting 48 = .ok (.imul, 1) := by decide +kernel
theorem dX8_fitting_49 : decode cX8_fitting 49 = .ok (.iadd, 1) := by decide +kernel
theorem dX8_fitting_50 : decode cX8_fitting 50 = .ok (.bipush 17, 2) := by decide +kernel
theorem dX8_fitting_52 : decode cX8_fitting 52 = .ok (.aload_n 0, 1) := by decide +kernel
theorem dX8_fitting_53 : decode cX8_fitting 53 = .ok (.iload_n 1, 1) := by decide +kernel
theorem dX8_fitting_54 : decode cX8_fitting 54 = .ok (.iconst 4, 1) := by decide +kernel
theorem dX8_fitting_55 : decode cX8_fitting 55 = .ok (.invokevirtual 41, 3) := by decide +kernel
theorem dX8_fitting_58 : decode cX8_fitting 58 = .ok (.imul, 1) := by decide +kernel
theorem dX8_fitting_59 : decode cX8_fitting 59 = .ok (.iadd, 1) := by decide +kernel
theorem dX8_fitting_60 : decode cX8_fitting 60 = .ok (.bipush 19, 2) := by decide +kernel
theorem dX8_fitting_62 : decode cX8_fitting 62 = .ok (.iload_n 1, 1) := by decide +kernel
theorem dX8_fitting_63 : decode cX8_fitting 63 = .ok (.imul, 1) := by decide +kernel
theorem dX8_fitting_64 : decode cX8_fitting 64 = .ok (.iadd, 1) := by decide +kernel
theorem dX8_fitting_65 : decode cX8_fitting 65 = .ok (.sipush 9973, 3) := by decide +kernel
theorem dX8_fitting_68 : decode cX8_fitting 68 = .ok (.irem, 1) := by decide +kernel
theorem dX8_fitting_69 : decode cX8_fitting 69 = .ok (.ireturn, 1) := by decide +kernel
set_option maxRecDepth 20000 in
theorem ggX8_isWaiting_X8_br : GoodIn wsX8_isWaiting wsX8_br := goodIn_r _ [5, 6, 7, 8, 9, 10, 11, 12, 13, 14, 15, 16] (by decide +kernel) (by decide +kernel)
set_option maxRecDepth 20000 in
theorem gX8_isWaiting_X8_br : GoodIn wsX8_isWaiting (wsV RX8 49 RX8 yX8_br wsX8_br) := goodIn_app (goodIn_of _ (by decide +kernel)) ggX8_isWaiting_X8_br
theorem dX8_isWaiting_0 : decode cX8_isWaiting 0 = .ok (.aload_n 0, 1) := by decide +kernel
theorem dX8_isWaiting_1 : decode cX8_isWaiting 1 = .ok (.iload_n 1, 1) := by decide +kernel
theorem dX8_isWaiting_2 : decode cX8_isWaiting 2 = .ok (.iconst 3, 1) := by decide +kernel
theorem dX8_isWaiting_3 : decode cX8_isWaiting 3 = .ok (.invokevirtual 49, 3) := by decide +kernel
theorem dX8_isWaiting_6 : decode cX8_isWaiting 6 = .ok (.ifCond .ne 7, 3) := by decide +kernel
theorem dX8_isWaiting_9 : decode cX8_isWaiting 9 = .ok (.iconst 1, 1) := by decide +kernel
theorem dX8_isWaiting_10 : decode cX8_isWaiting 10 = .ok (.goto 4, 3) := by decide +kernel
theorem dX8_isWaiting_13 : decode cX8_isWaiting 13 = .ok (.iconst 0, 1) := by decide +kernel
theorem dX8_isWaiting_14 : decode cX8_isWaiting 14 = .ok (.ireturn, 1) := by decide +kernel
set_option maxRecDepth 20000 in
theorem ggX8_isLoud_X8_isWaiting : GoodIn wsX8_isLoud wsX8_isWaiting := goodIn_r _ [6, 7, 8, 9, 5, 10, 1, 11, 12, 13, 14, 15, 16, 17, 18, 19, 20] (by decide +kernel) (by decide +kernel)
set_option maxRecDepth 20000 in
theorem gX8_isLoud_X8_isWaiting : GoodIn wsX8_isLoud (wsV RX8 52 RX8 yX8_isWaiting wsX8_isWaiting) := goodIn_app (goodIn_of _ (by decide +kernel)) ggX8_isLoud_X8_isWaiting
set_option maxRecDepth 20000 in
theorem ggX8_isLoud_X8_br : GoodIn wsX8_isLoud wsX8_br := goodIn_r _ [10, 1, 11, 12, 13, 14, 15, 16, 17, 18, 19, 20] (by decide +kernel) (by decide +kernel)
set_option maxRecDepth 20000 in
theorem gX8_isLoud_X8_br : GoodIn wsX8_isLoud (wsV RX8 49 RX8 yX8_br wsX8_br) := goodIn_app (goodIn_of _ (by decide +kernel)) ggX8_isLoud_X8_br
theorem dX8_isLoud_0 : decode cX8_isLoud 0 = .ok (.aload_n 0, 1) := by decide +kernel
theorem dX8_isLoud_1 : decode cX8_isLoud 1 = .ok (.iload_n 1, 1) := by decide +kernel
theorem dX8_isLoud_2 : decode cX8_isLoud 2 = .ok (.invokevirtual 52, 3) := by decide +kernel
theorem dX8_isLoud_5 : decode cX8_isLoud 5 = .ok (.ifCond .eq 22, 3) := by decide +kernel
theorem dX8_isLoud_8 : decode cX8_isLoud 8 = .ok (.aload_n 0, 1) := by decide +kernel
theorem dX8_isLoud_9 : decode cX8_isLoud 9 = .ok (.iload_n 1, 1) := by decide +kernel
theorem dX8_isLoud_10 : decode cX8_isLoud 10 = .ok (.iconst 2, 1) := by decide +kernel
theorem dX8_isLoud_11 : decode cX8_isLoud 11 = .ok (.invokevirtual 49, 3) := by decide +kernel
theorem dX8_isLoud_14 : decode cX8_isLoud 14 = .ok (.aload_n 0, 1) := by decide +kernel
theorem dX8_isLoud_15 : decode cX8_isLoud 15 = .ok (.getfield 7, 3) := by decide +kernel
theorem dX8_isLoud_18 : decode cX8_isLoud 18 = .ok (.iconst 3, 1) := by decide +kernel
theorem dX8_isLoud_19 : decode cX8_isLoud 19 = .ok (.iaload, 1) := by decide +kernel
theorem dX8_isLoud_20 : decode cX8_isLoud 20 = .ok (.if_icmp .lt 7, 3) := by decide +kernel
theorem dX8_isLoud_23 : decode cX8_isLoud 23 = .ok (.iconst 1, 1) := by decide +kernel
theorem dX8_isLoud_24 : decode cX8_isLoud 24 = .ok (.goto 4, 3) := by decide +kernel
theorem dX8_isLoud_27 : decode cX8_isLoud 27 = .ok (.iconst 0, 1) := by decide +kernel
theorem dX8_isLoud_28 : decode cX8_isLoud 28 = .ok (.ireturn, 1) := by decide +kernel
set_option maxRecDepth 20000 in
theorem ggX8_louds_X8_isLoud : GoodIn wsX8_louds wsX8_isLoud := goodIn_r _ [6, 1, 7, 8, 9, 5, 10, 11, 12, 13, 14, 15, 16, 17, 18, 19, 20, 21, 22, 23, 24] (by decide +kernel) (by decide +kernel)
set_option maxRecDepth 20000 in
theorem gX8_louds_X8_isLoud : GoodIn wsX8_louds (wsV RX8 56 RX8 yX8_isLoud wsX8_isLoud) := goodIn_app (goodIn_of _ (by decide +kernel)) ggX8_louds_X8_isLoud
theorem dX8_louds_0 : decode cX8_louds 0 = .ok (.iconst 0, 1) := by decide +kernel
theorem dX8_louds_1 : decode cX8_louds 1 = .ok (.istore_n 1, 1) := by decide +kernel
theorem dX8_louds_2 : decode cX8_louds 2 = .ok (.iconst 0, 1) := by decide +kernel
theorem dX8_louds_3 : decode cX8_louds 3 = .ok (.istore_n 2, 1) := by decide +kernel
theorem dX8_louds_4 : decode cX8_louds 4 = .ok (.iload_n 2, 1) := by decide +kernel
theorem dX8_louds_5 : decode cX8_louds 5 = .ok (.aload_n 0, 1) := by decide +kernel
theorem dX8_louds_6 : decode cX8_louds 6 = .ok (.getfield 7, 3) := by decide +kernel
theorem dX8_louds_9 : decode cX8_louds 9 = .ok (.iconst 2, 1) := by decide +kernel
theorem dX8_louds_10 : decode cX8_louds 10 = .ok (.iaload, 1) := by decide +kernel
theorem dX8_louds_11 : decode cX8_louds 11 = .ok (.if_icmp .ge 25, 3) := by decide +kernel
theorem dX8_louds_14 : decode cX8_louds 14 = .ok (.iload_n 1, 1) := by decide +kernel
theorem dX8_louds_15 : decode cX8_louds 15 = .ok (.aload_n 0, 1) := by decide +kernel
theorem dX8_louds_16 : decode cX8_louds 16 = .ok (.iload_n 2, 1) := by decide +kernel
theorem dX8_louds_17 : decode cX8_louds 17 = .ok (.invokevirtual 56, 3) := by decide +kernel
theorem dX8_louds_20 : decode cX8_louds 20 = .ok (.ifCond .eq 7, 3) := by decide +kernel
theorem dX8_louds_23 : decode cX8_louds 23 = .ok (.iconst 1, 1) := by decide +kernel
theorem dX8_louds_24 : decode cX8_louds 24 = .ok (.goto 4, 3) := by decide +kernel
theorem dX8_louds_27 : decode cX8_louds 27 = .ok (.iconst 0, 1) := by decide +kernel
theorem dX8_louds_28 : decode cX8_louds 28 = .ok (.iadd, 1) := by decide +kernel
theorem dX8_louds_29 : decode cX8_louds 29 = .ok (.istore_n 1, 1) := by decide +kernel
theorem dX8_louds_30 : decode cX8_louds 30 = .ok (.iinc 2 1, 3) := by decide +kernel
theorem dX8_louds_33 : decode cX8_louds 33 = .ok (.goto (-29), 3) := by decide +kernel
theorem dX8_louds_36 : decode cX8_louds 36 = .ok (.iload_n 1, 1) := by decide +kernel
theorem dX8_louds_37 : decode cX8_louds 37 = .ok (.ireturn, 1) := by decide +kernel
set_option maxRecDepth 20000 in
theorem ggX8_puts_X8_fitting : GoodIn wsX8_puts wsX8_fitting := goodIn_r _ [6, 7, 8, 9, 5, 10, 1, 11, 12, 13, 14, 15, 16, 17, 18, 19, 20] (by decide +kernel) (by decide +kernel)
set_option maxRecDepth 20000 in
theorem gX8_puts_X8_fitting : GoodIn wsX8_puts (wsV RX8 59 RX8 yX8_fitting wsX8_fitting) := goodIn_app (goodIn_of _ (by decide +kernel)) ggX8_puts_X8_fitting
theorem dX8_puts_0 : decode cX8_puts 0 = .ok (.aload_n 0, 1) := by decide +kernel
theorem dX8_puts_1 : decode cX8_puts 1 = .ok (.getfield 7, 3) := by decide +kernel
theorem dX8_puts_4 : decode cX8_puts 4 = .ok (.iconst 0, 1) := by decide +kernel
theorem dX8_puts_5 : decode cX8_puts 5 = .ok (.iaload, 1) := by decide +kernel
theorem dX8_puts_6 : decode cX8_puts 6 = .ok (.istore 6, 2) := by decide +kernel
theorem dX8_puts_8 : decode cX8_puts 8 = .ok (.iconst 5, 1) := by decide +kernel
theorem dX8_puts_9 : decode cX8_puts 9 = .ok (.bipush 7, 2) := by decide +kernel
theorem dX8_puts_11 : decode cX8_puts 11 = .ok (.iload 6, 2) := by decide +kernel
theorem dX8_puts_13 : decode cX8_puts 13 = .ok (.imul, 1) := by decide +kernel
theorem dX8_puts_14 : decode cX8_puts 14 = .ok (.iadd, 1) := by decide +kernel
theorem dX8_puts_15 : decode cX8_puts 15 = .ok (.istore 7, 2) := by decide +kernel
theorem dX8_puts_17 : decode cX8_puts 17 = .ok (.aload_n 0, 1) := by decide +kernel
theorem dX8_puts_18 : decode cX8_puts 18 = .ok (.getfield 7, 3) := by decide +kernel
theorem dX8_puts_21 : decode cX8_puts 21 = .ok (.iload 7, 2) := by decide +kernel
theorem dX8_puts_23 : decode cX8_puts 23 = .ok (.iconst 0, 1) := by decide +kernel
theorem dX8_puts_24 : decode cX8_puts 24 = .ok (.iadd, 1) := by decide +kernel
theorem dX8_puts_25 : decode cX8_puts 25 = .ok (.aload_n 0, 1) := by decide +kernel
theorem dX8_puts_26 : decode cX8_puts 26 = .ok (.getfield 7, 3) := by decide +kernel
theorem dX8_puts_29 : decode cX8_puts 29 = .ok (.iconst 1, 1) := by decide +kernel
theorem dX8_puts_30 : decode cX8_puts 30 = .ok (.iaload, 1) := by decide +kernel
theorem dX8_puts_31 : decode cX8_puts 31 = .ok (.iastore, 1) := by decide +kernel
theorem dX8_puts_32 : decode cX8_puts 32 = .ok (.aload_n 0, 1) := by decide +kernel
theorem dX8_puts_33 : decode cX8_puts 33 = .ok (.getfield 7, 3) := by decide +kernel
theorem dX8_puts_36 : decode cX8_puts 36 = .ok (.iload 7, 2) := by decide +kernel
theorem dX8_puts_38 : decode cX8_puts 38 = .ok (.iconst 1, 1) := by decide +kernel
theorem dX8_puts_39 : decode cX8_puts 39 = .ok (.iadd, 1) := by decide +kernel
theorem dX8_puts_40 : decode cX8_puts 40 = .ok (.iload_n 1, 1) := by decide +kernel
theorem dX8_puts_41 : decode cX8_puts 41 = .ok (.iastore, 1) := by decide +kernel
theorem dX8_puts_42 : decode cX8_puts 42 = .ok (.aload_n 0, 1) := by decide +kernel
theorem dX8_puts_43 : decode cX8_puts 43 = .ok (.getfield 7, 3) := by decide +kernel
theorem dX8_puts_46 : decode cX8_puts 46 = .ok (.iload 7, 2) := by decide +kernel
theorem dX8_puts_48 : decode cX8_puts 48 = .ok (.iconst 2, 1) := by decide +kernel
theorem dX8_puts_49 : decode cX8_puts 49 = .ok (.iadd, 1) := by decide +kernel
theorem dX8_puts_50 : decode cX8_puts 50 = .ok (.iload_n 2, 1) := by decide +kernel
theorem dX8_puts_51 : decode cX8_puts 51 = .ok (.iastore, 1) := by decide +kernel
theorem dX8_puts_52 : decode cX8_puts 52 = .ok (.aload_n 0, 1) := by decide +kernel
theorem dX8_puts_53 : decode cX8_puts 53 = .ok (.getfield 7, 3) := by decide +kernel
theorem dX8_puts_56 : decode cX8_puts 56 = .ok (.iload 7, 2) := by decide +kernel
theorem dX8_puts_58 : decode cX8_puts 58 = .ok (.iconst 3, 1) := by decide +kernel
theorem dX8_puts_59 : decode cX8_puts 59 = .ok (.iadd, 1) := by decide +kernel
theorem dX8_puts_60 : decode cX8_puts 60 = .ok (.iload_n 3, 1) := by decide +kernel
theorem dX8_puts_61 : decode cX8_puts 61 = .ok (.iastore, 1) := by decide +kernel
theorem dX8_puts_62 : decode cX8_puts 62 = .ok (.aload_n 0, 1) := by decide +kernel
theorem dX8_puts_63 : decode cX8_puts 63 = .ok (.getfield 7, 3) := by decide +kernel
theorem dX8_puts_66 : decode cX8_puts 66 = .ok (.iload 7, 2) := by decide +kernel
theorem dX8_puts_68 : decode cX8_puts 68 = .ok (.iconst 4, 1) := by decide +kernel
theorem dX8_puts_69 : decode cX8_puts 69 = .ok (.iadd, 1) := by decide +kernel
theorem dX8_puts_70 : decode cX8_puts 70 = .ok (.iload 4, 2) := by decide +kernel
theorem dX8_puts_72 : decode cX8_puts 72 = .ok (.iastore, 1) := by decide +kernel
theorem dX8_puts_73 : decode cX8_puts 73 = .ok (.aload_n 0, 1) := by decide +kernel
theorem dX8_puts_74 : decode cX8_puts 74 = .ok (.getfield 7, 3) := by decide +kernel
theorem dX8_puts_77 : decode cX8_puts 77 = .ok (.iload 7, 2) := by decide +kernel
theorem dX8_puts_79 : decode cX8_puts 79 = .ok (.bipush 6, 2) := by decide +kernel
theorem dX8_puts_81 : decode cX8_puts 81 = .ok (.iadd, 1) := by decide +kernel
theorem dX8_puts_82 : decode cX8_puts 82 = .ok (.iload 5, 2) := by decide +kernel
theorem dX8_puts_84 : decode cX8_puts 84 = .ok (.iastore, 1) := by decide +kernel
theorem dX8_puts_85 : decode cX8_puts 85 = .ok (.aload_n 0, 1) := by decide +kernel
theorem dX8_puts_86 : decode cX8_puts 86 = .ok (.getfield 7, 3) := by decide +kernel
theorem dX8_puts_89 : decode cX8_puts 89 = .ok (.iload 7, 2) := by decide +kernel
theorem dX8_puts_91 : decode cX8_puts 91 = .ok (.iconst 5, 1) := by decide +kernel
theorem dX8_puts_92 : decode cX8_puts 92 = .ok (.iadd, 1) := by decide +kernel
theorem dX8_puts_93 : decode cX8_puts 93 = .ok (.aload_n 0, 1) := by decide +kernel
theorem dX8_puts_94 : decode cX8_puts 94 = .ok (.iload 6, 2) := by decide +kernel
theorem dX8_puts_96 : decode cX8_puts 96 = .ok (.invokevirtual 59, 3) := by decide +kernel
theorem dX8_puts_99 : decode cX8_puts 99 = .ok (.iastore, 1) := by decide +kernel
theorem dX8_puts_100 : decode cX8_puts 100 = .ok (.aload_n 0, 1) := by decide +kernel
theorem dX8_puts_101 : decode cX8_puts 101 = .ok (.getfield 7, 3) := by decide +kernel
theorem dX8_puts_104 : decode cX8_puts 104 = .ok (.iconst 0, 1) := by decide +kernel
theorem dX8_puts_105 : decode cX8_puts 105 = .ok (.dup2, 1) := by decide +kernel
theorem dX8_puts_106 : decode cX8_puts 106 = .ok (.iaload, 1) := by decide +kernel
theorem dX8_puts_107 : decode cX8_puts 107 = .ok (.iconst 1, 1) := by decide +kernel
theorem dX8_puts_108 : decode cX8_puts 108 = .ok (.iadd, 1) := by decide +kernel
theorem dX8_puts_109 : decode cX8_puts 109 = .ok (.iastore, 1) := by decide +kernel
theorem dX8_puts_110 : decode cX8_puts 110 = .ok (.aload_n 0, 1) := by decide +kernel
theorem dX8_puts_111 : decode cX8_puts 111 = .ok (.getfield 7, 3) := by decide +kernel
theorem dX8_puts_114 : decode cX8_puts 114 = .ok (.iconst 1, 1) := by decide +kernel
theorem dX8_puts_115 : decode cX8_puts 115 = .ok (.iload 6, 2) := by decide +kernel
theorem dX8_puts_117 : decode cX8_puts 117 = .ok (.iastore, 1) := by decide +kernel
theorem dX8_puts_118 : decode cX8_puts 118 = .ok (.iload 6, 2) := by decide +kernel
theorem dX8_puts_120 : decode cX8_puts 120 = .ok (.ireturn, 1) := by decide +kernel
set_option maxRecDepth 20000 in
theorem ggX8_writes_X8_balances : GoodIn wsX8_writes wsX8_balances := goodIn_r _ [10, 2, 11, 12, 13, 9, 14, 15, 16, 17, 18, 1, 19, 20, 21, 52, 53, 54, 55, 56, 57, 58, 59, 60, 61] (by decide +kernel) (by decide +kernel)
set_option maxRecDepth 20000 in
theorem gX8_writes_X8_balances : GoodIn wsX8_writes (wsV RX8 63 RX8 yX8_balances wsX8_balances) := goodIn_app (goodIn_of _ (by decide +kernel)) ggX8_writes_X8_balances
set_option maxRecDepth 20000 in
theorem ggX8_writes_X8_louds : GoodIn wsX8_writes wsX8_louds := goodIn_r _ [25, 1, 26, 27, 28, 9, 29, 30, 31, 32, 33, 34, 35, 36, 37, 52, 53, 54, 55, 56, 57, 58, 59, 60, 61] (by decide +kernel) (by decide +kernel)
set_option maxRecDepth 20000 in
theorem gX8_writes_X8_louds : GoodIn wsX8_writes (wsV RX8 67 RX8 yX8_louds wsX8_louds) := goodIn_app (goodIn_of _ (by decide +kernel)) ggX8_writes_X8_louds
set_option maxRecDepth 20000 in
theorem ggX8_writes_X8_records : GoodIn wsX8_writes wsX8_records := goodIn_r _ [41, 42, 43, 1, 52, 53, 54, 55, 56, 57, 58, 59, 60, 61] (by decide +kernel) (by decide +kernel)
set_option maxRecDepth 20000 in
theorem gX8_writes_X8_records : GoodIn wsX8_writes (wsV RX8 73 RX8 yX8_records wsX8_records) := goodIn_app (goodIn_of _ (by decide +kernel)) ggX8_writes_X8_records
set_option maxRecDepth 20000 in
theorem ggX8_writes_X8_isWaiting : GoodIn wsX8_writes wsX8_isWaiting := goodIn_r _ [33, 34, 35, 36, 9, 37, 1, 52, 53, 54, 55, 56, 57, 58, 59, 60, 61] (by decide +kernel) (by decide +kernel)
set_option maxRecDepth 20000 in
theorem gX8_writes_X8_isWaiting : GoodIn wsX8_writes (wsV RX8 52 RX8 yX8_isWaiting wsX8_isWaiting) := goodIn_app (goodIn_of _ (by decide +kernel)) ggX8_writes_X8_isWaiting
set_option maxRecDepth 20000 in
theorem ggX8_writes_X8_puts : GoodIn wsX8_writes wsX8_puts := goodIn_r _ [47, 1, 48, 49, 50, 9, 51, 15, 16, 17, 18, 52, 53, 54, 55, 56, 57, 58, 59, 60, 61] (by decide +kernel) (by decide +kernel)
set_option maxRecDepth 20000 in
theorem gX8_writes_X8_puts : GoodIn wsX8_writes (wsV RX8 76 RX8 yX8_puts wsX8_puts) := goodIn_app (goodIn_of _ (by decide +kernel)) ggX8_writes_X8_puts
theorem dX8_writes_0 : decode cX8_writes 0 = .ok (.aload_n 0, 1) := by decide +kernel
theorem dX8_writes_1 : decode cX8_writes 1 = .ok (.aload_n 0, 1) := by decide +kernel
theorem dX8_writes_2 : decode cX8_writes 2 = .ok (.getfield 7, 3) := by decide +kernel
theorem dX8_writes_5 : decode cX8_writes 5 = .ok (.iconst 1, 1) := by decide +kernel
theorem dX8_writes_6 : decode cX8_writes 6 = .ok (.iaload, 1) := by decide +kernel
theorem dX8_writes_7 : decode cX8_writes 7 = .ok (.invokevirtual 63, 3) := by decide +kernel
theorem dX8_writes_10 : decode cX8_writes 10 = .ok (.aload_n 0, 1) := by decide +kernel
theorem dX8_writes_11 : decode cX8_writes 11 = .ok (.invokevirtual 67, 3) := by decide +kernel
theorem dX8_writes_14 : decode cX8_writes 14 = .ok (.ifCond .gt 24, 3) := by decide +kernel
theorem dX8_writes_17 : decode cX8_writes 17 = .ok (.iload_n 1, 1) := by decide +kernel
theorem dX8_writes_18 : decode cX8_writes 18 = .ok (.iconst 2, 1) := by decide +kernel
theorem dX8_writes_19 : decode cX8_writes 19 = .ok (.if_icmp .eq 8, 3) := by decide +kernel
theorem dX8_writes_22 : decode cX8_writes 22 = .ok (.iload_n 1, 1) := by decide +kernel
theorem dX8_writes_23 : decode cX8_writes 23 = .ok (.iconst 3, 1) := by decide +kernel
theorem dX8_writes_24 : decode cX8_writes 24 = .ok (.if_icmp .ne 17, 3) := by decide +kernel
theorem dX8_writes_27 : decode cX8_writes 27 = .ok (.aload_n 0, 1) := by decide +kernel
theorem dX8_writes_28 : decode cX8_writes 28 = .ok (.getfield 20, 3) := by decide +kernel
theorem dX8_writes_31 : decode cX8_writes 31 = .ok (.iload_n 2, 1) := by decide +kernel
theorem dX8_writes_32 : decode cX8_writes 32 = .ok (.iaload, 1) := by decide +kernel
theorem dX8_writes_33 : decode cX8_writes 33 = .ok (.iload 4, 2) := by decide +kernel
theorem dX8_writes_35 : decode cX8_writes 35 = .ok (.if_icmp .ge 6, 3) := by decide +kernel
theorem dX8_writes_38 : decode cX8_writes 38 = .ok (.ldc 71, 2) := by decide +kernel
theorem dX8_writes_40 : decode cX8_writes 40 = .ok (.ireturn, 1) := by decide +kernel
theorem dX8_writes_41 : decode cX8_writes 41 = .ok (.aload_n 0, 1) := by decide +kernel
theorem dX8_writes_42 : decode cX8_writes 42 = .ok (.getfield 7, 3) := by decide +kernel
theorem dX8_writes_45 : decode cX8_writes 45 = .ok (.iconst 0, 1) := by decide +kernel
theorem dX8_writes_46 : decode cX8_writes 46 = .ok (.iaload, 1) := by decide +kernel
theorem dX8_writes_47 : decode cX8_writes 47 = .ok (.bipush 60, 2) := by decide +kernel
theorem dX8_writes_49 : decode cX8_writes 49 = .ok (.if_icmp .ne 6, 3) := by decide +kernel
theorem dX8_writes_52 : decode cX8_writes 52 = .ok (.ldc 72, 2) := by decide +kernel
theorem dX8_writes_54 : decode cX8_writes 54 = .ok (.ireturn, 1) := by decide +kernel
theorem dX8_writes_55 : decode cX8_writes 55 = .ok (.aload_n 0, 1) := by decide +kernel
theorem dX8_writes_56 : decode cX8_writes 56 = .ok (.invokevirtual 73, 3) := by decide +kernel
theorem dX8_writes_59 : decode cX8_writes 59 = .ok (.iconst 0, 1) := by decide +kernel
theorem dX8_writes_60 : decode cX8_writes 60 = .ok (.istore 5, 2) := by decide +kernel
theorem dX8_writes_62 : decode cX8_writes 62 = .ok (.iload 5, 2) := by decide +kernel
theorem dX8_writes_64 : decode cX8_writes 64 = .ok (.aload_n 0, 1) := by decide +kernel
theorem dX8_writes_65 : decode cX8_writes 65 = .ok (.getfield 7, 3) := by decide +kernel
theorem dX8_writes_68 : decode cX8_writes 68 = .ok (.iconst 2, 1) := by decide +kernel
theorem dX8_writes_69 : decode cX8_writes 69 = .ok (.iaload, 1) := by decide +kernel
theorem dX8_writes_70 : decode cX8_writes 70 = .ok (.if_icmp .ge 41, 3) := by decide +kernel
theorem dX8_writes_73 : decode cX8_writes 73 = .ok (.aload_n 0, 1) := by decide +kernel
theorem dX8_writes_74 : decode cX8_writes 74 = .ok (.getfield 7, 3) := by decide +kernel
theorem dX8_writes_77 : decode cX8_writes 77 = .ok (.sipush 425, 3) := by decide +kernel
theorem dX8_writes_80 : decode cX8_writes 80 = .ok (.iconst 4, 1) := by decide +kernel
theorem dX8_writes_81 : decode cX8_writes 81 = .ok (.iload 5, 2) := by decide +kernel
theorem dX8_writes_83 : decode cX8_writes 83 = .ok (.imul, 1) := by decide +kernel
theorem dX8_writes_84 : decode cX8_writes 84 = .ok (.iadd, 1) := by decide +kernel
theorem dX8_writes_85 : decode cX8_writes 85 = .ok (.iconst 2, 1) := by decide +kernel
theorem dX8_writes_86 : decode cX8_writes 86 = .ok (.iadd, 1) := by decide +kernel
theorem dX8_writes_87 : decode cX8_writes 87 = .ok (.dup2, 1) := by decide +kernel
theorem dX8_writes_88 : decode cX8_writes 88 = .ok (.iaload, 1) := by decide +kernel
theorem dX8_writes_89 : decode cX8_writes 89 = .ok (.aload_n 0, 1) := by decide +kernel
theorem dX8_writes_90 : decode cX8_writes 90 = .ok (.iload 5, 2) := by decide +kernel
theorem dX8_writes_92 : decode cX8_writes 92 = .ok (.invokevirtual 52, 3) := by decide +kernel
theorem dX8_writes_95 : decode cX8_writes 95 = .ok (.ifCond .eq 7, 3) := by decide +kernel
theorem dX8_writes_98 : decode cX8_writes 98 = .ok (.iconst 1, 1) := by decide +kernel
theorem dX8_writes_99 : decode cX8_writes 99 = .ok (.goto 4, 3) := by decide +kernel
theorem dX8_writes_102 : decode cX8_writes 102 = .ok (.iconst 0, 1) := by decide +kernel
theorem dX8_writes_103 : decode cX8_writes 103 = .ok (.iadd, 1) := by decide +kernel
theorem dX8_writes_104 : decode cX8_writes 104 = .ok (.iastore, 1) := by decide +kernel
theorem dX8_writes_105 : decode cX8_writes 105 = .ok (.iinc 5 1, 3) := by decide +kernel
theorem dX8_writes_108 : decode cX8_writes 108 = .ok (.goto (-46), 3) := by decide +kernel
theorem dX8_writes_111 : decode cX8_writes 111 = .ok (.aload_n 0, 1) := by decide +kernel
theorem dX8_writes_112 : decode cX8_writes 112 = .ok (.iload_n 1, 1) := by decide +kernel
theorem dX8_writes_113 : decode cX8_writes 113 = .ok (.iload_n 2, 1) := by decide +kernel
theorem dX8_writes_114 : decode cX8_writes 114 = .ok (.iload_n 3, 1) := by decide +kernel
theorem dX8_writes_115 : decode cX8_writes 115 = .ok (.iload 4, 2) := by decide +kernel
theorem dX8_writes_117 : decode cX8_writes 117 = .ok (.ldc 32, 2) := by decide +kernel
theorem dX8_writes_119 : decode cX8_writes 119 = .ok (.invokevirtual 76, 3) := by decide +kernel
theorem dX8_writes_122 : decode cX8_writes 122 = .ok (.ireturn, 1) := by decide +kernel
set_option maxRecDepth 20000 in
theorem ggX8_deposit_X8_in : GoodIn wsX8_deposit wsX8_in := goodIn_r _ [5] (by decide +kernel) (by decide +kernel)
set_option maxRecDepth 20000 in
theorem gX8_deposit_X8_in : GoodIn wsX8_deposit (va_wsS RX8 33 yX8_in wsX8_in) := goodIn_app (goodIn_of _ (by decide +kernel)) ggX8_deposit_X8_in
set_option maxRecDepth 20000 in
theorem ggX8_deposit_X8_writes : GoodIn wsX8_deposit wsX8_writes := goodIn_r _ [9, 10, 11, 12, 13, 14, 15, 16, 17, 4, 18, 19, 20, 21, 22, 23, 24, 25, 26, 2, 3, 5, 27, 28, 29, 30, 31, 32, 33, 34, 35, 36, 37, 38, 39, 40, 41, 42, 43, 44, 45, 46, 47, 48, 49, 50, 51, 52, 53, 54, 55, 56, 57, 58, 59, 60, 61, 62, 63, 64, 65, 66] (by decide +kernel) (by decide +kernel)
set_option maxRecDepth 20000 in
theorem gX8_deposit_X8_writes : GoodIn wsX8_deposit (wsV RX8 80 RX8 yX8_writes wsX8_writes) := goodIn_app (goodIn_of _ (by decide +kernel)) ggX8_deposit_X8_writes
theorem dX8_deposit_0 : decode cX8_deposit 0 = .ok (.iload_n 1, 1) := by decide +kernel
theorem dX8_deposit_1 : decode cX8_deposit 1 = .ok (.iconst 0, 1) := by decide +kernel
theorem dX8_deposit_2 : decode cX8_deposit 2 = .ok (.iconst 5, 1) := by decide +kernel
theorem dX8_deposit_3 : decode cX8_deposit 3 = .ok (.invokestatic 33, 3) := by decide +kernel
theorem dX8_deposit_6 : decode cX8_deposit 6 = .ok (.ifCond .eq 25, 3) := by decide +kernel
theorem dX8_deposit_9 : decode cX8_deposit 9 = .ok (.iload_n 2, 1) := by decide +kernel
theorem dX8_deposit_10 : decode cX8_deposit 10 = .ok (.iconst 1, 1) := by decide +kernel
theorem dX8_deposit_11 : decode cX8_deposit 11 = .ok (.sipush 999, 3) := by decide +kernel
theorem dX8_deposit_14 : decode cX8_deposit 14 = .ok (.invokestatic 33, 3) := by decide +kernel
theorem dX8_deposit_17 : decode cX8_deposit 17 = .ok (.ifCond .eq 14, 3) := by decide +kernel
theorem dX8_deposit_20 : decode cX8_deposit 20 = .ok (.aload_n 0, 1) := by decide +kernel
theorem dX8_deposit_21 : decode cX8_deposit 21 = .ok (.iconst 1, 1) := by decide +kernel
theorem dX8_deposit_22 : decode cX8_deposit 22 = .ok (.iconst 0, 1) := by decide +kernel
theorem dX8_deposit_23 : decode cX8_deposit 23 = .ok (.iload_n 1, 1) := by decide +kernel
theorem dX8_deposit_24 : decode cX8_deposit 24 = .ok (.iload_n 2, 1) := by decide +kernel
theorem dX8_deposit_25 : decode cX8_deposit 25 = .ok (.invokevirtual 80, 3) := by decide +kernel
theorem dX8_deposit_28 : decode cX8_deposit 28 = .ok (.goto 5, 3) := by decide +kernel
theorem dX8_deposit_31 : decode cX8_deposit 31 = .ok (.ldc 84, 2) := by decide +kernel
theorem dX8_deposit_33 : decode cX8_deposit 33 = .ok (.ireturn, 1) := by decide +kernel
set_option maxRecDepth 20000 in
theorem ggX8_pay_X8_in : GoodIn wsX8_pay wsX8_in := goodIn_r _ [5] (by decide +kernel) (by decide +kernel)
set_option maxRecDepth 20000 in
theorem gX8_pay_X8_in : GoodIn wsX8_pay (va_wsS RX8 33 yX8_in wsX8_in) := goodIn_app (goodIn_of _ (by decide +kernel)) ggX8_pay_X8_in
set_option maxRecDepth 20000 in
theorem ggX8_pay_X8_writes : GoodIn wsX8_pay wsX8_writes := goodIn_r _ [9, 10, 11, 12, 13, 14, 15, 16, 17, 4, 18, 19, 20, 21, 22, 23, 24, 25, 26, 2, 3, 5, 27, 28, 29, 30, 31, 32, 33, 34, 35, 36, 37, 38, 39, 40, 41, 42, 43, 44, 45, 46, 47, 48, 49, 50, 51, 52, 53, 54, 55, 56, 57, 58, 59, 60, 61, 62, 63, 64, 65, 66] (by decide +kernel) (by decide +kernel)
set_option maxRecDepth 20000 in
theorem gX8_pay_X8_writes : GoodIn wsX8_pay (wsV RX8 80 RX8 yX8_writes wsX8_writes) := goodIn_app (goodIn_of _ (by decide +kernel)) ggX8_pay_X8_writes
theorem dX8_pay_0 : decode cX8_pay 0 = .ok (.iload_n 1, 1) := by decide +kernel
theorem dX8_pay_1 : decode cX8_pay 1 = .ok (.iconst 1, 1) := by decide +kernel
theorem dX8_pay_2 : decode cX8_pay 2 = .ok (.iconst 5, 1) := by decide +kernel
theorem dX8_pay_3 : decode cX8_pay 3 = .ok (.invokestatic 33, 3) := by decide +kernel
theorem dX8_pay_6 : decode cX8_pay 6 = .ok (.ifCond .eq 39, 3) := by decide +kernel
theorem dX8_pay_9 : decode cX8_pay 9 = .ok (.iload_n 2, 1) := by decide +kernel
theorem dX8_pay_10 : decode cX8_pay 10 = .ok (.iconst 1, 1) := by decide +kernel
theorem dX8_pay_11 : decode cX8_pay 11 = .ok (.iconst 5, 1) := by decide +kernel
theorem dX8_pay_12 : decode cX8_pay 12 = .ok (.invokestatic 33, 3) := by decide +kernel
theorem dX8_pay_15 : decode cX8_pay 15 = .ok (.ifCond .eq 30, 3) := by decide +kernel
theorem dX8_pay_18 : decode cX8_pay 18 = .ok (.iload_n 3, 1) := by decide +kernel
theorem dX8_pay_19 : decode cX8_pay 19 = .ok (.iconst 1, 1) := by decide +kernel
theorem dX8_pay_20 : decode cX8_pay 20 = .ok (.sipush 999, 3) := by decide +kernel
theorem dX8_pay_23 : decode cX8_pay 23 = .ok (.invokestatic 33, 3) := by decide +kernel
theorem dX8_pay_26 : decode cX8_pay 26 = .ok (.ifCond .eq 19, 3) := by decide +kernel
theorem dX8_pay_29 : decode cX8_pay 29 = .ok (.iload_n 1, 1) := by decide +kernel
theorem dX8_pay_30 : decode cX8_pay 30 = .ok (.iload_n 2, 1) := by decide +kernel
theorem dX8_pay_31 : decode cX8_pay 31 = .ok (.if_icmp .eq 14, 3) := by decide +kernel
theorem dX8_pay_34 : decode cX8_pay 34 = .ok (.aload_n 0, 1) := by decide +kernel
theorem dX8_pay_35 : decode cX8_pay 35 = .ok (.iconst 2, 1) := by decide +kernel
theorem dX8_pay_36 : decode cX8_pay 36 = .ok (.iload_n 1, 1) := by decide +kernel
theorem dX8_pay_37 : decode cX8_pay 37 = .ok (.iload_n 2, 1) := by decide +kernel
theorem dX8_pay_38 : decode cX8_pay 38 = .ok (.iload_n 3, 1) := by decide +kernel
theorem dX8_pay_39 : decode cX8_pay 39 = .ok (.invokevirtual 80, 3) := by decide +kernel
theorem dX8_pay_42 : decode cX8_pay 42 = .ok (.goto 5, 3) := by decide +kernel
theorem dX8_pay_45 : decode cX8_pay 45 = .ok (.ldc 84, 2) := by decide +kernel
theorem dX8_pay_47 : decode cX8_pay 47 = .ok (.ireturn, 1) := by decide +kernel
set_option maxRecDepth 20000 in
theorem ggX8_fee_X8_in : GoodIn wsX8_fee wsX8_in := goodIn_r _ [5] (by decide +kernel) (by decide +kernel)
set_option maxRecDepth 20000 in
theorem gX8_fee_X8_in : GoodIn wsX8_fee (va_wsS RX8 33 yX8_in wsX8_in) := goodIn_app (goodIn_of _ (by decide +kernel)) ggX8_fee_X8_in
set_option maxRecDepth 20000 in
theorem ggX8_fee_X8_writes : GoodIn wsX8_fee wsX8_writes := goodIn_r _ [9, 10, 11, 12, 13, 14, 15, 16, 17, 4, 18, 19, 20, 21, 22, 23, 24, 25, 26, 2, 3, 5, 27, 28, 29, 30, 31, 32, 33, 34, 35, 36, 37, 38, 39, 40, 41, 42, 43, 44, 45, 46, 47, 48, 49, 50, 51, 52, 53, 54, 55, 56, 57, 58, 59, 60, 61, 62, 63, 64, 65, 66] (by decide +kernel) (by decide +kernel)
set_option maxRecDepth 20000 in
theorem gX8_fee_X8_writes : GoodIn wsX8_fee (wsV RX8 80 RX8 yX8_writes wsX8_writes) := goodIn_app (goodIn_of _ (by decide +kernel)) ggX8_fee_X8_writes
theorem dX8_fee_0 : decode cX8_fee 0 = .ok (.iload_n 1, 1) := by decide +kernel
theorem dX8_fee_1 : decode cX8_fee 1 = .ok (.iconst 1, 1) := by decide +kernel
theorem dX8_fee_2 : decode cX8_fee 2 = .ok (.iconst 5, 1) := by decide +kernel
theorem dX8_fee_3 : decode cX8_fee 3 = .ok (.invokestatic 33, 3) := by decide +kernel
theorem dX8_fee_6 : decode cX8_fee 6 = .ok (.ifCond .eq 25, 3) := by decide +kernel
theorem dX8_fee_9 : decode cX8_fee 9 = .ok (.iload_n 2, 1) := by decide +kernel
theorem dX8_fee_10 : decode cX8_fee 10 = .ok (.iconst 1, 1) := by decide +kernel
theorem dX8_fee_11 : decode cX8_fee 11 = .ok (.sipush 999, 3) := by decide +kernel
theorem dX8_fee_14 : decode cX8_fee 14 = .ok (.invokestatic 33, 3) := by decide +kernel
theorem dX8_fee_17 : decode cX8_fee 17 = .ok (.ifCond .eq 14, 3) := by decide +kernel
theorem dX8_fee_20 : decode cX8_fee 20 = .ok (.aload_n 0, 1) := by decide +kernel
theorem dX8_fee_21 : decode cX8_fee 21 = .ok (.iconst 3, 1) := by decide +kernel
theorem dX8_fee_22 : decode cX8_fee 22 = .ok (.iload_n 1, 1) := by decide +kernel
theorem dX8_fee_23 : decode cX8_fee 23 = .ok (.iconst 0, 1) := by decide +kernel
theorem dX8_fee_24 : decode cX8_fee 24 = .ok (.iload_n 2, 1) := by decide +kernel
theorem dX8_fee_25 : decode cX8_fee 25 = .ok (.invokevirtual 80, 3) := by decide +kernel
theorem dX8_fee_28 : decode cX8_fee 28 = .ok (.goto 5, 3) := by decide +kernel
theorem dX8_fee_31 : decode cX8_fee 31 = .ok (.ldc 84, 2) := by decide +kernel
theorem dX8_fee_33 : decode cX8_fee 33 = .ok (.ireturn, 1) := by decide +kernel
set_option maxRecDepth 20000 in
theorem ggX8_note_X8_in : GoodIn wsX8_note wsX8_in := goodIn_r _ [5] (by decide +kernel) (by decide +kernel)
set_option maxRecDepth 20000 in
theorem gX8_note_X8_in : GoodIn wsX8_note (va_wsS RX8 33 yX8_in wsX8_in) := goodIn_app (goodIn_of _ (by decide +kernel)) ggX8_note_X8_in
set_option maxRecDepth 20000 in
theorem ggX8_note_X8_writes : GoodIn wsX8_note wsX8_writes := goodIn_r _ [9, 10, 11, 12, 13, 14, 15, 16, 17, 4, 18, 19, 20, 21, 22, 23, 24, 25, 26, 2, 3, 5, 27, 28, 29, 30, 31, 32, 33, 34, 35, 36, 37, 38, 39, 40, 41, 42, 43, 44, 45, 46, 47, 48, 49, 50, 51, 52, 53, 54, 55, 56, 57, 58, 59, 60, 61, 62, 63, 64, 65, 66] (by decide +kernel) (by decide +kernel)
set_option maxRecDepth 20000 in
theorem gX8_note_X8_writes : GoodIn wsX8_note (wsV RX8 80 RX8 yX8_writes wsX8_writes) := goodIn_app (goodIn_of _ (by decide +kernel)) ggX8_note_X8_writes
theorem dX8_note_0 : decode cX8_note 0 = .ok (.iload_n 1, 1) := by decide +kernel
theorem dX8_note_1 : decode cX8_note 1 = .ok (.iconst 0, 1) := by decide +kernel
theorem dX8_note_2 : decode cX8_note 2 = .ok (.sipush 999, 3) := by decide +kernel
theorem dX8_note_5 : decode cX8_note 5 = .ok (.invokestatic 33, 3) := by decide +kernel
theorem dX8_note_8 : decode cX8_note 8 = .ok (.ifCond .eq 14, 3) := by decide +kernel
theorem dX8_note_11 : decode cX8_note 11 = .ok (.aload_n 0, 1) := by decide +kernel
theorem dX8_note_12 : decode cX8_note 12 = .ok (.iconst 4, 1) := by decide +kernel
theorem dX8_note_13 : decode cX8_note 13 = .ok (.iconst 0, 1) := by decide +kernel
theorem dX8_note_14 : decode cX8_note 14 = .ok (.iconst 0, 1) := by decide +kernel
theorem dX8_note_15 : decode cX8_note 15 = .ok (.iload_n 1, 1) := by decide +kernel
theorem dX8_note_16 : decode cX8_note 16 = .ok (.invokevirtual 80, 3) := by decide +kernel
theorem dX8_note_19 : decode cX8_note 19 = .ok (.goto 5, 3) := by decide +kernel
theorem dX8_note_22 : decode cX8_note 22 = .ok (.ldc 84, 2) := by decide +kernel
theorem dX8_note_24 : decode cX8_note 24 = .ok (.ireturn, 1) := by decide +kernel
set_option maxRecDepth 20000 in
theorem ggX8_goBack_X8_isEntry : GoodIn wsX8_goBack wsX8_isEntry := goodIn_r _ [9, 2, 10, 11, 8, 12, 31, 32, 33, 34, 35, 36, 37, 38, 39, 40] (by decide +kernel) (by decide +kernel)
set_option maxRecDepth 20000 in
theorem gX8_goBack_X8_isEntry : GoodIn wsX8_goBack (wsV RX8 85 RX8 yX8_isEntry wsX8_isEntry) := goodIn_app (goodIn_of _ (by decide +kernel)) ggX8_goBack_X8_isEntry
set_option maxRecDepth 20000 in
theorem ggX8_goBack_X8_isOnPath : GoodIn wsX8_goBack wsX8_isOnPath := goodIn_r _ [16, 17, 18, 19, 8, 20, 2, 31, 32, 33, 34, 35, 36, 37, 38, 39, 40] (by decide +kernel) (by decide +kernel)
set_option maxRecDepth 20000 in
theorem gX8_goBack_X8_isOnPath : GoodIn wsX8_goBack (wsV RX8 88 RX8 yX8_isOnPath wsX8_isOnPath) := goodIn_app (goodIn_of _ (by decide +kernel)) ggX8_goBack_X8_isOnPath
set_option maxRecDepth 20000 in
theorem ggX8_goBack_X8_records : GoodIn wsX8_goBack wsX8_records := goodIn_r _ [24, 25, 26, 2, 31, 32, 33, 34, 35, 36, 37, 38, 39, 40] (by decide +kernel) (by decide +kernel)
set_option maxRecDepth 20000 in
theorem gX8_goBack_X8_records : GoodIn wsX8_goBack (wsV RX8 73 RX8 yX8_records wsX8_records) := goodIn_app (goodIn_of _ (by decide +kernel)) ggX8_goBack_X8_records
set_option maxRecDepth 20000 in
theorem ggX8_goBack_X8_depth : GoodIn wsX8_goBack wsX8_depth := goodIn_r _ [30, 17, 18, 19, 8, 20, 2, 31, 32, 33, 34, 35, 36, 37, 38, 39, 40] (by decide +kernel) (by decide +kernel)
set_option maxRecDepth 20000 in
theorem gX8_goBack_X8_depth : GoodIn wsX8_goBack (wsV RX8 92 RX8 yX8_depth wsX8_depth) := goodIn_app (goodIn_of _ (by decide +kernel)) ggX8_goBack_X8_depth
theorem dX8_goBack_0 : decode cX8_goBack 0 = .ok (.aload_n 0, 1) := by decide +kernel
theorem dX8_goBack_1 : decode cX8_goBack 1 = .ok (.iload_n 1, 1) := by decide +kernel
theorem dX8_goBack_2 : decode cX8_goBack 2 = .ok (.invokevirtual 85, 3) := by decide +kernel
theorem dX8_goBack_5 : decode cX8_goBack 5 = .ok (.ifCond .ne 6, 3) := by decide +kernel
theorem dX8_goBack_8 : decode cX8_goBack 8 = .ok (.ldc 84, 2) := by decide +kernel
theorem dX8_goBack_10 : decode cX8_goBack 10 = .ok (.ireturn, 1) := by decide +kernel
theorem dX8_goBack_11 : decode cX8_goBack 11 = .ok (.aload_n 0, 1) := by decide +kernel
theorem dX8_goBack_12 : decode cX8_goBack 12 = .ok (.iload_n 1, 1) := by decide +kernel
theorem dX8_goBack_13 : decode cX8_goBack 13 = .ok (.aload_n 0, 1) := by decide +kernel
theorem dX8_goBack_14 : decode cX8_goBack 14 = .ok (.getfield 7, 3) := by decide +kernel
theorem dX8_goBack_17 : decode cX8_goBack 17 = .ok (.iconst 1, 1) := by decide +kernel
theorem dX8_goBack_18 : decode cX8_goBack 18 = .ok (.iaload, 1) := by decide +kernel
theorem dX8_goBack_19 : decode cX8_goBack 19 = .ok (.invokevirtual 88, 3) := by decide +kernel
theorem dX8_goBack_22 : decode cX8_goBack 22 = .ok (.ifCond .ne 6, 3) := by decide +kernel
theorem dX8_goBack_25 : decode cX8_goBack 25 = .ok (.ldc 71, 2) := by decide +kernel
theorem dX8_goBack_27 : decode cX8_goBack 27 = .ok (.ireturn, 1) := by decide +kernel
theorem dX8_goBack_28 : decode cX8_goBack 28 = .ok (.iload_n 1, 1) := by decide +kernel
theorem dX8_goBack_29 : decode cX8_goBack 29 = .ok (.aload_n 0, 1) := by decide +kernel
theorem dX8_goBack_30 : decode cX8_goBack 30 = .ok (.getfield 7, 3) := by decide +kernel
theorem dX8_goBack_33 : decode cX8_goBack 33 = .ok (.iconst 1, 1) := by decide +kernel
theorem dX8_goBack_34 : decode cX8_goBack 34 = .ok (.iaload, 1) := by decide +kernel
theorem dX8_goBack_35 : decode cX8_goBack 35 = .ok (.if_icmp .eq 17, 3) := by decide +kernel
theorem dX8_goBack_38 : decode cX8_goBack 38 = .ok (.aload_n 0, 1) := by decide +kernel
theorem dX8_goBack_39 : decode cX8_goBack 39 = .ok (.getfield 7, 3) := by decide +kernel
theorem dX8_goBack_42 : decode cX8_goBack 42 = .ok (.iconst 2, 1) := by decide +kernel
theorem dX8_goBack_43 : decode cX8_goBack 43 = .ok (.iaload, 1) := by decide +kernel
theorem dX8_goBack_44 : decode cX8_goBack 44 = .ok (.bipush 10, 2) := by decide +kernel
theorem dX8_goBack_46 : decode cX8_goBack 46 = .ok (.if_icmp .ne 6, 3) := by decide +kernel
theorem dX8_goBack_49 : decode cX8_goBack 49 = .ok (.ldc 72, 2) := by decide +kernel
theorem dX8_goBack_51 : decode cX8_goBack 51 = .ok (.ireturn, 1) := by decide +kernel
theorem dX8_goBack_52 : decode cX8_goBack 52 = .ok (.aload_n 0, 1) := by decide +kernel
theorem dX8_goBack_53 : decode cX8_goBack 53 = .ok (.invokevirtual 73, 3) := by decide +kernel
theorem dX8_goBack_56 : decode cX8_goBack 56 = .ok (.aload_n 0, 1) := by decide +kernel
theorem dX8_goBack_57 : decode cX8_goBack 57 = .ok (.getfield 7, 3) := by decide +kernel
theorem dX8_goBack_60 : decode cX8_goBack 60 = .ok (.iconst 2, 1) := by decide +kernel
theorem dX8_goBack_61 : decode cX8_goBack 61 = .ok (.iaload, 1) := by decide +kernel
theorem dX8_goBack_62 : decode cX8_goBack 62 = .ok (.istore_n 2, 1) := by decide +kernel
theorem dX8_goBack_63 : decode cX8_goBack 63 = .ok (.iload_n 1, 1) := by decide +kernel
theorem dX8_goBack_64 : decode cX8_goBack 64 = .ok (.aload_n 0, 1) := by decide +kernel
theorem dX8_goBack_65 : decode cX8_goBack 65 = .ok (.getfield 7, 3) := by decide +kernel
theorem dX8_goBack_68 : decode cX8_goBack 68 = .ok (.iconst 1, 1) := by decide +kernel
theorem dX8_goBack_69 : decode cX8_goBack 69 = .ok (.iaload, 1) := by decide +kernel
theorem dX8_goBack_70 : decode cX8_goBack 70 = .ok (.if_icmp .eq 84, 3) := by decide +kernel
theorem dX8_goBack_73 : decode cX8_goBack 73 = .ok (.sipush 425, 3) := by decide +kernel
theorem dX8_goBack_76 : decode cX8_goBack 76 = .ok (.iconst 4, 1) := by decide +kernel
theorem dX8_goBack_77 : decode cX8_goBack 77 = .ok (.iload_n 2, 1) := by decide +kernel
theorem dX8_goBack_78 : decode cX8_goBack 78 = .ok (.imul, 1) := by decide +kernel
theorem dX8_goBack_79 : decode cX8_goBack 79 = .ok (.iadd, 1) := by decide +kernel
theorem dX8_goBack_80 : decode cX8_goBack 80 = .ok (.istore_n 3, 1) := by decide +kernel
theorem dX8_goBack_81 : decode cX8_goBack 81 = .ok (.aload_n 0, 1) := by decide +kernel
theorem dX8_goBack_82 : decode cX8_goBack 82 = .ok (.getfield 7, 3) := by decide +kernel
theorem dX8_goBack_85 : decode cX8_goBack 85 = .ok (.iload_n 3, 1) := by decide +kernel
theorem dX8_goBack_86 : decode cX8_goBack 86 = .ok (.iconst 0, 1) := by decide +kernel
theorem dX8_goBack_87 : decode cX8_goBack 87 = .ok (.iadd, 1) := by decide +kernel
theorem dX8_goBack_88 : decode cX8_goBack 88 = .ok (.aload_n 0, 1) := by decide +kernel
theorem dX8_goBack_89 : decode cX8_goBack 89 = .ok (.getfield 7, 3) := by decide +kernel
theorem dX8_goBack_92 : decode cX8_goBack 92 = .ok (.iconst 1, 1) := by decide +kernel
theorem dX8_goBack_93 : decode cX8_goBack 93 = .ok (.iaload, 1) := by decide +kernel
theorem dX8_goBack_94 : decode cX8_goBack 94 = .ok (.iastore, 1) := by decide +kernel
theorem dX8_goBack_95 : decode cX8_goBack 95 = .ok (.aload_n 0, 1) := by decide +kernel
theorem dX8_goBack_96 : decode cX8_goBack 96 = .ok (.getfield 7, 3) := by decide +kernel
theorem dX8_goBack_99 : decode cX8_goBack 99 = .ok (.iload_n 3, 1) := by decide +kernel
theorem dX8_goBack_100 : decode cX8_goBack 100 = .ok (.iconst 1, 1) := by decide +kernel
theorem dX8_goBack_101 : decode cX8_goBack 101 = .ok (.iadd, 1) := by decide +kernel
theorem dX8_goBack_102 : decode cX8_goBack 102 = .ok (.aload_n 0, 1) := by decide +kernel
theorem dX8_goBack_103 : decode cX8_goBack 103 = .ok (.aload_n 0, 1) := by decide +kernel
theorem dX8_goBack_104 : decode cX8_goBack 104 = .ok (.getfield 7, 3) := by decide +kernel
theorem dX8_goBack_107 : decode cX8_goBack 107 = .ok (.iconst 1, 1) := by decide +kernel
theorem dX8_goBack_108 : decode cX8_goBack 108 = .ok (.iaload, 1) := by decide +kernel
theorem dX8_goBack_109 : decode cX8_goBack 109 = .ok (.invokevirtual 92, 3) := by decide +kernel
theorem dX8_goBack_112 : decode cX8_goBack 112 = .ok (.aload_n 0, 1) := by decide +kernel
theorem dX8_goBack_113 : decode cX8_goBack 113 = .ok (.iload_n 1, 1) := by decide +kernel
theorem dX8_goBack_114 : decode cX8_goBack 114 = .ok (.invokevirtual 92, 3) := by decide +kernel
theorem dX8_goBack_117 : decode cX8_goBack 117 = .ok (.isub, 1) := by decide +kernel
theorem dX8_goBack_118 : decode cX8_goBack 118 = .ok (.iastore, 1) := by decide +kernel
theorem dX8_goBack_119 : decode cX8_goBack 119 = .ok (.aload_n 0, 1) := by decide +kernel
theorem dX8_goBack_120 : decode cX8_goBack 120 = .ok (.getfield 7, 3) := by decide +kernel
theorem dX8_goBack_123 : decode cX8_goBack 123 = .ok (.iload_n 3, 1) := by decide +kernel
theorem dX8_goBack_124 : decode cX8_goBack 124 = .ok (.iconst 2, 1) := by decide +kernel
theorem dX8_goBack_125 : decode cX8_goBack 125 = .ok (.iadd, 1) := by decide +kernel
theorem dX8_goBack_126 : decode cX8_goBack 126 = .ok (.iconst 0, 1) := by decide +kernel
theorem dX8_goBack_127 : decode cX8_goBack 127 = .ok (.iastore, 1) := by decide +kernel
theorem dX8_goBack_128 : decode cX8_goBack 128 = .ok (.aload_n 0, 1) := by decide +kernel
theorem dX8_goBack_129 : decode cX8_goBack 129 = .ok (.getfield 7, 3) := by decide +kernel
theorem dX8_goBack_132 : decode cX8_goBack 132 = .ok (.iload_n 3, 1) := by decide +kernel
theorem dX8_goBack_133 : decode cX8_goBack 133 = .ok (.iconst 3, 1) := by decide +kernel
theorem dX8_goBack_134 : decode cX8_goBack 134 = .ok (.iadd, 1) := by decide +kernel
theorem dX8_goBack_135 : decode cX8_goBack 135 = .ok (.iconst 0, 1) := by decide +kernel
theorem dX8_goBack_136 : decode cX8_goBack 136 = .ok (.iastore, 1) := by decide +kernel
theorem dX8_goBack_137 : decode cX8_goBack 137 = .ok (.aload_n 0, 1) := by decide +kernel
theorem dX8_goBack_138 : decode cX8_goBack 138 = .ok (.getfield 7, 3) := by decide +kernel
theorem dX8_goBack_141 : decode cX8_goBack 141 = .ok (.iconst 2, 1) := by decide +kernel
theorem dX8_goBack_142 : decode cX8_goBack 142 = .ok (.dup2, 1) := by decide +kernel
theorem dX8_goBack_143 : decode cX8_goBack 143 = .ok (.iaload, 1) := by decide +kernel
theorem dX8_goBack_144 : decode cX8_goBack 144 = .ok (.iconst 1, 1) := by decide +kernel
theorem dX8_goBack_145 : decode cX8_goBack 145 = .ok (.iadd, 1) := by decide +kernel
theorem dX8_goBack_146 : decode cX8_goBack 146 = .ok (.iastore, 1) := by decide +kernel
theorem dX8_goBack_147 : decode cX8_goBack 147 = .ok (.aload_n 0, 1) := by decide +kernel
theorem dX8_goBack_148 : decode cX8_goBack 148 = .ok (.getfield 7, 3) := by decide +kernel
theorem dX8_goBack_151 : decode cX8_goBack 151 = .ok (.iconst 1, 1) := by decide +kernel
theorem dX8_goBack_152 : decode cX8_goBack 152 = .ok (.iload_n 1, 1) := by decide +kernel
theorem dX8_goBack_153 : decode cX8_goBack 153 = .ok (.iastore, 1) := by decide +kernel
theorem dX8_goBack_154 : decode cX8_goBack 154 = .ok (.iload_n 2, 1) := by decide +kernel
theorem dX8_goBack_155 : decode cX8_goBack 155 = .ok (.ireturn, 1) := by decide +kernel
set_option maxRecDepth 20000 in
theorem ggX8_setPatience_X8_in : GoodIn wsX8_setPatience wsX8_in := goodIn_r _ [6] (by decide +kernel) (by decide +kernel)
set_option maxRecDepth 20000 in
theorem gX8_setPatience_X8_in : GoodIn wsX8_setPatience (va_wsS RX8 33 yX8_in wsX8_in) := goodIn_app (goodIn_of _ (by decide +kernel)) ggX8_setPatience_X8_in
set_option maxRecDepth 20000 in
theorem ggX8_setPatience_X8_records : GoodIn wsX8_setPatience wsX8_records := goodIn_r _ [10, 11, 12, 2, 13, 14, 15, 16, 17, 18, 19, 20, 21, 22] (by decide +kernel) (by decide +kernel)
set_option maxRecDepth 20000 in
theorem gX8_setPatience_X8_records : GoodIn wsX8_setPatience (wsV RX8 73 RX8 yX8_records wsX8_records) := goodIn_app (goodIn_of _ (by decide +kernel)) ggX8_setPatience_X8_records
theorem dX8_setPatience_0 : decode cX8_setPatience 0 = .ok (.iload_n 1, 1) := by decide +kernel
theorem dX8_setPatience_1 : decode cX8_setPatience 1 = .ok (.iconst 1, 1) := by decide +kernel
theorem dX8_setPatience_2 : decode cX8_setPatience 2 = .ok (.bipush 30, 2) := by decide +kernel
theorem dX8_setPatience_4 : decode cX8_setPatience 4 = .ok (.invokestatic 33, 3) := by decide +kernel
theorem dX8_setPatience_7 : decode cX8_setPatience 7 = .ok (.ifCond .ne 6, 3) := by decide +kernel
theorem dX8_setPatience_10 : decode cX8_setPatience 10 = .ok (.ldc 84, 2) := by decide +kernel
theorem dX8_setPatience_12 : decode cX8_setPatience 12 = .ok (.ireturn, 1) := by decide +kernel
theorem dX8_setPatience_13 : decode cX8_setPatience 13 = .ok (.aload_n 0, 1) := by decide +kernel
theorem dX8_setPatience_14 : decode cX8_setPatience 14 = .ok (.invokevirtual 73, 3) := by decide +kernel
theorem dX8_setPatience_17 : decode cX8_setPatience 17 = .ok (.aload_n 0, 1) := by decide +kernel
theorem dX8_setPatience_18 : decode cX8_setPatience 18 = .ok (.getfield 7, 3) := by decide +kernel
theorem dX8_setPatience_21 : decode cX8_setPatience 21 = .ok (.iconst 3, 1) := by decide +kernel
theorem dX8_setPatience_22 : decode cX8_setPatience 22 = .ok (.iaload, 1) := by decide +kernel
theorem dX8_setPatience_23 : decode cX8_setPatience 23 = .ok (.istore_n 2, 1) := by decide +kernel
theorem dX8_setPatience_24 : decode cX8_setPatience 24 = .ok (.aload_n 0, 1) := by decide +kernel
theorem dX8_setPatience_25 : decode cX8_setPatience 25 = .ok (.getfield 7, 3) := by decide +kernel
theorem dX8_setPatience_28 : decode cX8_setPatience 28 = .ok (.iconst 3, 1) := by decide +kernel
theorem dX8_setPatience_29 : decode cX8_setPatience 29 = .ok (.iload_n 1, 1) := by decide +kernel
theorem dX8_setPatience_30 : decode cX8_setPatience 30 = .ok (.iastore, 1) := by decide +kernel
theorem dX8_setPatience_31 : decode cX8_setPatience 31 = .ok (.iload_n 2, 1) := by decide +kernel
theorem dX8_setPatience_32 : decode cX8_setPatience 32 = .ok (.ireturn, 1) := by decide +kernel
set_option maxRecDepth 20000 in
theorem ggX8_ofBranch_X8_br : GoodIn wsX8_ofBranch wsX8_br := goodIn_r _ [5, 6, 15, 16, 17, 18, 19, 20, 21, 22, 23, 24] (by decide +kernel) (by decide +kernel)
set_option maxRecDepth 20000 in
theorem gX8_ofBranch_X8_br : GoodIn wsX8_ofBranch (wsV RX8 49 RX8 yX8_br wsX8_br) := goodIn_app (goodIn_of _ (by decide +kernel)) ggX8_ofBranch_X8_br
set_option maxRecDepth 20000 in
theorem ggX8_ofBranch_X8_above : GoodIn wsX8_ofBranch wsX8_above := goodIn_r _ [10, 11, 12, 13, 4, 14, 6, 15, 16, 17, 18, 19, 20, 21, 22, 23, 24] (by decide +kernel) (by decide +kernel)
set_option maxRecDepth 20000 in
theorem gX8_ofBranch_X8_above : GoodIn wsX8_ofBranch (wsV RX8 95 RX8 yX8_above wsX8_above) := goodIn_app (goodIn_of _ (by decide +kernel)) ggX8_ofBranch_X8_above
theorem dX8_ofBranch_0 : decode cX8_ofBranch 0 = .ok (.aload_n 0, 1) := by decide +kernel
theorem dX8_ofBranch_1 : decode cX8_ofBranch 1 = .ok (.aload_n 0, 1) := by decide +kernel
theorem dX8_ofBranch_2 : decode cX8_ofBranch 2 = .ok (.iload_n 1, 1) := by decide +kernel
theorem dX8_ofBranch_3 : decode cX8_ofBranch 3 = .ok (.iconst 0, 1) := by decide +kernel
theorem dX8_ofBranch_4 : decode cX8_ofBranch 4 = .ok (.invokevirtual 49, 3) := by decide +kernel
theorem dX8_ofBranch_7 : decode cX8_ofBranch 7 = .ok (.aload_n 0, 1) := by decide +kernel
theorem dX8_ofBranch_8 : decode cX8_ofBranch 8 = .ok (.iload_n 1, 1) := by decide +kernel
theorem dX8_ofBranch_9 : decode cX8_ofBranch 9 = .ok (.iconst 1, 1) := by decide +kernel
theorem dX8_ofBranch_10 : decode cX8_ofBranch 10 = .ok (.invokevirtual 49, 3) := by decide +kernel
theorem dX8_ofBranch_13 : decode cX8_ofBranch 13 = .ok (.iconst 1, 1) := by decide +kernel
theorem dX8_ofBranch_14 : decode cX8_ofBranch 14 = .ok (.isub, 1) := by decide +kernel
theorem dX8_ofBranch_15 : decode cX8_ofBranch 15 = .ok (.iload_n 2, 1) := by decide +kernel
theorem dX8_ofBranch_16 : decode cX8_ofBranch 16 = .ok (.isub, 1) := by decide +kernel
theorem dX8_ofBranch_17 : decode cX8_ofBranch 17 = .ok (.invokevirtual 95, 3) := by decide +kernel
theorem dX8_ofBranch_20 : decode cX8_ofBranch 20 = .ok (.ireturn, 1) := by decide +kernel
set_option maxRecDepth 20000 in
theorem ggX8_tries_X8_br : GoodIn wsX8_tries wsX8_br := goodIn_r _ [6, 7, 32, 33, 34, 35, 36, 37, 38, 39, 40, 41] (by decide +kernel) (by decide +kernel)
set_option maxRecDepth 20000 in
theorem gX8_tries_X8_br : GoodIn wsX8_tries (wsV RX8 49 RX8 yX8_br wsX8_br) := goodIn_app (goodIn_of _ (by decide +kernel)) ggX8_tries_X8_br
set_option maxRecDepth 20000 in
theorem ggX8_tries_X8_ofBranch : GoodIn wsX8_tries wsX8_ofBranch := goodIn_r _ [11, 2, 3, 4, 5, 6, 7, 12, 13, 14, 15, 16, 17, 18, 19, 32, 33, 34, 35, 36, 37, 38, 39, 40, 41] (by decide +kernel) (by decide +kernel)
set_option maxRecDepth 20000 in
theorem gX8_tries_X8_ofBranch : GoodIn wsX8_tries (wsV RX8 98 RX8 yX8_ofBranch wsX8_ofBranch) := goodIn_app (goodIn_of _ (by decide +kernel)) ggX8_tries_X8_ofBranch
set_option maxRecDepth 20000 in
theorem ggX8_tries_X8_counts : GoodIn wsX8_tries wsX8_counts := goodIn_r _ [23, 24, 16, 17, 18, 5, 19, 7, 25, 26, 27, 32, 33, 34, 35, 36, 37, 38, 39, 40, 41] (by decide +kernel) (by decide +kernel)
set_option maxRecDepth 20000 in
theorem gX8_tries_X8_counts : GoodIn wsX8_tries (wsV RX8 45 RX8 yX8_counts wsX8_counts) := goodIn_app (goodIn_of _ (by decide +kernel)) ggX8_tries_X8_counts
set_option maxRecDepth 20000 in
theorem ggX8_tries_X8_isLow : GoodIn wsX8_tries wsX8_isLow := goodIn_r _ [31, 24, 32, 33, 34, 35, 36, 37, 38, 39, 40, 41] (by decide +kernel) (by decide +kernel)
set_option maxRecDepth 20000 in
theorem gX8_tries_X8_isLow : GoodIn wsX8_tries (wsV RX8 101 RX8 yX8_isLow wsX8_isLow) := goodIn_app (goodIn_of _ (by decide +kernel)) ggX8_tries_X8_isLow
theorem dX8_tries_0 : decode cX8_tries 0 = .ok (.iconst 0, 1) := by decide +kernel
theorem dX8_tries_1 : decode cX8_tries 1 = .ok (.istore_n 2, 1) := by decide +kernel
theorem dX8_tries_2 : decode cX8_tries 2 = .ok (.iconst 0, 1) := by decide +kernel
theorem dX8_tries_3 : decode cX8_tries 3 = .ok (.istore_n 3, 1) := by decide +kernel
theorem dX8_tries_4 : decode cX8_tries 4 = .ok (.iload_n 3, 1) := by decide +kernel
theorem dX8_tries_5 : decode cX8_tries 5 = .ok (.aload_n 0, 1) := by decide +kernel
theorem dX8_tries_6 : decode cX8_tries 6 = .ok (.iload_n 1, 1) := by decide +kernel
theorem dX8_tries_7 : decode cX8_tries 7 = .ok (.iconst 1, 1) := by decide +kernel
theorem dX8_tries_8 : decode cX8_tries 8 = .ok (.invokevirtual 49, 3) := by decide +kernel
theorem dX8_tries_11 : decode cX8_tries 11 = .ok (.if_icmp .ge 52, 3) := by decide +kernel
theorem dX8_tries_14 : decode cX8_tries 14 = .ok (.aload_n 0, 1) := by decide +kernel
theorem dX8_tries_15 : decode cX8_tries 15 = .ok (.iload_n 1, 1) := by decide +kernel
theorem dX8_tries_16 : decode cX8_tries 16 = .ok (.iload_n 3, 1) := by decide +kernel
theorem dX8_tries_17 : decode cX8_tries 17 = .ok (.invokevirtual 98, 3) := by decide +kernel
theorem dX8_tries_20 : decode cX8_tries 20 = .ok (.istore 4, 2) := by decide +kernel
theorem dX8_tries_22 : decode cX8_tries 22 = .ok (.aload_n 0, 1) := by decide +kernel
theorem dX8_tries_23 : decode cX8_tries 23 = .ok (.iload 4, 2) := by decide +kernel
theorem dX8_tries_25 : decode cX8_tries 25 = .ok (.iconst 1, 1) := by decide +kernel
theorem dX8_tries_26 : decode cX8_tries 26 = .ok (.invokevirtual 45, 3) := by decide +kernel
theorem dX8_tries_29 : decode cX8_tries 29 = .ok (.aload_n 0, 1) := by decide +kernel
theorem dX8_tries_30 : decode cX8_tries 30 = .ok (.invokevirtual 101, 3) := by decide +kernel
theorem dX8_tries_33 : decode cX8_tries 33 = .ok (.ifCond .eq 13, 3) := by decide +kernel
theorem dX8_tries_36 : decode cX8_tries 36 = .ok (.aload_n 0, 1) := by decide +kernel
theorem dX8_tries_37 : decode cX8_tries 37 = .ok (.iload 4, 2) := by decide +kernel
theorem dX8_tries_39 : decode cX8_tries 39 = .ok (.iconst (-1), 1) := by decide +kernel
theorem dX8_tries_40 : decode cX8_tries 40 = .ok (.invokevirtual 45, 3) := by decide +kernel
theorem dX8_tries_43 : decode cX8_tries 43 = .ok (.goto 14, 3) := by decide +kernel
theorem dX8_tries_46 : decode cX8_tries 46 = .ok (.aload_n 0, 1) := by decide +kernel
theorem dX8_tries_47 : decode cX8_tries 47 = .ok (.getfield 23, 3) := by decide +kernel
theorem dX8_tries_50 : decode cX8_tries 50 = .ok (.iload_n 2, 1) := by decide +kernel
theorem dX8_tries_51 : decode cX8_tries 51 = .ok (.iload 4, 2) := by decide +kernel
theorem dX8_tries_53 : decode cX8_tries 53 = .ok (.iastore, 1) := by decide +kernel
theorem dX8_tries_54 : decode cX8_tries 54 = .ok (.iinc 2 1, 3) := by decide +kernel
theorem dX8_tries_57 : decode cX8_tries 57 = .ok (.iinc 3 1, 3) := by decide +kernel
theorem dX8_tries_60 : decode cX8_tries 60 = .ok (.goto (-56), 3) := by decide +kernel
theorem dX8_tries_63 : decode cX8_tries 63 = .ok (.iload_n 2, 1) := by decide +kernel
theorem dX8_tries_64 : decode cX8_tries 64 = .ok (.ireturn, 1) := by decide +kernel
set_option maxRecDepth 20000 in
theorem ggX8_adopt_X8_isBranch : GoodIn wsX8_adopt wsX8_isBranch := goodIn_r _ [10, 2, 11, 12, 9, 13, 65, 66, 67, 68, 69, 70, 71, 72, 73, 74] (by decide +kernel) (by decide +kernel)
set_option maxRecDepth 20000 in
theorem gX8_adopt_X8_isBranch : GoodIn wsX8_adopt (wsV RX8 105 RX8 yX8_isBranch wsX8_isBranch) := goodIn_app (goodIn_of _ (by decide +kernel)) ggX8_adopt_X8_isBranch
set_option maxRecDepth 20000 in
theorem ggX8_adopt_X8_in : GoodIn wsX8_adopt wsX8_in := goodIn_r _ [13] (by decide +kernel) (by decide +kernel)
set_option maxRecDepth 20000 in
theorem gX8_adopt_X8_in : GoodIn wsX8_adopt (va_wsS RX8 33 yX8_in wsX8_in) := goodIn_app (goodIn_of _ (by decide +kernel)) ggX8_adopt_X8_in
set_option maxRecDepth 20000 in
theorem ggX8_adopt_X8_balances : GoodIn wsX8_adopt wsX8_balances := goodIn_r _ [17, 18, 19, 20, 21, 9, 22, 23, 24, 25, 26, 2, 11, 12, 13, 65, 66, 67, 68, 69, 70, 71, 72, 73, 74] (by decide +kernel) (by decide +kernel)
set_option maxRecDepth 20000 in
theorem gX8_adopt_X8_balances : GoodIn wsX8_adopt (wsV RX8 63 RX8 yX8_balances wsX8_balances) := goodIn_app (goodIn_of _ (by decide +kernel)) ggX8_adopt_X8_balances
set_option maxRecDepth 20000 in
theorem ggX8_adopt_X8_tries : GoodIn wsX8_adopt wsX8_tries := goodIn_r _ [30, 5, 31, 32, 33, 9, 34, 2, 35, 36, 37, 38, 39, 40, 41, 42, 23, 24, 25, 26, 19, 20, 21, 22, 18, 11, 12, 13, 43, 44, 45, 46, 65, 66, 67, 68, 69, 70, 71, 72, 73, 74] (by decide +kernel) (by decide +kernel)
set_option maxRecDepth 20000 in
theorem gX8_adopt_X8_tries : GoodIn wsX8_adopt (wsV RX8 108 RX8 yX8_tries wsX8_tries) := goodIn_app (goodIn_of _ (by decide +kernel)) ggX8_adopt_X8_tries
set_option maxRecDepth 20000 in
theorem ggX8_adopt_X8_isWaiting : GoodIn wsX8_adopt wsX8_isWaiting := goodIn_r _ [50, 31, 32, 33, 9, 34, 2, 65, 66, 67, 68, 69, 70, 71, 72, 73, 74] (by decide +kernel) (by decide +kernel)
set_option maxRecDepth 20000 in
theorem gX8_adopt_X8_isWaiting : GoodIn wsX8_adopt (wsV RX8 52 RX8 yX8_isWaiting wsX8_isWaiting) := goodIn_app (goodIn_of _ (by decide +kernel)) ggX8_adopt_X8_isWaiting
set_option maxRecDepth 20000 in
theorem ggX8_adopt_X8_br : GoodIn wsX8_adopt wsX8_br := goodIn_r _ [34, 2, 65, 66, 67, 68, 69, 70, 71, 72, 73, 74] (by decide +kernel) (by decide +kernel)
set_option maxRecDepth 20000 in
theorem gX8_adopt_X8_br : GoodIn wsX8_adopt (wsV RX8 49 RX8 yX8_br wsX8_br) := goodIn_app (goodIn_of _ (by decide +kernel)) ggX8_adopt_X8_br
set_option maxRecDepth 20000 in
theorem ggX8_adopt_X8_records : GoodIn wsX8_adopt wsX8_records := goodIn_r _ [54, 55, 56, 2, 65, 66, 67, 68, 69, 70, 71, 72, 73, 74] (by decide +kernel) (by decide +kernel)
set_option maxRecDepth 20000 in
theorem gX8_adopt_X8_records : GoodIn wsX8_adopt (wsV RX8 73 RX8 yX8_records wsX8_records) := goodIn_app (goodIn_of _ (by decide +kernel)) ggX8_adopt_X8_records
set_option maxRecDepth 20000 in
theorem ggX8_adopt_X8_en : GoodIn wsX8_adopt wsX8_en := goodIn_r _ [26, 2, 65, 66, 67, 68, 69, 70, 71, 72, 73, 74] (by decide +kernel) (by decide +kernel)
set_option maxRecDepth 20000 in
theorem gX8_adopt_X8_en : GoodIn wsX8_adopt (wsV RX8 41 RX8 yX8_en wsX8_en) := goodIn_app (goodIn_of _ (by decide +kernel)) ggX8_adopt_X8_en
set_option maxRecDepth 20000 in
theorem ggX8_adopt_X8_puts : GoodIn wsX8_adopt wsX8_puts := goodIn_r _ [60, 2, 61, 62, 63, 9, 64, 23, 24, 25, 26, 65, 66, 67, 68, 69, 70, 71, 72, 73, 74] (by decide +kernel) (by decide +kernel)
set_option maxRecDepth 20000 in
theorem gX8_adopt_X8_puts : GoodIn wsX8_adopt (wsV RX8 76 RX8 yX8_puts wsX8_puts) := goodIn_app (goodIn_of _ (by decide +kernel)) ggX8_adopt_X8_puts
theorem dX8_adopt_0 : decode cX8_adopt 0 = .ok (.aload_n 0, 1) := by decide +kernel
theorem dX8_adopt_1 : decode cX8_adopt 1 = .ok (.iload_n 1, 1) := by decide +kernel
theorem dX8_adopt_2 : decode cX8_adopt 2 = .ok (.invokevirtual 105, 3) := by decide +kernel
theorem dX8_adopt_5 : decode cX8_adopt 5 = .ok (.ifCond .eq 12, 3) := by decide +kernel
theorem dX8_adopt_8 : decode cX8_adopt 8 = .ok (.iload_n 2, 1) := by decide +kernel
theorem dX8_adopt_9 : decode cX8_adopt 9 = .ok (.iconst 0, 1) := by decide +kernel
theorem dX8_adopt_10 : decode cX8_adopt 10 = .ok (.iconst 1, 1) := by decide +kernel
theorem dX8_adopt_11 : decode cX8_adopt 11 = .ok (.invokestatic 33, 3) := by decide +kernel
theorem dX8_adopt_14 : decode cX8_adopt 14 = .ok (.ifCond .ne 6, 3) := by decide +kernel
theorem dX8_adopt_17 : decode cX8_adopt 17 = .ok (.ldc 84, 2) := by decide +kernel
theorem dX8_adopt_19 : decode cX8_adopt 19 = .ok (.ireturn, 1) := by decide +kernel
theorem dX8_adopt_20 : decode cX8_adopt 20 = .ok (.aload_n 0, 1) := by decide +kernel
theorem dX8_adopt_21 : decode cX8_adopt 21 = .ok (.aload_n 0, 1) := by decide +kernel
theorem dX8_adopt_22 : decode cX8_adopt 22 = .ok (.getfield 7, 3) := by decide +kernel
theorem dX8_adopt_25 : decode cX8_adopt 25 = .ok (.iconst 1, 1) := by decide +kernel
theorem dX8_adopt_26 : decode cX8_adopt 26 = .ok (.iaload, 1) := by decide +kernel
theorem dX8_adopt_27 : decode cX8_adopt 27 = .ok (.invokevirtual 63, 3) := by decide +kernel
theorem dX8_adopt_30 : decode cX8_adopt 30 = .ok (.aload_n 0, 1) := by decide +kernel
theorem dX8_adopt_31 : decode cX8_adopt 31 = .ok (.iload_n 1, 1) := by decide +kernel
theorem dX8_adopt_32 : decode cX8_adopt 32 = .ok (.invokevirtual 108, 3) := by decide +kernel
theorem dX8_adopt_35 : decode cX8_adopt 35 = .ok (.istore_n 3, 1) := by decide +kernel
theorem dX8_adopt_36 : decode cX8_adopt 36 = .ok (.aload_n 0, 1) := by decide +kernel
theorem dX8_adopt_37 : decode cX8_adopt 37 = .ok (.iload_n 1, 1) := by decide +kernel
theorem dX8_adopt_38 : decode cX8_adopt 38 = .ok (.invokevirtual 52, 3) := by decide +kernel
theorem dX8_adopt_41 : decode cX8_adopt 41 = .ok (.ifCond .eq 17, 3) := by decide +kernel
theorem dX8_adopt_44 : decode cX8_adopt 44 = .ok (.iload_n 2, 1) := by decide +kernel
theorem dX8_adopt_45 : decode cX8_adopt 45 = .ok (.ifCond .ne 16, 3) := by decide +kernel
theorem dX8_adopt_48 : decode cX8_adopt 48 = .ok (.iload_n 3, 1) := by decide +kernel
theorem dX8_adopt_49 : decode cX8_adopt 49 = .ok (.aload_n 0, 1) := by decide +kernel
theorem dX8_adopt_50 : decode cX8_adopt 50 = .ok (.iload_n 1, 1) := by decide +kernel
theorem dX8_adopt_51 : decode cX8_adopt 51 = .ok (.iconst 1, 1) := by decide +kernel
theorem dX8_adopt_52 : decode cX8_adopt 52 = .ok (.invokevirtual 49, 3) := by decide +kernel
theorem dX8_adopt_55 : decode cX8_adopt 55 = .ok (.if_icmp .ge 6, 3) := by decide +kernel
theorem dX8_adopt_58 : decode cX8_adopt 58 = .ok (.ldc 71, 2) := by decide +kernel
theorem dX8_adopt_60 : decode cX8_adopt 60 = .ok (.ireturn, 1) := by decide +kernel
theorem dX8_adopt_61 : decode cX8_adopt 61 = .ok (.aload_n 0, 1) := by decide +kernel
theorem dX8_adopt_62 : decode cX8_adopt 62 = .ok (.getfield 7, 3) := by decide +kernel
theorem dX8_adopt_65 : decode cX8_adopt 65 = .ok (.iconst 0, 1) := by decide +kernel
theorem dX8_adopt_66 : decode cX8_adopt 66 = .ok (.iaload, 1) := by decide +kernel
theorem dX8_adopt_67 : decode cX8_adopt 67 = .ok (.iload_n 3, 1) := by decide +kernel
theorem dX8_adopt_68 : decode cX8_adopt 68 = .ok (.iadd, 1) := by decide +kernel
theorem dX8_adopt_69 : decode cX8_adopt 69 = .ok (.bipush 60, 2) := by decide +kernel
theorem dX8_adopt_71 : decode cX8_adopt 71 = .ok (.if_icmp .le 6, 3) := by decide +kernel
theorem dX8_adopt_74 : decode cX8_adopt 74 = .ok (.ldc 72, 2) := by decide +kernel
theorem dX8_adopt_76 : decode cX8_adopt 76 = .ok (.ireturn, 1) := by decide +kernel
theorem dX8_adopt_77 : decode cX8_adopt 77 = .ok (.aload_n 0, 1) := by decide +kernel
theorem dX8_adopt_78 : decode cX8_adopt 78 = .ok (.invokevirtual 73, 3) := by decide +kernel
theorem dX8_adopt_81 : decode cX8_adopt 81 = .ok (.iconst 0, 1) := by decide +kernel
theorem dX8_adopt_82 : decode cX8_adopt 82 = .ok (.istore 4, 2) := by decide +kernel
theorem dX8_adopt_84 : decode cX8_adopt 84 = .ok (.iload 4, 2) := by decide +kernel
theorem dX8_adopt_86 : decode cX8_adopt 86 = .ok (.iload_n 3, 1) := by decide +kernel
theorem dX8_adopt_87 : decode cX8_adopt 87 = .ok (.if_icmp .ge 53, 3) := by decide +kernel
theorem dX8_adopt_90 : decode cX8_adopt 90 = .ok (.aload_n 0, 1) := by decide +kernel
theorem dX8_adopt_91 : decode cX8_adopt 91 = .ok (.getfield 23, 3) := by decide +kernel
theorem dX8_adopt_94 : decode cX8_adopt 94 = .ok (.iload 4, 2) := by decide +kernel
theorem dX8_adopt_96 : decode cX8_adopt 96 = .ok (.iaload, 1) := by decide +kernel
theorem dX8_adopt_97 : decode cX8_adopt 97 = .ok (.istore 5, 2) := by decide +kernel
theorem dX8_adopt_99 : decode cX8_adopt 99 = .ok (.aload_n 0, 1) := by decide +kernel
theorem dX8_adopt_100 : decode cX8_adopt 100 = .ok (.aload_n 0, 1) := by decide +kernel
theorem dX8_adopt_101 : decode cX8_adopt 101 = .ok (.iload 5, 2) := by decide +kernel
theorem dX8_adopt_103 : decode cX8_adopt 103 = .ok (.iconst 1, 1) := by decide +kernel
theorem dX8_adopt_104 : decode cX8_adopt 104 = .ok (.invokevirtual 41, 3) := by decide +kernel
theorem dX8_adopt_107 : decode cX8_adopt 107 = .ok (.aload_n 0, 1) := by decide +kernel
theorem dX8_adopt_108 : decode cX8_adopt 108 = .ok (.iload 5, 2) := by decide +kernel
theorem dX8_adopt_110 : decode cX8_adopt 110 = .ok (.iconst 2, 1) := by decide +kernel
theorem dX8_adopt_111 : decode cX8_adopt 111 = .ok (.invokevirtual 41, 3) := by decide +kernel
theorem dX8_adopt_114 : decode cX8_adopt 114 = .ok (.aload_n 0, 1) := by decide +kernel
theorem dX8_adopt_115 : decode cX8_adopt 115 = .ok (.iload 5, 2) := by decide +kernel
theorem dX8_adopt_117 : decode cX8_adopt 117 = .ok (.iconst 3, 1) := by decide +kernel
theorem dX8_adopt_118 : decode cX8_adopt 118 = .ok (.invokevirtual 41, 3) := by decide +kernel
theorem dX8_adopt_121 : decode cX8_adopt 121 = .ok (.aload_n 0, 1) := by decide +kernel
theorem dX8_adopt_122 : decode cX8_adopt 122 = .ok (.iload 5, 2) := by decide +kernel
theorem dX8_adopt_124 : decode cX8_adopt 124 = .ok (.iconst 4, 1) := by decide +kernel
theorem dX8_adopt_125 : decode cX8_adopt 125 = .ok (.invokevirtual 41, 3) := by decide +kernel
theorem dX8_adopt_128 : decode cX8_adopt 128 = .ok (.iload 5, 2) := by decide +kernel
theorem dX8_adopt_130 : decode cX8_adopt 130 = .ok (.invokevirtual 76, 3) := by decide +kernel
theorem dX8_adopt_133 : decode cX8_adopt 133 = .ok (.pop, 1) := by decide +kernel
theorem dX8_adopt_134 : decode cX8_adopt 134 = .ok (.iinc 4 1, 3) := by decide +kernel
theorem dX8_adopt_137 : decode cX8_adopt 137 = .ok (.goto (-53), 3) := by decide +kernel
theorem dX8_adopt_140 : decode cX8_adopt 140 = .ok (.aload_n 0, 1) := by decide +kernel
theorem dX8_adopt_141 : decode cX8_adopt 141 = .ok (.getfield 7, 3) := by decide +kernel
theorem dX8_adopt_144 : decode cX8_adopt 144 = .ok (.sipush 425, 3) := by decide +kernel
theorem dX8_adopt_147 : decode cX8_adopt 147 = .ok (.iconst 4, 1) := by decide +kernel
theorem dX8_adopt_148 : decode cX8_adopt 148 = .ok (.iload_n 1, 1) := by decide +kernel
theorem dX8_adopt_149 : decode cX8_adopt 149 = .ok (.imul, 1) := by decide +kernel
theorem dX8_adopt_150 : decode cX8_adopt 150 = .ok (.iadd, 1) := by decide +kernel
theorem dX8_adopt_151 : decode cX8_adopt 151 = .ok (.iconst 3, 1) := by decide +kernel
theorem dX8_adopt_152 : decode cX8_adopt 152 = .ok (.iadd, 1) := by decide +kernel
theorem dX8_adopt_153 : decode cX8_adopt 153 = .ok (.iconst 2, 1) := by decide +kernel
theorem dX8_adopt_154 : decode cX8_adopt 154 = .ok (.iastore, 1) := by decide +kernel
theorem dX8_adopt_155 : decode cX8_adopt 155 = .ok (.iload_n 3, 1) := by decide +kernel
theorem dX8_adopt_156 : decode cX8_adopt 156 = .ok (.ireturn, 1) := by decide +kernel
set_option maxRecDepth 20000 in
theorem ggX8_dismiss_X8_isBranch : GoodIn wsX8_dismiss wsX8_isBranch := goodIn_r _ [10, 3, 11, 12, 9, 13, 40, 41, 42, 43, 44, 45, 46, 47, 48, 49] (by decide +kernel) (by decide +kernel)
set_option maxRecDepth 20000 in
theorem gX8_dismiss_X8_isBranch : GoodIn wsX8_dismiss (wsV RX8 105 RX8 yX8_isBranch wsX8_isBranch) := goodIn_app (goodIn_of _ (by decide +kernel)) ggX8_dismiss_X8_isBranch
set_option maxRecDepth 20000 in
theorem ggX8_dismiss_X8_isWaiting : GoodIn wsX8_dismiss wsX8_isWaiting := goodIn_r _ [17, 18, 19, 20, 9, 21, 3, 40, 41, 42, 43, 44, 45, 46, 47, 48, 49] (by decide +kernel) (by decide +kernel)
set_option maxRecDepth 20000 in
theorem gX8_dismiss_X8_isWaiting : GoodIn wsX8_dismiss (wsV RX8 52 RX8 yX8_isWaiting wsX8_isWaiting) := goodIn_app (goodIn_of _ (by decide +kernel)) ggX8_dismiss_X8_isWaiting
set_option maxRecDepth 20000 in
theorem ggX8_dismiss_X8_records : GoodIn wsX8_dismiss wsX8_records := goodIn_r _ [25, 26, 27, 3, 40, 41, 42, 43, 44, 45, 46, 47, 48, 49] (by decide +kernel) (by decide +kernel)
set_option maxRecDepth 20000 in
theorem gX8_dismiss_X8_records : GoodIn wsX8_dismiss (wsV RX8 73 RX8 yX8_records wsX8_records) := goodIn_app (goodIn_of _ (by decide +kernel)) ggX8_dismiss_X8_records
set_option maxRecDepth 20000 in
theorem ggX8_dismiss_X8_br : GoodIn wsX8_dismiss wsX8_br := goodIn_r _ [21, 3, 40, 41, 42, 43, 44, 45, 46, 47, 48, 49] (by decide +kernel) (by decide +kernel)
set_option maxRecDepth 20000 in
theorem gX8_dismiss_X8_br : GoodIn wsX8_dismiss (wsV RX8 49 RX8 yX8_br wsX8_br) := goodIn_app (goodIn_of _ (by decide +kernel)) ggX8_dismiss_X8_br
set_option maxRecDepth 20000 in
theorem ggX8_dismiss_X8_puts : GoodIn wsX8_dismiss wsX8_puts := goodIn_r _ [31, 3, 32, 33, 34, 9, 35, 36, 37, 38, 39, 40, 41, 42, 43, 44, 45, 46, 47, 48, 49] (by decide +kernel) (by decide +kernel)
set_option maxRecDepth 20000 in
theorem gX8_dismiss_X8_puts : GoodIn wsX8_dismiss (wsV RX8 76 RX8 yX8_puts wsX8_puts) := goodIn_app (goodIn_of _ (by decide +kernel)) ggX8_dismiss_X8_puts
theorem dX8_dismiss_0 : decode cX8_dismiss 0 = .ok (.aload_n 0, 1) := by decide +kernel
theorem dX8_dismiss_1 : decode cX8_dismiss 1 = .ok (.iload_n 1, 1) := by decide +kernel
theorem dX8_dismiss_2 : decode cX8_dismiss 2 = .ok (.invokevirtual 105, 3) := by decide +kernel
theorem dX8_dismiss_5 : decode cX8_dismiss 5 = .ok (.ifCond .ne 6, 3) := by decide +kernel
theorem dX8_dismiss_8 : decode cX8_dismiss 8 = .ok (.ldc 84, 2) := by decide +kernel
theorem dX8_dismiss_10 : decode cX8_dismiss 10 = .ok (.ireturn, 1) := by decide +kernel
theorem dX8_dismiss_11 : decode cX8_dismiss 11 = .ok (.aload_n 0, 1) := by decide +kernel
theorem dX8_dismiss_12 : decode cX8_dismiss 12 = .ok (.iload_n 1, 1) := by decide +kernel
theorem dX8_dismiss_13 : decode cX8_dismiss 13 = .ok (.invokevirtual 52, 3) := by decide +kernel
theorem dX8_dismiss_16 : decode cX8_dismiss 16 = .ok (.ifCond .ne 6, 3) := by decide +kernel
theorem dX8_dismiss_19 : decode cX8_dismiss 19 = .ok (.ldc 71, 2) := by decide +kernel
theorem dX8_dismiss_21 : decode cX8_dismiss 21 = .ok (.ireturn, 1) := by decide +kernel
theorem dX8_dismiss_22 : decode cX8_dismiss 22 = .ok (.aload_n 0, 1) := by decide +kernel
theorem dX8_dismiss_23 : decode cX8_dismiss 23 = .ok (.getfield 7, 3) := by decide +kernel
theorem dX8_dismiss_26 : decode cX8_dismiss 26 = .ok (.iconst 0, 1) := by decide +kernel
theorem dX8_dismiss_27 : decode cX8_dismiss 27 = .ok (.iaload, 1) := by decide +kernel
theorem dX8_dismiss_28 : decode cX8_dismiss 28 = .ok (.bipush 60, 2) := by decide +kernel
theorem dX8_dismiss_30 : decode cX8_dismiss 30 = .ok (.if_icmp .ne 6, 3) := by decide +kernel
theorem dX8_dismiss_33 : decode cX8_dismiss 33 = .ok (.ldc 72, 2) := by decide +kernel
theorem dX8_dismiss_35 : decode cX8_dismiss 35 = .ok (.ireturn, 1) := by decide +kernel
theorem dX8_dismiss_36 : decode cX8_dismiss 36 = .ok (.aload_n 0, 1) := by decide +kernel
theorem dX8_dismiss_37 : decode cX8_dismiss 37 = .ok (.invokevirtual 73, 3) := by decide +kernel
theorem dX8_dismiss_40 : decode cX8_dismiss 40 = .ok (.aload_n 0, 1) := by decide +kernel
theorem dX8_dismiss_41 : decode cX8_dismiss 41 = .ok (.getfield 7, 3) := by decide +kernel
theorem dX8_dismiss_44 : decode cX8_dismiss 44 = .ok (.sipush 425, 3) := by decide +kernel
theorem dX8_dismiss_47 : decode cX8_dismiss 47 = .ok (.iconst 4, 1) := by decide +kernel
theorem dX8_dismiss_48 : decode cX8_dismiss 48 = .ok (.iload_n 1, 1) := by decide +kernel
theorem dX8_dismiss_49 : decode cX8_dismiss 49 = .ok (.imul, 1) := by decide +kernel
theorem dX8_dismiss_50 : decode cX8_dismiss 50 = .ok (.iadd, 1) := by decide +kernel
theorem dX8_dismiss_51 : decode cX8_dismiss 51 = .ok (.iconst 3, 1) := by decide +kernel
theorem dX8_dismiss_52 : decode cX8_dismiss 52 = .ok (.iadd, 1) := by decide +kernel
theorem dX8_dismiss_53 : decode cX8_dismiss 53 = .ok (.iconst 3, 1) := by decide +kernel
theorem dX8_dismiss_54 : decode cX8_dismiss 54 = .ok (.iastore, 1) := by decide +kernel
theorem dX8_dismiss_55 : decode cX8_dismiss 55 = .ok (.aload_n 0, 1) := by decide +kernel
theorem dX8_dismiss_56 : decode cX8_dismiss 56 = .ok (.iconst 4, 1) := by decide +kernel
theorem dX8_dismiss_57 : decode cX8_dismiss 57 = .ok (.iconst 0, 1) := by decide +kernel
theorem dX8_dismiss_58 : decode cX8_dismiss 58 = .ok (.iconst 0, 1) := by decide +kernel
theorem dX8_dismiss_59 : decode cX8_dismiss 59 = .ok (.aload_n 0, 1) := by decide +kernel
theorem dX8_dismiss_60 : decode cX8_dismiss 60 = .ok (.iload_n 1, 1) := by decide +kernel
theorem dX8_dismiss_61 : decode cX8_dismiss 61 = .ok (.iconst 0, 1) := by decide +kernel
theorem dX8_dismiss_62 : decode cX8_dismiss 62 = .ok (.invokevirtual 49, 3) := by decide +kernel
theorem dX8_dismiss_65 : decode cX8_dismiss 65 = .ok (.ldc 32, 2) := by decide +kernel
theorem dX8_dismiss_67 : decode cX8_dismiss 67 = .ok (.invokevirtual 76, 3) := by decide +kernel
theorem dX8_dismiss_70 : decode cX8_dismiss 70 = .ok (.ireturn, 1) := by decide +kernel
set_option maxRecDepth 20000 in
theorem ggX8_forge_X8_isEntry : GoodIn wsX8_forge wsX8_isEntry := goodIn_r _ [8, 2, 9, 10, 7, 11, 35, 36, 37, 38, 39, 40, 41, 42, 43, 44] (by decide +kernel) (by decide +kernel)
set_option maxRecDepth 20000 in
theorem gX8_forge_X8_isEntry : GoodIn wsX8_forge (wsV RX8 85 RX8 yX8_isEntry wsX8_isEntry) := goodIn_app (goodIn_of _ (by decide +kernel)) ggX8_forge_X8_isEntry
set_option maxRecDepth 20000 in
theorem ggX8_forge_X8_en : GoodIn wsX8_forge wsX8_en := goodIn_r _ [15, 2, 35, 36, 37, 38, 39, 40, 41, 42, 43, 44] (by decide +kernel) (by decide +kernel)
set_option maxRecDepth 20000 in
theorem gX8_forge_X8_en : GoodIn wsX8_forge (wsV RX8 41 RX8 yX8_en wsX8_en) := goodIn_app (goodIn_of _ (by decide +kernel)) ggX8_forge_X8_en
set_option maxRecDepth 20000 in
theorem ggX8_forge_X8_in : GoodIn wsX8_forge wsX8_in := goodIn_r _ [11] (by decide +kernel) (by decide +kernel)
set_option maxRecDepth 20000 in
theorem gX8_forge_X8_in : GoodIn wsX8_forge (va_wsS RX8 33 yX8_in wsX8_in) := goodIn_app (goodIn_of _ (by decide +kernel)) ggX8_forge_X8_in
set_option maxRecDepth 20000 in
theorem ggX8_forge_X8_balances : GoodIn wsX8_forge wsX8_balances := goodIn_r _ [19, 20, 21, 22, 23, 7, 24, 12, 13, 14, 15, 2, 9, 10, 11, 35, 36, 37, 38, 39, 40, 41, 42, 43, 44] (by decide +kernel) (by decide +kernel)
set_option maxRecDepth 20000 in
theorem gX8_forge_X8_balances : GoodIn wsX8_forge (wsV RX8 63 RX8 yX8_balances wsX8_balances) := goodIn_app (goodIn_of _ (by decide +kernel)) ggX8_forge_X8_balances
set_option maxRecDepth 20000 in
theorem ggX8_forge_X8_isLow : GoodIn wsX8_forge wsX8_isLow := goodIn_r _ [28, 20, 35, 36, 37, 38, 39, 40, 41, 42, 43, 44] (by decide +kernel) (by decide +kernel)
set_option maxRecDepth 20000 in
theorem gX8_forge_X8_isLow : GoodIn wsX8_forge (wsV RX8 101 RX8 yX8_isLow wsX8_isLow) := goodIn_app (goodIn_of _ (by decide +kernel)) ggX8_forge_X8_isLow
set_option maxRecDepth 20000 in
theorem ggX8_forge_X8_records : GoodIn wsX8_forge wsX8_records := goodIn_r _ [32, 33, 34, 2, 35, 36, 37, 38, 39, 40, 41, 42, 43, 44] (by decide +kernel) (by decide +kernel)
set_option maxRecDepth 20000 in
theorem gX8_forge_X8_records : GoodIn wsX8_forge (wsV RX8 73 RX8 yX8_records wsX8_records) := goodIn_app (goodIn_of _ (by decide +kernel)) ggX8_forge_X8_records
theorem dX8_forge_0 : decode cX8_forge 0 = .ok (.iload_n 1, 1) := by decide +kernel
theorem dX8_forge_1 : decode cX8_forge 1 = .ok (.ifCond .eq 36, 3) := by decide +kernel
theorem dX8_forge_4 : decode cX8_forge 4 = .ok (.aload_n 0, 1) := by decide +kernel
theorem dX8_forge_5 : decode cX8_forge 5 = .ok (.iload_n 1, 1) := by decide +kernel
theorem dX8_forge_6 : decode cX8_forge 6 = .ok (.invokevirtual 85, 3) := by decide +kernel
theorem dX8_forge_9 : decode cX8_forge 9 = .ok (.ifCond .eq 28, 3) := by decide +kernel
theorem dX8_forge_12 : decode cX8_forge 12 = .ok (.iload_n 2, 1) := by decide +kernel
theorem dX8_forge_13 : decode cX8_forge 13 = .ok (.aload_n 0, 1) := by decide +kernel
theorem dX8_forge_14 : decode cX8_forge 14 = .ok (.iload_n 1, 1) := by decide +kernel
theorem dX8_forge_15 : decode cX8_forge 15 = .ok (.iconst 1, 1) := by decide +kernel
theorem dX8_forge_16 : decode cX8_forge 16 = .ok (.invokevirtual 41, 3) := by decide +kernel
theorem dX8_forge_19 : decode cX8_forge 19 = .ok (.iconst 4, 1) := by decide +kernel
theorem dX8_forge_20 : decode cX8_forge 20 = .ok (.if_icmp .ne 7, 3) := by decide +kernel
theorem dX8_forge_23 : decode cX8_forge 23 = .ok (.iconst 0, 1) := by decide +kernel
theorem dX8_forge_24 : decode cX8_forge 24 = .ok (.goto 4, 3) := by decide +kernel
theorem dX8_forge_27 : decode cX8_forge 27 = .ok (.iconst 1, 1) := by decide +kernel
theorem dX8_forge_28 : decode cX8_forge 28 = .ok (.sipush 999, 3) := by decide +kernel
theorem dX8_forge_31 : decode cX8_forge 31 = .ok (.invokestatic 33, 3) := by decide +kernel
theorem dX8_forge_34 : decode cX8_forge 34 = .ok (.ifCond .ne 6, 3) := by decide +kernel
theorem dX8_forge_37 : decode cX8_forge 37 = .ok (.ldc 84, 2) := by decide +kernel
theorem dX8_forge_39 : decode cX8_forge 39 = .ok (.ireturn, 1) := by decide +kernel
theorem dX8_forge_40 : decode cX8_forge 40 = .ok (.iconst 5, 1) := by decide +kernel
theorem dX8_forge_41 : decode cX8_forge 41 = .ok (.bipush 7, 2) := by decide +kernel
theorem dX8_forge_43 : decode cX8_forge 43 = .ok (.iload_n 1, 1) := by decide +kernel
theorem dX8_forge_44 : decode cX8_forge 44 = .ok (.imul, 1) := by decide +kernel
theorem dX8_forge_45 : decode cX8_forge 45 = .ok (.iadd, 1) := by decide +kernel
theorem dX8_forge_46 : decode cX8_forge 46 = .ok (.iconst 4, 1) := by decide +kernel
theorem dX8_forge_47 : decode cX8_forge 47 = .ok (.iadd, 1) := by decide +kernel
theorem dX8_forge_48 : decode cX8_forge 48 = .ok (.istore_n 3, 1) := by decide +kernel
theorem dX8_forge_49 : decode cX8_forge 49 = .ok (.aload_n 0, 1) := by decide +kernel
theorem dX8_forge_50 : decode cX8_forge 50 = .ok (.getfield 7, 3) := by decide +kernel
theorem dX8_forge_53 : decode cX8_forge 53 = .ok (.iload_n 3, 1) := by decide +kernel
theorem dX8_forge_54 : decode cX8_forge 54 = .ok (.iaload, 1) := by decide +kernel
theorem dX8_forge_55 : decode cX8_forge 55 = .ok (.istore 4, 2) := by decide +kernel
theorem dX8_forge_57 : decode cX8_forge 57 = .ok (.aload_n 0, 1) := by decide +kernel
theorem dX8_forge_58 : decode cX8_forge 58 = .ok (.getfield 7, 3) := by decide +kernel
theorem dX8_forge_61 : decode cX8_forge 61 = .ok (.iload_n 3, 1) := by decide +kernel
theorem dX8_forge_62 : decode cX8_forge 62 = .ok (.iload_n 2, 1) := by decide +kernel
theorem dX8_forge_63 : decode cX8_forge 63 = .ok (.iastore, 1) := by decide +kernel
theorem dX8_forge_64 : decode cX8_forge 64 = .ok (.iconst 0, 1) := by decide +kernel
theorem dX8_forge_65 : decode cX8_forge 65 = .ok (.istore 5, 2) := by decide +kernel
theorem dX8_forge_67 : decode cX8_forge 67 = .ok (.iconst 0, 1) := by decide +kernel
theorem dX8_forge_68 : decode cX8_forge 68 = .ok (.istore 6, 2) := by decide +kernel
theorem dX8_forge_70 : decode cX8_forge 70 = .ok (.iload 6, 2) := by decide +kernel
theorem dX8_forge_72 : decode cX8_forge 72 = .ok (.aload_n 0, 1) := by decide +kernel
theorem dX8_forge_73 : decode cX8_forge 73 = .ok (.getfield 7, 3) := by decide +kernel
theorem dX8_forge_76 : decode cX8_forge 76 = .ok (.iconst 0, 1) := by decide +kernel
theorem dX8_forge_77 : decode cX8_forge 77 = .ok (.iaload, 1) := by decide +kernel
theorem dX8_forge_78 : decode cX8_forge 78 = .ok (.if_icmp .ge 26, 3) := by decide +kernel
theorem dX8_forge_81 : decode cX8_forge 81 = .ok (.iload 5, 2) := by decide +kernel
theorem dX8_forge_83 : decode cX8_forge 83 = .ok (.ifCond .ne 21, 3) := by decide +kernel
theorem dX8_forge_86 : decode cX8_forge 86 = .ok (.aload_n 0, 1) := by decide +kernel
theorem dX8_forge_87 : decode cX8_forge 87 = .ok (.iload 6, 2) := by decide +kernel
theorem dX8_forge_89 : decode cX8_forge 89 = .ok (.invokevirtual 63, 3) := by decide +kernel
theorem dX8_forge_92 : decode cX8_forge 92 = .ok (.aload_n 0, 1) := by decide +kernel
theorem dX8_forge_93 : decode cX8_forge 93 = .ok (.invokevirtual 101, 3) := by decide +kernel
theorem dX8_forge_96 : decode cX8_forge 96 = .ok (.istore 5, 2) := by decide +kernel
theorem dX8_forge_98 : decode cX8_forge 98 = .ok (.iinc 6 1, 3) := by decide +kernel
theorem dX8_forge_101 : decode cX8_forge 101 = .ok (.goto (-31), 3) := by decide +kernel
theorem dX8_forge_104 : decode cX8_forge 104 = .ok (.aload_n 0, 1) := by decide +kernel
theorem dX8_forge_105 : decode cX8_forge 105 = .ok (.getfield 7, 3) := by decide +kernel
theorem dX8_forge_108 : decode cX8_forge 108 = .ok (.iload_n 3, 1) := by decide +kernel
theorem dX8_forge_109 : decode cX8_forge 109 = .ok (.iload 4, 2) := by decide +kernel
theorem dX8_forge_111 : decode cX8_forge 111 = .ok (.iastore, 1) := by decide +kernel
theorem dX8_forge_112 : decode cX8_forge 112 = .ok (.iload 5, 2) := by decide +kernel
theorem dX8_forge_114 : decode cX8_forge 114 = .ok (.ifCond .eq 6, 3) := by decide +kernel
theorem dX8_forge_117 : decode cX8_forge 117 = .ok (.ldc 71, 2) := by decide +kernel
theorem dX8_forge_119 : decode cX8_forge 119 = .ok (.ireturn, 1) := by decide +kernel
theorem dX8_forge_120 : decode cX8_forge 120 = .ok (.aload_n 0, 1) := by decide +kernel
theorem dX8_forge_121 : decode cX8_forge 121 = .ok (.invokevirtual 73, 3) := by decide +kernel
theorem dX8_forge_124 : decode cX8_forge 124 = .ok (.aload_n 0, 1) := by decide +kernel
theorem dX8_forge_125 : decode cX8_forge 125 = .ok (.getfield 7, 3) := by decide +kernel
theorem dX8_forge_128 : decode cX8_forge 128 = .ok (.iload_n 3, 1) := by decide +kernel
theorem dX8_forge_129 : decode cX8_forge 129 = .ok (.iload_n 2, 1) := by decide +kernel
theorem dX8_forge_130 : decode cX8_forge 130 = .ok (.iastore, 1) := by decide +kernel
theorem dX8_forge_131 : decode cX8_forge 131 = .ok (.iload 4, 2) := by decide +kernel
theorem dX8_forge_133 : decode cX8_forge 133 = .ok (.ireturn, 1) := by decide +kernel
set_option maxRecDepth 20000 in
theorem ggX8_relink_X8_isEntry : GoodIn wsX8_relink wsX8_isEntry := goodIn_r _ [7, 2, 8, 9, 6, 10, 29, 30, 31, 32, 33, 34, 35, 36, 37, 38] (by decide +kernel) (by decide +kernel)
set_option maxRecDepth 20000 in
theorem gX8_relink_X8_isEntry : GoodIn wsX8_relink (wsV RX8 85 RX8 yX8_isEntry wsX8_isEntry) := goodIn_app (goodIn_of _ (by decide +kernel)) ggX8_relink_X8_isEntry
set_option maxRecDepth 20000 in
theorem ggX8_relink_X8_records : GoodIn wsX8_relink wsX8_records := goodIn_r _ [14, 15, 16, 2, 29, 30, 31, 32, 33, 34, 35, 36, 37, 38] (by decide +kernel) (by decide +kernel)
set_option maxRecDepth 20000 in
theorem gX8_relink_X8_records : GoodIn wsX8_relink (wsV RX8 73 RX8 yX8_records wsX8_records) := goodIn_app (goodIn_of _ (by decide +kernel)) ggX8_relink_X8_records
set_option maxRecDepth 20000 in
theorem ggX8_relink_X8_fitting : GoodIn wsX8_relink wsX8_fitting := goodIn_r _ [20, 21, 22, 23, 6, 24, 2, 29, 30, 31, 32, 33, 34, 35, 36, 37, 38] (by decide +kernel) (by decide +kernel)
set_option maxRecDepth 20000 in
theorem gX8_relink_X8_fitting : GoodIn wsX8_relink (wsV RX8 59 RX8 yX8_fitting wsX8_fitting) := goodIn_app (goodIn_of _ (by decide +kernel)) ggX8_relink_X8_fitting
set_option maxRecDepth 20000 in
theorem ggX8_relink_X8_isOnPath : GoodIn wsX8_relink wsX8_isOnPath := goodIn_r _ [28, 21, 22, 23, 6, 24, 2, 29, 30, 31, 32, 33, 34, 35, 36, 37, 38] (by decide +kernel) (by decide +kernel)
set_option maxRecDepth 20000 in
theorem gX8_relink_X8_isOnPath : GoodIn wsX8_relink (wsV RX8 88 RX8 yX8_isOnPath wsX8_isOnPath) := goodIn_app (goodIn_of _ (by decide +kernel)) ggX8_relink_X8_isOnPath
set_option maxRecDepth 20000 in
theorem ggX8_relink_X8_en : GoodIn wsX8_relink wsX8_en := goodIn_r _ [24, 2, 29, 30, 31, 32, 33, 34, 35, 36, 37, 38] (by decide +kernel) (by decide +kernel)
set_option maxRecDepth 20000 in
theorem gX8_relink_X8_en : GoodIn wsX8_relink (wsV RX8 41 RX8 yX8_en wsX8_en) := goodIn_app (goodIn_of _ (by decide +kernel)) ggX8_relink_X8_en
theorem dX8_relink_0 : decode cX8_relink 0 = .ok (.aload_n 0, 1) := by decide +kernel
theorem dX8_relink_1 : decode cX8_relink 1 = .ok (.iload_n 1, 1) := by decide +kernel
theorem dX8_relink_2 : decode cX8_relink 2 = .ok (.invokevirtual 85, 3) := by decide +kernel
theorem dX8_relink_5 : decode cX8_relink 5 = .ok (.ifCond .ne 6, 3) := by decide +kernel
theorem dX8_relink_8 : decode cX8_relink 8 = .ok (.ldc 84, 2) := by decide +kernel
theorem dX8_relink_10 : decode cX8_relink 10 = .ok (.ireturn, 1) := by decide +kernel
theorem dX8_relink_11 : decode cX8_relink 11 = .ok (.aload_n 0, 1) := by decide +kernel
theorem dX8_relink_12 : decode cX8_relink 12 = .ok (.invokevirtual 73, 3) := by decide +kernel
theorem dX8_relink_15 : decode cX8_relink 15 = .ok (.iconst 0, 1) := by decide +kernel
theorem dX8_relink_16 : decode cX8_relink 16 = .ok (.istore_n 2, 1) := by decide +kernel
theorem dX8_relink_17 : decode cX8_relink 17 = .ok (.iload_n 1, 1) := by decide +kernel
theorem dX8_relink_18 : decode cX8_relink 18 = .ok (.istore_n 3, 1) := by decide +kernel
theorem dX8_relink_19 : decode cX8_relink 19 = .ok (.iload_n 3, 1) := by decide +kernel
theorem dX8_relink_20 : decode cX8_relink 20 = .ok (.aload_n 0, 1) := by decide +kernel
theorem dX8_relink_21 : decode cX8_relink 21 = .ok (.getfield 7, 3) := by decide +kernel
theorem dX8_relink_24 : decode cX8_relink 24 = .ok (.iconst 0, 1) := by decide +kernel
theorem dX8_relink_25 : decode cX8_relink 25 = .ok (.iaload, 1) := by decide +kernel
theorem dX8_relink_26 : decode cX8_relink 26 = .ok (.if_icmp .ge 54, 3) := by decide +kernel
theorem dX8_relink_29 : decode cX8_relink 29 = .ok (.aload_n 0, 1) := by decide +kernel
theorem dX8_relink_30 : decode cX8_relink 30 = .ok (.iload_n 3, 1) := by decide +kernel
theorem dX8_relink_31 : decode cX8_relink 31 = .ok (.invokevirtual 59, 3) := by decide +kernel
theorem dX8_relink_34 : decode cX8_relink 34 = .ok (.istore 4, 2) := by decide +kernel
theorem dX8_relink_36 : decode cX8_relink 36 = .ok (.aload_n 0, 1) := by decide +kernel
theorem dX8_relink_37 : decode cX8_relink 37 = .ok (.iload_n 1, 1) := by decide +kernel
theorem dX8_relink_38 : decode cX8_relink 38 = .ok (.iload_n 3, 1) := by decide +kernel
theorem dX8_relink_39 : decode cX8_relink 39 = .ok (.invokevirtual 88, 3) := by decide +kernel
theorem dX8_relink_42 : decode cX8_relink 42 = .ok (.ifCond .eq 32, 3) := by decide +kernel
theorem dX8_relink_45 : decode cX8_relink 45 = .ok (.iload 4, 2) := by decide +kernel
theorem dX8_relink_47 : decode cX8_relink 47 = .ok (.aload_n 0, 1) := by decide +kernel
theorem dX8_relink_48 : decode cX8_relink 48 = .ok (.iload_n 3, 1) := by decide +kernel
theorem dX8_relink_49 : decode cX8_relink 49 = .ok (.iconst 5, 1) := by decide +kernel
theorem dX8_relink_50 : decode cX8_relink 50 = .ok (.invokevirtual 41, 3) := by decide +kernel
theorem dX8_relink_53 : decode cX8_relink 53 = .ok (.if_icmp .eq 21, 3) := by decide +kernel
theorem dX8_relink_56 : decode cX8_relink 56 = .ok (.aload_n 0, 1) := by decide +kernel
theorem dX8_relink_57 : decode cX8_relink 57 = .ok (.getfield 7, 3) := by decide +kernel
theorem dX8_relink_60 : decode cX8_relink 60 = .ok (.iconst 5, 1) := by decide +kernel
theorem dX8_relink_61 : decode cX8_relink 61 = .ok (.bipush 7, 2) := by decide +kernel
theorem dX8_relink_63 : decode cX8_relink 63 = .ok (.iload_n 3, 1) := by decide +kernel
theorem dX8_relink_64 : decode cX8_relink 64 = .ok (.imul, 1) := by decide +kernel
theorem dX8_relink_65 : decode cX8_relink 65 = .ok (.iadd, 1) := by decide +kernel
theorem dX8_relink_66 : decode cX8_relink 66 = .ok (.iconst 5, 1) := by decide +kernel
theorem dX8_relink_67 : decode cX8_relink 67 = .ok (.iadd, 1) := by decide +kernel
theorem dX8_relink_68 : decode cX8_relink 68 = .ok (.iload 4, 2) := by decide +kernel
theorem dX8_relink_70 : decode cX8_relink 70 = .ok (.iastore, 1) := by decide +kernel
theorem dX8_relink_71 : decode cX8_relink 71 = .ok (.iinc 2 1, 3) := by decide +kernel
theorem dX8_relink_74 : decode cX8_relink 74 = .ok (.iinc 3 1, 3) := by decide +kernel
theorem dX8_relink_77 : decode cX8_relink 77 = .ok (.goto (-58), 3) := by decide +kernel
theorem dX8_relink_80 : decode cX8_relink 80 = .ok (.iload_n 2, 1) := by decide +kernel
theorem dX8_relink_81 : decode cX8_relink 81 = .ok (.ireturn, 1) := by decide +kernel
set_option maxRecDepth 20000 in
theorem ggX8_seal_X8_records : GoodIn wsX8_seal wsX8_records := goodIn_r _ [7, 8, 9, 1, 14, 15, 16, 17, 18, 19, 20, 21, 22, 23] (by decide +kernel) (by decide +kernel)
set_option maxRecDepth 20000 in
theorem gX8_seal_X8_records : GoodIn wsX8_seal (wsV RX8 73 RX8 yX8_records wsX8_records) := goodIn_app (goodIn_of _ (by decide +kernel)) ggX8_seal_X8_records
set_option maxRecDepth 20000 in
theorem ggX8_seal_X8_en : GoodIn wsX8_seal wsX8_en := goodIn_r _ [13, 1, 14, 15, 16, 17, 18, 19, 20, 21, 22, 23] (by decide +kernel) (by decide +kernel)
set_option maxRecDepth 20000 in
theorem gX8_seal_X8_en : GoodIn wsX8_seal (wsV RX8 41 RX8 yX8_en wsX8_en) := goodIn_app (goodIn_of _ (by decide +kernel)) ggX8_seal_X8_en
theorem dX8_seal_0 : decode cX8_seal 0 = .ok (.aload_n 0, 1) := by decide +kernel
theorem dX8_seal_1 : decode cX8_seal 1 = .ok (.getfield 7, 3) := by decide +kernel
theorem dX8_seal_4 : decode cX8_seal 4 = .ok (.iconst 4, 1) := by decide +kernel
theorem dX8_seal_5 : decode cX8_seal 5 = .ok (.iaload, 1) := by decide +kernel
theorem dX8_seal_6 : decode cX8_seal 6 = .ok (.bipush 8, 2) := by decide +kernel
theorem dX8_seal_8 : decode cX8_seal 8 = .ok (.if_icmp .ne 6, 3) := by decide +kernel
theorem dX8_seal_11 : decode cX8_seal 11 = .ok (.ldc 72, 2) := by decide +kernel
theorem dX8_seal_13 : decode cX8_seal 13 = .ok (.ireturn, 1) := by decide +kernel
theorem dX8_seal_14 : decode cX8_seal 14 = .ok (.aload_n 0, 1) := by decide +kernel
theorem dX8_seal_15 : decode cX8_seal 15 = .ok (.invokevirtual 73, 3) := by decide +kernel
theorem dX8_seal_18 : decode cX8_seal 18 = .ok (.sipush 465, 3) := by decide +kernel
theorem dX8_seal_21 : decode cX8_seal 21 = .ok (.iconst 2, 1) := by decide +kernel
theorem dX8_seal_22 : decode cX8_seal 22 = .ok (.aload_n 0, 1) := by decide +kernel
theorem dX8_seal_23 : decode cX8_seal 23 = .ok (.getfield 7, 3) := by decide +kernel
theorem dX8_seal_26 : decode cX8_seal 26 = .ok (.iconst 4, 1) := by decide +kernel
theorem dX8_seal_27 : decode cX8_seal 27 = .ok (.iaload, 1) := by decide +kernel
theorem dX8_seal_28 : decode cX8_seal 28 = .ok (.imul, 1) := by decide +kernel
theorem dX8_seal_29 : decode cX8_seal 29 = .ok (.iadd, 1) := by decide +kernel
theorem dX8_seal_30 : decode cX8_seal 30 = .ok (.istore_n 1, 1) := by decide +kernel
theorem dX8_seal_31 : decode cX8_seal 31 = .ok (.aload_n 0, 1) := by decide +kernel
theorem dX8_seal_32 : decode cX8_seal 32 = .ok (.getfield 7, 3) := by decide +kernel
theorem dX8_seal_35 : decode cX8_seal 35 = .ok (.iload_n 1, 1) := by decide +kernel
theorem dX8_seal_36 : decode cX8_seal 36 = .ok (.aload_n 0, 1) := by decide +kernel
theorem dX8_seal_37 : decode cX8_seal 37 = .ok (.getfield 7, 3) := by decide +kernel
theorem dX8_seal_40 : decode cX8_seal 40 = .ok (.iconst 1, 1) := by decide +kernel
theorem dX8_seal_41 : decode cX8_seal 41 = .ok (.iaload, 1) := by decide +kernel
theorem dX8_seal_42 : decode cX8_seal 42 = .ok (.iastore, 1) := by decide +kernel
theorem dX8_seal_43 : decode cX8_seal 43 = .ok (.aload_n 0, 1) := by decide +kernel
theorem dX8_seal_44 : decode cX8_seal 44 = .ok (.getfield 7, 3) := by decide +kernel
theorem dX8_seal_47 : decode cX8_seal 47 = .ok (.iload_n 1, 1) := by decide +kernel
theorem dX8_seal_48 : decode cX8_seal 48 = .ok (.iconst 1, 1) := by decide +kernel
theorem dX8_seal_49 : decode cX8_seal 49 = .ok (.iadd, 1) := by decide +kernel
theorem dX8_seal_50 : decode cX8_seal 50 = .ok (.aload_n 0, 1) := by decide +kernel
theorem dX8_seal_51 : decode cX8_seal 51 = .ok (.aload_n 0, 1) := by decide +kernel
theorem dX8_seal_52 : decode cX8_seal 52 = .ok (.getfield 7, 3) := by decide +kernel
theorem dX8_seal_55 : decode cX8_seal 55 = .ok (.iconst 1, 1) := by decide +kernel
theorem dX8_seal_56 : decode cX8_seal 56 = .ok (.iaload, 1) := by decide +kernel
theorem dX8_seal_57 : decode cX8_seal 57 = .ok (.iconst 5, 1) := by decide +kernel
theorem dX8_seal_58 : decode cX8_seal 58 = .ok (.invokevirtual 41, 3) := by decide +kernel
theorem dX8_seal_61 : decode cX8_seal 61 = .ok (.iastore, 1) := by decide +kernel
theorem dX8_seal_62 : decode cX8_seal 62 = .ok (.aload_n 0, 1) := by decide +kernel
theorem dX8_seal_63 : decode cX8_seal 63 = .ok (.getfield 7, 3) := by decide +kernel
theorem dX8_seal_66 : decode cX8_seal 66 = .ok (.iconst 4, 1) := by decide +kernel
theorem dX8_seal_67 : decode cX8_seal 67 = .ok (.dup2, 1) := by decide +kernel
theorem dX8_seal_68 : decode cX8_seal 68 = .ok (.iaload, 1) := by decide +kernel
theorem dX8_seal_69 : decode cX8_seal 69 = .ok (.iconst 1, 1) := by decide +kernel
theorem dX8_seal_70 : decode cX8_seal 70 = .ok (.iadd, 1) := by decide +kernel
theorem dX8_seal_71 : decode cX8_seal 71 = .ok (.iastore, 1) := by decide +kernel
theorem dX8_seal_72 : decode cX8_seal 72 = .ok (.aload_n 0, 1) := by decide +kernel
theorem dX8_seal_73 : decode cX8_seal 73 = .ok (.getfield 7, 3) := by decide +kernel
theorem dX8_seal_76 : decode cX8_seal 76 = .ok (.iconst 4, 1) := by decide +kernel
theorem dX8_seal_77 : decode cX8_seal 77 = .ok (.iaload, 1) := by decide +kernel
theorem dX8_seal_78 : decode cX8_seal 78 = .ok (.iconst 1, 1) := by decide +kernel
theorem dX8_seal_79 : decode cX8_seal 79 = .ok (.isub, 1) := by decide +kernel
theorem dX8_seal_80 : decode cX8_seal 80 = .ok (.ireturn, 1) := by decide +kernel
set_option maxRecDepth 20000 in
theorem ggX8_take_X8_in : GoodIn wsX8_take wsX8_in := goodIn_r _ [6] (by decide +kernel) (by decide +kernel)
set_option maxRecDepth 20000 in
theorem gX8_take_X8_in : GoodIn wsX8_take (va_wsS RX8 33 yX8_in wsX8_in) := goodIn_app (goodIn_of _ (by decide +kernel)) ggX8_take_X8_in
set_option maxRecDepth 20000 in
theorem ggX8_take_X8_records : GoodIn wsX8_take wsX8_records := goodIn_r _ [10, 11, 12, 2, 13, 14, 15, 16, 17, 18, 19, 20, 21, 22] (by decide +kernel) (by decide +kernel)
set_option maxRecDepth 20000 in
theorem gX8_take_X8_records : GoodIn wsX8_take (wsV RX8 73 RX8 yX8_records wsX8_records) := goodIn_app (goodIn_of _ (by decide +kernel)) ggX8_take_X8_records
theorem dX8_take_0 : decode cX8_take 0 = .ok (.iload_n 1, 1) := by decide +kernel
theorem dX8_take_1 : decode cX8_take 1 = .ok (.iconst 0, 1) := by decide +kernel
theorem dX8_take_2 : decode cX8_take 2 = .ok (.iconst 1, 1) := by decide +kernel
theorem dX8_take_3 : decode cX8_take 3 = .ok (.invokestatic 33, 3) := by decide +kernel
theorem dX8_take_6 : decode cX8_take 6 = .ok (.ifCond .ne 6, 3) := by decide +kernel
theorem dX8_take_9 : decode cX8_take 9 = .ok (.ldc 84, 2) := by decide +kernel
theorem dX8_take_11 : decode cX8_take 11 = .ok (.ireturn, 1) := by decide +kernel
theorem dX8_take_12 : decode cX8_take 12 = .ok (.aload_n 0, 1) := by decide +kernel
theorem dX8_take_13 : decode cX8_take 13 = .ok (.invokevirtual 73, 3) := by decide +kernel
theorem dX8_take_16 : decode cX8_take 16 = .ok (.iconst 0, 1) := by decide +kernel
theorem dX8_take_17 : decode cX8_take 17 = .ok (.istore_n 2, 1) := by decide +kernel
theorem dX8_take_18 : decode cX8_take 18 = .ok (.iload_n 2, 1) := by decide +kernel
theorem dX8_take_19 : decode cX8_take 19 = .ok (.sipush 481, 3) := by decide +kernel
theorem dX8_take_22 : decode cX8_take 22 = .ok (.if_icmp .ge 31, 3) := by decide +kernel
theorem dX8_take_25 : decode cX8_take 25 = .ok (.aload_n 0, 1) := by decide +kernel
theorem dX8_take_26 : decode cX8_take 26 = .ok (.getfield 7, 3) := by decide +kernel
theorem dX8_take_29 : decode cX8_take 29 = .ok (.sipush 481, 3) := by decide +kernel
theorem dX8_take_32 : decode cX8_take 32 = .ok (.sipush 481, 3) := by decide +kernel
theorem dX8_take_35 : decode cX8_take 35 = .ok (.iload_n 1, 1) := by decide +kernel
theorem dX8_take_36 : decode cX8_take 36 = .ok (.imul, 1) := by decide +kernel
theorem dX8_take_37 : decode cX8_take 37 = .ok (.iadd, 1) := by decide +kernel
theorem dX8_take_38 : decode cX8_take 38 = .ok (.iload_n 2, 1) := by decide +kernel
theorem dX8_take_39 : decode cX8_take 39 = .ok (.iadd, 1) := by decide +kernel
theorem dX8_take_40 : decode cX8_take 40 = .ok (.aload_n 0, 1) := by decide +kernel
theorem dX8_take_41 : decode cX8_take 41 = .ok (.getfield 7, 3) := by decide +kernel
theorem dX8_take_44 : decode cX8_take 44 = .ok (.iload_n 2, 1) := by decide +kernel
theorem dX8_take_45 : decode cX8_take 45 = .ok (.iaload, 1) := by decide +kernel
theorem dX8_take_46 : decode cX8_take 46 = .ok (.iastore, 1) := by decide +kernel
theorem dX8_take_47 : decode cX8_take 47 = .ok (.iinc 2 1, 3) := by decide +kernel
theorem dX8_take_50 : decode cX8_take 50 = .ok (.goto (-32), 3) := by decide +kernel
theorem dX8_take_53 : decode cX8_take 53 = .ok (.aload_n 0, 1) := by decide +kernel
theorem dX8_take_54 : decode cX8_take 54 = .ok (.getfield 7, 3) := by decide +kernel
theorem dX8_take_57 : decode cX8_take 57 = .ok (.sipush 1443, 3) := by decide +kernel
theorem dX8_take_60 : decode cX8_take 60 = .ok (.iload_n 1, 1) := by decide +kernel
theorem dX8_take_61 : decode cX8_take 61 = .ok (.iadd, 1) := by decide +kernel
theorem dX8_take_62 : decode cX8_take 62 = .ok (.iconst 1, 1) := by decide +kernel
theorem dX8_take_63 : decode cX8_take 63 = .ok (.iastore, 1) := by decide +kernel
theorem dX8_take_64 : decode cX8_take 64 = .ok (.aload_n 0, 1) := by decide +kernel
theorem dX8_take_65 : decode cX8_take 65 = .ok (.getfield 7, 3) := by decide +kernel
theorem dX8_take_68 : decode cX8_take 68 = .ok (.iconst 0, 1) := by decide +kernel
theorem dX8_take_69 : decode cX8_take 69 = .ok (.iaload, 1) := by decide +kernel
theorem dX8_take_70 : decode cX8_take 70 = .ok (.ireturn, 1) := by decide +kernel
set_option maxRecDepth 20000 in
theorem ggX8_restore_X8_in : GoodIn wsX8_restore wsX8_in := goodIn_r _ [7] (by decide +kernel) (by decide +kernel)
set_option maxRecDepth 20000 in
theorem gX8_restore_X8_in : GoodIn wsX8_restore (va_wsS RX8 33 yX8_in wsX8_in) := goodIn_app (goodIn_of _ (by decide +kernel)) ggX8_restore_X8_in
set_option maxRecDepth 20000 in
theorem ggX8_restore_X8_records : GoodIn wsX8_restore wsX8_records := goodIn_r _ [11, 12, 13, 2, 14, 15, 16, 17, 18, 19, 20, 21, 22, 23] (by decide +kernel) (by decide +kernel)
set_option maxRecDepth 20000 in
theorem gX8_restore_X8_records : GoodIn wsX8_restore (wsV RX8 73 RX8 yX8_records wsX8_records) := goodIn_app (goodIn_of _ (by decide +kernel)) ggX8_restore_X8_records
theorem dX8_restore_0 : decode cX8_restore 0 = .ok (.iload_n 1, 1) := by decide +kernel
theorem dX8_restore_1 : decode cX8_restore 1 = .ok (.iconst 0, 1) := by decide +kernel
theorem dX8_restore_2 : decode cX8_restore 2 = .ok (.iconst 1, 1) := by decide +kernel
theorem dX8_restore_3 : decode cX8_restore 3 = .ok (.invokestatic 33, 3) := by decide +kernel
theorem dX8_restore_6 : decode cX8_restore 6 = .ok (.ifCond .ne 6, 3) := by decide +kernel
theorem dX8_restore_9 : decode cX8_restore 9 = .ok (.ldc 84, 2) := by decide +kernel
theorem dX8_restore_11 : decode cX8_restore 11 = .ok (.ireturn, 1) := by decide +kernel
theorem dX8_restore_12 : decode cX8_restore 12 = .ok (.aload_n 0, 1) := by decide +kernel
theorem dX8_restore_13 : decode cX8_restore 13 = .ok (.getfield 7, 3) := by decide +kernel
theorem dX8_restore_16 : decode cX8_restore 16 = .ok (.sipush 1443, 3) := by decide +kernel
theorem dX8_restore_19 : decode cX8_restore 19 = .ok (.iload_n 1, 1) := by decide +kernel
theorem dX8_restore_20 : decode cX8_restore 20 = .ok (.iadd, 1) := by decide +kernel
theorem dX8_restore_21 : decode cX8_restore 21 = .ok (.iaload, 1) := by decide +kernel
theorem dX8_restore_22 : decode cX8_restore 22 = .ok (.ifCond .ne 6, 3) := by decide +kernel
theorem dX8_restore_25 : decode cX8_restore 25 = .ok (.ldc 71, 2) := by decide +kernel
theorem dX8_restore_27 : decode cX8_restore 27 = .ok (.ireturn, 1) := by decide +kernel
theorem dX8_restore_28 : decode cX8_restore 28 = .ok (.aload_n 0, 1) := by decide +kernel
theorem dX8_restore_29 : decode cX8_restore 29 = .ok (.invokevirtual 73, 3) := by decide +kernel
theorem dX8_restore_32 : decode cX8_restore 32 = .ok (.iconst 0, 1) := by decide +kernel
theorem dX8_restore_33 : decode cX8_restore 33 = .ok (.istore_n 2, 1) := by decide +kernel
theorem dX8_restore_34 : decode cX8_restore 34 = .ok (.iload_n 2, 1) := by decide +kernel
theorem dX8_restore_35 : decode cX8_restore 35 = .ok (.sipush 481, 3) := by decide +kernel
theorem dX8_restore_38 : decode cX8_restore 38 = .ok (.if_icmp .ge 31, 3) := by decide +kernel
theorem dX8_restore_41 : decode cX8_restore 41 = .ok (.aload_n 0, 1) := by decide +kernel
theorem dX8_restore_42 : decode cX8_restore 42 = .ok (.getfield 7, 3) := by decide +kernel
theorem dX8_restore_45 : decode cX8_restore 45 = .ok (.iload_n 2, 1) := by decide +kernel
theorem dX8_restore_46 : decode cX8_restore 46 = .ok (.aload_n 0, 1) := by decide +kernel
theorem dX8_restore_47 : decode cX8_restore 47 = .ok (.getfield 7, 3) := by decide +kernel
theorem dX8_restore_50 : decode cX8_restore 50 = .ok (.sipush 481, 3) := by decide +kernel
theorem dX8_restore_53 : decode cX8_restore 53 = .ok (.sipush 481, 3) := by decide +kernel
theorem dX8_restore_56 : decode cX8_restore 56 = .ok (.iload_n 1, 1) := by decide +kernel
theorem dX8_restore_57 : decode cX8_restore 57 = .ok (.imul, 1) := by decide +kernel
theorem dX8_restore_58 : decode cX8_restore 58 = .ok (.iadd, 1) := by decide +kernel
theorem dX8_restore_59 : decode cX8_restore 59 = .ok (.iload_n 2, 1) := by decide +kernel
theorem dX8_restore_60 : decode cX8_restore 60 = .ok (.iadd, 1) := by decide +kernel
theorem dX8_restore_61 : decode cX8_restore 61 = .ok (.iaload, 1) := by decide +kernel
theorem dX8_restore_62 : decode cX8_restore 62 = .ok (.iastore, 1) := by decide +kernel
theorem dX8_restore_63 : decode cX8_restore 63 = .ok (.iinc 2 1, 3) := by decide +kernel
theorem dX8_restore_66 : decode cX8_restore 66 = .ok (.goto (-32), 3) := by decide +kernel
theorem dX8_restore_69 : decode cX8_restore 69 = .ok (.aload_n 0, 1) := by decide +kernel
theorem dX8_restore_70 : decode cX8_restore 70 = .ok (.getfield 7, 3) := by decide +kernel
theorem dX8_restore_73 : decode cX8_restore 73 = .ok (.iconst 0, 1) := by decide +kernel
theorem dX8_restore_74 : decode cX8_restore 74 = .ok (.iaload, 1) := by decide +kernel
theorem dX8_restore_75 : decode cX8_restore 75 = .ok (.ireturn, 1) := by decide +kernel
theorem dX8_undo_0 : decode cX8_undo 0 = .ok (.aload_n 0, 1) := by decide +kernel
theorem dX8_undo_1 : decode cX8_undo 1 = .ok (.getfield 37, 3) := by decide +kernel
theorem dX8_undo_4 : decode cX8_undo 4 = .ok (.ifCond .ne 6, 3) := by decide +kernel
theorem dX8_undo_7 : decode cX8_undo 7 = .ok (.ldc 71, 2) := by decide +kernel
theorem dX8_undo_9 : decode cX8_undo 9 = .ok (.ireturn, 1) := by decide +kernel
theorem dX8_undo_10 : decode cX8_undo 10 = .ok (.aload_n 0, 1) := by decide +kernel
theorem dX8_undo_11 : decode cX8_undo 11 = .ok (.dup, 1) := by decide +kernel
theorem dX8_undo_12 : decode cX8_undo 12 = .ok (.getfield 37, 3) := by decide +kernel
theorem dX8_undo_15 : decode cX8_undo 15 = .ok (.iconst 1, 1) := by decide +kernel
theorem dX8_undo_16 : decode cX8_undo 16 = .ok (.isub, 1) := by decide +kernel
theorem dX8_undo_17 : decode cX8_undo 17 = .ok (.putfield 37, 3) := by decide +kernel
theorem dX8_undo_20 : decode cX8_undo 20 = .ok (.iconst 0, 1) := by decide +kernel
theorem dX8_undo_21 : decode cX8_undo 21 = .ok (.istore_n 1, 1) := by decide +kernel
theorem dX8_undo_22 : decode cX8_undo 22 = .ok (.iload_n 1, 1) := by decide +kernel
theorem dX8_undo_23 : decode cX8_undo 23 = .ok (.sipush 1445, 3) := by decide +kernel
theorem dX8_undo_26 : decode cX8_undo 26 = .ok (.if_icmp .ge 30, 3) := by decide +kernel
theorem dX8_undo_29 : decode cX8_undo 29 = .ok (.aload_n 0, 1) := by decide +kernel
theorem dX8_undo_30 : decode cX8_undo 30 = .ok (.getfield 7, 3) := by decide +kernel
theorem dX8_undo_33 : decode cX8_undo 33 = .ok (.iload_n 1, 1) := by decide +kernel
theorem dX8_undo_34 : decode cX8_undo 34 = .ok (.aload_n 0, 1) := by decide +kernel
theorem dX8_undo_35 : decode cX8_undo 35 = .ok (.getfield 13, 3) := by decide +kernel
theorem dX8_undo_38 : decode cX8_undo 38 = .ok (.sipush 1445, 3) := by decide +kernel
theorem dX8_undo_41 : decode cX8_undo 41 = .ok (.aload_n 0, 1) := by decide +kernel
theorem dX8_undo_42 : decode cX8_undo 42 = .ok (.getfield 37, 3) := by decide +kernel
theorem dX8_undo_45 : decode cX8_undo 45 = .ok (.imul, 1) := by decide +kernel
theorem dX8_undo_46 : decode cX8_undo 46 = .ok (.iload_n 1, 1) := by decide +kernel
theorem dX8_undo_47 : decode cX8_undo 47 = .ok (.iadd, 1) := by decide +kernel
theorem dX8_undo_48 : decode cX8_undo 48 = .ok (.iaload, 1) := by decide +kernel
theorem dX8_undo_49 : decode cX8_undo 49 = .ok (.iastore, 1) := by decide +kernel
theorem dX8_undo_50 : decode cX8_undo 50 = .ok (.iinc 1 1, 3) := by decide +kernel
theorem dX8_undo_53 : decode cX8_undo 53 = .ok (.goto (-31), 3) := by decide +kernel
theorem dX8_undo_56 : decode cX8_undo 56 = .ok (.aload_n 0, 1) := by decide +kernel
theorem dX8_undo_57 : decode cX8_undo 57 = .ok (.getfield 37, 3) := by decide +kernel
theorem dX8_undo_60 : decode cX8_undo 60 = .ok (.ireturn, 1) := by decide +kernel
set_option maxRecDepth 20000 in
theorem ggX8_append_X8_in : GoodIn wsX8_append wsX8_in := goodIn_r _ [8] (by decide +kernel) (by decide +kernel)
set_option maxRecDepth 20000 in
theorem gX8_append_X8_in : GoodIn wsX8_append (va_wsS RX8 33 yX8_in wsX8_in) := goodIn_app (goodIn_of _ (by decide +kernel)) ggX8_append_X8_in
theorem dX8_append_0 : decode cX8_append 0 = .ok (.iload_n 1, 1) := by decide +kernel
theorem dX8_append_1 : decode cX8_append 1 = .ok (.iconst 1, 1) := by decide +kernel
theorem dX8_append_2 : decode cX8_append 2 = .ok (.sipush 255, 3) := by decide +kernel
theorem dX8_append_5 : decode cX8_append 5 = .ok (.invokestatic 33, 3) := by decide +kernel
theorem dX8_append_8 : decode cX8_append 8 = .ok (.ifCond .ne 6, 3) := by decide +kernel
theorem dX8_append_11 : decode cX8_append 11 = .ok (.ldc 84, 2) := by decide +kernel
theorem dX8_append_13 : decode cX8_append 13 = .ok (.ireturn, 1) := by decide +kernel
theorem dX8_append_14 : decode cX8_append 14 = .ok (.aload_n 0, 1) := by decide +kernel
theorem dX8_append_15 : decode cX8_append 15 = .ok (.getfield 111, 3) := by decide +kernel
theorem dX8_append_18 : decode cX8_append 18 = .ok (.bipush 100, 2) := by decide +kernel
theorem dX8_append_20 : decode cX8_append 20 = .ok (.if_icmp .ne 6, 3) := by decide +kernel
theorem dX8_append_23 : decode cX8_append 23 = .ok (.ldc 72, 2) := by decide +kernel
theorem dX8_append_25 : decode cX8_append 25 = .ok (.ireturn, 1) := by decide +kernel
theorem dX8_append_26 : decode cX8_append 26 = .ok (.aload_n 0, 1) := by decide +kernel
theorem dX8_append_27 : decode cX8_append 27 = .ok (.getfield 16, 3) := by decide +kernel
theorem dX8_append_30 : decode cX8_append 30 = .ok (.aload_n 0, 1) := by decide +kernel
theorem dX8_append_31 : decode cX8_append 31 = .ok (.getfield 111, 3) := by decide +kernel
theorem dX8_append_34 : decode cX8_append 34 = .ok (.iload_n 1, 1) := by decide +kernel
theorem dX8_append_35 : decode cX8_append 35 = .ok (.i2c, 1) := by decide +kernel
theorem dX8_append_36 : decode cX8_append 36 = .ok (.castore, 1) := by decide +kernel
theorem dX8_append_37 : decode cX8_append 37 = .ok (.aload_n 0, 1) := by decide +kernel
theorem dX8_append_38 : decode cX8_append 38 = .ok (.dup, 1) := by decide +kernel
theorem dX8_append_39 : decode cX8_append 39 = .ok (.getfield 111, 3) := by decide +kernel
theorem dX8_append_42 : decode cX8_append 42 = .ok (.iconst 1, 1) := by decide +kernel
theorem dX8_append_43 : decode cX8_append 43 = .ok (.iadd, 1) := by decide +kernel
theorem dX8_append_44 : decode cX8_append 44 = .ok (.putfield 111, 3) := by decide +kernel
theorem dX8_append_47 : decode cX8_append 47 = .ok (.aload_n 0, 1) := by decide +kernel
theorem dX8_append_48 : decode cX8_append 48 = .ok (.getfield 111, 3) := by decide +kernel
theorem dX8_append_51 : decode cX8_append 51 = .ok (.ireturn, 1) := by decide +kernel
theorem dX8_clearText_0 : decode cX8_clearText 0 = .ok (.aload_n 0, 1) := by decide +kernel
theorem dX8_clearText_1 : decode cX8_clearText 1 = .ok (.getfield 111, 3) := by decide +kernel
theorem dX8_clearText_4 : decode cX8_clearText 4 = .ok (.istore_n 1, 1) := by decide +kernel
theorem dX8_clearText_5 : decode cX8_clearText 5 = .ok (.aload_n 0, 1) := by decide +kernel
theorem dX8_clearText_6 : decode cX8_clearText 6 = .ok (.iconst 0, 1) := by decide +kernel
theorem dX8_clearText_7 : decode cX8_clearText 7 = .ok (.putfield 111, 3) := by decide +kernel
theorem dX8_clearText_10 : decode cX8_clearText 10 = .ok (.iload_n 1, 1) := by decide +kernel
theorem dX8_clearText_11 : decode cX8_clearText 11 = .ok (.ireturn, 1) := by decide +kernel
theorem dX8_sign_0 : decode cX8_sign 0 = .ok (.aload_n 0, 1) := by decide +kernel
theorem dX8_sign_1 : decode cX8_sign 1 = .ok (.getfield 114, 3) := by decide +kernel
theorem dX8_sign_4 : decode cX8_sign 4 = .ok (.aload_n 0, 1) := by decide +kernel
theorem dX8_sign_5 : decode cX8_sign 5 = .ok (.getfield 111, 3) := by decide +kernel
theorem dX8_sign_8 : decode cX8_sign 8 = .ok (.if_icmp .ge 15, 3) := by decide +kernel
theorem dX8_sign_11 : decode cX8_sign 11 = .ok (.aload_n 0, 1) := by decide +kernel
theorem dX8_sign_12 : decode cX8_sign 12 = .ok (.getfield 16, 3) := by decide +kernel
theorem dX8_sign_15 : decode cX8_sign 15 = .ok (.aload_n 0, 1) := by decide +kernel
theorem dX8_sign_16 : decode cX8_sign 16 = .ok (.getfield 114, 3) := by decide +kernel
theorem dX8_sign_19 : decode cX8_sign 19 = .ok (.caload, 1) := by decide +kernel
theorem dX8_sign_20 : decode cX8_sign 20 = .ok (.goto 4, 3) := by decide +kernel
theorem dX8_sign_23 : decode cX8_sign 23 = .ok (.iconst (-1), 1) := by decide +kernel
theorem dX8_sign_24 : decode cX8_sign 24 = .ok (.ireturn, 1) := by decide +kernel
set_option maxRecDepth 20000 in
theorem ggX8_number_X8_sign : GoodIn wsX8_number wsX8_sign := goodIn_r _ [6, 1, 7, 8, 12, 13, 14, 15, 16, 17, 18, 19, 20, 21] (by decide +kernel) (by decide +kernel)
set_option maxRecDepth 20000 in
theorem gX8_number_X8_sign : GoodIn wsX8_number (wsV RX8 117 RX8 yX8_sign wsX8_sign) := goodIn_app (goodIn_of _ (by decide +kernel)) ggX8_number_X8_sign
set_option maxRecDepth 20000 in
theorem ggX8_number_X8_in : GoodIn wsX8_number wsX8_in := goodIn_r _ [11] (by decide +kernel) (by decide +kernel)
set_option maxRecDepth 20000 in
theorem gX8_number_X8_in : GoodIn wsX8_number (va_wsS RX8 33 yX8_in wsX8_in) := goodIn_app (goodIn_of _ (by decide +kernel)) ggX8_number_X8_in
theorem dX8_number_0 : decode cX8_number 0 = .ok (.aload_n 0, 1) := by decide +kernel
theorem dX8_number_1 : decode cX8_number 1 = .ok (.getfield 114, 3) := by decide +kernel
theorem dX8_number_4 : decode cX8_number 4 = .ok (.istore_n 1, 1) := by decide +kernel
theorem dX8_number_5 : decode cX8_number 5 = .ok (.iconst 0, 1) := by decide +kernel
theorem dX8_number_6 : decode cX8_number 6 = .ok (.istore_n 2, 1) := by decide +kernel
theorem dX8_number_7 : decode cX8_number 7 = .ok (.aload_n 0, 1) := by decide +kernel
theorem dX8_number_8 : decode cX8_number 8 = .ok (.invokevirtual 117, 3) := by decide +kernel
theorem dX8_number_11 : decode cX8_number 11 = .ok (.bipush 48, 2) := by decide +kernel
theorem dX8_number_13 : decode cX8_number 13 = .ok (.bipush 57, 2) := by decide +kernel
theorem dX8_number_15 : decode cX8_number 15 = .ok (.invokestatic 33, 3) := by decide +kernel
theorem dX8_number_18 : decode cX8_number 18 = .ok (.ifCond .eq 51, 3) := by decide +kernel
theorem dX8_number_21 : decode cX8_number 21 = .ok (.aload_n 0, 1) := by decide +kernel
theorem dX8_number_22 : decode cX8_number 22 = .ok (.getfield 114, 3) := by decide +kernel
theorem dX8_number_25 : decode cX8_number 25 = .ok (.iload_n 1, 1) := by decide +kernel
theorem dX8_number_26 : decode cX8_number 26 = .ok (.iconst 4, 1) := by decide +kernel
theorem dX8_number_27 : decode cX8_number 27 = .ok (.iadd, 1) := by decide +kernel
theorem dX8_number_28 : decode cX8_number 28 = .ok (.if_icmp .ge 41, 3) := by decide +kernel
theorem dX8_number_31 : decode cX8_number 31 = .ok (.aload_n 0, 1) := by decide +kernel
theorem dX8_number_32 : decode cX8_number 32 = .ok (.getfield 114, 3) := by decide +kernel
theorem dX8_number_35 : decode cX8_number 35 = .ok (.iload_n 1, 1) := by decide +kernel
theorem dX8_number_36 : decode cX8_number 36 = .ok (.if_icmp .le 7, 3) := by decide +kernel
theorem dX8_number_39 : decode cX8_number 39 = .ok (.iload_n 2, 1) := by decide +kernel
theorem dX8_number_40 : decode cX8_number 40 = .ok (.ifCond .eq 29, 3) := by decide +kernel
theorem dX8_number_43 : decode cX8_number 43 = .ok (.bipush 10, 2) := by decide +kernel
theorem dX8_number_45 : decode cX8_number 45 = .ok (.iload_n 2, 1) := by decide +kernel
theorem dX8_number_46 : decode cX8_number 46 = .ok (.imul, 1) := by decide +kernel
theorem dX8_number_47 : decode cX8_number 47 = .ok (.aload_n 0, 1) := by decide +kernel
theorem dX8_number_48 : decode cX8_number 48 = .ok (.invokevirtual 117, 3) := by decide +kernel
theorem dX8_number_51 : decode cX8_number 51 = .ok (.iadd, 1) := by decide +kernel
theorem dX8_number_52 : decode cX8_number 52 = .ok (.bipush 48, 2) := by decide +kernel
theorem dX8_number_54 : decode cX8_number 54 = .ok (.isub, 1) := by decide +kernel
theorem dX8_number_55 : decode cX8_number 55 = .ok (.istore_n 2, 1) := by decide +kernel
theorem dX8_number_56 : decode cX8_number 56 = .ok (.aload_n 0, 1) := by decide +kernel
theorem dX8_number_57 : decode cX8_number 57 = .ok (.dup, 1) := by decide +kernel
theorem dX8_number_58 : decode cX8_number 58 = .ok (.getfield 114, 3) := by decide +kernel
theorem dX8_number_61 : decode cX8_number 61 = .ok (.iconst 1, 1) := by decide +kernel
theorem dX8_number_62 : decode cX8_number 62 = .ok (.iadd, 1) := by decide +kernel
theorem dX8_number_63 : decode cX8_number 63 = .ok (.putfield 114, 3) := by decide +kernel
theorem dX8_number_66 : decode cX8_number 66 = .ok (.goto (-59), 3) := by decide +kernel
theorem dX8_number_69 : decode cX8_number 69 = .ok (.aload_n 0, 1) := by decide +kernel
theorem dX8_number_70 : decode cX8_number 70 = .ok (.getfield 114, 3) := by decide +kernel
theorem dX8_number_73 : decode cX8_number 73 = .ok (.iload_n 1, 1) := by decide +kernel
theorem dX8_number_74 : decode cX8_number 74 = .ok (.if_icmp .ne 7, 3) := by decide +kernel
theorem dX8_number_77 : decode cX8_number 77 = .ok (.iconst (-1), 1) := by decide +kernel
theorem dX8_number_78 : decode cX8_number 78 = .ok (.goto 4, 3) := by decide +kernel
theorem dX8_number_81 : decode cX8_number 81 = .ok (.iload_n 2, 1) := by decide +kernel
theorem dX8_number_82 : decode cX8_number 82 = .ok (.ireturn, 1) := by decide +kernel
set_option maxRecDepth 20000 in
theorem ggX8_reads_X8_number : GoodIn wsX8_reads wsX8_number := goodIn_r _ [8, 1, 9, 10, 11, 7, 12, 3, 13, 14, 15, 16, 17, 18, 19, 20, 21, 22, 23, 24, 25, 26] (by decide +kernel) (by decide +kernel)
set_option maxRecDepth 20000 in
theorem gX8_reads_X8_number : GoodIn wsX8_reads (wsV RX8 120 RX8 yX8_number wsX8_number) := goodIn_app (goodIn_of _ (by decide +kernel)) ggX8_reads_X8_number
set_option maxRecDepth 20000 in
theorem ggX8_reads_X8_sign : GoodIn wsX8_reads wsX8_sign := goodIn_r _ [12, 1, 3, 13, 17, 18, 19, 20, 21, 22, 23, 24, 25, 26] (by decide +kernel) (by decide +kernel)
set_option maxRecDepth 20000 in
theorem gX8_reads_X8_sign : GoodIn wsX8_reads (wsV RX8 117 RX8 yX8_sign wsX8_sign) := goodIn_app (goodIn_of _ (by decide +kernel)) ggX8_reads_X8_sign
theorem dX8_reads_0 : decode cX8_reads 0 = .ok (.aload_n 0, 1) := by decide +kernel
theorem dX8_reads_1 : decode cX8_reads 1 = .ok (.iconst 0, 1) := by decide +kernel
theorem dX8_reads_2 : decode cX8_reads 2 = .ok (.putfield 114, 3) := by decide +kernel
theorem dX8_reads_5 : decode cX8_reads 5 = .ok (.iconst 0, 1) := by decide +kernel
theorem dX8_reads_6 : decode cX8_reads 6 = .ok (.istore_n 1, 1) := by decide +kernel
theorem dX8_reads_7 : decode cX8_reads 7 = .ok (.iconst 1, 1) := by decide +kernel
theorem dX8_reads_8 : decode cX8_reads 8 = .ok (.istore_n 2, 1) := by decide +kernel
theorem dX8_reads_9 : decode cX8_reads 9 = .ok (.iload_n 2, 1) := by decide +kernel
theorem dX8_reads_10 : decode cX8_reads 10 = .ok (.ifCond .eq 78, 3) := by decide +kernel
theorem dX8_reads_13 : decode cX8_reads 13 = .ok (.aload_n 0, 1) := by decide +kernel
theorem dX8_reads_14 : decode cX8_reads 14 = .ok (.invokevirtual 120, 3) := by decide +kernel
theorem dX8_reads_17 : decode cX8_reads 17 = .ok (.istore_n 3, 1) := by decide +kernel
theorem dX8_reads_18 : decode cX8_reads 18 = .ok (.iload_n 3, 1) := by decide +kernel
theorem dX8_reads_19 : decode cX8_reads 19 = .ok (.ifCond .lt 16, 3) := by decide +kernel
theorem dX8_reads_22 : decode cX8_reads 22 = .ok (.iload_n 1, 1) := by decide +kernel
theorem dX8_reads_23 : decode cX8_reads 23 = .ok (.ifCond .ne 14, 3) := by decide +kernel
theorem dX8_reads_26 : decode cX8_reads 26 = .ok (.aload_n 0, 1) := by decide +kernel
theorem dX8_reads_27 : decode cX8_reads 27 = .ok (.invokevirtual 117, 3) := by decide +kernel
theorem dX8_reads_30 : decode cX8_reads 30 = .ok (.bipush 58, 2) := by decide +kernel
theorem dX8_reads_32 : decode cX8_reads 32 = .ok (.if_icmp .eq 5, 3) := by decide +kernel
theorem dX8_reads_35 : decode cX8_reads 35 = .ok (.iconst (-1), 1) := by decide +kernel
theorem dX8_reads_36 : decode cX8_reads 36 = .ok (.ireturn, 1) := by decide +kernel
theorem dX8_reads_37 : decode cX8_reads 37 = .ok (.aload_n 0, 1) := by decide +kernel
theorem dX8_reads_38 : decode cX8_reads 38 = .ok (.getfield 26, 3) := by decide +kernel
theorem dX8_reads_41 : decode cX8_reads 41 = .ok (.iload_n 1, 1) := by decide +kernel
theorem dX8_reads_42 : decode cX8_reads 42 = .ok (.iload_n 3, 1) := by decide +kernel
theorem dX8_reads_43 : decode cX8_reads 43 = .ok (.iastore, 1) := by decide +kernel
theorem dX8_reads_44 : decode cX8_reads 44 = .ok (.iinc 1 1, 3) := by decide +kernel
theorem dX8_reads_47 : decode cX8_reads 47 = .ok (.iload_n 1, 1) := by decide +kernel
theorem dX8_reads_48 : decode cX8_reads 48 = .ok (.iconst 1, 1) := by decide +kernel
theorem dX8_reads_49 : decode cX8_reads 49 = .ok (.if_icmp .eq 12, 3) := by decide +kernel
theorem dX8_reads_52 : decode cX8_reads 52 = .ok (.aload_n 0, 1) := by decide +kernel
theorem dX8_reads_53 : decode cX8_reads 53 = .ok (.invokevirtual 117, 3) := by decide +kernel
theorem dX8_reads_56 : decode cX8_reads 56 = .ok (.bipush 44, 2) := by decide +kernel
theorem dX8_reads_58 : decode cX8_reads 58 = .ok (.if_icmp .ne 7, 3) := by decide +kernel
theorem dX8_reads_61 : decode cX8_reads 61 = .ok (.iconst 1, 1) := by decide +kernel
theorem dX8_reads_62 : decode cX8_reads 62 = .ok (.goto 4, 3) := by decide +kernel
theorem dX8_reads_65 : decode cX8_reads 65 = .ok (.iconst 0, 1) := by decide +kernel
theorem dX8_reads_66 : decode cX8_reads 66 = .ok (.istore_n 2, 1) := by decide +kernel
theorem dX8_reads_67 : decode cX8_reads 67 = .ok (.aload_n 0, 1) := by decide +kernel
theorem dX8_reads_68 : decode cX8_reads 68 = .ok (.dup, 1) := by decide +kernel
theorem dX8_reads_69 : decode cX8_reads 69 = .ok (.getfield 114, 3) := by decide +kernel
theorem dX8_reads_72 : decode cX8_reads 72 = .ok (.iload_n 2, 1) := by decide +kernel
theorem dX8_reads_73 : decode cX8_reads 73 = .ok (.ifCond .eq 7, 3) := by decide +kernel
theorem dX8_reads_76 : decode cX8_reads 76 = .ok (.iconst 1, 1) := by decide +kernel
theorem dX8_reads_77 : decode cX8_reads 77 = .ok (.goto 4, 3) := by decide +kernel
theorem dX8_reads_80 : decode cX8_reads 80 = .ok (.iconst 0, 1) := by decide +kernel
theorem dX8_reads_81 : decode cX8_reads 81 = .ok (.iadd, 1) := by decide +kernel
theorem dX8_reads_82 : decode cX8_reads 82 = .ok (.putfield 114, 3) := by decide +kernel
theorem dX8_reads_85 : decode cX8_reads 85 = .ok (.goto (-76), 3) := by decide +kernel
theorem dX8_reads_88 : decode cX8_reads 88 = .ok (.aload_n 0, 1) := by decide +kernel
theorem dX8_reads_89 : decode cX8_reads 89 = .ok (.getfield 114, 3) := by decide +kernel
theorem dX8_reads_92 : decode cX8_reads 92 = .ok (.aload_n 0, 1) := by decide +kernel
theorem dX8_reads_93 : decode cX8_reads 93 = .ok (.getfield 111, 3) := by decide +kernel
theorem dX8_reads_96 : decode cX8_reads 96 = .ok (.if_icmp .ge 7, 3) := by decide +kernel
theorem dX8_reads_99 : decode cX8_reads 99 = .ok (.iconst (-1), 1) := by decide +kernel
theorem dX8_reads_100 : decode cX8_reads 100 = .ok (.goto 4, 3) := by decide +kernel
theorem dX8_reads_103 : decode cX8_reads 103 = .ok (.iload_n 1, 1) := by decide +kernel
theorem dX8_reads_104 : decode cX8_reads 104 = .ok (.ireturn, 1) := by decide +kernel
set_option maxRecDepth 20000 in
theorem ggX8_check_X8_reads : GoodIn wsX8_check wsX8_reads := goodIn_r _ [9, 1, 2, 10, 11, 12, 13, 8, 14, 15, 16, 17, 18, 19, 20, 21, 22, 43, 44, 45, 46, 47, 48, 49, 50, 51, 52] (by decide +kernel) (by decide +kernel)
set_option maxRecDepth 20000 in
theorem gX8_check_X8_reads : GoodIn wsX8_check (wsV RX8 123 RX8 yX8_reads wsX8_reads) := goodIn_app (goodIn_of _ (by decide +kernel)) ggX8_check_X8_reads
set_option maxRecDepth 20000 in
theorem ggX8_check_X8_isEntry : GoodIn wsX8_check wsX8_isEntry := goodIn_r _ [26, 3, 20, 21, 8, 22, 43, 44, 45, 46, 47, 48, 49, 50, 51, 52] (by decide +kernel) (by decide +kernel)
set_option maxRecDepth 20000 in
theorem gX8_check_X8_isEntry : GoodIn wsX8_check (wsV RX8 85 RX8 yX8_isEntry wsX8_isEntry) := goodIn_app (goodIn_of _ (by decide +kernel)) ggX8_check_X8_isEntry
set_option maxRecDepth 20000 in
theorem ggX8_check_X8_isOnPath : GoodIn wsX8_check wsX8_isOnPath := goodIn_r _ [30, 31, 32, 33, 8, 34, 3, 43, 44, 45, 46, 47, 48, 49, 50, 51, 52] (by decide +kernel) (by decide +kernel)
set_option maxRecDepth 20000 in
theorem gX8_check_X8_isOnPath : GoodIn wsX8_check (wsV RX8 88 RX8 yX8_isOnPath wsX8_isOnPath) := goodIn_app (goodIn_of _ (by decide +kernel)) ggX8_check_X8_isOnPath
set_option maxRecDepth 20000 in
theorem ggX8_check_X8_depth : GoodIn wsX8_check wsX8_depth := goodIn_r _ [38, 31, 32, 33, 8, 34, 3, 43, 44, 45, 46, 47, 48, 49, 50, 51, 52] (by decide +kernel) (by decide +kernel)
set_option maxRecDepth 20000 in
theorem gX8_check_X8_depth : GoodIn wsX8_check (wsV RX8 92 RX8 yX8_depth wsX8_depth) := goodIn_app (goodIn_of _ (by decide +kernel)) ggX8_check_X8_depth
set_option maxRecDepth 20000 in
theorem ggX8_check_X8_above : GoodIn wsX8_check wsX8_above := goodIn_r _ [42, 31, 32, 33, 8, 34, 3, 43, 44, 45, 46, 47, 48, 49, 50, 51, 52] (by decide +kernel) (by decide +kernel)
set_option maxRecDepth 20000 in
theorem gX8_check_X8_above : GoodIn wsX8_check (wsV RX8 95 RX8 yX8_above wsX8_above) := goodIn_app (goodIn_of _ (by decide +kernel)) ggX8_check_X8_above
set_option maxRecDepth 20000 in
theorem ggX8_check_X8_en : GoodIn wsX8_check wsX8_en := goodIn_r _ [34, 3, 43, 44, 45, 46, 47, 48, 49, 50, 51, 52] (by decide +kernel) (by decide +kernel)
set_option maxRecDepth 20000 in
theorem gX8_check_X8_en : GoodIn wsX8_check (wsV RX8 41 RX8 yX8_en wsX8_en) := goodIn_app (goodIn_of _ (by decide +kernel)) ggX8_check_X8_en
theorem dX8_check_0 : decode cX8_check 0 = .ok (.aload_n 0, 1) := by decide +kernel
theorem dX8_check_1 : decode cX8_check 1 = .ok (.invokevirtual 123, 3) := by decide +kernel
theorem dX8_check_4 : decode cX8_check 4 = .ok (.istore_n 1, 1) := by decide +kernel
theorem dX8_check_5 : decode cX8_check 5 = .ok (.iload_n 1, 1) := by decide +kernel
theorem dX8_check_6 : decode cX8_check 6 = .ok (.ifCond .ge 12, 3) := by decide +kernel
theorem dX8_check_9 : decode cX8_check 9 = .ok (.sipush (-1000), 3) := by decide +kernel
theorem dX8_check_12 : decode cX8_check 12 = .ok (.aload_n 0, 1) := by decide +kernel
theorem dX8_check_13 : decode cX8_check 13 = .ok (.getfield 114, 3) := by decide +kernel
theorem dX8_check_16 : decode cX8_check 16 = .ok (.isub, 1) := by decide +kernel
theorem dX8_check_17 : decode cX8_check 17 = .ok (.ireturn, 1) := by decide +kernel
theorem dX8_check_18 : decode cX8_check 18 = .ok (.aload_n 0, 1) := by decide +kernel
theorem dX8_check_19 : decode cX8_check 19 = .ok (.aload_n 0, 1) := by decide +kernel
theorem dX8_check_20 : decode cX8_check 20 = .ok (.getfield 26, 3) := by decide +kernel
theorem dX8_check_23 : decode cX8_check 23 = .ok (.iconst 0, 1) := by decide +kernel
theorem dX8_check_24 : decode cX8_check 24 = .ok (.iaload, 1) := by decide +kernel
theorem dX8_check_25 : decode cX8_check 25 = .ok (.invokevirtual 85, 3) := by decide +kernel
theorem dX8_check_28 : decode cX8_check 28 = .ok (.ifCond .eq 22, 3) := by decide +kernel
theorem dX8_check_31 : decode cX8_check 31 = .ok (.aload_n 0, 1) := by decide +kernel
theorem dX8_check_32 : decode cX8_check 32 = .ok (.aload_n 0, 1) := by decide +kernel
theorem dX8_check_33 : decode cX8_check 33 = .ok (.getfield 26, 3) := by decide +kernel
theorem dX8_check_36 : decode cX8_check 36 = .ok (.iconst 0, 1) := by decide +kernel
theorem dX8_check_37 : decode cX8_check 37 = .ok (.iaload, 1) := by decide +kernel
theorem dX8_check_38 : decode cX8_check 38 = .ok (.aload_n 0, 1) := by decide +kernel
theorem dX8_check_39 : decode cX8_check 39 = .ok (.getfield 7, 3) := by decide +kernel
theorem dX8_check_42 : decode cX8_check 42 = .ok (.iconst 1, 1) := by decide +kernel
theorem dX8_check_43 : decode cX8_check 43 = .ok (.iaload, 1) := by decide +kernel
theorem dX8_check_44 : decode cX8_check 44 = .ok (.invokevirtual 88, 3) := by decide +kernel
theorem dX8_check_47 : decode cX8_check 47 = .ok (.ifCond .ne 6, 3) := by decide +kernel
theorem dX8_check_50 : decode cX8_check 50 = .ok (.ldc 84, 2) := by decide +kernel
theorem dX8_check_52 : decode cX8_check 52 = .ok (.ireturn, 1) := by decide +kernel
theorem dX8_check_53 : decode cX8_check 53 = .ok (.aload_n 0, 1) := by decide +kernel
theorem dX8_check_54 : decode cX8_check 54 = .ok (.aload_n 0, 1) := by decide +kernel
theorem dX8_check_55 : decode cX8_check 55 = .ok (.getfield 26, 3) := by decide +kernel
theorem dX8_check_58 : decode cX8_check 58 = .ok (.iconst 0, 1) := by decide +kernel
theorem dX8_check_59 : decode cX8_check 59 = .ok (.iaload, 1) := by decide +kernel
theorem dX8_check_60 : decode cX8_check 60 = .ok (.invokevirtual 92, 3) := by decide +kernel
theorem dX8_check_63 : decode cX8_check 63 = .ok (.istore_n 2, 1) := by decide +kernel
theorem dX8_check_64 : decode cX8_check 64 = .ok (.aload_n 0, 1) := by decide +kernel
theorem dX8_check_65 : decode cX8_check 65 = .ok (.aload_n 0, 1) := by decide +kernel
theorem dX8_check_66 : decode cX8_check 66 = .ok (.getfield 7, 3) := by decide +kernel
theorem dX8_check_69 : decode cX8_check 69 = .ok (.iconst 1, 1) := by decide +kernel
theorem dX8_check_70 : decode cX8_check 70 = .ok (.iaload, 1) := by decide +kernel
theorem dX8_check_71 : decode cX8_check 71 = .ok (.invokevirtual 92, 3) := by decide +kernel
theorem dX8_check_74 : decode cX8_check 74 = .ok (.istore_n 3, 1) := by decide +kernel
theorem dX8_check_75 : decode cX8_check 75 = .ok (.iconst 1, 1) := by decide +kernel
theorem dX8_check_76 : decode cX8_check 76 = .ok (.istore 4, 2) := by decide +kernel
theorem dX8_check_78 : decode cX8_check 78 = .ok (.iload 4, 2) := by decide +kernel
theorem dX8_check_80 : decode cX8_check 80 = .ok (.iload_n 1, 1) := by decide +kernel
theorem dX8_check_81 : decode cX8_check 81 = .ok (.if_icmp .ge 56, 3) := by decide +kernel
theorem dX8_check_84 : decode cX8_check 84 = .ok (.iload_n 2, 1) := by decide +kernel
theorem dX8_check_85 : decode cX8_check 85 = .ok (.iload 4, 2) := by decide +kernel
theorem dX8_check_87 : decode cX8_check 87 = .ok (.iadd, 1) := by decide +kernel
theorem dX8_check_88 : decode cX8_check 88 = .ok (.iconst 1, 1) := by decide +kernel
theorem dX8_check_89 : decode cX8_check 89 = .ok (.isub, 1) := by decide +kernel
theorem dX8_check_90 : decode cX8_check 90 = .ok (.istore 5, 2) := by decide +kernel
theorem dX8_check_92 : decode cX8_check 92 = .ok (.iload 5, 2) := by decide +kernel
theorem dX8_check_94 : decode cX8_check 94 = .ok (.iload_n 3, 1) := by decide +kernel
theorem dX8_check_95 : decode cX8_check 95 = .ok (.if_icmp .gt 32, 3) := by decide +kernel
theorem dX8_check_98 : decode cX8_check 98 = .ok (.aload_n 0, 1) := by decide +kernel
theorem dX8_check_99 : decode cX8_check 99 = .ok (.aload_n 0, 1) := by decide +kernel
theorem dX8_check_100 : decode cX8_check 100 = .ok (.aload_n 0, 1) := by decide +kernel
theorem dX8_check_101 : decode cX8_check 101 = .ok (.getfield 7, 3) := by decide +kernel
theorem dX8_check_104 : decode cX8_check 104 = .ok (.iconst 1, 1) := by decide +kernel
theorem dX8_check_105 : decode cX8_check 105 = .ok (.iaload, 1) := by decide +kernel
theorem dX8_check_106 : decode cX8_check 106 = .ok (.iload_n 3, 1) := by decide +kernel
theorem dX8_check_107 : decode cX8_check 107 = .ok (.iload 5, 2) := by decide +kernel
theorem dX8_check_109 : decode cX8_check 109 = .ok (.isub, 1) := by decide +kernel
theorem dX8_check_110 : decode cX8_check 110 = .ok (.invokevirtual 95, 3) := by decide +kernel
theorem dX8_check_113 : decode cX8_check 113 = .ok (.iconst 5, 1) := by decide +kernel
theorem dX8_check_114 : decode cX8_check 114 = .ok (.invokevirtual 41, 3) := by decide +kernel
theorem dX8_check_117 : decode cX8_check 117 = .ok (.aload_n 0, 1) := by decide +kernel
theorem dX8_check_118 : decode cX8_check 118 = .ok (.getfield 26, 3) := by decide +kernel
theorem dX8_check_121 : decode cX8_check 121 = .ok (.iload 4, 2) := by decide +kernel
theorem dX8_check_123 : decode cX8_check 123 = .ok (.iaload, 1) := by decide +kernel
theorem dX8_check_124 : decode cX8_check 124 = .ok (.if_icmp .eq 7, 3) := by decide +kernel
theorem dX8_check_127 : decode cX8_check 127 = .ok (.iload 4, 2) := by decide +kernel
theorem dX8_check_129 : decode cX8_check 129 = .ok (.ineg, 1) := by decide +kernel
theorem dX8_check_130 : decode cX8_check 130 = .ok (.ireturn, 1) := by decide +kernel
theorem dX8_check_131 : decode cX8_check 131 = .ok (.iinc 4 1, 3) := by decide +kernel
theorem dX8_check_134 : decode cX8_check 134 = .ok (.goto (-56), 3) := by decide +kernel
theorem dX8_check_137 : decode cX8_check 137 = .ok (.iload_n 1, 1) := by decide +kernel
theorem dX8_check_138 : decode cX8_check 138 = .ok (.iconst 1, 1) := by decide +kernel
theorem dX8_check_139 : decode cX8_check 139 = .ok (.isub, 1) := by decide +kernel
theorem dX8_check_140 : decode cX8_check 140 = .ok (.ireturn, 1) := by decide +kernel
set_option maxRecDepth 20000 in
theorem ggX8_leaves_X8_en : GoodIn wsX8_leaves wsX8_en := goodIn_r _ [6, 1, 7, 8, 9, 10, 11, 12, 13, 14, 15, 16] (by decide +kernel) (by decide +kernel)
set_option maxRecDepth 20000 in
theorem gX8_leaves_X8_en : GoodIn wsX8_leaves (wsV RX8 41 RX8 yX8_en wsX8_en) := goodIn_app (goodIn_of _ (by decide +kernel)) ggX8_leaves_X8_en
theorem dX8_leaves_0 : decode cX8_leaves 0 = .ok (.iconst 0, 1) := by decide +kernel
theorem dX8_leaves_1 : decode cX8_leaves 1 = .ok (.istore_n 1, 1) := by decide +kernel
theorem dX8_leaves_2 : decode cX8_leaves 2 = .ok (.iconst 0, 1) := by decide +kernel
theorem dX8_leaves_3 : decode cX8_leaves 3 = .ok (.istore_n 2, 1) := by decide +kernel
theorem dX8_leaves_4 : decode cX8_leaves 4 = .ok (.iload_n 2, 1) := by decide +kernel
theorem dX8_leaves_5 : decode cX8_leaves 5 = .ok (.aload_n 0, 1) := by decide +kernel
theorem dX8_leaves_6 : decode cX8_leaves 6 = .ok (.getfield 7, 3) := by decide +kernel
theorem dX8_leaves_9 : decode cX8_leaves 9 = .ok (.iconst 0, 1) := by decide +kernel
theorem dX8_leaves_10 : decode cX8_leaves 10 = .ok (.iaload, 1) := by decide +kernel
theorem dX8_leaves_11 : decode cX8_leaves 11 = .ok (.if_icmp .ge 66, 3) := by decide +kernel
theorem dX8_leaves_14 : decode cX8_leaves 14 = .ok (.iconst 1, 1) := by decide +kernel
theorem dX8_leaves_15 : decode cX8_leaves 15 = .ok (.istore_n 3, 1) := by decide +kernel
theorem dX8_leaves_16 : decode cX8_leaves 16 = .ok (.iload_n 2, 1) := by decide +kernel
theorem dX8_leaves_17 : decode cX8_leaves 17 = .ok (.iconst 1, 1) := by decide +kernel
theorem dX8_leaves_18 : decode cX8_leaves 18 = .ok (.iadd, 1) := by decide +kernel
theorem dX8_leaves_19 : decode cX8_leaves 19 = .ok (.istore 4, 2) := by decide +kernel
theorem dX8_leaves_21 : decode cX8_leaves 21 = .ok (.iload 4, 2) := by decide +kernel
theorem dX8_leaves_23 : decode cX8_leaves 23 = .ok (.aload_n 0, 1) := by decide +kernel
theorem dX8_leaves_24 : decode cX8_leaves 24 = .ok (.getfield 7, 3) := by decide +kernel
theorem dX8_leaves_27 : decode cX8_leaves 27 = .ok (.iconst 0, 1) := by decide +kernel
theorem dX8_leaves_28 : decode cX8_leaves 28 = .ok (.iaload, 1) := by decide +kernel
theorem dX8_leaves_29 : decode cX8_leaves 29 = .ok (.if_icmp .ge 30, 3) := by decide +kernel
theorem dX8_leaves_32 : decode cX8_leaves 32 = .ok (.iload_n 3, 1) := by decide +kernel
theorem dX8_leaves_33 : decode cX8_leaves 33 = .ok (.ifCond .eq 18, 3) := by decide +kernel
theorem dX8_leaves_36 : decode cX8_leaves 36 = .ok (.aload_n 0, 1) := by decide +kernel
theorem dX8_leaves_37 : decode cX8_leaves 37 = .ok (.iload 4, 2) := by decide +kernel
theorem dX8_leaves_39 : decode cX8_leaves 39 = .ok (.iconst 0, 1) := by decide +kernel
theorem dX8_leaves_40 : decode cX8_leaves 40 = .ok (.invokevirtual 41, 3) := by decide +kernel
theorem dX8_leaves_43 : decode cX8_leaves 43 = .ok (.iload_n 2, 1) := by decide +kernel
theorem dX8_leaves_44 : decode cX8_leaves 44 = .ok (.if_icmp .eq 7, 3) := by decide +kernel
theorem dX8_leaves_47 : decode cX8_leaves 47 = .ok (.iconst 1, 1) := by decide +kernel
theorem dX8_leaves_48 : decode cX8_leaves 48 = .ok (.goto 4, 3) := by decide +kernel
theorem dX8_leaves_51 : decode cX8_leaves 51 = .ok (.iconst 0, 1) := by decide +kernel
theorem dX8_leaves_52 : decode cX8_leaves 52 = .ok (.istore_n 3, 1) := by decide +kernel
theorem dX8_leaves_53 : decode cX8_leaves 53 = .ok (.iinc 4 1, 3) := by decide +kernel
theorem dX8_leaves_56 : decode cX8_leaves 56 = .ok (.goto (-35), 3) := by decide +kernel
theorem dX8_leaves_59 : decode cX8_leaves 59 = .ok (.iload_n 1, 1) := by decide +kernel
theorem dX8_leaves_60 : decode cX8_leaves 60 = .ok (.iload_n 3, 1) := by decide +kernel
theorem dX8_leaves_61 : decode cX8_leaves 61 = .ok (.ifCond .eq 7, 3) := by decide +kernel
theorem dX8_leaves_64 : decode cX8_leaves 64 = .ok (.iconst 1, 1) := by decide +kernel
theorem dX8_leaves_65 : decode cX8_leaves 65 = .ok (.goto 4, 3) := by decide +kernel
theorem dX8_leaves_68 : decode cX8_leaves 68 = .ok (.iconst 0, 1) := by decide +kernel
theorem dX8_leaves_69 : decode cX8_leaves 69 = .ok (.iadd, 1) := by decide +kernel
theorem dX8_leaves_70 : decode cX8_leaves 70 = .ok (.istore_n 1, 1) := by decide +kernel
theorem dX8_leaves_71 : decode cX8_leaves 71 = .ok (.iinc 2 1, 3) := by decide +kernel
theorem dX8_leaves_74 : decode cX8_leaves 74 = .ok (.goto (-70), 3) := by decide +kernel
theorem dX8_leaves_77 : decode cX8_leaves 77 = .ok (.iload_n 1, 1) := by decide +kernel
theorem dX8_leaves_78 : decode cX8_leaves 78 = .ok (.ireturn, 1) := by decide +kernel
set_option maxRecDepth 20000 in
theorem ggX8_waiting_X8_isWaiting : GoodIn wsX8_waiting wsX8_isWaiting := goodIn_r _ [6, 7, 8, 9, 5, 10, 1, 11, 12, 13, 14, 15, 16, 17, 18, 19, 20] (by decide +kernel) (by decide +kernel)
set_option maxRecDepth 20000 in
theorem gX8_waiting_X8_isWaiting : GoodIn wsX8_waiting (wsV RX8 52 RX8 yX8_isWaiting wsX8_isWaiting) := goodIn_app (goodIn_of _ (by decide +kernel)) ggX8_waiting_X8_isWaiting
theorem dX8_waiting_0 : decode cX8_waiting 0 = .ok (.iconst 0, 1) := by decide +kernel
theorem dX8_waiting_1 : decode cX8_waiting 1 = .ok (.istore_n 1, 1) := by decide +kernel
theorem dX8_waiting_2 : decode cX8_waiting 2 = .ok (.iconst 0, 1) := by decide +kernel
theorem dX8_waiting_3 : decode cX8_waiting 3 = .ok (.istore_n 2, 1) := by decide +kernel
theorem dX8_waiting_4 : decode cX8_waiting 4 = .ok (.iload_n 2, 1) := by decide +kernel
theorem dX8_waiting_5 : decode cX8_waiting 5 = .ok (.aload_n 0, 1) := by decide +kernel
theorem dX8_waiting_6 : decode cX8_waiting 6 = .ok (.getfield 7, 3) := by decide +kernel
theorem dX8_waiting_9 : decode cX8_waiting 9 = .ok (.iconst 2, 1) := by decide +kernel
theorem dX8_waiting_10 : decode cX8_waiting 10 = .ok (.iaload, 1) := by decide +kernel
theorem dX8_waiting_11 : decode cX8_waiting 11 = .ok (.if_icmp .ge 25, 3) := by decide +kernel
theorem dX8_waiting_14 : decode cX8_waiting 14 = .ok (.iload_n 1, 1) := by decide +kernel
theorem dX8_waiting_15 : decode cX8_waiting 15 = .ok (.aload_n 0, 1) := by decide +kernel
theorem dX8_waiting_16 : decode cX8_waiting 16 = .ok (.iload_n 2, 1) := by decide +kernel
theorem dX8_waiting_17 : decode cX8_waiting 17 = .ok (.invokevirtual 52, 3) := by decide +kernel
theorem dX8_waiting_20 : decode cX8_waiting 20 = .ok (.ifCond .eq 7, 3) := by decide +kernel
theorem dX8_waiting_23 : decode cX8_waiting 23 = .ok (.iconst 1, 1) := by decide +kernel
theorem dX8_waiting_24 : decode cX8_waiting 24 = .ok (.goto 4, 3) := by decide +kernel
theorem dX8_waiting_27 : decode cX8_waiting 27 = .ok (.iconst 0, 1) := by decide +kernel
theorem dX8_waiting_28 : decode cX8_waiting 28 = .ok (.iadd, 1) := by decide +kernel
theorem dX8_waiting_29 : decode cX8_waiting 29 = .ok (.istore_n 1, 1) := by decide +kernel
theorem dX8_waiting_30 : decode cX8_waiting 30 = .ok (.iinc 2 1, 3) := by decide +kernel
theorem dX8_waiting_33 : decode cX8_waiting 33 = .ok (.goto (-29), 3) := by decide +kernel
theorem dX8_waiting_36 : decode cX8_waiting 36 = .ok (.iload_n 1, 1) := by decide +kernel
theorem dX8_waiting_37 : decode cX8_waiting 37 = .ok (.ireturn, 1) := by decide +kernel
set_option maxRecDepth 20000 in
theorem ggX8_isWhole_X8_en : GoodIn wsX8_isWhole wsX8_en := goodIn_r _ [6, 1, 7, 8, 9, 10, 11, 12, 13, 14, 15, 16] (by decide +kernel) (by decide +kernel)
set_option maxRecDepth 20000 in
theorem gX8_isWhole_X8_en : GoodIn wsX8_isWhole (wsV RX8 41 RX8 yX8_en wsX8_en) := goodIn_app (goodIn_of _ (by decide +kernel)) ggX8_isWhole_X8_en
theorem dX8_isWhole_0 : decode cX8_isWhole 0 = .ok (.aload_n 0, 1) := by decide +kernel
theorem dX8_isWhole_1 : decode cX8_isWhole 1 = .ok (.aload_n 0, 1) := by decide +kernel
theorem dX8_isWhole_2 : decode cX8_isWhole 2 = .ok (.getfield 7, 3) := by decide +kernel
theorem dX8_isWhole_5 : decode cX8_isWhole 5 = .ok (.sipush 465, 3) := by decide +kernel
theorem dX8_isWhole_8 : decode cX8_isWhole 8 = .ok (.iconst 2, 1) := by decide +kernel
theorem dX8_isWhole_9 : decode cX8_isWhole 9 = .ok (.iload_n 1, 1) := by decide +kernel
theorem dX8_isWhole_10 : decode cX8_isWhole 10 = .ok (.imul, 1) := by decide +kernel
theorem dX8_isWhole_11 : decode cX8_isWhole 11 = .ok (.iadd, 1) := by decide +kernel
theorem dX8_isWhole_12 : decode cX8_isWhole 12 = .ok (.iaload, 1) := by decide +kernel
theorem dX8_isWhole_13 : decode cX8_isWhole 13 = .ok (.iconst 5, 1) := by decide +kernel
theorem dX8_isWhole_14 : decode cX8_isWhole 14 = .ok (.invokevirtual 41, 3) := by decide +kernel
theorem dX8_isWhole_17 : decode cX8_isWhole 17 = .ok (.aload_n 0, 1) := by decide +kernel
theorem dX8_isWhole_18 : decode cX8_isWhole 18 = .ok (.getfield 7, 3) := by decide +kernel
theorem dX8_isWhole_21 : decode cX8_isWhole 21 = .ok (.sipush 465, 3) := by decide +kernel
theorem dX8_isWhole_24 : decode cX8_isWhole 24 = .ok (.iconst 2, 1) := by decide +kernel
theorem dX8_isWhole_25 : decode cX8_isWhole 25 = .ok (.iload_n 1, 1) := by decide +kernel
theorem dX8_isWhole_26 : decode cX8_isWhole 26 = .ok (.imul, 1) := by decide +kernel
theorem dX8_isWhole_27 : decode cX8_isWhole 27 = .ok (.iadd, 1) := by decide +kernel
theorem dX8_isWhole_28 : decode cX8_isWhole 28 = .ok (.iconst 1, 1) := by decide +kernel
theorem dX8_isWhole_29 : decode cX8_isWhole 29 = .ok (.iadd, 1) := by decide +kernel
theorem dX8_isWhole_30 : decode cX8_isWhole 30 = .ok (.iaload, 1) := by decide +kernel
theorem dX8_isWhole_31 : decode cX8_isWhole 31 = .ok (.if_icmp .ne 7, 3) := by decide +kernel
theorem dX8_isWhole_34 : decode cX8_isWhole 34 = .ok (.iconst 1, 1) := by decide +kernel
theorem dX8_isWhole_35 : decode cX8_isWhole 35 = .ok (.goto 4, 3) := by decide +kernel
theorem dX8_isWhole_38 : decode cX8_isWhole 38 = .ok (.iconst 0, 1) := by decide +kernel
theorem dX8_isWhole_39 : decode cX8_isWhole 39 = .ok (.ireturn, 1) := by decide +kernel
set_option maxRecDepth 20000 in
theorem ggX8_broken_X8_isWhole : GoodIn wsX8_broken wsX8_isWhole := goodIn_r _ [6, 1, 7, 8, 9, 5, 10, 11, 12, 13, 14, 15, 16, 17, 18, 19, 20] (by decide +kernel) (by decide +kernel)
set_option maxRecDepth 20000 in
theorem gX8_broken_X8_isWhole : GoodIn wsX8_broken (wsV RX8 126 RX8 yX8_isWhole wsX8_isWhole) := goodIn_app (goodIn_of _ (by decide +kernel)) ggX8_broken_X8_isWhole
theorem dX8_broken_0 : decode cX8_broken 0 = .ok (.iconst 0, 1) := by decide +kernel
theorem dX8_broken_1 : decode cX8_broken 1 = .ok (.istore_n 1, 1) := by decide +kernel
theorem dX8_broken_2 : decode cX8_broken 2 = .ok (.iconst 0, 1) := by decide +kernel
theorem dX8_broken_3 : decode cX8_broken 3 = .ok (.istore_n 2, 1) := by decide +kernel
theorem dX8_broken_4 : decode cX8_broken 4 = .ok (.iload_n 2, 1) := by decide +kernel
theorem dX8_broken_5 : decode cX8_broken 5 = .ok (.aload_n 0, 1) := by decide +kernel
theorem dX8_broken_6 : decode cX8_broken 6 = .ok (.getfield 7, 3) := by decide +kernel
theorem dX8_broken_9 : decode cX8_broken 9 = .ok (.iconst 4, 1) := by decide +kernel
theorem dX8_broken_10 : decode cX8_broken 10 = .ok (.iaload, 1) := by decide +kernel
theorem dX8_broken_11 : decode cX8_broken 11 = .ok (.if_icmp .ge 25, 3) := by decide +kernel
theorem dX8_broken_14 : decode cX8_broken 14 = .ok (.iload_n 1, 1) := by decide +kernel
theorem dX8_broken_15 : decode cX8_broken 15 = .ok (.aload_n 0, 1) := by decide +kernel
theorem dX8_broken_16 : decode cX8_broken 16 = .ok (.iload_n 2, 1) := by decide +kernel
theorem dX8_broken_17 : decode cX8_broken 17 = .ok (.invokevirtual 126, 3) := by decide +kernel
theorem dX8_broken_20 : decode cX8_broken 20 = .ok (.ifCond .eq 7, 3) := by decide +kernel
theorem dX8_broken_23 : decode cX8_broken 23 = .ok (.iconst 0, 1) := by decide +kernel
theorem dX8_broken_24 : decode cX8_broken 24 = .ok (.goto 4, 3) := by decide +kernel
theorem dX8_broken_27 : decode cX8_broken 27 = .ok (.iconst 1, 1) := by decide +kernel
theorem dX8_broken_28 : decode cX8_broken 28 = .ok (.iadd, 1) := by decide +kernel
theorem dX8_broken_29 : decode cX8_broken 29 = .ok (.istore_n 1, 1) := by decide +kernel
theorem dX8_broken_30 : decode cX8_broken 30 = .ok (.iinc 2 1, 3) := by decide +kernel
theorem dX8_broken_33 : decode cX8_broken 33 = .ok (.goto (-29), 3) := by decide +kernel
theorem dX8_broken_36 : decode cX8_broken 36 = .ok (.iload_n 1, 1) := by decide +kernel
theorem dX8_broken_37 : decode cX8_broken 37 = .ok (.ireturn, 1) := by decide +kernel
set_option maxRecDepth 20000 in
theorem ggX8_wrong_X8_en : GoodIn wsX8_wrong wsX8_en := goodIn_r _ [7, 2, 12, 13, 14, 15, 16, 17, 18, 19, 20, 21] (by decide +kernel) (by decide +kernel)
set_option maxRecDepth 20000 in
theorem gX8_wrong_X8_en : GoodIn wsX8_wrong (wsV RX8 41 RX8 yX8_en wsX8_en) := goodIn_app (goodIn_of _ (by decide +kernel)) ggX8_wrong_X8_en
set_option maxRecDepth 20000 in
theorem ggX8_wrong_X8_fitting : GoodIn wsX8_wrong wsX8_fitting := goodIn_r _ [11, 3, 4, 5, 6, 7, 2, 12, 13, 14, 15, 16, 17, 18, 19, 20, 21] (by decide +kernel) (by decide +kernel)
set_option maxRecDepth 20000 in
theorem gX8_wrong_X8_fitting : GoodIn wsX8_wrong (wsV RX8 59 RX8 yX8_fitting wsX8_fitting) := goodIn_app (goodIn_of _ (by decide +kernel)) ggX8_wrong_X8_fitting
theorem dX8_wrong_0 : decode cX8_wrong 0 = .ok (.iconst 0, 1) := by decide +kernel
theorem dX8_wrong_1 : decode cX8_wrong 1 = .ok (.istore_n 2, 1) := by decide +kernel
theorem dX8_wrong_2 : decode cX8_wrong 2 = .ok (.ldc 32, 2) := by decide +kernel
theorem dX8_wrong_4 : decode cX8_wrong 4 = .ok (.istore_n 3, 1) := by decide +kernel
theorem dX8_wrong_5 : decode cX8_wrong 5 = .ok (.aload_n 0, 1) := by decide +kernel
theorem dX8_wrong_6 : decode cX8_wrong 6 = .ok (.getfield 7, 3) := by decide +kernel
theorem dX8_wrong_9 : decode cX8_wrong 9 = .ok (.iconst 0, 1) := by decide +kernel
theorem dX8_wrong_10 : decode cX8_wrong 10 = .ok (.iaload, 1) := by decide +kernel
theorem dX8_wrong_11 : decode cX8_wrong 11 = .ok (.iconst 1, 1) := by decide +kernel
theorem dX8_wrong_12 : decode cX8_wrong 12 = .ok (.isub, 1) := by decide +kernel
theorem dX8_wrong_13 : decode cX8_wrong 13 = .ok (.istore 4, 2) := by decide +kernel
theorem dX8_wrong_15 : decode cX8_wrong 15 = .ok (.iload 4, 2) := by decide +kernel
theorem dX8_wrong_17 : decode cX8_wrong 17 = .ok (.ifCond .lt 57, 3) := by decide +kernel
theorem dX8_wrong_20 : decode cX8_wrong 20 = .ok (.aload_n 0, 1) := by decide +kernel
theorem dX8_wrong_21 : decode cX8_wrong 21 = .ok (.iload 4, 2) := by decide +kernel
theorem dX8_wrong_23 : decode cX8_wrong 23 = .ok (.iconst 5, 1) := by decide +kernel
theorem dX8_wrong_24 : decode cX8_wrong 24 = .ok (.invokevirtual 41, 3) := by decide +kernel
theorem dX8_wrong_27 : decode cX8_wrong 27 = .ok (.aload_n 0, 1) := by decide +kernel
theorem dX8_wrong_28 : decode cX8_wrong 28 = .ok (.iload 4, 2) := by decide +kernel
theorem dX8_wrong_30 : decode cX8_wrong 30 = .ok (.invokevirtual 59, 3) := by decide +kernel
theorem dX8_wrong_33 : decode cX8_wrong 33 = .ok (.if_icmp .eq 7, 3) := by decide +kernel
theorem dX8_wrong_36 : decode cX8_wrong 36 = .ok (.iconst 1, 1) := by decide +kernel
theorem dX8_wrong_37 : decode cX8_wrong 37 = .ok (.goto 4, 3) := by decide +kernel
theorem dX8_wrong_40 : decode cX8_wrong 40 = .ok (.iconst 0, 1) := by decide +kernel
theorem dX8_wrong_41 : decode cX8_wrong 41 = .ok (.istore 5, 2) := by decide +kernel
theorem dX8_wrong_43 : decode cX8_wrong 43 = .ok (.iload_n 2, 1) := by decide +kernel
theorem dX8_wrong_44 : decode cX8_wrong 44 = .ok (.iload 5, 2) := by decide +kernel
theorem dX8_wrong_46 : decode cX8_wrong 46 = .ok (.ifCond .eq 7, 3) := by decide +kernel
theorem dX8_wrong_49 : decode cX8_wrong 49 = .ok (.iconst 1, 1) := by decide +kernel
theorem dX8_wrong_50 : decode cX8_wrong 50 = .ok (.goto 4, 3) := by decide +kernel
theorem dX8_wrong_53 : decode cX8_wrong 53 = .ok (.iconst 0, 1) := by decide +kernel
theorem dX8_wrong_54 : decode cX8_wrong 54 = .ok (.iadd, 1) := by decide +kernel
theorem dX8_wrong_55 : decode cX8_wrong 55 = .ok (.istore_n 2, 1) := by decide +kernel
theorem dX8_wrong_56 : decode cX8_wrong 56 = .ok (.iload 5, 2) := by decide +kernel
theorem dX8_wrong_58 : decode cX8_wrong 58 = .ok (.ifCond .eq 8, 3) := by decide +kernel
theorem dX8_wrong_61 : decode cX8_wrong 61 = .ok (.iload 4, 2) := by decide +kernel
theorem dX8_wrong_63 : decode cX8_wrong 63 = .ok (.goto 4, 3) := by decide +kernel
theorem dX8_wrong_66 : decode cX8_wrong 66 = .ok (.iload_n 3, 1) := by decide +kernel
theorem dX8_wrong_67 : decode cX8_wrong 67 = .ok (.istore_n 3, 1) := by decide +kernel
theorem dX8_wrong_68 : decode cX8_wrong 68 = .ok (.iinc 4 (-1), 3) := by decide +kernel
theorem dX8_wrong_71 : decode cX8_wrong 71 = .ok (.goto (-56), 3) := by decide +kernel
theorem dX8_wrong_74 : decode cX8_wrong 74 = .ok (.iload_n 1, 1) := by decide +kernel
theorem dX8_wrong_75 : decode cX8_wrong 75 = .ok (.ifCond .eq 7, 3) := by decide +kernel
theorem dX8_wrong_78 : decode cX8_wrong 78 = .ok (.iload_n 3, 1) := by decide +kernel
theorem dX8_wrong_79 : decode cX8_wrong 79 = .ok (.goto 4, 3) := by decide +kernel
theorem dX8_wrong_82 : decode cX8_wrong 82 = .ok (.iload_n 2, 1) := by decide +kernel
theorem dX8_wrong_83 : decode cX8_wrong 83 = .ok (.ireturn, 1) := by decide +kernel
set_option maxRecDepth 20000 in
theorem ggX8_count_X8_depth : GoodIn wsX8_count wsX8_depth := goodIn_r _ [9, 10, 11, 12, 8, 13, 1, 55, 56, 57, 58, 59, 60, 61, 62, 63, 64] (by decide +kernel) (by decide +kernel)
set_option maxRecDepth 20000 in
theorem gX8_count_X8_depth : GoodIn wsX8_count (wsV RX8 92 RX8 yX8_depth wsX8_depth) := goodIn_app (goodIn_of _ (by decide +kernel)) ggX8_count_X8_depth
set_option maxRecDepth 20000 in
theorem ggX8_count_X8_waiting : GoodIn wsX8_count wsX8_waiting := goodIn_r _ [17, 1, 18, 19, 20, 8, 21, 22, 23, 24, 25, 55, 56, 57, 58, 59, 60, 61, 62, 63, 64] (by decide +kernel) (by decide +kernel)
set_option maxRecDepth 20000 in
theorem gX8_count_X8_waiting : GoodIn wsX8_count (wsV RX8 129 RX8 yX8_waiting wsX8_waiting) := goodIn_app (goodIn_of _ (by decide +kernel)) ggX8_count_X8_waiting
set_option maxRecDepth 20000 in
theorem ggX8_count_X8_louds : GoodIn wsX8_count wsX8_louds := goodIn_r _ [29, 1, 30, 31, 32, 8, 33, 18, 19, 20, 21, 22, 23, 24, 25, 55, 56, 57, 58, 59, 60, 61, 62, 63, 64] (by decide +kernel) (by decide +kernel)
set_option maxRecDepth 20000 in
theorem gX8_count_X8_louds : GoodIn wsX8_count (wsV RX8 67 RX8 yX8_louds wsX8_louds) := goodIn_app (goodIn_of _ (by decide +kernel)) ggX8_count_X8_louds
set_option maxRecDepth 20000 in
theorem ggX8_count_X8_broken : GoodIn wsX8_count wsX8_broken := goodIn_r _ [37, 1, 38, 39, 40, 8, 41, 10, 11, 12, 13, 55, 56, 57, 58, 59, 60, 61, 62, 63, 64] (by decide +kernel) (by decide +kernel)
set_option maxRecDepth 20000 in
theorem gX8_count_X8_broken : GoodIn wsX8_count (wsV RX8 132 RX8 yX8_broken wsX8_broken) := goodIn_app (goodIn_of _ (by decide +kernel)) ggX8_count_X8_broken
set_option maxRecDepth 20000 in
theorem ggX8_count_X8_wrong : GoodIn wsX8_count wsX8_wrong := goodIn_r _ [45, 46, 1, 10, 11, 12, 8, 13, 47, 48, 49, 50, 55, 56, 57, 58, 59, 60, 61, 62, 63, 64] (by decide +kernel) (by decide +kernel)
set_option maxRecDepth 20000 in
theorem gX8_count_X8_wrong : GoodIn wsX8_count (wsV RX8 135 RX8 yX8_wrong wsX8_wrong) := goodIn_app (goodIn_of _ (by decide +kernel)) ggX8_count_X8_wrong
set_option maxRecDepth 20000 in
theorem ggX8_count_X8_leaves : GoodIn wsX8_count wsX8_leaves := goodIn_r _ [54, 1, 10, 11, 12, 8, 13, 55, 56, 57, 58, 59, 60, 61, 62, 63, 64] (by decide +kernel) (by decide +kernel)
set_option maxRecDepth 20000 in
theorem gX8_count_X8_leaves : GoodIn wsX8_count (wsV RX8 139 RX8 yX8_leaves wsX8_leaves) := goodIn_app (goodIn_of _ (by decide +kernel)) ggX8_count_X8_leaves
theorem dX8_count_0 : decode cX8_count 0 = .ok (.iload_n 1, 1) := by decide +kernel
theorem dX8_count_1 : decode cX8_count 1 = .ok (.tableswitch 178 0 14 #[75, 75, 82, 93, 100, 105, 110, 117, 124, 129, 129, 145, 150, 168, 173], 75) := by decide +kernel
theorem dX8_count_76 : decode cX8_count 76 = .ok (.aload_n 0, 1) := by decide +kernel
theorem dX8_count_77 : decode cX8_count 77 = .ok (.getfield 7, 3) := by decide +kernel
theorem dX8_count_80 : decode cX8_count 80 = .ok (.iload_n 1, 1) := by decide +kernel
theorem dX8_count_81 : decode cX8_count 81 = .ok (.iaload, 1) := by decide +kernel
theorem dX8_count_82 : decode cX8_count 82 = .ok (.ireturn, 1) := by decide +kernel
theorem dX8_count_83 : decode cX8_count 83 = .ok (.aload_n 0, 1) := by decide +kernel
theorem dX8_count_84 : decode cX8_count 84 = .ok (.aload_n 0, 1) := by decide +kernel
theorem dX8_count_85 : decode cX8_count 85 = .ok (.getfield 7, 3) := by decide +kernel
theorem dX8_count_88 : decode cX8_count 88 = .ok (.iconst 1, 1) := by decide +kernel
theorem dX8_count_89 : decode cX8_count 89 = .ok (.iaload, 1) := by decide +kernel
theorem dX8_count_90 : decode cX8_count 90 = .ok (.invokevirtual 92, 3) := by decide +kernel
theorem dX8_count_93 : decode cX8_count 93 = .ok (.ireturn, 1) := by decide +kernel
theorem dX8_count_94 : decode cX8_count 94 = .ok (.aload_n 0, 1) := by decide +kernel
theorem dX8_count_95 : decode cX8_count 95 = .ok (.getfield 7, 3) := by decide +kernel
theorem dX8_count_98 : decode cX8_count 98 = .ok (.iconst 2, 1) := by decide +kernel
theorem dX8_count_99 : decode cX8_count 99 = .ok (.iaload, 1) := by decide +kernel
theorem dX8_count_100 : decode cX8_count 100 = .ok (.ireturn, 1) := by decide +kernel
theorem dX8_count_101 : decode cX8_count 101 = .ok (.aload_n 0, 1) := by decide +kernel
theorem dX8_count_102 : decode cX8_count 102 = .ok (.invokevirtual 129, 3) := by decide +kernel
theorem dX8_count_105 : decode cX8_count 105 = .ok (.ireturn, 1) := by decide +kernel
theorem dX8_count_106 : decode cX8_count 106 = .ok (.aload_n 0, 1) := by decide +kernel
theorem dX8_count_107 : decode cX8_count 107 = .ok (.invokevirtual 67, 3) := by decide +kernel
theorem dX8_count_110 : decode cX8_count 110 = .ok (.ireturn, 1) := by decide +kernel
theorem dX8_count_111 : decode cX8_count 111 = .ok (.aload_n 0, 1) := by decide +kernel
theorem dX8_count_112 : decode cX8_count 112 = .ok (.getfield 7, 3) := by decide +kernel
theorem dX8_count_115 : decode cX8_count 115 = .ok (.iconst 3, 1) := by decide +kernel
theorem dX8_count_116 : decode cX8_count 116 = .ok (.iaload, 1) := by decide +kernel
theorem dX8_count_117 : decode cX8_count 117 = .ok (.ireturn, 1) := by decide +kernel
theorem dX8_count_118 : decode cX8_count 118 = .ok (.aload_n 0, 1) := by decide +kernel
theorem dX8_count_119 : decode cX8_count 119 = .ok (.getfield 7, 3) := by decide +kernel
theorem dX8_count_122 : decode cX8_count 122 = .ok (.iconst 4, 1) := by decide +kernel
theorem dX8_count_123 : decode cX8_count 123 = .ok (.iaload, 1) := by decide +kernel
theorem dX8_count_124 : decode cX8_count 124 = .ok (.ireturn, 1) := by decide +kernel
theorem dX8_count_125 : decode cX8_count 125 = .ok (.aload_n 0, 1) := by decide +kernel
theorem dX8_count_126 : decode cX8_count 126 = .ok (.invokevirtual 132, 3) := by decide +kernel
theorem dX8_count_129 : decode cX8_count 129 = .ok (.ireturn, 1) := by decide +kernel
theorem dX8_count_130 : decode cX8_count 130 = .ok (.aload_n 0, 1) := by decide +kernel
theorem dX8_count_131 : decode cX8_count 131 = .ok (.iload_n 1, 1) := by decide +kernel
theorem dX8_count_132 : decode cX8_count 132 = .ok (.bipush 10, 2) := by decide +kernel
theorem dX8_count_134 : decode cX8_count 134 = .ok (.if_icmp .ne 7, 3) := by decide +kernel
theorem dX8_count_137 : decode cX8_count 137 = .ok (.iconst 1, 1) := by decide +kernel
theorem dX8_count_138 : decode cX8_count 138 = .ok (.goto 4, 3) := by decide +kernel
theorem dX8_count_141 : decode cX8_count 141 = .ok (.iconst 0, 1) := by decide +kernel
theorem dX8_count_142 : decode cX8_count 142 = .ok (.invokevirtual 135, 3) := by decide +kernel
theorem dX8_count_145 : decode cX8_count 145 = .ok (.ireturn, 1) := by decide +kernel
theorem dX8_count_146 : decode cX8_count 146 = .ok (.aload_n 0, 1) := by decide +kernel
theorem dX8_count_147 : decode cX8_count 147 = .ok (.invokevirtual 139, 3) := by decide +kernel
theorem dX8_count_150 : decode cX8_count 150 = .ok (.ireturn, 1) := by decide +kernel
theorem dX8_count_151 : decode cX8_count 151 = .ok (.aload_n 0, 1) := by decide +kernel
theorem dX8_count_152 : decode cX8_count 152 = .ok (.getfield 7, 3) := by decide +kernel
theorem dX8_count_155 : decode cX8_count 155 = .ok (.sipush 1443, 3) := by decide +kernel
theorem dX8_count_158 : decode cX8_count 158 = .ok (.iaload, 1) := by decide +kernel
theorem dX8_count_159 : decode cX8_count 159 = .ok (.aload_n 0, 1) := by decide +kernel
theorem dX8_count_160 : decode cX8_count 160 = .ok (.getfield 7, 3) := by decide +kernel
theorem dX8_count_163 : decode cX8_count 163 = .ok (.sipush 1444, 3) := by decide +kernel
theorem dX8_count_166 : decode cX8_count 166 = .ok (.iaload, 1) := by decide +kernel
theorem dX8_count_167 : decode cX8_count 167 = .ok (.iadd, 1) := by decide +kernel
theorem dX8_count_168 : decode cX8_count 168 = .ok (.ireturn, 1) := by decide +kernel
theorem dX8_count_169 : decode cX8_count 169 = .ok (.aload_n 0, 1) := by decide +kernel
theorem dX8_count_170 : decode cX8_count 170 = .ok (.getfield 37, 3) := by decide +kernel
theorem dX8_count_173 : decode cX8_count 173 = .ok (.ireturn, 1) := by decide +kernel
theorem dX8_count_174 : decode cX8_count 174 = .ok (.aload_n 0, 1) := by decide +kernel
theorem dX8_count_175 : decode cX8_count 175 = .ok (.getfield 111, 3) := by decide +kernel
theorem dX8_count_178 : decode cX8_count 178 = .ok (.ireturn, 1) := by decide +kernel
theorem dX8_count_179 : decode cX8_count 179 = .ok (.ldc 84, 2) := by decide +kernel
theorem dX8_count_181 : decode cX8_count 181 = .ok (.ireturn, 1) := by decide +kernel
set_option maxRecDepth 20000 in
theorem ggX8_entry_X8_isEntry : GoodIn wsX8_entry wsX8_isEntry := goodIn_r _ [8, 3, 9, 10, 7, 11, 36, 37, 38, 39, 40, 41, 42, 43, 44, 45] (by decide +kernel) (by decide +kernel)
set_option maxRecDepth 20000 in
theorem gX8_entry_X8_isEntry : GoodIn wsX8_entry (wsV RX8 85 RX8 yX8_isEntry wsX8_isEntry) := goodIn_app (goodIn_of _ (by decide +kernel)) ggX8_entry_X8_isEntry
set_option maxRecDepth 20000 in
theorem ggX8_entry_X8_in : GoodIn wsX8_entry wsX8_in := goodIn_r _ [11] (by decide +kernel) (by decide +kernel)
set_option maxRecDepth 20000 in
theorem gX8_entry_X8_in : GoodIn wsX8_entry (va_wsS RX8 33 yX8_in wsX8_in) := goodIn_app (goodIn_of _ (by decide +kernel)) ggX8_entry_X8_in
set_option maxRecDepth 20000 in
theorem ggX8_entry_X8_balances : GoodIn wsX8_entry wsX8_balances := goodIn_r _ [15, 2, 16, 17, 18, 7, 19, 20, 21, 22, 23, 3, 9, 10, 11, 36, 37, 38, 39, 40, 41, 42, 43, 44, 45] (by decide +kernel) (by decide +kernel)
set_option maxRecDepth 20000 in
theorem gX8_entry_X8_balances : GoodIn wsX8_entry (wsV RX8 63 RX8 yX8_balances wsX8_balances) := goodIn_app (goodIn_of _ (by decide +kernel)) ggX8_entry_X8_balances
set_option maxRecDepth 20000 in
theorem ggX8_entry_X8_en : GoodIn wsX8_entry wsX8_en := goodIn_r _ [23, 3, 36, 37, 38, 39, 40, 41, 42, 43, 44, 45] (by decide +kernel) (by decide +kernel)
set_option maxRecDepth 20000 in
theorem gX8_entry_X8_en : GoodIn wsX8_entry (wsV RX8 41 RX8 yX8_en wsX8_en) := goodIn_app (goodIn_of _ (by decide +kernel)) ggX8_entry_X8_en
set_option maxRecDepth 20000 in
theorem ggX8_entry_X8_fitting : GoodIn wsX8_entry wsX8_fitting := goodIn_r _ [27, 20, 21, 22, 7, 23, 3, 36, 37, 38, 39, 40, 41, 42, 43, 44, 45] (by decide +kernel) (by decide +kernel)
set_option maxRecDepth 20000 in
theorem gX8_entry_X8_fitting : GoodIn wsX8_entry (wsV RX8 59 RX8 yX8_fitting wsX8_fitting) := goodIn_app (goodIn_of _ (by decide +kernel)) ggX8_entry_X8_fitting
set_option maxRecDepth 20000 in
theorem ggX8_entry_X8_isOnPath : GoodIn wsX8_entry wsX8_isOnPath := goodIn_r _ [31, 20, 21, 22, 7, 23, 3, 36, 37, 38, 39, 40, 41, 42, 43, 44, 45] (by decide +kernel) (by decide +kernel)
set_option maxRecDepth 20000 in
theorem gX8_entry_X8_isOnPath : GoodIn wsX8_entry (wsV RX8 88 RX8 yX8_isOnPath wsX8_isOnPath) := goodIn_app (goodIn_of _ (by decide +kernel)) ggX8_entry_X8_isOnPath
set_option maxRecDepth 20000 in
theorem ggX8_entry_X8_depth : GoodIn wsX8_entry wsX8_depth := goodIn_r _ [35, 20, 21, 22, 7, 23, 3, 36, 37, 38, 39, 40, 41, 42, 43, 44, 45] (by decide +kernel) (by decide +kernel)
set_option maxRecDepth 20000 in
theorem gX8_entry_X8_depth : GoodIn wsX8_entry (wsV RX8 92 RX8 yX8_depth wsX8_depth) := goodIn_app (goodIn_of _ (by decide +kernel)) ggX8_entry_X8_depth
theorem dX8_entry_0 : decode cX8_entry 0 = .ok (.aload_n 0, 1) := by decide +kernel
theorem dX8_entry_1 : decode cX8_entry 1 = .ok (.iload_n 1, 1) := by decide +kernel
theorem dX8_entry_2 : decode cX8_entry 2 = .ok (.invokevirtual 85, 3) := by decide +kernel
theorem dX8_entry_5 : decode cX8_entry 5 = .ok (.ifCond .eq 13, 3) := by decide +kernel
theorem dX8_entry_8 : decode cX8_entry 8 = .ok (.iload_n 2, 1) := by decide +kernel
theorem dX8_entry_9 : decode cX8_entry 9 = .ok (.iconst 0, 1) := by decide +kernel
theorem dX8_entry_10 : decode cX8_entry 10 = .ok (.bipush 10, 2) := by decide +kernel
theorem dX8_entry_12 : decode cX8_entry 12 = .ok (.invokestatic 33, 3) := by decide +kernel
theorem dX8_entry_15 : decode cX8_entry 15 = .ok (.ifCond .ne 6, 3) := by decide +kernel
theorem dX8_entry_18 : decode cX8_entry 18 = .ok (.ldc 84, 2) := by decide +kernel
theorem dX8_entry_20 : decode cX8_entry 20 = .ok (.ireturn, 1) := by decide +kernel
theorem dX8_entry_21 : decode cX8_entry 21 = .ok (.aload_n 0, 1) := by decide +kernel
theorem dX8_entry_22 : decode cX8_entry 22 = .ok (.iload_n 1, 1) := by decide +kernel
theorem dX8_entry_23 : decode cX8_entry 23 = .ok (.invokevirtual 63, 3) := by decide +kernel
theorem dX8_entry_26 : decode cX8_entry 26 = .ok (.iconst 0, 1) := by decide +kernel
theorem dX8_entry_27 : decode cX8_entry 27 = .ok (.istore_n 3, 1) := by decide +kernel
theorem dX8_entry_28 : decode cX8_entry 28 = .ok (.iconst 0, 1) := by decide +kernel
theorem dX8_entry_29 : decode cX8_entry 29 = .ok (.istore 4, 2) := by decide +kernel
theorem dX8_entry_31 : decode cX8_entry 31 = .ok (.iload 4, 2) := by decide +kernel
theorem dX8_entry_33 : decode cX8_entry 33 = .ok (.bipush 6, 2) := by decide +kernel
theorem dX8_entry_35 : decode cX8_entry 35 = .ok (.if_icmp .ge 19, 3) := by decide +kernel
theorem dX8_entry_38 : decode cX8_entry 38 = .ok (.iload_n 3, 1) := by decide +kernel
theorem dX8_entry_39 : decode cX8_entry 39 = .ok (.aload_n 0, 1) := by decide +kernel
theorem dX8_entry_40 : decode cX8_entry 40 = .ok (.getfield 20, 3) := by decide +kernel
theorem dX8_entry_43 : decode cX8_entry 43 = .ok (.iload 4, 2) := by decide +kernel
theorem dX8_entry_45 : decode cX8_entry 45 = .ok (.iaload, 1) := by decide +kernel
theorem dX8_entry_46 : decode cX8_entry 46 = .ok (.iadd, 1) := by decide +kernel
theorem dX8_entry_47 : decode cX8_entry 47 = .ok (.istore_n 3, 1) := by decide +kernel
theorem dX8_entry_48 : decode cX8_entry 48 = .ok (.iinc 4 1, 3) := by decide +kernel
theorem dX8_entry_51 : decode cX8_entry 51 = .ok (.goto (-20), 3) := by decide +kernel
theorem dX8_entry_54 : decode cX8_entry 54 = .ok (.iload_n 2, 1) := by decide +kernel
theorem dX8_entry_55 : decode cX8_entry 55 = .ok (.tableswitch 111 4 10 #[41, 48, 55, 75, 95, 103, 109], 41) := by decide +kernel
theorem dX8_entry_96 : decode cX8_entry 96 = .ok (.aload_n 0, 1) := by decide +kernel
theorem dX8_entry_97 : decode cX8_entry 97 = .ok (.iload_n 1, 1) := by decide +kernel
theorem dX8_entry_98 : decode cX8_entry 98 = .ok (.iconst 0, 1) := by decide +kernel
theorem dX8_entry_99 : decode cX8_entry 99 = .ok (.invokevirtual 41, 3) := by decide +kernel
theorem dX8_entry_102 : decode cX8_entry 102 = .ok (.ireturn, 1) := by decide +kernel
theorem dX8_entry_103 : decode cX8_entry 103 = .ok (.aload_n 0, 1) := by decide +kernel
theorem dX8_entry_104 : decode cX8_entry 104 = .ok (.iload_n 1, 1) := by decide +kernel
theorem dX8_entry_105 : decode cX8_entry 105 = .ok (.iconst 5, 1) := by decide +kernel
theorem dX8_entry_106 : decode cX8_entry 106 = .ok (.invokevirtual 41, 3) := by decide +kernel
theorem dX8_entry_109 : decode cX8_entry 109 = .ok (.ireturn, 1) := by decide +kernel
theorem dX8_entry_110 : decode cX8_entry 110 = .ok (.aload_n 0, 1) := by decide +kernel
theorem dX8_entry_111 : decode cX8_entry 111 = .ok (.iload_n 1, 1) := by decide +kernel
theorem dX8_entry_112 : decode cX8_entry 112 = .ok (.iconst 5, 1) := by decide +kernel
theorem dX8_entry_113 : decode cX8_entry 113 = .ok (.invokevirtual 41, 3) := by decide +kernel
theorem dX8_entry_116 : decode cX8_entry 116 = .ok (.aload_n 0, 1) := by decide +kernel
theorem dX8_entry_117 : decode cX8_entry 117 = .ok (.iload_n 1, 1) := by decide +kernel
theorem dX8_entry_118 : decode cX8_entry 118 = .ok (.invokevirtual 59, 3) := by decide +kernel
theorem dX8_entry_121 : decode cX8_entry 121 = .ok (.if_icmp .ne 7, 3) := by decide +kernel
theorem dX8_entry_124 : decode cX8_entry 124 = .ok (.iconst 1, 1) := by decide +kernel
theorem dX8_entry_125 : decode cX8_entry 125 = .ok (.goto 4, 3) := by decide +kernel
theorem dX8_entry_128 : decode cX8_entry 128 = .ok (.iconst 0, 1) := by decide +kernel
theorem dX8_entry_129 : decode cX8_entry 129 = .ok (.ireturn, 1) := by decide +kernel
theorem dX8_entry_130 : decode cX8_entry 130 = .ok (.aload_n 0, 1) := by decide +kernel
theorem dX8_entry_131 : decode cX8_entry 131 = .ok (.iload_n 1, 1) := by decide +kernel
theorem dX8_entry_132 : decode cX8_entry 132 = .ok (.aload_n 0, 1) := by decide +kernel
theorem dX8_entry_133 : decode cX8_entry 133 = .ok (.getfield 7, 3) := by decide +kernel
theorem dX8_entry_136 : decode cX8_entry 136 = .ok (.iconst 1, 1) := by decide +kernel
theorem dX8_entry_137 : decode cX8_entry 137 = .ok (.iaload, 1) := by decide +kernel
theorem dX8_entry_138 : decode cX8_entry 138 = .ok (.invokevirtual 88, 3) := by decide +kernel
theorem dX8_entry_141 : decode cX8_entry 141 = .ok (.ifCond .eq 7, 3) := by decide +kernel
theorem dX8_entry_144 : decode cX8_entry 144 = .ok (.iconst 1, 1) := by decide +kernel
theorem dX8_entry_145 : decode cX8_entry 145 = .ok (.goto 4, 3) := by decide +kernel
theorem dX8_entry_148 : decode cX8_entry 148 = .ok (.iconst 0, 1) := by decide +kernel
theorem dX8_entry_149 : decode cX8_entry 149 = .ok (.ireturn, 1) := by decide +kernel
theorem dX8_entry_150 : decode cX8_entry 150 = .ok (.aload_n 0, 1) := by decide +kernel
theorem dX8_entry_151 : decode cX8_entry 151 = .ok (.iload_n 1, 1) := by decide +kernel
theorem dX8_entry_152 : decode cX8_entry 152 = .ok (.bipush 6, 2) := by decide +kernel
theorem dX8_entry_154 : decode cX8_entry 154 = .ok (.invokevirtual 41, 3) := by decide +kernel
theorem dX8_entry_157 : decode cX8_entry 157 = .ok (.ireturn, 1) := by decide +kernel
theorem dX8_entry_158 : decode cX8_entry 158 = .ok (.aload_n 0, 1) := by decide +kernel
theorem dX8_entry_159 : decode cX8_entry 159 = .ok (.iload_n 1, 1) := by decide +kernel
theorem dX8_entry_160 : decode cX8_entry 160 = .ok (.invokevirtual 92, 3) := by decide +kernel
theorem dX8_entry_163 : decode cX8_entry 163 = .ok (.ireturn, 1) := by decide +kernel
theorem dX8_entry_164 : decode cX8_entry 164 = .ok (.iload_n 3, 1) := by decide +kernel
theorem dX8_entry_165 : decode cX8_entry 165 = .ok (.ireturn, 1) := by decide +kernel
theorem dX8_entry_166 : decode cX8_entry 166 = .ok (.aload_n 0, 1) := by decide +kernel
theorem dX8_entry_167 : decode cX8_entry 167 = .ok (.iload_n 1, 1) := by decide +kernel
theorem dX8_entry_168 : decode cX8_entry 168 = .ok (.iconst 1, 1) := by decide +kernel
theorem dX8_entry_169 : decode cX8_entry 169 = .ok (.iload_n 2, 1) := by decide +kernel
theorem dX8_entry_170 : decode cX8_entry 170 = .ok (.iadd, 1) := by decide +kernel
theorem dX8_entry_171 : decode cX8_entry 171 = .ok (.invokevirtual 41, 3) := by decide +kernel
theorem dX8_entry_174 : decode cX8_entry 174 = .ok (.ireturn, 1) := by decide +kernel
set_option maxRecDepth 20000 in
theorem ggX8_balance_X8_in : GoodIn wsX8_balance wsX8_in := goodIn_r _ [6] (by decide +kernel) (by decide +kernel)
set_option maxRecDepth 20000 in
theorem gX8_balance_X8_in : GoodIn wsX8_balance (va_wsS RX8 33 yX8_in wsX8_in) := goodIn_app (goodIn_of _ (by decide +kernel)) ggX8_balance_X8_in
set_option maxRecDepth 20000 in
theorem ggX8_balance_X8_isEntry : GoodIn wsX8_balance wsX8_isEntry := goodIn_r _ [10, 11, 3, 4, 5, 6, 24, 25, 26, 27, 28, 29, 30, 31, 32, 33] (by decide +kernel) (by decide +kernel)
set_option maxRecDepth 20000 in
theorem gX8_balance_X8_isEntry : GoodIn wsX8_balance (wsV RX8 85 RX8 yX8_isEntry wsX8_isEntry) := goodIn_app (goodIn_of _ (by decide +kernel)) ggX8_balance_X8_isEntry
set_option maxRecDepth 20000 in
theorem ggX8_balance_X8_balances : GoodIn wsX8_balance wsX8_balances := goodIn_r _ [15, 2, 16, 17, 18, 5, 19, 20, 21, 22, 23, 11, 3, 4, 6, 24, 25, 26, 27, 28, 29, 30, 31, 32, 33] (by decide +kernel) (by decide +kernel)
set_option maxRecDepth 20000 in
theorem gX8_balance_X8_balances : GoodIn wsX8_balance (wsV RX8 63 RX8 yX8_balances wsX8_balances) := goodIn_app (goodIn_of _ (by decide +kernel)) ggX8_balance_X8_balances
theorem dX8_balance_0 : decode cX8_balance 0 = .ok (.iload_n 1, 1) := by decide +kernel
theorem dX8_balance_1 : decode cX8_balance 1 = .ok (.iconst 0, 1) := by decide +kernel
theorem dX8_balance_2 : decode cX8_balance 2 = .ok (.iconst 5, 1) := by decide +kernel
theorem dX8_balance_3 : decode cX8_balance 3 = .ok (.invokestatic 33, 3) := by decide +kernel
theorem dX8_balance_6 : decode cX8_balance 6 = .ok (.ifCond .eq 11, 3) := by decide +kernel
theorem dX8_balance_9 : decode cX8_balance 9 = .ok (.aload_n 0, 1) := by decide +kernel
theorem dX8_balance_10 : decode cX8_balance 10 = .ok (.iload_n 2, 1) := by decide +kernel
theorem dX8_balance_11 : decode cX8_balance 11 = .ok (.invokevirtual 85, 3) := by decide +kernel
theorem dX8_balance_14 : decode cX8_balance 14 = .ok (.ifCond .ne 6, 3) := by decide +kernel
theorem dX8_balance_17 : decode cX8_balance 17 = .ok (.ldc 84, 2) := by decide +kernel
theorem dX8_balance_19 : decode cX8_balance 19 = .ok (.ireturn, 1) := by decide +kernel
theorem dX8_balance_20 : decode cX8_balance 20 = .ok (.aload_n 0, 1) := by decide +kernel
theorem dX8_balance_21 : decode cX8_balance 21 = .ok (.iload_n 2, 1) := by decide +kernel
theorem dX8_balance_22 : decode cX8_balance 22 = .ok (.invokevirtual 63, 3) := by decide +kernel
theorem dX8_balance_25 : decode cX8_balance 25 = .ok (.aload_n 0, 1) := by decide +kernel
theorem dX8_balance_26 : decode cX8_balance 26 = .ok (.getfield 20, 3) := by decide +kernel
theorem dX8_balance_29 : decode cX8_balance 29 = .ok (.iload_n 1, 1) := by decide +kernel
theorem dX8_balance_30 : decode cX8_balance 30 = .ok (.iaload, 1) := by decide +kernel
theorem dX8_balance_31 : decode cX8_balance 31 = .ok (.ireturn, 1) := by decide +kernel
set_option maxRecDepth 20000 in
theorem ggX8_onChain_X8_depth : GoodIn wsX8_onChain wsX8_depth := goodIn_r _ [8, 9, 10, 11, 7, 12, 2, 17, 18, 19, 20, 21, 22, 23, 24, 25, 26] (by decide +kernel) (by decide +kernel)
set_option maxRecDepth 20000 in
theorem gX8_onChain_X8_depth : GoodIn wsX8_onChain (wsV RX8 92 RX8 yX8_depth wsX8_depth) := goodIn_app (goodIn_of _ (by decide +kernel)) ggX8_onChain_X8_depth
set_option maxRecDepth 20000 in
theorem ggX8_onChain_X8_above : GoodIn wsX8_onChain wsX8_above := goodIn_r _ [16, 9, 10, 11, 7, 12, 2, 17, 18, 19, 20, 21, 22, 23, 24, 25, 26] (by decide +kernel) (by decide +kernel)
set_option maxRecDepth 20000 in
theorem gX8_onChain_X8_above : GoodIn wsX8_onChain (wsV RX8 95 RX8 yX8_above wsX8_above) := goodIn_app (goodIn_of _ (by decide +kernel)) ggX8_onChain_X8_above
theorem dX8_onChain_0 : decode cX8_onChain 0 = .ok (.iload_n 1, 1) := by decide +kernel
theorem dX8_onChain_1 : decode cX8_onChain 1 = .ok (.ifCond .ge 6, 3) := by decide +kernel
theorem dX8_onChain_4 : decode cX8_onChain 4 = .ok (.ldc 84, 2) := by decide +kernel
theorem dX8_onChain_6 : decode cX8_onChain 6 = .ok (.ireturn, 1) := by decide +kernel
theorem dX8_onChain_7 : decode cX8_onChain 7 = .ok (.aload_n 0, 1) := by decide +kernel
theorem dX8_onChain_8 : decode cX8_onChain 8 = .ok (.aload_n 0, 1) := by decide +kernel
theorem dX8_onChain_9 : decode cX8_onChain 9 = .ok (.getfield 7, 3) := by decide +kernel
theorem dX8_onChain_12 : decode cX8_onChain 12 = .ok (.iconst 1, 1) := by decide +kernel
theorem dX8_onChain_13 : decode cX8_onChain 13 = .ok (.iaload, 1) := by decide +kernel
theorem dX8_onChain_14 : decode cX8_onChain 14 = .ok (.invokevirtual 92, 3) := by decide +kernel
theorem dX8_onChain_17 : decode cX8_onChain 17 = .ok (.istore_n 2, 1) := by decide +kernel
theorem dX8_onChain_18 : decode cX8_onChain 18 = .ok (.iload_n 1, 1) := by decide +kernel
theorem dX8_onChain_19 : decode cX8_onChain 19 = .ok (.iload_n 2, 1) := by decide +kernel
theorem dX8_onChain_20 : decode cX8_onChain 20 = .ok (.if_icmp .ge 21, 3) := by decide +kernel
theorem dX8_onChain_23 : decode cX8_onChain 23 = .ok (.aload_n 0, 1) := by decide +kernel
theorem dX8_onChain_24 : decode cX8_onChain 24 = .ok (.aload_n 0, 1) := by decide +kernel
theorem dX8_onChain_25 : decode cX8_onChain 25 = .ok (.getfield 7, 3) := by decide +kernel
theorem dX8_onChain_28 : decode cX8_onChain 28 = .ok (.iconst 1, 1) := by decide +kernel
theorem dX8_onChain_29 : decode cX8_onChain 29 = .ok (.iaload, 1) := by decide +kernel
theorem dX8_onChain_30 : decode cX8_onChain 30 = .ok (.iload_n 2, 1) := by decide +kernel
theorem dX8_onChain_31 : decode cX8_onChain 31 = .ok (.iconst 1, 1) := by decide +kernel
theorem dX8_onChain_32 : decode cX8_onChain 32 = .ok (.isub, 1) := by decide +kernel
theorem dX8_onChain_33 : decode cX8_onChain 33 = .ok (.iload_n 1, 1) := by decide +kernel
theorem dX8_onChain_34 : decode cX8_onChain 34 = .ok (.isub, 1) := by decide +kernel
theorem dX8_onChain_35 : decode cX8_onChain 35 = .ok (.invokevirtual 95, 3) := by decide +kernel
theorem dX8_onChain_38 : decode cX8_onChain 38 = .ok (.goto 5, 3) := by decide +kernel
theorem dX8_onChain_41 : decode cX8_onChain 41 = .ok (.ldc 32, 2) := by decide +kernel
theorem dX8_onChain_43 : decode cX8_onChain 43 = .ok (.ireturn, 1) := by decide +kernel
set_option maxRecDepth 20000 in
theorem ggX8_meet_X8_isOnPath : GoodIn wsX8_meet wsX8_isOnPath := goodIn_r _ [5, 6, 7, 8, 4, 9, 10, 11, 12, 13, 14, 15, 16, 17, 18, 19, 20] (by decide +kernel) (by decide +kernel)
set_option maxRecDepth 20000 in
theorem gX8_meet_X8_isOnPath : GoodIn wsX8_meet (wsV RX8 88 RX8 yX8_isOnPath wsX8_isOnPath) := goodIn_app (goodIn_of _ (by decide +kernel)) ggX8_meet_X8_isOnPath
set_option maxRecDepth 20000 in
theorem ggX8_meet_X8_en : GoodIn wsX8_meet wsX8_en := goodIn_r _ [9, 10, 11, 12, 13, 14, 15, 16, 17, 18, 19, 20] (by decide +kernel) (by decide +kernel)
set_option maxRecDepth 20000 in
theorem gX8_meet_X8_en : GoodIn wsX8_meet (wsV RX8 41 RX8 yX8_en wsX8_en) := goodIn_app (goodIn_of _ (by decide +kernel)) ggX8_meet_X8_en
theorem dX8_meet_0 : decode cX8_meet 0 = .ok (.iload_n 1, 1) := by decide +kernel
theorem dX8_meet_1 : decode cX8_meet 1 = .ok (.istore_n 3, 1) := by decide +kernel
theorem dX8_meet_2 : decode cX8_meet 2 = .ok (.aload_n 0, 1) := by decide +kernel
theorem dX8_meet_3 : decode cX8_meet 3 = .ok (.iload_n 3, 1) := by decide +kernel
theorem dX8_meet_4 : decode cX8_meet 4 = .ok (.iload_n 2, 1) := by decide +kernel
theorem dX8_meet_5 : decode cX8_meet 5 = .ok (.invokevirtual 88, 3) := by decide +kernel
theorem dX8_meet_8 : decode cX8_meet 8 = .ok (.ifCond .ne 13, 3) := by decide +kernel
theorem dX8_meet_11 : decode cX8_meet 11 = .ok (.aload_n 0, 1) := by decide +kernel
theorem dX8_meet_12 : decode cX8_meet 12 = .ok (.iload_n 3, 1) := by decide +kernel
theorem dX8_meet_13 : decode cX8_meet 13 = .ok (.iconst 0, 1) := by decide +kernel
theorem dX8_meet_14 : decode cX8_meet 14 = .ok (.invokevirtual 41, 3) := by decide +kernel
theorem dX8_meet_17 : decode cX8_meet 17 = .ok (.istore_n 3, 1) := by decide +kernel
theorem dX8_meet_18 : decode cX8_meet 18 = .ok (.goto (-16), 3) := by decide +kernel
theorem dX8_meet_21 : decode cX8_meet 21 = .ok (.iload_n 3, 1) := by decide +kernel
theorem dX8_meet_22 : decode cX8_meet 22 = .ok (.ireturn, 1) := by decide +kernel
set_option maxRecDepth 20000 in
theorem ggX8_branch_X8_isBranch : GoodIn wsX8_branch wsX8_isBranch := goodIn_r _ [7, 2, 8, 9, 6, 10, 43, 44, 45, 46, 47, 48, 49, 50, 51, 52] (by decide +kernel) (by decide +kernel)
set_option maxRecDepth 20000 in
theorem gX8_branch_X8_isBranch : GoodIn wsX8_branch (wsV RX8 105 RX8 yX8_isBranch wsX8_isBranch) := goodIn_app (goodIn_of _ (by decide +kernel)) ggX8_branch_X8_isBranch
set_option maxRecDepth 20000 in
theorem ggX8_branch_X8_in : GoodIn wsX8_branch wsX8_in := goodIn_r _ [10] (by decide +kernel) (by decide +kernel)
set_option maxRecDepth 20000 in
theorem gX8_branch_X8_in : GoodIn wsX8_branch (va_wsS RX8 33 yX8_in wsX8_in) := goodIn_app (goodIn_of _ (by decide +kernel)) ggX8_branch_X8_in
set_option maxRecDepth 20000 in
theorem ggX8_branch_X8_ofBranch : GoodIn wsX8_branch wsX8_ofBranch := goodIn_r _ [14, 15, 16, 17, 6, 18, 2, 19, 20, 21, 22, 23, 24, 25, 26, 43, 44, 45, 46, 47, 48, 49, 50, 51, 52] (by decide +kernel) (by decide +kernel)
set_option maxRecDepth 20000 in
theorem gX8_branch_X8_ofBranch : GoodIn wsX8_branch (wsV RX8 98 RX8 yX8_ofBranch wsX8_ofBranch) := goodIn_app (goodIn_of _ (by decide +kernel)) ggX8_branch_X8_ofBranch
set_option maxRecDepth 20000 in
theorem ggX8_branch_X8_br : GoodIn wsX8_branch wsX8_br := goodIn_r _ [18, 2, 43, 44, 45, 46, 47, 48, 49, 50, 51, 52] (by decide +kernel) (by decide +kernel)
set_option maxRecDepth 20000 in
theorem gX8_branch_X8_br : GoodIn wsX8_branch (wsV RX8 49 RX8 yX8_br wsX8_br) := goodIn_app (goodIn_of _ (by decide +kernel)) ggX8_branch_X8_br
set_option maxRecDepth 20000 in
theorem ggX8_branch_X8_isLoud : GoodIn wsX8_branch wsX8_isLoud := goodIn_r _ [30, 2, 31, 32, 33, 6, 34, 15, 16, 17, 18, 43, 44, 45, 46, 47, 48, 49, 50, 51, 52] (by decide +kernel) (by decide +kernel)
set_option maxRecDepth 20000 in
theorem gX8_branch_X8_isLoud : GoodIn wsX8_branch (wsV RX8 56 RX8 yX8_isLoud wsX8_isLoud) := goodIn_app (goodIn_of _ (by decide +kernel)) ggX8_branch_X8_isLoud
set_option maxRecDepth 20000 in
theorem ggX8_branch_X8_meet : GoodIn wsX8_branch wsX8_meet := goodIn_r _ [38, 39, 40, 41, 6, 42, 23, 24, 25, 26, 2, 43, 44, 45, 46, 47, 48, 49, 50, 51, 52] (by decide +kernel) (by decide +kernel)
set_option maxRecDepth 20000 in
theorem gX8_branch_X8_meet : GoodIn wsX8_branch (wsV RX8 142 RX8 yX8_meet wsX8_meet) := goodIn_app (goodIn_of _ (by decide +kernel)) ggX8_branch_X8_meet
theorem dX8_branch_0 : decode cX8_branch 0 = .ok (.aload_n 0, 1) := by decide +kernel
theorem dX8_branch_1 : decode cX8_branch 1 = .ok (.iload_n 1, 1) := by decide +kernel
theorem dX8_branch_2 : decode cX8_branch 2 = .ok (.invokevirtual 105, 3) := by decide +kernel
theorem dX8_branch_5 : decode cX8_branch 5 = .ok (.ifCond .eq 12, 3) := by decide +kernel
theorem dX8_branch_8 : decode cX8_branch 8 = .ok (.iload_n 2, 1) := by decide +kernel
theorem dX8_branch_9 : decode cX8_branch 9 = .ok (.iconst 0, 1) := by decide +kernel
theorem dX8_branch_10 : decode cX8_branch 10 = .ok (.iconst 5, 1) := by decide +kernel
theorem dX8_branch_11 : decode cX8_branch 11 = .ok (.invokestatic 33, 3) := by decide +kernel
theorem dX8_branch_14 : decode cX8_branch 14 = .ok (.ifCond .ne 6, 3) := by decide +kernel
theorem dX8_branch_17 : decode cX8_branch 17 = .ok (.ldc 84, 2) := by decide +kernel
theorem dX8_branch_19 : decode cX8_branch 19 = .ok (.ireturn, 1) := by decide +kernel
theorem dX8_branch_20 : decode cX8_branch 20 = .ok (.iload_n 2, 1) := by decide +kernel
theorem dX8_branch_21 : decode cX8_branch 21 = .ok (.tableswitch 81 2 5 #[31, 38, 45, 64], 31) := by decide +kernel
theorem dX8_branch_52 : decode cX8_branch 52 = .ok (.aload_n 0, 1) := by decide +kernel
theorem dX8_branch_53 : decode cX8_branch 53 = .ok (.iload_n 1, 1) := by decide +kernel
theorem dX8_branch_54 : decode cX8_branch 54 = .ok (.iconst 0, 1) := by decide +kernel
theorem dX8_branch_55 : decode cX8_branch 55 = .ok (.invokevirtual 98, 3) := by decide +kernel
theorem dX8_branch_58 : decode cX8_branch 58 = .ok (.ireturn, 1) := by decide +kernel
theorem dX8_branch_59 : decode cX8_branch 59 = .ok (.aload_n 0, 1) := by decide +kernel
theorem dX8_branch_60 : decode cX8_branch 60 = .ok (.iload_n 1, 1) := by decide +kernel
theorem dX8_branch_61 : decode cX8_branch 61 = .ok (.iconst 2, 1) := by decide +kernel
theorem dX8_branch_62 : decode cX8_branch 62 = .ok (.invokevirtual 49, 3) := by decide +kernel
theorem dX8_branch_65 : decode cX8_branch 65 = .ok (.ireturn, 1) := by decide +kernel
theorem dX8_branch_66 : decode cX8_branch 66 = .ok (.aload_n 0, 1) := by decide +kernel
theorem dX8_branch_67 : decode cX8_branch 67 = .ok (.iload_n 1, 1) := by decide +kernel
theorem dX8_branch_68 : decode cX8_branch 68 = .ok (.invokevirtual 56, 3) := by decide +kernel
theorem dX8_branch_71 : decode cX8_branch 71 = .ok (.ifCond .eq 7, 3) := by decide +kernel
theorem dX8_branch_74 : decode cX8_branch 74 = .ok (.iconst 1, 1) := by decide +kernel
theorem dX8_branch_75 : decode cX8_branch 75 = .ok (.goto 9, 3) := by decide +kernel
theorem dX8_branch_78 : decode cX8_branch 78 = .ok (.aload_n 0, 1) := by decide +kernel
theorem dX8_branch_79 : decode cX8_branch 79 = .ok (.iload_n 1, 1) := by decide +kernel
theorem dX8_branch_80 : decode cX8_branch 80 = .ok (.iconst 3, 1) := by decide +kernel
theorem dX8_branch_81 : decode cX8_branch 81 = .ok (.invokevirtual 49, 3) := by decide +kernel
theorem dX8_branch_84 : decode cX8_branch 84 = .ok (.ireturn, 1) := by decide +kernel
theorem dX8_branch_85 : decode cX8_branch 85 = .ok (.aload_n 0, 1) := by decide +kernel
theorem dX8_branch_86 : decode cX8_branch 86 = .ok (.aload_n 0, 1) := by decide +kernel
theorem dX8_branch_87 : decode cX8_branch 87 = .ok (.iload_n 1, 1) := by decide +kernel
theorem dX8_branch_88 : decode cX8_branch 88 = .ok (.iconst 0, 1) := by decide +kernel
theorem dX8_branch_89 : decode cX8_branch 89 = .ok (.invokevirtual 49, 3) := by decide +kernel
theorem dX8_branch_92 : decode cX8_branch 92 = .ok (.aload_n 0, 1) := by decide +kernel
theorem dX8_branch_93 : decode cX8_branch 93 = .ok (.getfield 7, 3) := by decide +kernel
theorem dX8_branch_96 : decode cX8_branch 96 = .ok (.iconst 1, 1) := by decide +kernel
theorem dX8_branch_97 : decode cX8_branch 97 = .ok (.iaload, 1) := by decide +kernel
theorem dX8_branch_98 : decode cX8_branch 98 = .ok (.invokevirtual 142, 3) := by decide +kernel
theorem dX8_branch_101 : decode cX8_branch 101 = .ok (.ireturn, 1) := by decide +kernel
theorem dX8_branch_102 : decode cX8_branch 102 = .ok (.aload_n 0, 1) := by decide +kernel
theorem dX8_branch_103 : decode cX8_branch 103 = .ok (.iload_n 1, 1) := by decide +kernel
theorem dX8_branch_104 : decode cX8_branch 104 = .ok (.iload_n 2, 1) := by decide +kernel
theorem dX8_branch_105 : decode cX8_branch 105 = .ok (.invokevirtual 49, 3) := by decide +kernel
theorem dX8_branch_108 : decode cX8_branch 108 = .ok (.ireturn, 1) := by decide +kernel
set_option maxRecDepth 20000 in
theorem ggX8_sealed_X8_in : GoodIn wsX8_sealed wsX8_in := goodIn_r _ [6] (by decide +kernel) (by decide +kernel)
set_option maxRecDepth 20000 in
theorem gX8_sealed_X8_in : GoodIn wsX8_sealed (va_wsS RX8 33 yX8_in wsX8_in) := goodIn_app (goodIn_of _ (by decide +kernel)) ggX8_sealed_X8_in
set_option maxRecDepth 20000 in
theorem ggX8_sealed_X8_isWhole : GoodIn wsX8_sealed wsX8_isWhole := goodIn_r _ [10, 1, 11, 12, 13, 5, 14, 15, 16, 17, 18, 19, 20, 21, 22, 23, 24] (by decide +kernel) (by decide +kernel)
set_option maxRecDepth 20000 in
theorem gX8_sealed_X8_isWhole : GoodIn wsX8_sealed (wsV RX8 126 RX8 yX8_isWhole wsX8_isWhole) := goodIn_app (goodIn_of _ (by decide +kernel)) ggX8_sealed_X8_isWhole
theorem dX8_sealed_0 : decode cX8_sealed 0 = .ok (.iload_n 1, 1) := by decide +kernel
theorem dX8_sealed_1 : decode cX8_sealed 1 = .ok (.iconst 0, 1) := by decide +kernel
theorem dX8_sealed_2 : decode cX8_sealed 2 = .ok (.aload_n 0, 1) := by decide +kernel
theorem dX8_sealed_3 : decode cX8_sealed 3 = .ok (.getfield 7, 3) := by decide +kernel
theorem dX8_sealed_6 : decode cX8_sealed 6 = .ok (.iconst 4, 1) := by decide +kernel
theorem dX8_sealed_7 : decode cX8_sealed 7 = .ok (.iaload, 1) := by decide +kernel
theorem dX8_sealed_8 : decode cX8_sealed 8 = .ok (.iconst 1, 1) := by decide +kernel
theorem dX8_sealed_9 : decode cX8_sealed 9 = .ok (.isub, 1) := by decide +kernel
theorem dX8_sealed_10 : decode cX8_sealed 10 = .ok (.invokestatic 33, 3) := by decide +kernel
theorem dX8_sealed_13 : decode cX8_sealed 13 = .ok (.ifCond .eq 12, 3) := by decide +kernel
theorem dX8_sealed_16 : decode cX8_sealed 16 = .ok (.iload_n 2, 1) := by decide +kernel
theorem dX8_sealed_17 : decode cX8_sealed 17 = .ok (.iconst 0, 1) := by decide +kernel
theorem dX8_sealed_18 : decode cX8_sealed 18 = .ok (.iconst 2, 1) := by decide +kernel
theorem dX8_sealed_19 : decode cX8_sealed 19 = .ok (.invokestatic 33, 3) := by decide +kernel
theorem dX8_sealed_22 : decode cX8_sealed 22 = .ok (.ifCond .ne 6, 3) := by decide +kernel
theorem dX8_sealed_25 : decode cX8_sealed 25 = .ok (.ldc 84, 2) := by decide +kernel
theorem dX8_sealed_27 : decode cX8_sealed 27 = .ok (.ireturn, 1) := by decide +kernel
theorem dX8_sealed_28 : decode cX8_sealed 28 = .ok (.iload_n 2, 1) := by decide +kernel
theorem dX8_sealed_29 : decode cX8_sealed 29 = .ok (.iconst 2, 1) := by decide +kernel
theorem dX8_sealed_30 : decode cX8_sealed 30 = .ok (.if_icmp .ge 20, 3) := by decide +kernel
theorem dX8_sealed_33 : decode cX8_sealed 33 = .ok (.aload_n 0, 1) := by decide +kernel
theorem dX8_sealed_34 : decode cX8_sealed 34 = .ok (.getfield 7, 3) := by decide +kernel
theorem dX8_sealed_37 : decode cX8_sealed 37 = .ok (.sipush 465, 3) := by decide +kernel
theorem dX8_sealed_40 : decode cX8_sealed 40 = .ok (.iconst 2, 1) := by decide +kernel
theorem dX8_sealed_41 : decode cX8_sealed 41 = .ok (.iload_n 1, 1) := by decide +kernel
theorem dX8_sealed_42 : decode cX8_sealed 42 = .ok (.imul, 1) := by decide +kernel
theorem dX8_sealed_43 : decode cX8_sealed 43 = .ok (.iadd, 1) := by decide +kernel
theorem dX8_sealed_44 : decode cX8_sealed 44 = .ok (.iload_n 2, 1) := by decide +kernel
theorem dX8_sealed_45 : decode cX8_sealed 45 = .ok (.iadd, 1) := by decide +kernel
theorem dX8_sealed_46 : decode cX8_sealed 46 = .ok (.iaload, 1) := by decide +kernel
theorem dX8_sealed_47 : decode cX8_sealed 47 = .ok (.goto 16, 3) := by decide +kernel
theorem dX8_sealed_50 : decode cX8_sealed 50 = .ok (.aload_n 0, 1) := by decide +kernel
theorem dX8_sealed_51 : decode cX8_sealed 51 = .ok (.iload_n 1, 1) := by decide +kernel
theorem dX8_sealed_52 : decode cX8_sealed 52 = .ok (.invokevirtual 126, 3) := by decide +kernel
theorem dX8_sealed_55 : decode cX8_sealed 55 = .ok (.ifCond .eq 7, 3) := by decide +kernel
theorem dX8_sealed_58 : decode cX8_sealed 58 = .ok (.iconst 1, 1) := by decide +kernel
theorem dX8_sealed_59 : decode cX8_sealed 59 = .ok (.goto 4, 3) := by decide +kernel
theorem dX8_sealed_62 : decode cX8_sealed 62 = .ok (.iconst 0, 1) := by decide +kernel
theorem dX8_sealed_63 : decode cX8_sealed 63 = .ok (.ireturn, 1) := by decide +kernel
set_option maxRecDepth 20000 in
theorem ggX8_common_X8_isEntry : GoodIn wsX8_common wsX8_isEntry := goodIn_r _ [6, 7, 8, 9, 5, 10, 23, 24, 25, 26, 27, 28, 29, 30, 31, 32] (by decide +kernel) (by decide +kernel)
set_option maxRecDepth 20000 in
theorem gX8_common_X8_isEntry : GoodIn wsX8_common (wsV RX8 85 RX8 yX8_isEntry wsX8_isEntry) := goodIn_app (goodIn_of _ (by decide +kernel)) ggX8_common_X8_isEntry
set_option maxRecDepth 20000 in
theorem ggX8_common_X8_meet : GoodIn wsX8_common wsX8_meet := goodIn_r _ [14, 15, 16, 17, 5, 18, 19, 20, 21, 22, 7, 23, 24, 25, 26, 27, 28, 29, 30, 31, 32] (by decide +kernel) (by decide +kernel)
set_option maxRecDepth 20000 in
theorem gX8_common_X8_meet : GoodIn wsX8_common (wsV RX8 142 RX8 yX8_meet wsX8_meet) := goodIn_app (goodIn_of _ (by decide +kernel)) ggX8_common_X8_meet
theorem dX8_common_0 : decode cX8_common 0 = .ok (.aload_n 0, 1) := by decide +kernel
theorem dX8_common_1 : decode cX8_common 1 = .ok (.iload_n 1, 1) := by decide +kernel
theorem dX8_common_2 : decode cX8_common 2 = .ok (.invokevirtual 85, 3) := by decide +kernel
theorem dX8_common_5 : decode cX8_common 5 = .ok (.ifCond .eq 20, 3) := by decide +kernel
theorem dX8_common_8 : decode cX8_common 8 = .ok (.aload_n 0, 1) := by decide +kernel
theorem dX8_common_9 : decode cX8_common 9 = .ok (.iload_n 2, 1) := by decide +kernel
theorem dX8_common_10 : decode cX8_common 10 = .ok (.invokevirtual 85, 3) := by decide +kernel
theorem dX8_common_13 : decode cX8_common 13 = .ok (.ifCond .eq 12, 3) := by decide +kernel
theorem dX8_common_16 : decode cX8_common 16 = .ok (.aload_n 0, 1) := by decide +kernel
theorem dX8_common_17 : decode cX8_common 17 = .ok (.iload_n 1, 1) := by decide +kernel
theorem dX8_common_18 : decode cX8_common 18 = .ok (.iload_n 2, 1) := by decide +kernel
theorem dX8_common_19 : decode cX8_common 19 = .ok (.invokevirtual 142, 3) := by decide +kernel
theorem dX8_common_22 : decode cX8_common 22 = .ok (.goto 5, 3) := by decide +kernel
theorem dX8_common_25 : decode cX8_common 25 = .ok (.ldc 84, 2) := by decide +kernel
theorem dX8_common_27 : decode cX8_common 27 = .ok (.ireturn, 1) := by decide +kernel
set_option maxRecDepth 20000 in
theorem ggX8_failing_X8_isBranch : GoodIn wsX8_failing wsX8_isBranch := goodIn_r _ [9, 2, 10, 11, 8, 12, 46, 47, 48, 49, 50, 51, 52, 53, 54, 55] (by decide +kernel) (by decide +kernel)
set_option maxRecDepth 20000 in
theorem gX8_failing_X8_isBranch : GoodIn wsX8_failing (wsV RX8 105 RX8 yX8_isBranch wsX8_isBranch) := goodIn_app (goodIn_of _ (by decide +kernel)) ggX8_failing_X8_isBranch
set_option maxRecDepth 20000 in
theorem ggX8_failing_X8_in : GoodIn wsX8_failing wsX8_in := goodIn_r _ [12] (by decide +kernel) (by decide +kernel)
set_option maxRecDepth 20000 in
theorem gX8_failing_X8_in : GoodIn wsX8_failing (va_wsS RX8 33 yX8_in wsX8_in) := goodIn_app (goodIn_of _ (by decide +kernel)) ggX8_failing_X8_in
set_option maxRecDepth 20000 in
theorem ggX8_failing_X8_balances : GoodIn wsX8_failing wsX8_balances := goodIn_r _ [16, 17, 18, 19, 20, 8, 21, 22, 23, 24, 25, 2, 10, 11, 12, 46, 47, 48, 49, 50, 51, 52, 53, 54, 55] (by decide +kernel) (by decide +kernel)
set_option maxRecDepth 20000 in
theorem gX8_failing_X8_balances : GoodIn wsX8_failing (wsV RX8 63 RX8 yX8_balances wsX8_balances) := goodIn_app (goodIn_of _ (by decide +kernel)) ggX8_failing_X8_balances
set_option maxRecDepth 20000 in
theorem ggX8_failing_X8_tries : GoodIn wsX8_failing wsX8_tries := goodIn_r _ [29, 3, 30, 31, 32, 8, 33, 2, 34, 35, 36, 37, 38, 39, 40, 41, 22, 23, 24, 25, 18, 19, 20, 21, 17, 10, 11, 12, 42, 43, 44, 45, 46, 47, 48, 49, 50, 51, 52, 53, 54, 55] (by decide +kernel) (by decide +kernel)
set_option maxRecDepth 20000 in
theorem gX8_failing_X8_tries : GoodIn wsX8_failing (wsV RX8 108 RX8 yX8_tries wsX8_tries) := goodIn_app (goodIn_of _ (by decide +kernel)) ggX8_failing_X8_tries
set_option maxRecDepth 20000 in
theorem ggX8_failing_X8_br : GoodIn wsX8_failing wsX8_br := goodIn_r _ [33, 2, 46, 47, 48, 49, 50, 51, 52, 53, 54, 55] (by decide +kernel) (by decide +kernel)
set_option maxRecDepth 20000 in
theorem gX8_failing_X8_br : GoodIn wsX8_failing (wsV RX8 49 RX8 yX8_br wsX8_br) := goodIn_app (goodIn_of _ (by decide +kernel)) ggX8_failing_X8_br
set_option maxRecDepth 20000 in
theorem ggX8_failing_X8_ofBranch : GoodIn wsX8_failing wsX8_ofBranch := goodIn_r _ [37, 30, 31, 32, 8, 33, 2, 38, 39, 40, 41, 22, 23, 24, 25, 46, 47, 48, 49, 50, 51, 52, 53, 54, 55] (by decide +kernel) (by decide +kernel)
set_option maxRecDepth 20000 in
theorem gX8_failing_X8_ofBranch : GoodIn wsX8_failing (wsV RX8 98 RX8 yX8_ofBranch wsX8_ofBranch) := goodIn_app (goodIn_of _ (by decide +kernel)) ggX8_failing_X8_ofBranch
theorem dX8_failing_0 : decode cX8_failing 0 = .ok (.aload_n 0, 1) := by decide +kernel
theorem dX8_failing_1 : decode cX8_failing 1 = .ok (.iload_n 1, 1) := by decide +kernel
theorem dX8_failing_2 : decode cX8_failing 2 = .ok (.invokevirtual 105, 3) := by decide +kernel
theorem dX8_failing_5 : decode cX8_failing 5 = .ok (.ifCond .eq 12, 3) := by decide +kernel
theorem dX8_failing_8 : decode cX8_failing 8 = .ok (.iload_n 2, 1) := by decide +kernel
theorem dX8_failing_9 : decode cX8_failing 9 = .ok (.iconst 0, 1) := by decide +kernel
theorem dX8_failing_10 : decode cX8_failing 10 = .ok (.iconst 1, 1) := by decide +kernel
theorem dX8_failing_11 : decode cX8_failing 11 = .ok (.invokestatic 33, 3) := by decide +kernel
theorem dX8_failing_14 : decode cX8_failing 14 = .ok (.ifCond .ne 6, 3) := by decide +kernel
theorem dX8_failing_17 : decode cX8_failing 17 = .ok (.ldc 84, 2) := by decide +kernel
theorem dX8_failing_19 : decode cX8_failing 19 = .ok (.ireturn, 1) := by decide +kernel
theorem dX8_failing_20 : decode cX8_failing 20 = .ok (.aload_n 0, 1) := by decide +kernel
theorem dX8_failing_21 : decode cX8_failing 21 = .ok (.aload_n 0, 1) := by decide +kernel
theorem dX8_failing_22 : decode cX8_failing 22 = .ok (.getfield 7, 3) := by decide +kernel
theorem dX8_failing_25 : decode cX8_failing 25 = .ok (.iconst 1, 1) := by decide +kernel
theorem dX8_failing_26 : decode cX8_failing 26 = .ok (.iaload, 1) := by decide +kernel
theorem dX8_failing_27 : decode cX8_failing 27 = .ok (.invokevirtual 63, 3) := by decide +kernel
theorem dX8_failing_30 : decode cX8_failing 30 = .ok (.aload_n 0, 1) := by decide +kernel
theorem dX8_failing_31 : decode cX8_failing 31 = .ok (.iload_n 1, 1) := by decide +kernel
theorem dX8_failing_32 : decode cX8_failing 32 = .ok (.invokevirtual 108, 3) := by decide +kernel
theorem dX8_failing_35 : decode cX8_failing 35 = .ok (.istore_n 3, 1) := by decide +kernel
theorem dX8_failing_36 : decode cX8_failing 36 = .ok (.iload_n 2, 1) := by decide +kernel
theorem dX8_failing_37 : decode cX8_failing 37 = .ok (.iconst 1, 1) := by decide +kernel
theorem dX8_failing_38 : decode cX8_failing 38 = .ok (.if_icmp .ne 5, 3) := by decide +kernel
theorem dX8_failing_41 : decode cX8_failing 41 = .ok (.iload_n 3, 1) := by decide +kernel
theorem dX8_failing_42 : decode cX8_failing 42 = .ok (.ireturn, 1) := by decide +kernel
theorem dX8_failing_43 : decode cX8_failing 43 = .ok (.iconst 0, 1) := by decide +kernel
theorem dX8_failing_44 : decode cX8_failing 44 = .ok (.istore 4, 2) := by decide +kernel
theorem dX8_failing_46 : decode cX8_failing 46 = .ok (.iload 4, 2) := by decide +kernel
theorem dX8_failing_48 : decode cX8_failing 48 = .ok (.aload_n 0, 1) := by decide +kernel
theorem dX8_failing_49 : decode cX8_failing 49 = .ok (.iload_n 1, 1) := by decide +kernel
theorem dX8_failing_50 : decode cX8_failing 50 = .ok (.iconst 1, 1) := by decide +kernel
theorem dX8_failing_51 : decode cX8_failing 51 = .ok (.invokevirtual 49, 3) := by decide +kernel
theorem dX8_failing_54 : decode cX8_failing 54 = .ok (.if_icmp .ge 40, 3) := by decide +kernel
theorem dX8_failing_57 : decode cX8_failing 57 = .ok (.iload 4, 2) := by decide +kernel
theorem dX8_failing_59 : decode cX8_failing 59 = .ok (.iload_n 3, 1) := by decide +kernel
theorem dX8_failing_60 : decode cX8_failing 60 = .ok (.if_icmp .ge 20, 3) := by decide +kernel
theorem dX8_failing_63 : decode cX8_failing 63 = .ok (.aload_n 0, 1) := by decide +kernel
theorem dX8_failing_64 : decode cX8_failing 64 = .ok (.getfield 23, 3) := by decide +kernel
theorem dX8_failing_67 : decode cX8_failing 67 = .ok (.iload 4, 2) := by decide +kernel
theorem dX8_failing_69 : decode cX8_failing 69 = .ok (.iaload, 1) := by decide +kernel
theorem dX8_failing_70 : decode cX8_failing 70 = .ok (.aload_n 0, 1) := by decide +kernel
theorem dX8_failing_71 : decode cX8_failing 71 = .ok (.iload_n 1, 1) := by decide +kernel
theorem dX8_failing_72 : decode cX8_failing 72 = .ok (.iload 4, 2) := by decide +kernel
theorem dX8_failing_74 : decode cX8_failing 74 = .ok (.invokevirtual 98, 3) := by decide +kernel
theorem dX8_failing_77 : decode cX8_failing 77 = .ok (.if_icmp .eq 11, 3) := by decide +kernel
theorem dX8_failing_80 : decode cX8_failing 80 = .ok (.aload_n 0, 1) := by decide +kernel
theorem dX8_failing_81 : decode cX8_failing 81 = .ok (.iload_n 1, 1) := by decide +kernel
theorem dX8_failing_82 : decode cX8_failing 82 = .ok (.iload 4, 2) := by decide +kernel
theorem dX8_failing_84 : decode cX8_failing 84 = .ok (.invokevirtual 98, 3) := by decide +kernel
theorem dX8_failing_87 : decode cX8_failing 87 = .ok (.ireturn, 1) := by decide +kernel
theorem dX8_failing_88 : decode cX8_failing 88 = .ok (.iinc 4 1, 3) := by decide +kernel
theorem dX8_failing_91 : decode cX8_failing 91 = .ok (.goto (-45), 3) := by decide +kernel
theorem dX8_failing_94 : decode cX8_failing 94 = .ok (.ldc 32, 2) := by decide +kernel
theorem dX8_failing_96 : decode cX8_failing 96 = .ok (.ireturn, 1) := by decide +kernel
set_option maxRecDepth 20000 in
theorem ggX8_waitingAt_X8_isWaiting : GoodIn wsX8_waitingAt wsX8_isWaiting := goodIn_r _ [5, 6, 7, 8, 4, 9, 10, 11, 12, 13, 14, 15, 16, 17, 18, 19, 20] (by decide +kernel) (by decide +kernel)
set_option maxRecDepth 20000 in
theorem gX8_waitingAt_X8_isWaiting : GoodIn wsX8_waitingAt (wsV RX8 52 RX8 yX8_isWaiting wsX8_isWaiting) := goodIn_app (goodIn_of _ (by decide +kernel)) ggX8_waitingAt_X8_isWaiting
theorem dX8_waitingAt_0 : decode cX8_waitingAt 0 = .ok (.iload_n 1, 1) := by decide +kernel
theorem dX8_waitingAt_1 : decode cX8_waitingAt 1 = .ok (.istore_n 2, 1) := by decide +kernel
theorem dX8_waitingAt_2 : decode cX8_waitingAt 2 = .ok (.iconst 0, 1) := by decide +kernel
theorem dX8_waitingAt_3 : decode cX8_waitingAt 3 = .ok (.istore_n 3, 1) := by decide +kernel
theorem dX8_waitingAt_4 : decode cX8_waitingAt 4 = .ok (.aload_n 0, 1) := by decide +kernel
theorem dX8_waitingAt_5 : decode cX8_waitingAt 5 = .ok (.iload_n 3, 1) := by decide +kernel
theorem dX8_waitingAt_6 : decode cX8_waitingAt 6 = .ok (.invokevirtual 52, 3) := by decide +kernel
theorem dX8_waitingAt_9 : decode cX8_waitingAt 9 = .ok (.ifCond .eq 7, 3) := by decide +kernel
theorem dX8_waitingAt_12 : decode cX8_waitingAt 12 = .ok (.iload_n 2, 1) := by decide +kernel
theorem dX8_waitingAt_13 : decode cX8_waitingAt 13 = .ok (.ifCond .le 25, 3) := by decide +kernel
theorem dX8_waitingAt_16 : decode cX8_waitingAt 16 = .ok (.iload_n 2, 1) := by decide +kernel
theorem dX8_waitingAt_17 : decode cX8_waitingAt 17 = .ok (.aload_n 0, 1) := by decide +kernel
theorem dX8_waitingAt_18 : decode cX8_waitingAt 18 = .ok (.iload_n 3, 1) := by decide +kernel
theorem dX8_waitingAt_19 : decode cX8_waitingAt 19 = .ok (.invokevirtual 52, 3) := by decide +kernel
theorem dX8_waitingAt_22 : decode cX8_waitingAt 22 = .ok (.ifCond .eq 7, 3) := by decide +kernel
theorem dX8_waitingAt_25 : decode cX8_waitingAt 25 = .ok (.iconst 1, 1) := by decide +kernel
theorem dX8_waitingAt_26 : decode cX8_waitingAt 26 = .ok (.goto 4, 3) := by decide +kernel
theorem dX8_waitingAt_29 : decode cX8_waitingAt 29 = .ok (.iconst 0, 1) := by decide +kernel
theorem dX8_waitingAt_30 : decode cX8_waitingAt 30 = .ok (.isub, 1) := by decide +kernel
theorem dX8_waitingAt_31 : decode cX8_waitingAt 31 = .ok (.istore_n 2, 1) := by decide +kernel
theorem dX8_waitingAt_32 : decode cX8_waitingAt 32 = .ok (.iinc 3 1, 3) := by decide +kernel
theorem dX8_waitingAt_35 : decode cX8_waitingAt 35 = .ok (.goto (-31), 3) := by decide +kernel
theorem dX8_waitingAt_38 : decode cX8_waitingAt 38 = .ok (.iload_n 3, 1) := by decide +kernel
theorem dX8_waitingAt_39 : decode cX8_waitingAt 39 = .ok (.ireturn, 1) := by decide +kernel
set_option maxRecDepth 20000 in
theorem ggX8_canFollow_X8_balances : GoodIn wsX8_canFollow wsX8_balances := goodIn_r _ [6, 7, 8, 9, 10, 5, 11, 12, 13, 14, 15, 1, 16, 17, 18, 48, 49, 50, 51, 52, 53, 54, 55, 56, 57] (by decide +kernel) (by decide +kernel)
set_option maxRecDepth 20000 in
theorem gX8_canFollow_X8_balances : GoodIn wsX8_canFollow (wsV RX8 63 RX8 yX8_balances wsX8_balances) := goodIn_app (goodIn_of _ (by decide +kernel)) ggX8_canFollow_X8_balances
set_option maxRecDepth 20000 in
theorem ggX8_canFollow_X8_waitingAt : GoodIn wsX8_canFollow wsX8_waitingAt := goodIn_r _ [22, 23, 24, 25, 5, 26, 27, 28, 29, 30, 1, 48, 49, 50, 51, 52, 53, 54, 55, 56, 57] (by decide +kernel) (by decide +kernel)
set_option maxRecDepth 20000 in
theorem gX8_canFollow_X8_waitingAt : GoodIn wsX8_canFollow (wsV RX8 145 RX8 yX8_waitingAt wsX8_waitingAt) := goodIn_app (goodIn_of _ (by decide +kernel)) ggX8_canFollow_X8_waitingAt
set_option maxRecDepth 20000 in
theorem ggX8_canFollow_X8_br : GoodIn wsX8_canFollow wsX8_br := goodIn_r _ [30, 1, 48, 49, 50, 51, 52, 53, 54, 55, 56, 57] (by decide +kernel) (by decide +kernel)
set_option maxRecDepth 20000 in
theorem gX8_canFollow_X8_br : GoodIn wsX8_canFollow (wsV RX8 49 RX8 yX8_br wsX8_br) := goodIn_app (goodIn_of _ (by decide +kernel)) ggX8_canFollow_X8_br
set_option maxRecDepth 20000 in
theorem ggX8_canFollow_X8_ofBranch : GoodIn wsX8_canFollow wsX8_ofBranch := goodIn_r _ [34, 27, 28, 29, 5, 30, 1, 35, 36, 37, 38, 12, 13, 14, 15, 48, 49, 50, 51, 52, 53, 54, 55, 56, 57] (by decide +kernel) (by decide +kernel)
set_option maxRecDepth 20000 in
theorem gX8_canFollow_X8_ofBranch : GoodIn wsX8_canFollow (wsV RX8 98 RX8 yX8_ofBranch wsX8_ofBranch) := goodIn_app (goodIn_of _ (by decide +kernel)) ggX8_canFollow_X8_ofBranch
set_option maxRecDepth 20000 in
theorem ggX8_canFollow_X8_counts : GoodIn wsX8_canFollow wsX8_counts := goodIn_r _ [11, 7, 12, 13, 14, 5, 15, 1, 16, 17, 18, 48, 49, 50, 51, 52, 53, 54, 55, 56, 57] (by decide +kernel) (by decide +kernel)
set_option maxRecDepth 20000 in
theorem gX8_canFollow_X8_counts : GoodIn wsX8_canFollow (wsV RX8 45 RX8 yX8_counts wsX8_counts) := goodIn_app (goodIn_of _ (by decide +kernel)) ggX8_canFollow_X8_counts
set_option maxRecDepth 20000 in
theorem ggX8_canFollow_X8_tries : GoodIn wsX8_canFollow wsX8_tries := goodIn_r _ [42, 43, 27, 28, 29, 5, 30, 1, 31, 32, 33, 34, 35, 36, 37, 38, 12, 13, 14, 15, 8, 9, 10, 11, 7, 16, 17, 18, 44, 45, 46, 47, 48, 49, 50, 51, 52, 53, 54, 55, 56, 57] (by decide +kernel) (by decide +kernel)
set_option maxRecDepth 20000 in
theorem gX8_canFollow_X8_tries : GoodIn wsX8_canFollow (wsV RX8 108 RX8 yX8_tries wsX8_tries) := goodIn_app (goodIn_of _ (by decide +kernel)) ggX8_canFollow_X8_tries
theorem dX8_canFollow_0 : decode cX8_canFollow 0 = .ok (.aload_n 0, 1) := by decide +kernel
theorem dX8_canFollow_1 : decode cX8_canFollow 1 = .ok (.aload_n 0, 1) := by decide +kernel
theorem dX8_canFollow_2 : decode cX8_canFollow 2 = .ok (.getfield 7, 3) := by decide +kernel
theorem dX8_canFollow_5 : decode cX8_canFollow 5 = .ok (.iconst 1, 1) := by decide +kernel
theorem dX8_canFollow_6 : decode cX8_canFollow 6 = .ok (.iaload, 1) := by decide +kernel
theorem dX8_canFollow_7 : decode cX8_canFollow 7 = .ok (.invokevirtual 63, 3) := by decide +kernel
theorem dX8_canFollow_10 : decode cX8_canFollow 10 = .ok (.iconst 0, 1) := by decide +kernel
theorem dX8_canFollow_11 : decode cX8_canFollow 11 = .ok (.istore 4, 2) := by decide +kernel
theorem dX8_canFollow_13 : decode cX8_canFollow 13 = .ok (.iload 4, 2) := by decide +kernel
theorem dX8_canFollow_15 : decode cX8_canFollow 15 = .ok (.iload_n 3, 1) := by decide +kernel
theorem dX8_canFollow_16 : decode cX8_canFollow 16 = .ok (.if_icmp .ge 61, 3) := by decide +kernel
theorem dX8_canFollow_19 : decode cX8_canFollow 19 = .ok (.aload_n 0, 1) := by decide +kernel
theorem dX8_canFollow_20 : decode cX8_canFollow 20 = .ok (.iload 4, 2) := by decide +kernel
theorem dX8_canFollow_22 : decode cX8_canFollow 22 = .ok (.invokevirtual 145, 3) := by decide +kernel
theorem dX8_canFollow_25 : decode cX8_canFollow 25 = .ok (.istore 5, 2) := by decide +kernel
theorem dX8_canFollow_27 : decode cX8_canFollow 27 = .ok (.iconst 0, 1) := by decide +kernel
theorem dX8_canFollow_28 : decode cX8_canFollow 28 = .ok (.istore 6, 2) := by decide +kernel
theorem dX8_canFollow_30 : decode cX8_canFollow 30 = .ok (.iload 6, 2) := by decide +kernel
theorem dX8_canFollow_32 : decode cX8_canFollow 32 = .ok (.aload_n 0, 1) := by decide +kernel
theorem dX8_canFollow_33 : decode cX8_canFollow 33 = .ok (.iload 5, 2) := by decide +kernel
theorem dX8_canFollow_35 : decode cX8_canFollow 35 = .ok (.iconst 1, 1) := by decide +kernel
theorem dX8_canFollow_36 : decode cX8_canFollow 36 = .ok (.invokevirtual 49, 3) := by decide +kernel
theorem dX8_canFollow_39 : decode cX8_canFollow 39 = .ok (.if_icmp .ge 32, 3) := by decide +kernel
theorem dX8_canFollow_42 : decode cX8_canFollow 42 = .ok (.iload_n 1, 1) := by decide +kernel
theorem dX8_canFollow_43 : decode cX8_canFollow 43 = .ok (.iload 4, 2) := by decide +kernel
theorem dX8_canFollow_45 : decode cX8_canFollow 45 = .ok (.ishr, 1) := by decide +kernel
theorem dX8_canFollow_46 : decode cX8_canFollow 46 = .ok (.iconst 1, 1) := by decide +kernel
theorem dX8_canFollow_47 : decode cX8_canFollow 47 = .ok (.iand, 1) := by decide +kernel
theorem dX8_canFollow_48 : decode cX8_canFollow 48 = .ok (.iconst 1, 1) := by decide +kernel
theorem dX8_canFollow_49 : decode cX8_canFollow 49 = .ok (.if_icmp .ne 22, 3) := by decide +kernel
theorem dX8_canFollow_52 : decode cX8_canFollow 52 = .ok (.aload_n 0, 1) := by decide +kernel
theorem dX8_canFollow_53 : decode cX8_canFollow 53 = .ok (.aload_n 0, 1) := by decide +kernel
theorem dX8_canFollow_54 : decode cX8_canFollow 54 = .ok (.iload 5, 2) := by decide +kernel
theorem dX8_canFollow_56 : decode cX8_canFollow 56 = .ok (.iload 6, 2) := by decide +kernel
theorem dX8_canFollow_58 : decode cX8_canFollow 58 = .ok (.invokevirtual 98, 3) := by decide +kernel
theorem dX8_canFollow_61 : decode cX8_canFollow 61 = .ok (.iconst 1, 1) := by decide +kernel
theorem dX8_canFollow_62 : decode cX8_canFollow 62 = .ok (.invokevirtual 45, 3) := by decide +kernel
theorem dX8_canFollow_65 : decode cX8_canFollow 65 = .ok (.iinc 6 1, 3) := by decide +kernel
theorem dX8_canFollow_68 : decode cX8_canFollow 68 = .ok (.goto (-38), 3) := by decide +kernel
theorem dX8_canFollow_71 : decode cX8_canFollow 71 = .ok (.iinc 4 1, 3) := by decide +kernel
theorem dX8_canFollow_74 : decode cX8_canFollow 74 = .ok (.goto (-61), 3) := by decide +kernel
theorem dX8_canFollow_77 : decode cX8_canFollow 77 = .ok (.aload_n 0, 1) := by decide +kernel
theorem dX8_canFollow_78 : decode cX8_canFollow 78 = .ok (.iload_n 2, 1) := by decide +kernel
theorem dX8_canFollow_79 : decode cX8_canFollow 79 = .ok (.invokevirtual 145, 3) := by decide +kernel
theorem dX8_canFollow_82 : decode cX8_canFollow 82 = .ok (.istore 4, 2) := by decide +kernel
theorem dX8_canFollow_84 : decode cX8_canFollow 84 = .ok (.aload_n 0, 1) := by decide +kernel
theorem dX8_canFollow_85 : decode cX8_canFollow 85 = .ok (.iload 4, 2) := by decide +kernel
theorem dX8_canFollow_87 : decode cX8_canFollow 87 = .ok (.invokevirtual 108, 3) := by decide +kernel
theorem dX8_canFollow_90 : decode cX8_canFollow 90 = .ok (.aload_n 0, 1) := by decide +kernel
theorem dX8_canFollow_91 : decode cX8_canFollow 91 = .ok (.iload 4, 2) := by decide +kernel
theorem dX8_canFollow_93 : decode cX8_canFollow 93 = .ok (.iconst 1, 1) := by decide +kernel
theorem dX8_canFollow_94 : decode cX8_canFollow 94 = .ok (.invokevirtual 49, 3) := by decide +kernel
theorem dX8_canFollow_97 : decode cX8_canFollow 97 = .ok (.if_icmp .ne 7, 3) := by decide +kernel
theorem dX8_canFollow_100 : decode cX8_canFollow 100 = .ok (.iconst 1, 1) := by decide +kernel
theorem dX8_canFollow_101 : decode cX8_canFollow 101 = .ok (.goto 4, 3) := by decide +kernel
theorem dX8_canFollow_104 : decode cX8_canFollow 104 = .ok (.iconst 0, 1) := by decide +kernel
theorem dX8_canFollow_105 : decode cX8_canFollow 105 = .ok (.ireturn, 1) := by decide +kernel
set_option maxRecDepth 20000 in
theorem ggX8_orders_X8_waiting : GoodIn wsX8_orders wsX8_waiting := goodIn_r _ [7, 8, 9, 10, 11, 6, 12, 13, 14, 15, 16, 58, 59, 60, 61, 62, 63, 64, 65, 66, 67] (by decide +kernel) (by decide +kernel)
set_option maxRecDepth 20000 in
theorem gX8_orders_X8_waiting : GoodIn wsX8_orders (wsV RX8 129 RX8 yX8_waiting wsX8_waiting) := goodIn_app (goodIn_of _ (by decide +kernel)) ggX8_orders_X8_waiting
set_option maxRecDepth 20000 in
theorem ggX8_orders_X8_canFollow : GoodIn wsX8_orders wsX8_canFollow := goodIn_r _ [20, 8, 21, 22, 23, 6, 24, 25, 26, 27, 28, 29, 30, 31, 32, 33, 34, 35, 36, 37, 38, 39, 40, 9, 10, 11, 12, 13, 14, 15, 16, 41, 42, 43, 44, 45, 46, 47, 48, 49, 50, 51, 52, 53, 54, 55, 56, 57, 58, 59, 60, 61, 62, 63, 64, 65, 66, 67] (by decide +kernel) (by decide +kernel)
set_option maxRecDepth 20000 in
theorem gX8_orders_X8_canFollow : GoodIn wsX8_orders (wsV RX8 148 RX8 yX8_canFollow wsX8_canFollow) := goodIn_app (goodIn_of _ (by decide +kernel)) ggX8_orders_X8_canFollow
theorem dX8_orders_0 : decode cX8_orders 0 = .ok (.aload_n 0, 1) := by decide +kernel
theorem dX8_orders_1 : decode cX8_orders 1 = .ok (.invokevirtual 129, 3) := by decide +kernel
theorem dX8_orders_4 : decode cX8_orders 4 = .ok (.istore_n 1, 1) := by decide +kernel
theorem dX8_orders_5 : decode cX8_orders 5 = .ok (.iload_n 1, 1) := by decide +kernel
theorem dX8_orders_6 : decode cX8_orders 6 = .ok (.iconst 5, 1) := by decide +kernel
theorem dX8_orders_7 : decode cX8_orders 7 = .ok (.if_icmp .le 6, 3) := by decide +kernel
theorem dX8_orders_10 : decode cX8_orders 10 = .ok (.ldc 32, 2) := by decide +kernel
theorem dX8_orders_12 : decode cX8_orders 12 = .ok (.ireturn, 1) := by decide +kernel
theorem dX8_orders_13 : decode cX8_orders 13 = .ok (.iconst 0, 1) := by decide +kernel
theorem dX8_orders_14 : decode cX8_orders 14 = .ok (.istore_n 2, 1) := by decide +kernel
theorem dX8_orders_15 : decode cX8_orders 15 = .ok (.iload_n 2, 1) := by decide +kernel
theorem dX8_orders_16 : decode cX8_orders 16 = .ok (.bipush 32, 2) := by decide +kernel
theorem dX8_orders_18 : decode cX8_orders 18 = .ok (.if_icmp .ge 24, 3) := by decide +kernel
theorem dX8_orders_21 : decode cX8_orders 21 = .ok (.aload_n 0, 1) := by decide +kernel
theorem dX8_orders_22 : decode cX8_orders 22 = .ok (.getfield 29, 3) := by decide +kernel
theorem dX8_orders_25 : decode cX8_orders 25 = .ok (.iload_n 2, 1) := by decide +kernel
theorem dX8_orders_26 : decode cX8_orders 26 = .ok (.iload_n 2, 1) := by decide +kernel
theorem dX8_orders_27 : decode cX8_orders 27 = .ok (.ifCond .ne 7, 3) := by decide +kernel
theorem dX8_orders_30 : decode cX8_orders 30 = .ok (.iconst 1, 1) := by decide +kernel
theorem dX8_orders_31 : decode cX8_orders 31 = .ok (.goto 4, 3) := by decide +kernel
theorem dX8_orders_34 : decode cX8_orders 34 = .ok (.iconst 0, 1) := by decide +kernel
theorem dX8_orders_35 : decode cX8_orders 35 = .ok (.iastore, 1) := by decide +kernel
theorem dX8_orders_36 : decode cX8_orders 36 = .ok (.iinc 2 1, 3) := by decide +kernel
theorem dX8_orders_39 : decode cX8_orders 39 = .ok (.goto (-24), 3) := by decide +kernel
theorem dX8_orders_42 : decode cX8_orders 42 = .ok (.iconst 0, 1) := by decide +kernel
theorem dX8_orders_43 : decode cX8_orders 43 = .ok (.istore_n 2, 1) := by decide +kernel
theorem dX8_orders_44 : decode cX8_orders 44 = .ok (.iload_n 2, 1) := by decide +kernel
theorem dX8_orders_45 : decode cX8_orders 45 = .ok (.iconst 1, 1) := by decide +kernel
theorem dX8_orders_46 : decode cX8_orders 46 = .ok (.iload_n 1, 1) := by decide +kernel
theorem dX8_orders_47 : decode cX8_orders 47 = .ok (.ishl, 1) := by decide +kernel
theorem dX8_orders_48 : decode cX8_orders 48 = .ok (.if_icmp .ge 68, 3) := by decide +kernel
theorem dX8_orders_51 : decode cX8_orders 51 = .ok (.iconst 0, 1) := by decide +kernel
theorem dX8_orders_52 : decode cX8_orders 52 = .ok (.istore_n 3, 1) := by decide +kernel
theorem dX8_orders_53 : decode cX8_orders 53 = .ok (.iload_n 3, 1) := by decide +kernel
theorem dX8_orders_54 : decode cX8_orders 54 = .ok (.iload_n 1, 1) := by decide +kernel
theorem dX8_orders_55 : decode cX8_orders 55 = .ok (.if_icmp .ge 55, 3) := by decide +kernel
theorem dX8_orders_58 : decode cX8_orders 58 = .ok (.aload_n 0, 1) := by decide +kernel
theorem dX8_orders_59 : decode cX8_orders 59 = .ok (.getfield 29, 3) := by decide +kernel
theorem dX8_orders_62 : decode cX8_orders 62 = .ok (.iload_n 2, 1) := by decide +kernel
theorem dX8_orders_63 : decode cX8_orders 63 = .ok (.iaload, 1) := by decide +kernel
theorem dX8_orders_64 : decode cX8_orders 64 = .ok (.ifCond .le 46, 3) := by decide +kernel
theorem dX8_orders_67 : decode cX8_orders 67 = .ok (.iload_n 2, 1) := by decide +kernel
theorem dX8_orders_68 : decode cX8_orders 68 = .ok (.iload_n 3, 1) := by decide +kernel
theorem dX8_orders_69 : decode cX8_orders 69 = .ok (.ishr, 1) := by decide +kernel
theorem dX8_orders_70 : decode cX8_orders 70 = .ok (.iconst 1, 1) := by decide +kernel
theorem dX8_orders_71 : decode cX8_orders 71 = .ok (.iand, 1) := by decide +kernel
theorem dX8_orders_72 : decode cX8_orders 72 = .ok (.ifCond .ne 32, 3) := by decide +kernel
theorem dX8_orders_75 : decode cX8_orders 75 = .ok (.aload_n 0, 1) := by decide +kernel
theorem dX8_orders_76 : decode cX8_orders 76 = .ok (.iload_n 2, 1) := by decide +kernel
theorem dX8_orders_77 : decode cX8_orders 77 = .ok (.iload_n 3, 1) := by decide +kernel
theorem dX8_orders_78 : decode cX8_orders 78 = .ok (.iload_n 1, 1) := by decide +kernel
theorem dX8_orders_79 : decode cX8_orders 79 = .ok (.invokevirtual 148, 3) := by decide +kernel
theorem dX8_orders_82 : decode cX8_orders 82 = .ok (.ifCond .eq 22, 3) := by decide +kernel
theorem dX8_orders_85 : decode cX8_orders 85 = .ok (.aload_n 0, 1) := by decide +kernel
theorem dX8_orders_86 : decode cX8_orders 86 = .ok (.getfield 29, 3) := by decide +kernel
theorem dX8_orders_89 : decode cX8_orders 89 = .ok (.iload_n 2, 1) := by decide +kernel
theorem dX8_orders_90 : decode cX8_orders 90 = .ok (.iconst 1, 1) := by decide +kernel
theorem dX8_orders_91 : decode cX8_orders 91 = .ok (.iload_n 3, 1) := by decide +kernel
theorem dX8_orders_92 : decode cX8_orders 92 = .ok (.ishl, 1) := by decide +kernel
theorem dX8_orders_93 : decode cX8_orders 93 = .ok (.ior, 1) := by decide +kernel
theorem dX8_orders_94 : decode cX8_orders 94 = .ok (.dup2, 1) := by decide +kernel
theorem dX8_orders_95 : decode cX8_orders 95 = .ok (.iaload, 1) := by decide +kernel
theorem dX8_orders_96 : decode cX8_orders 96 = .ok (.aload_n 0, 1) := by decide +kernel
theorem dX8_orders_97 : decode cX8_orders 97 = .ok (.getfield 29, 3) := by decide +kernel
theorem dX8_orders_100 : decode cX8_orders 100 = .ok (.iload_n 2, 1) := by decide +kernel
theorem dX8_orders_101 : decode cX8_orders 101 = .ok (.iaload, 1) := by decide +kernel
theorem dX8_orders_102 : decode cX8_orders 102 = .ok (.iadd, 1) := by decide +kernel
theorem dX8_orders_103 : decode cX8_orders 103 = .ok (.iastore, 1) := by decide +kernel
theorem dX8_orders_104 : decode cX8_orders 104 = .ok (.iinc 3 1, 3) := by decide +kernel
theorem dX8_orders_107 : decode cX8_orders 107 = .ok (.goto (-54), 3) := by decide +kernel
theorem dX8_orders_110 : decode cX8_orders 110 = .ok (.iinc 2 1, 3) := by decide +kernel
theorem dX8_orders_113 : decode cX8_orders 113 = .ok (.goto (-69), 3) := by decide +kernel
theorem dX8_orders_116 : decode cX8_orders 116 = .ok (.aload_n 0, 1) := by decide +kernel
theorem dX8_orders_117 : decode cX8_orders 117 = .ok (.getfield 29, 3) := by decide +kernel
theorem dX8_orders_120 : decode cX8_orders 120 = .ok (.iconst 1, 1) := by decide +kernel
theorem dX8_orders_121 : decode cX8_orders 121 = .ok (.iload_n 1, 1) := by decide +kernel
theorem dX8_orders_122 : decode cX8_orders 122 = .ok (.ishl, 1) := by decide +kernel
theorem dX8_orders_123 : decode cX8_orders 123 = .ok (.iconst 1, 1) := by decide +kernel
theorem dX8_orders_124 : decode cX8_orders 124 = .ok (.isub, 1) := by decide +kernel
theorem dX8_orders_125 : decode cX8_orders 125 = .ok (.iaload, 1) := by decide +kernel
theorem dX8_orders_126 : decode cX8_orders 126 = .ok (.ireturn, 1) := by decide +kernel
set_option maxRecDepth 20000 in
theorem ggX8_peak_X8_in : GoodIn wsX8_peak wsX8_in := goodIn_r _ [7] (by decide +kernel) (by decide +kernel)
set_option maxRecDepth 20000 in
theorem gX8_peak_X8_in : GoodIn wsX8_peak (va_wsS RX8 33 yX8_in wsX8_in) := goodIn_app (goodIn_of _ (by decide +kernel)) ggX8_peak_X8_in
set_option maxRecDepth 20000 in
theorem ggX8_peak_X8_depth : GoodIn wsX8_peak wsX8_depth := goodIn_r _ [11, 12, 13, 14, 6, 15, 2, 28, 29, 30, 31, 32, 33, 34, 35, 36, 37] (by decide +kernel) (by decide +kernel)
set_option maxRecDepth 20000 in
theorem gX8_peak_X8_depth : GoodIn wsX8_peak (wsV RX8 92 RX8 yX8_depth wsX8_depth) := goodIn_app (goodIn_of _ (by decide +kernel)) ggX8_peak_X8_depth
set_option maxRecDepth 20000 in
theorem ggX8_peak_X8_above : GoodIn wsX8_peak wsX8_above := goodIn_r _ [19, 12, 13, 14, 6, 15, 2, 28, 29, 30, 31, 32, 33, 34, 35, 36, 37] (by decide +kernel) (by decide +kernel)
set_option maxRecDepth 20000 in
theorem gX8_peak_X8_above : GoodIn wsX8_peak (wsV RX8 95 RX8 yX8_above wsX8_above) := goodIn_app (goodIn_of _ (by decide +kernel)) ggX8_peak_X8_above
set_option maxRecDepth 20000 in
theorem ggX8_peak_X8_balances : GoodIn wsX8_peak wsX8_balances := goodIn_r _ [23, 3, 24, 25, 26, 6, 27, 12, 13, 14, 15, 2, 4, 5, 7, 28, 29, 30, 31, 32, 33, 34, 35, 36, 37] (by decide +kernel) (by decide +kernel)
set_option maxRecDepth 20000 in
theorem gX8_peak_X8_balances : GoodIn wsX8_peak (wsV RX8 63 RX8 yX8_balances wsX8_balances) := goodIn_app (goodIn_of _ (by decide +kernel)) ggX8_peak_X8_balances
theorem dX8_peak_0 : decode cX8_peak 0 = .ok (.iload_n 1, 1) := by decide +kernel
theorem dX8_peak_1 : decode cX8_peak 1 = .ok (.iconst 0, 1) := by decide +kernel
theorem dX8_peak_2 : decode cX8_peak 2 = .ok (.iconst 5, 1) := by decide +kernel
theorem dX8_peak_3 : decode cX8_peak 3 = .ok (.invokestatic 33, 3) := by decide +kernel
theorem dX8_peak_6 : decode cX8_peak 6 = .ok (.ifCond .eq 12, 3) := by decide +kernel
theorem dX8_peak_9 : decode cX8_peak 9 = .ok (.iload_n 2, 1) := by decide +kernel
theorem dX8_peak_10 : decode cX8_peak 10 = .ok (.iconst 0, 1) := by decide +kernel
theorem dX8_peak_11 : decode cX8_peak 11 = .ok (.iconst 1, 1) := by decide +kernel
theorem dX8_peak_12 : decode cX8_peak 12 = .ok (.invokestatic 33, 3) := by decide +kernel
theorem dX8_peak_15 : decode cX8_peak 15 = .ok (.ifCond .ne 6, 3) := by decide +kernel
theorem dX8_peak_18 : decode cX8_peak 18 = .ok (.ldc 84, 2) := by decide +kernel
theorem dX8_peak_20 : decode cX8_peak 20 = .ok (.ireturn, 1) := by decide +kernel
theorem dX8_peak_21 : decode cX8_peak 21 = .ok (.iconst 0, 1) := by decide +kernel
theorem dX8_peak_22 : decode cX8_peak 22 = .ok (.istore_n 3, 1) := by decide +kernel
theorem dX8_peak_23 : decode cX8_peak 23 = .ok (.iconst 0, 1) := by decide +kernel
theorem dX8_peak_24 : decode cX8_peak 24 = .ok (.istore 4, 2) := by decide +kernel
theorem dX8_peak_26 : decode cX8_peak 26 = .ok (.aload_n 0, 1) := by decide +kernel
theorem dX8_peak_27 : decode cX8_peak 27 = .ok (.aload_n 0, 1) := by decide +kernel
theorem dX8_peak_28 : decode cX8_peak 28 = .ok (.getfield 7, 3) := by decide +kernel
theorem dX8_peak_31 : decode cX8_peak 31 = .ok (.iconst 1, 1) := by decide +kernel
theorem dX8_peak_32 : decode cX8_peak 32 = .ok (.iaload, 1) := by decide +kernel
theorem dX8_peak_33 : decode cX8_peak 33 = .ok (.invokevirtual 92, 3) := by decide +kernel
theorem dX8_peak_36 : decode cX8_peak 36 = .ok (.istore 5, 2) := by decide +kernel
theorem dX8_peak_38 : decode cX8_peak 38 = .ok (.iconst 1, 1) := by decide +kernel
theorem dX8_peak_39 : decode cX8_peak 39 = .ok (.istore 6, 2) := by decide +kernel
theorem dX8_peak_41 : decode cX8_peak 41 = .ok (.iload 6, 2) := by decide +kernel
theorem dX8_peak_43 : decode cX8_peak 43 = .ok (.iload 5, 2) := by decide +kernel
theorem dX8_peak_45 : decode cX8_peak 45 = .ok (.if_icmp .ge 74, 3) := by decide +kernel
theorem dX8_peak_48 : decode cX8_peak 48 = .ok (.aload_n 0, 1) := by decide +kernel
theorem dX8_peak_49 : decode cX8_peak 49 = .ok (.aload_n 0, 1) := by decide +kernel
theorem dX8_peak_50 : decode cX8_peak 50 = .ok (.getfield 7, 3) := by decide +kernel
theorem dX8_peak_53 : decode cX8_peak 53 = .ok (.iconst 1, 1) := by decide +kernel
theorem dX8_peak_54 : decode cX8_peak 54 = .ok (.iaload, 1) := by decide +kernel
theorem dX8_peak_55 : decode cX8_peak 55 = .ok (.iload 5, 2) := by decide +kernel
theorem dX8_peak_57 : decode cX8_peak 57 = .ok (.iconst 1, 1) := by decide +kernel
theorem dX8_peak_58 : decode cX8_peak 58 = .ok (.isub, 1) := by decide +kernel
theorem dX8_peak_59 : decode cX8_peak 59 = .ok (.iload 6, 2) := by decide +kernel
theorem dX8_peak_61 : decode cX8_peak 61 = .ok (.isub, 1) := by decide +kernel
theorem dX8_peak_62 : decode cX8_peak 62 = .ok (.invokevirtual 95, 3) := by decide +kernel
theorem dX8_peak_65 : decode cX8_peak 65 = .ok (.istore 7, 2) := by decide +kernel
theorem dX8_peak_67 : decode cX8_peak 67 = .ok (.aload_n 0, 1) := by decide +kernel
theorem dX8_peak_68 : decode cX8_peak 68 = .ok (.iload 7, 2) := by decide +kernel
theorem dX8_peak_70 : decode cX8_peak 70 = .ok (.invokevirtual 63, 3) := by decide +kernel
theorem dX8_peak_73 : decode cX8_peak 73 = .ok (.aload_n 0, 1) := by decide +kernel
theorem dX8_peak_74 : decode cX8_peak 74 = .ok (.getfield 20, 3) := by decide +kernel
theorem dX8_peak_77 : decode cX8_peak 77 = .ok (.iload_n 1, 1) := by decide +kernel
theorem dX8_peak_78 : decode cX8_peak 78 = .ok (.iaload, 1) := by decide +kernel
theorem dX8_peak_79 : decode cX8_peak 79 = .ok (.iload_n 3, 1) := by decide +kernel
theorem dX8_peak_80 : decode cX8_peak 80 = .ok (.if_icmp .le 8, 3) := by decide +kernel
theorem dX8_peak_83 : decode cX8_peak 83 = .ok (.iload 7, 2) := by decide +kernel
theorem dX8_peak_85 : decode cX8_peak 85 = .ok (.goto 5, 3) := by decide +kernel
theorem dX8_peak_88 : decode cX8_peak 88 = .ok (.iload 4, 2) := by decide +kernel
theorem dX8_peak_90 : decode cX8_peak 90 = .ok (.istore 4, 2) := by decide +kernel
theorem dX8_peak_92 : decode cX8_peak 92 = .ok (.aload_n 0, 1) := by decide +kernel
theorem dX8_peak_93 : decode cX8_peak 93 = .ok (.getfield 20, 3) := by decide +kernel
theorem dX8_peak_96 : decode cX8_peak 96 = .ok (.iload_n 1, 1) := by decide +kernel
theorem dX8_peak_97 : decode cX8_peak 97 = .ok (.iaload, 1) := by decide +kernel
theorem dX8_peak_98 : decode cX8_peak 98 = .ok (.iload_n 3, 1) := by decide +kernel
theorem dX8_peak_99 : decode cX8_peak 99 = .ok (.if_icmp .le 12, 3) := by decide +kernel
theorem dX8_peak_102 : decode cX8_peak 102 = .ok (.aload_n 0, 1) := by decide +kernel
theorem dX8_peak_103 : decode cX8_peak 103 = .ok (.getfield 20, 3) := by decide +kernel
theorem dX8_peak_106 : decode cX8_peak 106 = .ok (.iload_n 1, 1) := by decide +kernel
theorem dX8_peak_107 : decode cX8_peak 107 = .ok (.iaload, 1) := by decide +kernel
theorem dX8_peak_108 : decode cX8_peak 108 = .ok (.goto 4, 3) := by decide +kernel
theorem dX8_peak_111 : decode cX8_peak 111 = .ok (.iload_n 3, 1) := by decide +kernel
theorem dX8_peak_112 : decode cX8_peak 112 = .ok (.istore_n 3, 1) := by decide +kernel
theorem dX8_peak_113 : decode cX8_peak 113 = .ok (.iinc 6 1, 3) := by decide +kernel
theorem dX8_peak_116 : decode cX8_peak 116 = .ok (.goto (-75), 3) := by decide +kernel
theorem dX8_peak_119 : decode cX8_peak 119 = .ok (.iload_n 2, 1) := by decide +kernel
theorem dX8_peak_120 : decode cX8_peak 120 = .ok (.ifCond .ne 7, 3) := by decide +kernel
theorem dX8_peak_123 : decode cX8_peak 123 = .ok (.iload_n 3, 1) := by decide +kernel
theorem dX8_peak_124 : decode cX8_peak 124 = .ok (.goto 5, 3) := by decide +kernel
theorem dX8_peak_127 : decode cX8_peak 127 = .ok (.iload 4, 2) := by decide +kernel
theorem dX8_peak_129 : decode cX8_peak 129 = .ok (.ireturn, 1) := by decide +kernel
