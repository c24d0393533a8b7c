theorem dX0_init_0 : decode cX0_init 0 = .ok (.aload_n 0, 1) := by decide +kernel
theorem dX0_init_1 : decode cX0_init 1 = .ok (.invokespecial 3, 3) := by decide +kernel
theorem dX0_init_4 : decode cX0_init 4 = .ok (.aload_n 0, 1) := by decide +kernel
theorem dX0_init_5 : decode cX0_init 5 = .ok (.sipush 7365, 3) := by decide +kernel
theorem dX0_init_8 : decode cX0_init 8 = .ok (.newarray .int, 2) := by decide +kernel
theorem dX0_init_10 : decode cX0_init 10 = .ok (.putfield 9, 3) := by decide +kernel
theorem dX0_init_13 : decode cX0_init 13 = .ok (.aload_n 0, 1) := by decide +kernel
theorem dX0_init_14 : decode cX0_init 14 = .ok (.iconst 0, 1) := by decide +kernel
theorem dX0_init_15 : decode cX0_init 15 = .ok (.putfield 15, 3) := by decide +kernel
theorem dX0_init_18 : decode cX0_init 18 = .ok (.aload_n 0, 1) := by decide +kernel
theorem dX0_init_19 : decode cX0_init 19 = .ok (.iconst 0, 1) := by decide +kernel
theorem dX0_init_20 : decode cX0_init 20 = .ok (.putfield 19, 3) := by decide +kernel
theorem dX0_init_23 : decode cX0_init 23 = .ok (.return_, 1) := by decide +kernel
theorem dX0_states_0 : decode cX0_states 0 = .ok (.aload_n 0, 1) := by decide +kernel
theorem dX0_states_1 : decode cX0_states 1 = .ok (.getfield 15, 3) := by decide +kernel
theorem dX0_states_4 : decode cX0_states 4 = .ok (.ireturn, 1) := by decide +kernel
set_option maxRecDepth 20000 in
theorem ggX0_remember_X1_copyTo : GoodIn wsX0_remember wsX1_copyTo := goodIn_r _ [12, 13, 14, 15, 16, 17, 18, 19, 20, 24] (by decide +kernel) (by decide +kernel)
set_option maxRecDepth 20000 in
theorem gX0_remember_X1_copyTo : GoodIn wsX0_remember (wsV RX0 22 RX1 yX1_copyTo wsX1_copyTo) := goodIn_app (goodIn_of _ (by decide +kernel)) ggX0_remember_X1_copyTo
theorem dX0_remember_0 : decode cX0_remember 0 = .ok (.aload_n 1, 1) := by decide +kernel
theorem dX0_remember_1 : decode cX0_remember 1 = .ok (.aload_n 0, 1) := by decide +kernel
theorem dX0_remember_2 : decode cX0_remember 2 = .ok (.getfield 9, 3) := by decide +kernel
theorem dX0_remember_5 : decode cX0_remember 5 = .ok (.aload_n 0, 1) := by decide +kernel
theorem dX0_remember_6 : decode cX0_remember 6 = .ok (.getfield 19, 3) := by decide +kernel
theorem dX0_remember_9 : decode cX0_remember 9 = .ok (.sipush 1473, 3) := by decide +kernel
theorem dX0_remember_12 : decode cX0_remember 12 = .ok (.imul, 1) := by decide +kernel
theorem dX0_remember_13 : decode cX0_remember 13 = .ok (.invokevirtual 22, 3) := by decide +kernel
theorem dX0_remember_16 : decode cX0_remember 16 = .ok (.aload_n 0, 1) := by decide +kernel
theorem dX0_remember_17 : decode cX0_remember 17 = .ok (.aload_n 0, 1) := by decide +kernel
theorem dX0_remember_18 : decode cX0_remember 18 = .ok (.getfield 19, 3) := by decide +kernel
theorem dX0_remember_21 : decode cX0_remember 21 = .ok (.iconst 1, 1) := by decide +kernel
theorem dX0_remember_22 : decode cX0_remember 22 = .ok (.iadd, 1) := by decide +kernel
theorem dX0_remember_23 : decode cX0_remember 23 = .ok (.iconst 5, 1) := by decide +kernel
theorem dX0_remember_24 : decode cX0_remember 24 = .ok (.irem, 1) := by decide +kernel
theorem dX0_remember_25 : decode cX0_remember 25 = .ok (.putfield 19, 3) := by decide +kernel
theorem dX0_remember_28 : decode cX0_remember 28 = .ok (.aload_n 0, 1) := by decide +kernel
theorem dX0_remember_29 : decode cX0_remember 29 = .ok (.aload_n 0, 1) := by decide +kernel
theorem dX0_remember_30 : decode cX0_remember 30 = .ok (.getfield 15, 3) := by decide +kernel
theorem dX0_remember_33 : decode cX0_remember 33 = .ok (.iconst 1, 1) := by decide +kernel
theorem dX0_remember_34 : decode cX0_remember 34 = .ok (.iadd, 1) := by decide +kernel
theorem dX0_remember_35 : decode cX0_remember 35 = .ok (.iconst 5, 1) := by decide +kernel
theorem dX0_remember_36 : decode cX0_remember 36 = .ok (.invokestatic 28, 3) := by decide +kernel
theorem dX0_remember_39 : decode cX0_remember 39 = .ok (.putfield 15, 3) := by decide +kernel
theorem dX0_remember_42 : decode cX0_remember 42 = .ok (.return_, 1) := by decide +kernel
set_option maxRecDepth 20000 in
theorem ggX0_bringBack_X1_copyFrom : GoodIn wsX0_bringBack wsX1_copyFrom := goodIn_r _ [8, 9, 10, 11, 12, 13, 14, 15, 16, 20] (by decide +kernel) (by decide +kernel)
set_option maxRecDepth 20000 in
theorem gX0_bringBack_X1_copyFrom : GoodIn wsX0_bringBack (wsV RX0 34 RX1 yX1_copyFrom wsX1_copyFrom) := goodIn_app (goodIn_of _ (by decide +kernel)) ggX0_bringBack_X1_copyFrom
theorem dX0_bringBack_0 : decode cX0_bringBack 0 = .ok (.aload_n 0, 1) := by decide +kernel
theorem dX0_bringBack_1 : decode cX0_bringBack 1 = .ok (.getfield 15, 3) := by decide +kernel
theorem dX0_bringBack_4 : decode cX0_bringBack 4 = .ok (.ifCond .le 43, 3) := by decide +kernel
theorem dX0_bringBack_7 : decode cX0_bringBack 7 = .ok (.aload_n 0, 1) := by decide +kernel
theorem dX0_bringBack_8 : decode cX0_bringBack 8 = .ok (.aload_n 0, 1) := by decide +kernel
theorem dX0_bringBack_9 : decode cX0_bringBack 9 = .ok (.getfield 19, 3) := by decide +kernel
theorem dX0_bringBack_12 : decode cX0_bringBack 12 = .ok (.iconst 5, 1) := by decide +kernel
theorem dX0_bringBack_13 : decode cX0_bringBack 13 = .ok (.iadd, 1) := by decide +kernel
theorem dX0_bringBack_14 : decode cX0_bringBack 14 = .ok (.iconst 1, 1) := by decide +kernel
theorem dX0_bringBack_15 : decode cX0_bringBack 15 = .ok (.isub, 1) := by decide +kernel
theorem dX0_bringBack_16 : decode cX0_bringBack 16 = .ok (.iconst 5, 1) := by decide +kernel
theorem dX0_bringBack_17 : decode cX0_bringBack 17 = .ok (.irem, 1) := by decide +kernel
theorem dX0_bringBack_18 : decode cX0_bringBack 18 = .ok (.putfield 19, 3) := by decide +kernel
theorem dX0_bringBack_21 : decode cX0_bringBack 21 = .ok (.aload_n 0, 1) := by decide +kernel
theorem dX0_bringBack_22 : decode cX0_bringBack 22 = .ok (.dup, 1) := by decide +kernel
theorem dX0_bringBack_23 : decode cX0_bringBack 23 = .ok (.getfield 15, 3) := by decide +kernel
theorem dX0_bringBack_26 : decode cX0_bringBack 26 = .ok (.iconst 1, 1) := by decide +kernel
theorem dX0_bringBack_27 : decode cX0_bringBack 27 = .ok (.isub, 1) := by decide +kernel
theorem dX0_bringBack_28 : decode cX0_bringBack 28 = .ok (.putfield 15, 3) := by decide +kernel
theorem dX0_bringBack_31 : decode cX0_bringBack 31 = .ok (.aload_n 1, 1) := by decide +kernel
theorem dX0_bringBack_32 : decode cX0_bringBack 32 = .ok (.aload_n 0, 1) := by decide +kernel
theorem dX0_bringBack_33 : decode cX0_bringBack 33 = .ok (.getfield 9, 3) := by decide +kernel
theorem dX0_bringBack_36 : decode cX0_bringBack 36 = .ok (.aload_n 0, 1) := by decide +kernel
theorem dX0_bringBack_37 : decode cX0_bringBack 37 = .ok (.getfield 19, 3) := by decide +kernel
theorem dX0_bringBack_40 : decode cX0_bringBack 40 = .ok (.sipush 1473, 3) := by decide +kernel
theorem dX0_bringBack_43 : decode cX0_bringBack 43 = .ok (.imul, 1) := by decide +kernel
theorem dX0_bringBack_44 : decode cX0_bringBack 44 = .ok (.invokevirtual 34, 3) := by decide +kernel
theorem dX0_bringBack_47 : decode cX0_bringBack 47 = .ok (.return_, 1) := by decide +kernel
set_option maxRecDepth 20000 in
theorem ggX1_init_X1_setNumber : GoodIn wsX1_init wsX1_setNumber := goodIn_r _ [11, 5, 16] (by decide +kernel) (by decide +kernel)
set_option maxRecDepth 20000 in
theorem gX1_init_X1_setNumber : GoodIn wsX1_init (wsV RX1 15 RX1 yX1_setNumber wsX1_setNumber) := goodIn_app (goodIn_of _ (by decide +kernel)) ggX1_init_X1_setNumber
set_option maxRecDepth 20000 in
theorem ggX1_init_X1_setOfEntry : GoodIn wsX1_init wsX1_setOfEntry := goodIn_r _ [15, 5, 16] (by decide +kernel) (by decide +kernel)
set_option maxRecDepth 20000 in
theorem gX1_init_X1_setOfEntry : GoodIn wsX1_init (wsV RX1 20 RX1 yX1_setOfEntry wsX1_setOfEntry) := goodIn_app (goodIn_of _ (by decide +kernel)) ggX1_init_X1_setOfEntry
theorem dX1_init_0 : decode cX1_init 0 = .ok (.aload_n 0, 1) := by decide +kernel
theorem dX1_init_1 : decode cX1_init 1 = .ok (.invokespecial 3, 3) := by decide +kernel
theorem dX1_init_4 : decode cX1_init 4 = .ok (.aload_n 0, 1) := by decide +kernel
theorem dX1_init_5 : decode cX1_init 5 = .ok (.sipush 1473, 3) := by decide +kernel
theorem dX1_init_8 : decode cX1_init 8 = .ok (.newarray .int, 2) := by decide +kernel
theorem dX1_init_10 : decode cX1_init 10 = .ok (.putfield 9, 3) := by decide +kernel
theorem dX1_init_13 : decode cX1_init 13 = .ok (.aload_n 0, 1) := by decide +kernel
theorem dX1_init_14 : decode cX1_init 14 = .ok (.iconst 0, 1) := by decide +kernel
theorem dX1_init_15 : decode cX1_init 15 = .ok (.iconst 1, 1) := by decide +kernel
theorem dX1_init_16 : decode cX1_init 16 = .ok (.invokevirtual 15, 3) := by decide +kernel
theorem dX1_init_19 : decode cX1_init 19 = .ok (.aload_n 0, 1) := by decide +kernel
theorem dX1_init_20 : decode cX1_init 20 = .ok (.iconst 2, 1) := by decide +kernel
theorem dX1_init_21 : decode cX1_init 21 = .ok (.iconst 3, 1) := by decide +kernel
theorem dX1_init_22 : decode cX1_init 22 = .ok (.invokevirtual 15, 3) := by decide +kernel
theorem dX1_init_25 : decode cX1_init 25 = .ok (.aload_n 0, 1) := by decide +kernel
theorem dX1_init_26 : decode cX1_init 26 = .ok (.iconst 0, 1) := by decide +kernel
theorem dX1_init_27 : decode cX1_init 27 = .ok (.iconst 4, 1) := by decide +kernel
theorem dX1_init_28 : decode cX1_init 28 = .ok (.ldc 19, 2) := by decide +kernel
theorem dX1_init_30 : decode cX1_init 30 = .ok (.invokevirtual 20, 3) := by decide +kernel
theorem dX1_init_33 : decode cX1_init 33 = .ok (.aload_n 0, 1) := by decide +kernel
theorem dX1_init_34 : decode cX1_init 34 = .ok (.iconst 0, 1) := by decide +kernel
theorem dX1_init_35 : decode cX1_init 35 = .ok (.iconst 5, 1) := by decide +kernel
theorem dX1_init_36 : decode cX1_init 36 = .ok (.iconst 1, 1) := by decide +kernel
theorem dX1_init_37 : decode cX1_init 37 = .ok (.invokevirtual 20, 3) := by decide +kernel
theorem dX1_init_40 : decode cX1_init 40 = .ok (.aload_n 0, 1) := by decide +kernel
theorem dX1_init_41 : decode cX1_init 41 = .ok (.iconst 0, 1) := by decide +kernel
theorem dX1_init_42 : decode cX1_init 42 = .ok (.bipush 6, 2) := by decide +kernel
theorem dX1_init_44 : decode cX1_init 44 = .ok (.ldc 19, 2) := by decide +kernel
theorem dX1_init_46 : decode cX1_init 46 = .ok (.invokevirtual 20, 3) := by decide +kernel
theorem dX1_init_49 : decode cX1_init 49 = .ok (.return_, 1) := by decide +kernel
theorem dX1_number_0 : decode cX1_number 0 = .ok (.iload_n 1, 1) := by decide +kernel
theorem dX1_number_1 : decode cX1_number 1 = .ok (.ifCond .lt 17, 3) := by decide +kernel
theorem dX1_number_4 : decode cX1_number 4 = .ok (.iload_n 1, 1) := by decide +kernel
theorem dX1_number_5 : decode cX1_number 5 = .ok (.iconst 5, 1) := by decide +kernel
theorem dX1_number_6 : decode cX1_number 6 = .ok (.if_icmp .ge 12, 3) := by decide +kernel
theorem dX1_number_9 : decode cX1_number 9 = .ok (.aload_n 0, 1) := by decide +kernel
theorem dX1_number_10 : decode cX1_number 10 = .ok (.getfield 9, 3) := by decide +kernel
theorem dX1_number_13 : decode cX1_number 13 = .ok (.iload_n 1, 1) := by decide +kernel
theorem dX1_number_14 : decode cX1_number 14 = .ok (.iaload, 1) := by decide +kernel
theorem dX1_number_15 : decode cX1_number 15 = .ok (.goto 4, 3) := by decide +kernel
theorem dX1_number_18 : decode cX1_number 18 = .ok (.iconst 0, 1) := by decide +kernel
theorem dX1_number_19 : decode cX1_number 19 = .ok (.ireturn, 1) := by decide +kernel
theorem dX1_setNumber_0 : decode cX1_setNumber 0 = .ok (.iload_n 1, 1) := by decide +kernel
theorem dX1_setNumber_1 : decode cX1_setNumber 1 = .ok (.ifCond .lt 15, 3) := by decide +kernel
theorem dX1_setNumber_4 : decode cX1_setNumber 4 = .ok (.iload_n 1, 1) := by decide +kernel
theorem dX1_setNumber_5 : decode cX1_setNumber 5 = .ok (.iconst 5, 1) := by decide +kernel
theorem dX1_setNumber_6 : decode cX1_setNumber 6 = .ok (.if_icmp .ge 10, 3) := by decide +kernel
theorem dX1_setNumber_9 : decode cX1_setNumber 9 = .ok (.aload_n 0, 1) := by decide +kernel
theorem dX1_setNumber_10 : decode cX1_setNumber 10 = .ok (.getfield 9, 3) := by decide +kernel
theorem dX1_setNumber_13 : decode cX1_setNumber 13 = .ok (.iload_n 1, 1) := by decide +kernel
theorem dX1_setNumber_14 : decode cX1_setNumber 14 = .ok (.iload_n 2, 1) := by decide +kernel
theorem dX1_setNumber_15 : decode cX1_setNumber 15 = .ok (.iastore, 1) := by decide +kernel
theorem dX1_setNumber_16 : decode cX1_setNumber 16 = .ok (.return_, 1) := by decide +kernel
theorem dX1_ofEntry_0 : decode cX1_ofEntry 0 = .ok (.iload_n 1, 1) := by decide +kernel
theorem dX1_ofEntry_1 : decode cX1_ofEntry 1 = .ok (.ifCond .lt 19, 3) := by decide +kernel
theorem dX1_ofEntry_4 : decode cX1_ofEntry 4 = .ok (.iload_n 1, 1) := by decide +kernel
theorem dX1_ofEntry_5 : decode cX1_ofEntry 5 = .ok (.bipush 60, 2) := by decide +kernel
theorem dX1_ofEntry_7 : decode cX1_ofEntry 7 = .ok (.if_icmp .ge 13, 3) := by decide +kernel
theorem dX1_ofEntry_10 : decode cX1_ofEntry 10 = .ok (.iload_n 2, 1) := by decide +kernel
theorem dX1_ofEntry_11 : decode cX1_ofEntry 11 = .ok (.ifCond .lt 9, 3) := by decide +kernel
theorem dX1_ofEntry_14 : decode cX1_ofEntry 14 = .ok (.iload_n 2, 1) := by decide +kernel
theorem dX1_ofEntry_15 : decode cX1_ofEntry 15 = .ok (.bipush 7, 2) := by decide +kernel
theorem dX1_ofEntry_17 : decode cX1_ofEntry 17 = .ok (.if_icmp .lt 5, 3) := by decide +kernel
theorem dX1_ofEntry_20 : decode cX1_ofEntry 20 = .ok (.iconst 0, 1) := by decide +kernel
theorem dX1_ofEntry_21 : decode cX1_ofEntry 21 = .ok (.ireturn, 1) := by decide +kernel
theorem dX1_ofEntry_22 : decode cX1_ofEntry 22 = .ok (.aload_n 0, 1) := by decide +kernel
theorem dX1_ofEntry_23 : decode cX1_ofEntry 23 = .ok (.getfield 9, 3) := by decide +kernel
theorem dX1_ofEntry_26 : decode cX1_ofEntry 26 = .ok (.iconst 5, 1) := by decide +kernel
theorem dX1_ofEntry_27 : decode cX1_ofEntry 27 = .ok (.iload_n 1, 1) := by decide +kernel
theorem dX1_ofEntry_28 : decode cX1_ofEntry 28 = .ok (.bipush 7, 2) := by decide +kernel
theorem dX1_ofEntry_30 : decode cX1_ofEntry 30 = .ok (.imul, 1) := by decide +kernel
theorem dX1_ofEntry_31 : decode cX1_ofEntry 31 = .ok (.iadd, 1) := by decide +kernel
theorem dX1_ofEntry_32 : decode cX1_ofEntry 32 = .ok (.iload_n 2, 1) := by decide +kernel
theorem dX1_ofEntry_33 : decode cX1_ofEntry 33 = .ok (.iadd, 1) := by decide +kernel
theorem dX1_ofEntry_34 : decode cX1_ofEntry 34 = .ok (.iaload, 1) := by decide +kernel
theorem dX1_ofEntry_35 : decode cX1_ofEntry 35 = .ok (.ireturn, 1) := by decide +kernel
theorem dX1_setOfEntry_0 : decode cX1_setOfEntry 0 = .ok (.iload_n 1, 1) := by decide +kernel
theorem dX1_setOfEntry_1 : decode cX1_setOfEntry 1 = .ok (.ifCond .lt 33, 3) := by decide +kernel
theorem dX1_setOfEntry_4 : decode cX1_setOfEntry 4 = .ok (.iload_n 1, 1) := by decide +kernel
theorem dX1_setOfEntry_5 : decode cX1_setOfEntry 5 = .ok (.bipush 60, 2) := by decide +kernel
theorem dX1_setOfEntry_7 : decode cX1_setOfEntry 7 = .ok (.if_icmp .ge 27, 3) := by decide +kernel
theorem dX1_setOfEntry_10 : decode cX1_setOfEntry 10 = .ok (.iload_n 2, 1) := by decide +kernel
theorem dX1_setOfEntry_11 : decode cX1_setOfEntry 11 = .ok (.ifCond .lt 23, 3) := by decide +kernel
theorem dX1_setOfEntry_14 : decode cX1_setOfEntry 14 = .ok (.iload_n 2, 1) := by decide +kernel
theorem dX1_setOfEntry_15 : decode cX1_setOfEntry 15 = .ok (.bipush 7, 2) := by decide +kernel
theorem dX1_setOfEntry_17 : decode cX1_setOfEntry 17 = .ok (.if_icmp .ge 17, 3) := by decide +kernel
theorem dX1_setOfEntry_20 : decode cX1_setOfEntry 20 = .ok (.aload_n 0, 1) := by decide +kernel
theorem dX1_setOfEntry_21 : decode cX1_setOfEntry 21 = .ok (.getfield 9, 3) := by decide +kernel
theorem dX1_setOfEntry_24 : decode cX1_setOfEntry 24 = .ok (.iconst 5, 1) := by decide +kernel
theorem dX1_setOfEntry_25 : decode cX1_setOfEntry 25 = .ok (.iload_n 1, 1) := by decide +kernel
theorem dX1_setOfEntry_26 : decode cX1_setOfEntry 26 = .ok (.bipush 7, 2) := by decide +kernel
theorem dX1_setOfEntry_28 : decode cX1_setOfEntry 28 = .ok (.imul, 1) := by decide +kernel
theorem dX1_setOfEntry_29 : decode cX1_setOfEntry 29 = .ok (.iadd, 1) := by decide +kernel
theorem dX1_setOfEntry_30 : decode cX1_setOfEntry 30 = .ok (.iload_n 2, 1) := by decide +kernel
theorem dX1_setOfEntry_31 : decode cX1_setOfEntry 31 = .ok (.iadd, 1) := by decide +kernel
theorem dX1_setOfEntry_32 : decode cX1_setOfEntry 32 = .ok (.iload_n 3, 1) := by decide +kernel
theorem dX1_setOfEntry_33 : decode cX1_setOfEntry 33 = .ok (.iastore, 1) := by decide +kernel
theorem dX1_setOfEntry_34 : decode cX1_setOfEntry 34 = .ok (.return_, 1) := by decide +kernel
theorem dX1_ofBranch_0 : decode cX1_ofBranch 0 = .ok (.iload_n 1, 1) := by decide +kernel
theorem dX1_ofBranch_1 : decode cX1_ofBranch 1 = .ok (.ifCond .lt 18, 3) := by decide +kernel
theorem dX1_ofBranch_4 : decode cX1_ofBranch 4 = .ok (.iload_n 1, 1) := by decide +kernel
theorem dX1_ofBranch_5 : decode cX1_ofBranch 5 = .ok (.bipush 10, 2) := by decide +kernel
theorem dX1_ofBranch_7 : decode cX1_ofBranch 7 = .ok (.if_icmp .ge 12, 3) := by decide +kernel
theorem dX1_ofBranch_10 : decode cX1_ofBranch 10 = .ok (.iload_n 2, 1) := by decide +kernel
theorem dX1_ofBranch_11 : decode cX1_ofBranch 11 = .ok (.ifCond .lt 8, 3) := by decide +kernel
theorem dX1_ofBranch_14 : decode cX1_ofBranch 14 = .ok (.iload_n 2, 1) := by decide +kernel
theorem dX1_ofBranch_15 : decode cX1_ofBranch 15 = .ok (.iconst 5, 1) := by decide +kernel
theorem dX1_ofBranch_16 : decode cX1_ofBranch 16 = .ok (.if_icmp .lt 5, 3) := by decide +kernel
theorem dX1_ofBranch_19 : decode cX1_ofBranch 19 = .ok (.iconst 0, 1) := by decide +kernel
theorem dX1_ofBranch_20 : decode cX1_ofBranch 20 = .ok (.ireturn, 1) := by decide +kernel
theorem dX1_ofBranch_21 : decode cX1_ofBranch 21 = .ok (.aload_n 0, 1) := by decide +kernel
theorem dX1_ofBranch_22 : decode cX1_ofBranch 22 = .ok (.getfield 9, 3) := by decide +kernel
theorem dX1_ofBranch_25 : decode cX1_ofBranch 25 = .ok (.sipush 425, 3) := by decide +kernel
theorem dX1_ofBranch_28 : decode cX1_ofBranch 28 = .ok (.iload_n 1, 1) := by decide +kernel
theorem dX1_ofBranch_29 : decode cX1_ofBranch 29 = .ok (.iconst 5, 1) := by decide +kernel
theorem dX1_ofBranch_30 : decode cX1_ofBranch 30 = .ok (.imul, 1) := by decide +kernel
theorem dX1_ofBranch_31 : decode cX1_ofBranch 31 = .ok (.iadd, 1) := by decide +kernel
theorem dX1_ofBranch_32 : decode cX1_ofBranch 32 = .ok (.iload_n 2, 1) := by decide +kernel
theorem dX1_ofBranch_33 : decode cX1_ofBranch 33 = .ok (.iadd, 1) := by decide +kernel
theorem dX1_ofBranch_34 : decode cX1_ofBranch 34 = .ok (.iaload, 1) := by decide +kernel
theorem dX1_ofBranch_35 : decode cX1_ofBranch 35 = .ok (.ireturn, 1) := by decide +kernel
theorem dX1_setOfBranch_0 : decode cX1_setOfBranch 0 = .ok (.iload_n 1, 1) := by decide +kernel
theorem dX1_setOfBranch_1 : decode cX1_setOfBranch 1 = .ok (.ifCond .lt 33, 3) := by decide +kernel
theorem dX1_setOfBranch_4 : decode cX1_setOfBranch 4 = .ok (.iload_n 1, 1) := by decide +kernel
theorem dX1_setOfBranch_5 : decode cX1_setOfBranch 5 = .ok (.bipush 10, 2) := by decide +kernel
theorem dX1_setOfBranch_7 : decode cX1_setOfBranch 7 = .ok (.if_icmp .ge 27, 3) := by decide +kernel
theorem dX1_setOfBranch_10 : decode cX1_setOfBranch 10 = .ok (.iload_n 2, 1) := by decide +kernel
theorem dX1_setOfBranch_11 : decode cX1_setOfBranch 11 = .ok (.ifCond .lt 23, 3) := by decide +kernel
theorem dX1_setOfBranch_14 : decode cX1_setOfBranch 14 = .ok (.iload_n 2, 1) := by decide +kernel
theorem dX1_setOfBranch_15 : decode cX1_setOfBranch 15 = .ok (.iconst 5, 1) := by decide +kernel
theorem dX1_setOfBranch_16 : decode cX1_setOfBranch 16 = .ok (.if_icmp .ge 18, 3) := by decide +kernel
theorem dX1_setOfBranch_19 : decode cX1_setOfBranch 19 = .ok (.aload_n 0, 1) := by decide +kernel
theorem dX1_setOfBranch_20 : decode cX1_setOfBranch 20 = .ok (.getfield 9, 3) := by decide +kernel
theorem dX1_setOfBranch_23 : decode cX1_setOfBranch 23 = .ok (.sipush 425, 3) := by decide +kernel
theorem dX1_setOfBranch_26 : decode cX1_setOfBranch 26 = .ok (.iload_n 1, 1) := by decide +kernel
theorem dX1_setOfBranch_27 : decode cX1_setOfBranch 27 = .ok (.iconst 5, 1) := by decide +kernel
theorem dX1_setOfBranch_28 : decode cX1_setOfBranch 28 = .ok (.imul, 1) := by decide +kernel
theorem dX1_setOfBranch_29 : decode cX1_setOfBranch 29 = .ok (.iadd, 1) := by decide +kernel
theorem dX1_setOfBranch_30 : decode cX1_setOfBranch 30 = .ok (.iload_n 2, 1) := by decide +kernel
theorem dX1_setOfBranch_31 : decode cX1_setOfBranch 31 = .ok (.iadd, 1) := by decide +kernel
theorem dX1_setOfBranch_32 : decode cX1_setOfBranch 32 = .ok (.iload_n 3, 1) := by decide +kernel
theorem dX1_setOfBranch_33 : decode cX1_setOfBranch 33 = .ok (.iastore, 1) := by decide +kernel
theorem dX1_setOfBranch_34 : decode cX1_setOfBranch 34 = .ok (.return_, 1) := by decide +kernel
theorem dX1_ofSeal_0 : decode cX1_ofSeal 0 = .ok (.iload_n 1, 1) := by decide +kernel
theorem dX1_ofSeal_1 : decode cX1_ofSeal 1 = .ok (.ifCond .lt 18, 3) := by decide +kernel
theorem dX1_ofSeal_4 : decode cX1_ofSeal 4 = .ok (.iload_n 1, 1) := by decide +kernel
theorem dX1_ofSeal_5 : decode cX1_ofSeal 5 = .ok (.bipush 8, 2) := by decide +kernel
theorem dX1_ofSeal_7 : decode cX1_ofSeal 7 = .ok (.if_icmp .ge 12, 3) := by decide +kernel
theorem dX1_ofSeal_10 : decode cX1_ofSeal 10 = .ok (.iload_n 2, 1) := by decide +kernel
theorem dX1_ofSeal_11 : decode cX1_ofSeal 11 = .ok (.ifCond .lt 8, 3) := by decide +kernel
theorem dX1_ofSeal_14 : decode cX1_ofSeal 14 = .ok (.iload_n 2, 1) := by decide +kernel
theorem dX1_ofSeal_15 : decode cX1_ofSeal 15 = .ok (.iconst 2, 1) := by decide +kernel
theorem dX1_ofSeal_16 : decode cX1_ofSeal 16 = .ok (.if_icmp .lt 5, 3) := by decide +kernel
theorem dX1_ofSeal_19 : decode cX1_ofSeal 19 = .ok (.iconst 0, 1) := by decide +kernel
theorem dX1_ofSeal_20 : decode cX1_ofSeal 20 = .ok (.ireturn, 1) := by decide +kernel
theorem dX1_ofSeal_21 : decode cX1_ofSeal 21 = .ok (.aload_n 0, 1) := by decide +kernel
theorem dX1_ofSeal_22 : decode cX1_ofSeal 22 = .ok (.getfield 9, 3) := by decide +kernel
theorem dX1_ofSeal_25 : decode cX1_ofSeal 25 = .ok (.sipush 475, 3) := by decide +kernel
theorem dX1_ofSeal_28 : decode cX1_ofSeal 28 = .ok (.iload_n 1, 1) := by decide +kernel
theorem dX1_ofSeal_29 : decode cX1_ofSeal 29 = .ok (.iconst 2, 1) := by decide +kernel
theorem dX1_ofSeal_30 : decode cX1_ofSeal 30 = .ok (.imul, 1) := by decide +kernel
theorem dX1_ofSeal_31 : decode cX1_ofSeal 31 = .ok (.iadd, 1) := by decide +kernel
theorem dX1_ofSeal_32 : decode cX1_ofSeal 32 = .ok (.iload_n 2, 1) := by decide +kernel
theorem dX1_ofSeal_33 : decode cX1_ofSeal 33 = .ok (.iadd, 1) := by decide +kernel
theorem dX1_ofSeal_34 : decode cX1_ofSeal 34 = .ok (.iaload, 1) := by decide +kernel
theorem dX1_ofSeal_35 : decode cX1_ofSeal 35 = .ok (.ireturn, 1) := by decide +kernel
theorem dX1_setOfSeal_0 : decode cX1_setOfSeal 0 = .ok (.iload_n 1, 1) := by decide +kernel
theorem dX1_setOfSeal_1 : decode cX1_setOfSeal 1 = .ok (.ifCond .lt 33, 3) := by decide +kernel
theorem dX1_setOfSeal_4 : decode cX1_setOfSeal 4 = .ok (.iload_n 1, 1) := by decide +kernel
theorem dX1_setOfSeal_5 : decode cX1_setOfSeal 5 = .ok (.bipush 8, 2) := by decide +kernel
theorem dX1_setOfSeal_7 : decode cX1_setOfSeal 7 = .ok (.if_icmp .ge 27, 3) := by decide +kernel
theorem dX1_setOfSeal_10 : decode cX1_setOfSeal 10 = .ok (.iload_n 2, 1) := by decide +kernel
theorem dX1_setOfSeal_11 : decode cX1_setOfSeal 11 = .ok (.ifCond .lt 23, 3) := by decide +kernel
theorem dX1_setOfSeal_14 : decode cX1_setOfSeal 14 = .ok (.iload_n 2, 1) := by decide +kernel
theorem dX1_setOfSeal_15 : decode cX1_setOfSeal 15 = .ok (.iconst 2, 1) := by decide +kernel
theorem dX1_setOfSeal_16 : decode cX1_setOfSeal 16 = .ok (.if_icmp .ge 18, 3) := by decide +kernel
theorem dX1_setOfSeal_19 : decode cX1_setOfSeal 19 = .ok (.aload_n 0, 1) := by decide +kernel
theorem dX1_setOfSeal_20 : decode cX1_setOfSeal 20 = .ok (.getfield 9, 3) := by decide +kernel
theorem dX1_setOfSeal_23 : decode cX1_setOfSeal 23 = .ok (.sipush 475, 3) := by decide +kernel
theorem dX1_setOfSeal_26 : decode cX1_setOfSeal 26 = .ok (.iload_n 1, 1) := by decide +kernel
theorem dX1_setOfSeal_27 : decode cX1_setOfSeal 27 = .ok (.iconst 2, 1) := by decide +kernel
theorem dX1_setOfSeal_28 : decode cX1_setOfSeal 28 = .ok (.imul, 1) := by decide +kernel
theorem dX1_setOfSeal_29 : decode cX1_setOfSeal 29 = .ok (.iadd, 1) := by decide +kernel
theorem dX1_setOfSeal_30 : decode cX1_setOfSeal 30 = .ok (.iload_n 2, 1) := by decide +kernel
theorem dX1_setOfSeal_31 : decode cX1_setOfSeal 31 = .ok (.iadd, 1) := by decide +kernel
theorem dX1_setOfSeal_32 : decode cX1_setOfSeal 32 = .ok (.iload_n 3, 1) := by decide +kernel
theorem dX1_setOfSeal_33 : decode cX1_setOfSeal 33 = .ok (.iastore, 1) := by decide +kernel
theorem dX1_setOfSeal_34 : decode cX1_setOfSeal 34 = .ok (.return_, 1) := by decide +kernel
set_option maxRecDepth 20000 in
theorem ggX1_hasEntry_X1_number : GoodIn wsX1_hasEntry wsX1_number := goodIn_r _ [5, 6, 10] (by decide +kernel) (by decide +kernel)
set_option maxRecDepth 20000 in
theorem gX1_hasEntry_X1_number : GoodIn wsX1_hasEntry (wsV RX1 24 RX1 yX1_number wsX1_number) := goodIn_app (goodIn_of _ (by decide +kernel)) ggX1_hasEntry_X1_number
set_option maxRecDepth 20000 in
theorem ggX1_hasEntry_X7_isWithin : GoodIn wsX1_hasEntry wsX7_isWithin := goodIn_r _ [9] (by decide +kernel) (by decide +kernel)
set_option maxRecDepth 20000 in
theorem gX1_hasEntry_X7_isWithin_n28 : GoodIn wsX1_hasEntry (wsX7_isWithin) := ggX1_hasEntry_X7_isWithin
theorem dX1_hasEntry_0 : decode cX1_hasEntry 0 = .ok (.iload_n 1, 1) := by decide +kernel
theorem dX1_hasEntry_1 : decode cX1_hasEntry 1 = .ok (.iconst 0, 1) := by decide +kernel
theorem dX1_hasEntry_2 : decode cX1_hasEntry 2 = .ok (.aload_n 0, 1) := by decide +kernel
theorem dX1_hasEntry_3 : decode cX1_hasEntry 3 = .ok (.iconst 0, 1) := by decide +kernel
theorem dX1_hasEntry_4 : decode cX1_hasEntry 4 = .ok (.invokevirtual 24, 3) := by decide +kernel
theorem dX1_hasEntry_7 : decode cX1_hasEntry 7 = .ok (.iconst 1, 1) := by decide +kernel
theorem dX1_hasEntry_8 : decode cX1_hasEntry 8 = .ok (.isub, 1) := by decide +kernel
theorem dX1_hasEntry_9 : decode cX1_hasEntry 9 = .ok (.invokestatic 28, 3) := by decide +kernel
theorem dX1_hasEntry_12 : decode cX1_hasEntry 12 = .ok (.ireturn, 1) := by decide +kernel
set_option maxRecDepth 20000 in
theorem ggX1_room_X1_number : GoodIn wsX1_room wsX1_number := goodIn_r _ [5, 6, 7] (by decide +kernel) (by decide +kernel)
set_option maxRecDepth 20000 in
theorem gX1_room_X1_number : GoodIn wsX1_room (wsV RX1 24 RX1 yX1_number wsX1_number) := goodIn_app (goodIn_of _ (by decide +kernel)) ggX1_room_X1_number
theorem dX1_room_0 : decode cX1_room 0 = .ok (.bipush 60, 2) := by decide +kernel
theorem dX1_room_2 : decode cX1_room 2 = .ok (.aload_n 0, 1) := by decide +kernel
theorem dX1_room_3 : decode cX1_room 3 = .ok (.iconst 0, 1) := by decide +kernel
theorem dX1_room_4 : decode cX1_room 4 = .ok (.invokevirtual 24, 3) := by decide +kernel
theorem dX1_room_7 : decode cX1_room 7 = .ok (.isub, 1) := by decide +kernel
theorem dX1_room_8 : decode cX1_room 8 = .ok (.ireturn, 1) := by decide +kernel
set_option maxRecDepth 20000 in
theorem ggX1_addEntry_X1_number : GoodIn wsX1_addEntry wsX1_number := goodIn_r _ [5, 6, 23] (by decide +kernel) (by decide +kernel)
set_option maxRecDepth 20000 in
theorem gX1_addEntry_X1_number : GoodIn wsX1_addEntry (wsV RX1 24 RX1 yX1_number wsX1_number) := goodIn_app (goodIn_of _ (by decide +kernel)) ggX1_addEntry_X1_number
set_option maxRecDepth 20000 in
theorem ggX1_addEntry_X1_setOfEntry : GoodIn wsX1_addEntry wsX1_setOfEntry := goodIn_r _ [10, 6, 23] (by decide +kernel) (by decide +kernel)
set_option maxRecDepth 20000 in
theorem gX1_addEntry_X1_setOfEntry : GoodIn wsX1_addEntry (wsV RX1 20 RX1 yX1_setOfEntry wsX1_setOfEntry) := goodIn_app (goodIn_of _ (by decide +kernel)) ggX1_addEntry_X1_setOfEntry
set_option maxRecDepth 20000 in
theorem ggX1_addEntry_X1_fittingLink : GoodIn wsX1_addEntry wsX1_fittingLink := goodIn_r _ [14, 15, 16, 17, 4, 18, 6, 23] (by decide +kernel) (by decide +kernel)
set_option maxRecDepth 20000 in
theorem gX1_addEntry_X1_fittingLink : GoodIn wsX1_addEntry (wsV RX1 32 RX1 yX1_fittingLink wsX1_fittingLink) := goodIn_app (goodIn_of _ (by decide +kernel)) ggX1_addEntry_X1_fittingLink
set_option maxRecDepth 20000 in
theorem ggX1_addEntry_X1_setNumber : GoodIn wsX1_addEntry wsX1_setNumber := goodIn_r _ [22, 6, 23] (by decide +kernel) (by decide +kernel)
set_option maxRecDepth 20000 in
theorem gX1_addEntry_X1_setNumber : GoodIn wsX1_addEntry (wsV RX1 15 RX1 yX1_setNumber wsX1_setNumber) := goodIn_app (goodIn_of _ (by decide +kernel)) ggX1_addEntry_X1_setNumber
theorem dX1_addEntry_0 : decode cX1_addEntry 0 = .ok (.aload_n 0, 1) := by decide +kernel
theorem dX1_addEntry_1 : decode cX1_addEntry 1 = .ok (.iconst 0, 1) := by decide +kernel
theorem dX1_addEntry_2 : decode cX1_addEntry 2 = .ok (.invokevirtual 24, 3) := by decide +kernel
theorem dX1_addEntry_5 : decode cX1_addEntry 5 = .ok (.istore 6, 2) := by decide +kernel
theorem dX1_addEntry_7 : decode cX1_addEntry 7 = .ok (.aload_n 0, 1) := by decide +kernel
theorem dX1_addEntry_8 : decode cX1_addEntry 8 = .ok (.iload 6, 2) := by decide +kernel
theorem dX1_addEntry_10 : decode cX1_addEntry 10 = .ok (.iconst 0, 1) := by decide +kernel
theorem dX1_addEntry_11 : decode cX1_addEntry 11 = .ok (.iload_n 1, 1) := by decide +kernel
theorem dX1_addEntry_12 : decode cX1_addEntry 12 = .ok (.invokevirtual 20, 3) := by decide +kernel
theorem dX1_addEntry_15 : decode cX1_addEntry 15 = .ok (.aload_n 0, 1) := by decide +kernel
theorem dX1_addEntry_16 : decode cX1_addEntry 16 = .ok (.iload 6, 2) := by decide +kernel
theorem dX1_addEntry_18 : decode cX1_addEntry 18 = .ok (.iconst 1, 1) := by decide +kernel
theorem dX1_addEntry_19 : decode cX1_addEntry 19 = .ok (.iload_n 2, 1) := by decide +kernel
theorem dX1_addEntry_20 : decode cX1_addEntry 20 = .ok (.invokevirtual 20, 3) := by decide +kernel
theorem dX1_addEntry_23 : decode cX1_addEntry 23 = .ok (.aload_n 0, 1) := by decide +kernel
theorem dX1_addEntry_24 : decode cX1_addEntry 24 = .ok (.iload 6, 2) := by decide +kernel
theorem dX1_addEntry_26 : decode cX1_addEntry 26 = .ok (.iconst 2, 1) := by decide +kernel
theorem dX1_addEntry_27 : decode cX1_addEntry 27 = .ok (.iload_n 3, 1) := by decide +kernel
theorem dX1_addEntry_28 : decode cX1_addEntry 28 = .ok (.invokevirtual 20, 3) := by decide +kernel
theorem dX1_addEntry_31 : decode cX1_addEntry 31 = .ok (.aload_n 0, 1) := by decide +kernel
theorem dX1_addEntry_32 : decode cX1_addEntry 32 = .ok (.iload 6, 2) := by decide +kernel
theorem dX1_addEntry_34 : decode cX1_addEntry 34 = .ok (.iconst 3, 1) := by decide +kernel
theorem dX1_addEntry_35 : decode cX1_addEntry 35 = .ok (.iload 4, 2) := by decide +kernel
theorem dX1_addEntry_37 : decode cX1_addEntry 37 = .ok (.invokevirtual 20, 3) := by decide +kernel
theorem dX1_addEntry_40 : decode cX1_addEntry 40 = .ok (.aload_n 0, 1) := by decide +kernel
theorem dX1_addEntry_41 : decode cX1_addEntry 41 = .ok (.iload 6, 2) := by decide +kernel
theorem dX1_addEntry_43 : decode cX1_addEntry 43 = .ok (.iconst 4, 1) := by decide +kernel
theorem dX1_addEntry_44 : decode cX1_addEntry 44 = .ok (.aload_n 0, 1) := by decide +kernel
theorem dX1_addEntry_45 : decode cX1_addEntry 45 = .ok (.iconst 1, 1) := by decide +kernel
theorem dX1_addEntry_46 : decode cX1_addEntry 46 = .ok (.invokevirtual 24, 3) := by decide +kernel
theorem dX1_addEntry_49 : decode cX1_addEntry 49 = .ok (.invokevirtual 20, 3) := by decide +kernel
theorem dX1_addEntry_52 : decode cX1_addEntry 52 = .ok (.aload_n 0, 1) := by decide +kernel
theorem dX1_addEntry_53 : decode cX1_addEntry 53 = .ok (.iload 6, 2) := by decide +kernel
theorem dX1_addEntry_55 : decode cX1_addEntry 55 = .ok (.bipush 6, 2) := by decide +kernel
theorem dX1_addEntry_57 : decode cX1_addEntry 57 = .ok (.iload 5, 2) := by decide +kernel
theorem dX1_addEntry_59 : decode cX1_addEntry 59 = .ok (.invokevirtual 20, 3) := by decide +kernel
theorem dX1_addEntry_62 : decode cX1_addEntry 62 = .ok (.aload_n 0, 1) := by decide +kernel
theorem dX1_addEntry_63 : decode cX1_addEntry 63 = .ok (.iload 6, 2) := by decide +kernel
theorem dX1_addEntry_65 : decode cX1_addEntry 65 = .ok (.iconst 5, 1) := by decide +kernel
theorem dX1_addEntry_66 : decode cX1_addEntry 66 = .ok (.aload_n 0, 1) := by decide +kernel
theorem dX1_addEntry_67 : decode cX1_addEntry 67 = .ok (.iload 6, 2) := by decide +kernel
theorem dX1_addEntry_69 : decode cX1_addEntry 69 = .ok (.invokevirtual 32, 3) := by decide +kernel
theorem dX1_addEntry_72 : decode cX1_addEntry 72 = .ok (.invokevirtual 20, 3) := by decide +kernel
theorem dX1_addEntry_75 : decode cX1_addEntry 75 = .ok (.aload_n 0, 1) := by decide +kernel
theorem dX1_addEntry_76 : decode cX1_addEntry 76 = .ok (.iconst 0, 1) := by decide +kernel
theorem dX1_addEntry_77 : decode cX1_addEntry 77 = .ok (.iload 6, 2) := by decide +kernel
theorem dX1_addEntry_79 : decode cX1_addEntry 79 = .ok (.iconst 1, 1) := by decide +kernel
theorem dX1_addEntry_80 : decode cX1_addEntry 80 = .ok (.iadd, 1) := by decide +kernel
theorem dX1_addEntry_81 : decode cX1_addEntry 81 = .ok (.invokevirtual 15, 3) := by decide +kernel
theorem dX1_addEntry_84 : decode cX1_addEntry 84 = .ok (.aload_n 0, 1) := by decide +kernel
theorem dX1_addEntry_85 : decode cX1_addEntry 85 = .ok (.iconst 1, 1) := by decide +kernel
theorem dX1_addEntry_86 : decode cX1_addEntry 86 = .ok (.iload 6, 2) := by decide +kernel
theorem dX1_addEntry_88 : decode cX1_addEntry 88 = .ok (.invokevirtual 15, 3) := by decide +kernel
theorem dX1_addEntry_91 : decode cX1_addEntry 91 = .ok (.iload 6, 2) := by decide +kernel
theorem dX1_addEntry_93 : decode cX1_addEntry 93 = .ok (.ireturn, 1) := by decide +kernel
set_option maxRecDepth 20000 in
theorem ggX1_addAnew_X1_ofEntry : GoodIn wsX1_addAnew wsX1_ofEntry := goodIn_r _ [5, 6, 27] (by decide +kernel) (by decide +kernel)
set_option maxRecDepth 20000 in
theorem gX1_addAnew_X1_ofEntry : GoodIn wsX1_addAnew (wsV RX1 35 RX1 yX1_ofEntry wsX1_ofEntry) := goodIn_app (goodIn_of _ (by decide +kernel)) ggX1_addAnew_X1_ofEntry
set_option maxRecDepth 20000 in
theorem ggX1_addAnew_X1_addEntry : GoodIn wsX1_addAnew wsX1_addEntry := goodIn_r _ [10, 11, 12, 13, 4, 14, 6, 15, 16, 17, 18, 19, 20, 21, 22, 1, 2, 3, 5, 23, 24, 25, 26, 27] (by decide +kernel) (by decide +kernel)
set_option maxRecDepth 20000 in
theorem gX1_addAnew_X1_addEntry : GoodIn wsX1_addAnew (wsV RX1 39 RX1 yX1_addEntry wsX1_addEntry) := goodIn_app (goodIn_of _ (by decide +kernel)) ggX1_addAnew_X1_addEntry
theorem dX1_addAnew_0 : decode cX1_addAnew 0 = .ok (.aload_n 0, 1) := by decide +kernel
theorem dX1_addAnew_1 : decode cX1_addAnew 1 = .ok (.iload_n 1, 1) := by decide +kernel
theorem dX1_addAnew_2 : decode cX1_addAnew 2 = .ok (.iconst 1, 1) := by decide +kernel
theorem dX1_addAnew_3 : decode cX1_addAnew 3 = .ok (.invokevirtual 35, 3) := by decide +kernel
theorem dX1_addAnew_6 : decode cX1_addAnew 6 = .ok (.istore_n 2, 1) := by decide +kernel
theorem dX1_addAnew_7 : decode cX1_addAnew 7 = .ok (.aload_n 0, 1) := by decide +kernel
theorem dX1_addAnew_8 : decode cX1_addAnew 8 = .ok (.iload_n 1, 1) := by decide +kernel
theorem dX1_addAnew_9 : decode cX1_addAnew 9 = .ok (.iconst 2, 1) := by decide +kernel
theorem dX1_addAnew_10 : decode cX1_addAnew 10 = .ok (.invokevirtual 35, 3) := by decide +kernel
theorem dX1_addAnew_13 : decode cX1_addAnew 13 = .ok (.istore_n 3, 1) := by decide +kernel
theorem dX1_addAnew_14 : decode cX1_addAnew 14 = .ok (.aload_n 0, 1) := by decide +kernel
theorem dX1_addAnew_15 : decode cX1_addAnew 15 = .ok (.aload_n 0, 1) := by decide +kernel
theorem dX1_addAnew_16 : decode cX1_addAnew 16 = .ok (.iload_n 1, 1) := by decide +kernel
theorem dX1_addAnew_17 : decode cX1_addAnew 17 = .ok (.iconst 0, 1) := by decide +kernel
theorem dX1_addAnew_18 : decode cX1_addAnew 18 = .ok (.invokevirtual 35, 3) := by decide +kernel
theorem dX1_addAnew_21 : decode cX1_addAnew 21 = .ok (.iload_n 2, 1) := by decide +kernel
theorem dX1_addAnew_22 : decode cX1_addAnew 22 = .ok (.iload_n 3, 1) := by decide +kernel
theorem dX1_addAnew_23 : decode cX1_addAnew 23 = .ok (.aload_n 0, 1) := by decide +kernel
theorem dX1_addAnew_24 : decode cX1_addAnew 24 = .ok (.iload_n 1, 1) := by decide +kernel
theorem dX1_addAnew_25 : decode cX1_addAnew 25 = .ok (.iconst 3, 1) := by decide +kernel
theorem dX1_addAnew_26 : decode cX1_addAnew 26 = .ok (.invokevirtual 35, 3) := by decide +kernel
theorem dX1_addAnew_29 : decode cX1_addAnew 29 = .ok (.iload_n 1, 1) := by decide +kernel
theorem dX1_addAnew_30 : decode cX1_addAnew 30 = .ok (.invokevirtual 39, 3) := by decide +kernel
theorem dX1_addAnew_33 : decode cX1_addAnew 33 = .ok (.pop, 1) := by decide +kernel
theorem dX1_addAnew_34 : decode cX1_addAnew 34 = .ok (.return_, 1) := by decide +kernel
set_option maxRecDepth 20000 in
theorem ggX1_leaves_X1_number : GoodIn wsX1_leaves wsX1_number := goodIn_r _ [5, 6, 15] (by decide +kernel) (by decide +kernel)
set_option maxRecDepth 20000 in
theorem gX1_leaves_X1_number : GoodIn wsX1_leaves (wsV RX1 24 RX1 yX1_number wsX1_number) := goodIn_app (goodIn_of _ (by decide +kernel)) ggX1_leaves_X1_number
set_option maxRecDepth 20000 in
theorem ggX1_leaves_X1_isLeaf : GoodIn wsX1_leaves wsX1_isLeaf := goodIn_r _ [10, 1, 2, 3, 4, 5, 6, 11, 12, 13, 14, 15] (by decide +kernel) (by decide +kernel)
set_option maxRecDepth 20000 in
theorem gX1_leaves_X1_isLeaf : GoodIn wsX1_leaves (wsV RX1 43 RX1 yX1_isLeaf wsX1_isLeaf) := goodIn_app (goodIn_of _ (by decide +kernel)) ggX1_leaves_X1_isLeaf
theorem dX1_leaves_0 : decode cX1_leaves 0 = .ok (.iconst 0, 1) := by decide +kernel
theorem dX1_leaves_1 : decode cX1_leaves 1 = .ok (.istore_n 1, 1) := by decide +kernel
theorem dX1_leaves_2 : decode cX1_leaves 2 = .ok (.iconst 0, 1) := by decide +kernel
theorem dX1_leaves_3 : decode cX1_leaves 3 = .ok (.istore_n 2, 1) := by decide +kernel
theorem dX1_leaves_4 : decode cX1_leaves 4 = .ok (.iload_n 2, 1) := by decide +kernel
theorem dX1_leaves_5 : decode cX1_leaves 5 = .ok (.aload_n 0, 1) := by decide +kernel
theorem dX1_leaves_6 : decode cX1_leaves 6 = .ok (.iconst 0, 1) := by decide +kernel
theorem dX1_leaves_7 : decode cX1_leaves 7 = .ok (.invokevirtual 24, 3) := by decide +kernel
theorem dX1_leaves_10 : decode cX1_leaves 10 = .ok (.if_icmp .ge 20, 3) := by decide +kernel
theorem dX1_leaves_13 : decode cX1_leaves 13 = .ok (.aload_n 0, 1) := by decide +kernel
theorem dX1_leaves_14 : decode cX1_leaves 14 = .ok (.iload_n 2, 1) := by decide +kernel
theorem dX1_leaves_15 : decode cX1_leaves 15 = .ok (.invokevirtual 43, 3) := by decide +kernel
theorem dX1_leaves_18 : decode cX1_leaves 18 = .ok (.ifCond .eq 6, 3) := by decide +kernel
theorem dX1_leaves_21 : decode cX1_leaves 21 = .ok (.iinc 1 1, 3) := by decide +kernel
theorem dX1_leaves_24 : decode cX1_leaves 24 = .ok (.iinc 2 1, 3) := by decide +kernel
theorem dX1_leaves_27 : decode cX1_leaves 27 = .ok (.goto (-23), 3) := by decide +kernel
theorem dX1_leaves_30 : decode cX1_leaves 30 = .ok (.iload_n 1, 1) := by decide +kernel
theorem dX1_leaves_31 : decode cX1_leaves 31 = .ok (.ireturn, 1) := by decide +kernel
set_option maxRecDepth 20000 in
theorem ggX1_isLeaf_X1_number : GoodIn wsX1_isLeaf wsX1_number := goodIn_r _ [5, 6, 11] (by decide +kernel) (by decide +kernel)
set_option maxRecDepth 20000 in
theorem gX1_isLeaf_X1_number : GoodIn wsX1_isLeaf (wsV RX1 24 RX1 yX1_number wsX1_number) := goodIn_app (goodIn_of _ (by decide +kernel)) ggX1_isLeaf_X1_number
set_option maxRecDepth 20000 in
theorem ggX1_isLeaf_X1_ofEntry : GoodIn wsX1_isLeaf wsX1_ofEntry := goodIn_r _ [10, 6, 11] (by decide +kernel) (by decide +kernel)
set_option maxRecDepth 20000 in
theorem gX1_isLeaf_X1_ofEntry : GoodIn wsX1_isLeaf (wsV RX1 35 RX1 yX1_ofEntry wsX1_ofEntry) := goodIn_app (goodIn_of _ (by decide +kernel)) ggX1_isLeaf_X1_ofEntry
theorem dX1_isLeaf_0 : decode cX1_isLeaf 0 = .ok (.iload_n 1, 1) := by decide +kernel
theorem dX1_isLeaf_1 : decode cX1_isLeaf 1 = .ok (.iconst 1, 1) := by decide +kernel
theorem dX1_isLeaf_2 : decode cX1_isLeaf 2 = .ok (.iadd, 1) := by decide +kernel
theorem dX1_isLeaf_3 : decode cX1_isLeaf 3 = .ok (.istore_n 2, 1) := by decide +kernel
theorem dX1_isLeaf_4 : decode cX1_isLeaf 4 = .ok (.iload_n 2, 1) := by decide +kernel
theorem dX1_isLeaf_5 : decode cX1_isLeaf 5 = .ok (.aload_n 0, 1) := by decide +kernel
theorem dX1_isLeaf_6 : decode cX1_isLeaf 6 = .ok (.iconst 0, 1) := by decide +kernel
theorem dX1_isLeaf_7 : decode cX1_isLeaf 7 = .ok (.invokevirtual 24, 3) := by decide +kernel
theorem dX1_isLeaf_10 : decode cX1_isLeaf 10 = .ok (.if_icmp .ge 21, 3) := by decide +kernel
theorem dX1_isLeaf_13 : decode cX1_isLeaf 13 = .ok (.aload_n 0, 1) := by decide +kernel
theorem dX1_isLeaf_14 : decode cX1_isLeaf 14 = .ok (.iload_n 2, 1) := by decide +kernel
theorem dX1_isLeaf_15 : decode cX1_isLeaf 15 = .ok (.iconst 4, 1) := by decide +kernel
theorem dX1_isLeaf_16 : decode cX1_isLeaf 16 = .ok (.invokevirtual 35, 3) := by decide +kernel
theorem dX1_isLeaf_19 : decode cX1_isLeaf 19 = .ok (.iload_n 1, 1) := by decide +kernel
theorem dX1_isLeaf_20 : decode cX1_isLeaf 20 = .ok (.if_icmp .ne 5, 3) := by decide +kernel
theorem dX1_isLeaf_23 : decode cX1_isLeaf 23 = .ok (.iconst 0, 1) := by decide +kernel
theorem dX1_isLeaf_24 : decode cX1_isLeaf 24 = .ok (.ireturn, 1) := by decide +kernel
theorem dX1_isLeaf_25 : decode cX1_isLeaf 25 = .ok (.iinc 2 1, 3) := by decide +kernel
theorem dX1_isLeaf_28 : decode cX1_isLeaf 28 = .ok (.goto (-24), 3) := by decide +kernel
theorem dX1_isLeaf_31 : decode cX1_isLeaf 31 = .ok (.iconst 1, 1) := by decide +kernel
theorem dX1_isLeaf_32 : decode cX1_isLeaf 32 = .ok (.ireturn, 1) := by decide +kernel
set_option maxRecDepth 20000 in
theorem ggX1_isOnPath_X1_ofEntry : GoodIn wsX1_isOnPath wsX1_ofEntry := goodIn_r _ [5, 6, 7] (by decide +kernel) (by decide +kernel)
set_option maxRecDepth 20000 in
theorem gX1_isOnPath_X1_ofEntry : GoodIn wsX1_isOnPath (wsV RX1 35 RX1 yX1_ofEntry wsX1_ofEntry) := goodIn_app (goodIn_of _ (by decide +kernel)) ggX1_isOnPath_X1_ofEntry
theorem dX1_isOnPath_0 : decode cX1_isOnPath 0 = .ok (.iload_n 2, 1) := by decide +kernel
theorem dX1_isOnPath_1 : decode cX1_isOnPath 1 = .ok (.istore_n 3, 1) := by decide +kernel
theorem dX1_isOnPath_2 : decode cX1_isOnPath 2 = .ok (.iconst 0, 1) := by decide +kernel
theorem dX1_isOnPath_3 : decode cX1_isOnPath 3 = .ok (.istore 4, 2) := by decide +kernel
theorem dX1_isOnPath_5 : decode cX1_isOnPath 5 = .ok (.iload 4, 2) := by decide +kernel
theorem dX1_isOnPath_7 : decode cX1_isOnPath 7 = .ok (.bipush 60, 2) := by decide +kernel
theorem dX1_isOnPath_9 : decode cX1_isOnPath 9 = .ok (.if_icmp .ge 21, 3) := by decide +kernel
theorem dX1_isOnPath_12 : decode cX1_isOnPath 12 = .ok (.iload_n 3, 1) := by decide +kernel
theorem dX1_isOnPath_13 : decode cX1_isOnPath 13 = .ok (.iload_n 1, 1) := by decide +kernel
theorem dX1_isOnPath_14 : decode cX1_isOnPath 14 = .ok (.if_icmp .le 16, 3) := by decide +kernel
theorem dX1_isOnPath_17 : decode cX1_isOnPath 17 = .ok (.aload_n 0, 1) := by decide +kernel
theorem dX1_isOnPath_18 : decode cX1_isOnPath 18 = .ok (.iload_n 3, 1) := by decide +kernel
theorem dX1_isOnPath_19 : decode cX1_isOnPath 19 = .ok (.iconst 4, 1) := by decide +kernel
theorem dX1_isOnPath_20 : decode cX1_isOnPath 20 = .ok (.invokevirtual 35, 3) := by decide +kernel
theorem dX1_isOnPath_23 : decode cX1_isOnPath 23 = .ok (.istore_n 3, 1) := by decide +kernel
theorem dX1_isOnPath_24 : decode cX1_isOnPath 24 = .ok (.iinc 4 1, 3) := by decide +kernel
theorem dX1_isOnPath_27 : decode cX1_isOnPath 27 = .ok (.goto (-22), 3) := by decide +kernel
theorem dX1_isOnPath_30 : decode cX1_isOnPath 30 = .ok (.iload_n 3, 1) := by decide +kernel
theorem dX1_isOnPath_31 : decode cX1_isOnPath 31 = .ok (.iload_n 1, 1) := by decide +kernel
theorem dX1_isOnPath_32 : decode cX1_isOnPath 32 = .ok (.if_icmp .ne 7, 3) := by decide +kernel
theorem dX1_isOnPath_35 : decode cX1_isOnPath 35 = .ok (.iconst 1, 1) := by decide +kernel
theorem dX1_isOnPath_36 : decode cX1_isOnPath 36 = .ok (.goto 4, 3) := by decide +kernel
theorem dX1_isOnPath_39 : decode cX1_isOnPath 39 = .ok (.iconst 0, 1) := by decide +kernel
theorem dX1_isOnPath_40 : decode cX1_isOnPath 40 = .ok (.ireturn, 1) := by decide +kernel
set_option maxRecDepth 20000 in
theorem ggX1_pathLength_X1_ofEntry : GoodIn wsX1_pathLength wsX1_ofEntry := goodIn_r _ [5, 6, 7] (by decide +kernel) (by decide +kernel)
set_option maxRecDepth 20000 in
theorem gX1_pathLength_X1_ofEntry : GoodIn wsX1_pathLength (wsV RX1 35 RX1 yX1_ofEntry wsX1_ofEntry) := goodIn_app (goodIn_of _ (by decide +kernel)) ggX1_pathLength_X1_ofEntry
theorem dX1_pathLength_0 : decode cX1_pathLength 0 = .ok (.iconst 1, 1) := by decide +kernel
theorem dX1_pathLength_1 : decode cX1_pathLength 1 = .ok (.istore_n 2, 1) := by decide +kernel
theorem dX1_pathLength_2 : decode cX1_pathLength 2 = .ok (.iload_n 1, 1) := by decide +kernel
theorem dX1_pathLength_3 : decode cX1_pathLength 3 = .ok (.istore_n 3, 1) := by decide +kernel
theorem dX1_pathLength_4 : decode cX1_pathLength 4 = .ok (.iconst 0, 1) := by decide +kernel
theorem dX1_pathLength_5 : decode cX1_pathLength 5 = .ok (.istore 4, 2) := by decide +kernel
theorem dX1_pathLength_7 : decode cX1_pathLength 7 = .ok (.iload 4, 2) := by decide +kernel
theorem dX1_pathLength_9 : decode cX1_pathLength 9 = .ok (.bipush 60, 2) := by decide +kernel
theorem dX1_pathLength_11 : decode cX1_pathLength 11 = .ok (.if_icmp .ge 23, 3) := by decide +kernel
theorem dX1_pathLength_14 : decode cX1_pathLength 14 = .ok (.iload_n 3, 1) := by decide +kernel
theorem dX1_pathLength_15 : decode cX1_pathLength 15 = .ok (.ifCond .le 19, 3) := by decide +kernel
theorem dX1_pathLength_18 : decode cX1_pathLength 18 = .ok (.aload_n 0, 1) := by decide +kernel
theorem dX1_pathLength_19 : decode cX1_pathLength 19 = .ok (.iload_n 3, 1) := by decide +kernel
theorem dX1_pathLength_20 : decode cX1_pathLength 20 = .ok (.iconst 4, 1) := by decide +kernel
theorem dX1_pathLength_21 : decode cX1_pathLength 21 = .ok (.invokevirtual 35, 3) := by decide +kernel
theorem dX1_pathLength_24 : decode cX1_pathLength 24 = .ok (.istore_n 3, 1) := by decide +kernel
theorem dX1_pathLength_25 : decode cX1_pathLength 25 = .ok (.iinc 2 1, 3) := by decide +kernel
theorem dX1_pathLength_28 : decode cX1_pathLength 28 = .ok (.iinc 4 1, 3) := by decide +kernel
theorem dX1_pathLength_31 : decode cX1_pathLength 31 = .ok (.goto (-24), 3) := by decide +kernel
theorem dX1_pathLength_34 : decode cX1_pathLength 34 = .ok (.iload_n 2, 1) := by decide +kernel
theorem dX1_pathLength_35 : decode cX1_pathLength 35 = .ok (.ireturn, 1) := by decide +kernel
set_option maxRecDepth 20000 in
theorem ggX1_lastShared_X1_ofEntry : GoodIn wsX1_lastShared wsX1_ofEntry := goodIn_r _ [5, 6, 7] (by decide +kernel) (by decide +kernel)
set_option maxRecDepth 20000 in
theorem gX1_lastShared_X1_ofEntry : GoodIn wsX1_lastShared (wsV RX1 35 RX1 yX1_ofEntry wsX1_ofEntry) := goodIn_app (goodIn_of _ (by decide +kernel)) ggX1_lastShared_X1_ofEntry
theorem dX1_lastShared_0 : decode cX1_lastShared 0 = .ok (.iload_n 1, 1) := by decide +kernel
theorem dX1_lastShared_1 : decode cX1_lastShared 1 = .ok (.istore_n 3, 1) := by decide +kernel
theorem dX1_lastShared_2 : decode cX1_lastShared 2 = .ok (.iload_n 2, 1) := by decide +kernel
theorem dX1_lastShared_3 : decode cX1_lastShared 3 = .ok (.istore 4, 2) := by decide +kernel
theorem dX1_lastShared_5 : decode cX1_lastShared 5 = .ok (.iconst 0, 1) := by decide +kernel
theorem dX1_lastShared_6 : decode cX1_lastShared 6 = .ok (.istore 5, 2) := by decide +kernel
theorem dX1_lastShared_8 : decode cX1_lastShared 8 = .ok (.iload 5, 2) := by decide +kernel
theorem dX1_lastShared_10 : decode cX1_lastShared 10 = .ok (.bipush 120, 2) := by decide +kernel
theorem dX1_lastShared_12 : decode cX1_lastShared 12 = .ok (.if_icmp .ge 40, 3) := by decide +kernel
theorem dX1_lastShared_15 : decode cX1_lastShared 15 = .ok (.iload_n 3, 1) := by decide +kernel
theorem dX1_lastShared_16 : decode cX1_lastShared 16 = .ok (.iload 4, 2) := by decide +kernel
theorem dX1_lastShared_18 : decode cX1_lastShared 18 = .ok (.if_icmp .eq 34, 3) := by decide +kernel
theorem dX1_lastShared_21 : decode cX1_lastShared 21 = .ok (.iload_n 3, 1) := by decide +kernel
theorem dX1_lastShared_22 : decode cX1_lastShared 22 = .ok (.iload 4, 2) := by decide +kernel
theorem dX1_lastShared_24 : decode cX1_lastShared 24 = .ok (.if_icmp .le 13, 3) := by decide +kernel
theorem dX1_lastShared_27 : decode cX1_lastShared 27 = .ok (.aload_n 0, 1) := by decide +kernel
theorem dX1_lastShared_28 : decode cX1_lastShared 28 = .ok (.iload_n 3, 1) := by decide +kernel
theorem dX1_lastShared_29 : decode cX1_lastShared 29 = .ok (.iconst 4, 1) := by decide +kernel
theorem dX1_lastShared_30 : decode cX1_lastShared 30 = .ok (.invokevirtual 35, 3) := by decide +kernel
theorem dX1_lastShared_33 : decode cX1_lastShared 33 = .ok (.istore_n 3, 1) := by decide +kernel
theorem dX1_lastShared_34 : decode cX1_lastShared 34 = .ok (.goto 12, 3) := by decide +kernel
theorem dX1_lastShared_37 : decode cX1_lastShared 37 = .ok (.aload_n 0, 1) := by decide +kernel
theorem dX1_lastShared_38 : decode cX1_lastShared 38 = .ok (.iload 4, 2) := by decide +kernel
theorem dX1_lastShared_40 : decode cX1_lastShared 40 = .ok (.iconst 4, 1) := by decide +kernel
theorem dX1_lastShared_41 : decode cX1_lastShared 41 = .ok (.invokevirtual 35, 3) := by decide +kernel
theorem dX1_lastShared_44 : decode cX1_lastShared 44 = .ok (.istore 4, 2) := by decide +kernel
theorem dX1_lastShared_46 : decode cX1_lastShared 46 = .ok (.iinc 5 1, 3) := by decide +kernel
theorem dX1_lastShared_49 : decode cX1_lastShared 49 = .ok (.goto (-41), 3) := by decide +kernel
theorem dX1_lastShared_52 : decode cX1_lastShared 52 = .ok (.iload_n 3, 1) := by decide +kernel
theorem dX1_lastShared_53 : decode cX1_lastShared 53 = .ok (.ireturn, 1) := by decide +kernel
set_option maxRecDepth 20000 in
theorem ggX1_fittingLink_X1_ofEntry : GoodIn wsX1_fittingLink wsX1_ofEntry := goodIn_r _ [5, 6, 7] (by decide +kernel) (by decide +kernel)
set_option maxRecDepth 20000 in
theorem gX1_fittingLink_X1_ofEntry : GoodIn wsX1_fittingLink (wsV RX1 35 RX1 yX1_ofEntry wsX1_ofEntry) := goodIn_app (goodIn_of _ (by decide +kernel)) ggX1_fittingLink_X1_ofEntry
theorem dX1_fittingLink_0 : decode cX1_fittingLink 0 = .ok (.iload_n 1, 1) := by decide +kernel
theorem dX1_fittingLink_1 : decode cX1_fittingLink 1 = .ok (.ifCond .ne 5, 3) := by decide +kernel
theorem dX1_fittingLink_4 : decode cX1_fittingLink 4 = .ok (.iconst 1, 1) := by decide +kernel
theorem dX1_fittingLink_5 : decode cX1_fittingLink 5 = .ok (.ireturn, 1) := by decide +kernel
theorem dX1_fittingLink_6 : decode cX1_fittingLink 6 = .ok (.bipush 31, 2) := by decide +kernel
theorem dX1_fittingLink_8 : decode cX1_fittingLink 8 = .ok (.aload_n 0, 1) := by decide +kernel
theorem dX1_fittingLink_9 : decode cX1_fittingLink 9 = .ok (.aload_n 0, 1) := by decide +kernel
theorem dX1_fittingLink_10 : decode cX1_fittingLink 10 = .ok (.iload_n 1, 1) := by decide +kernel
theorem dX1_fittingLink_11 : decode cX1_fittingLink 11 = .ok (.iconst 4, 1) := by decide +kernel
theorem dX1_fittingLink_12 : decode cX1_fittingLink 12 = .ok (.invokevirtual 35, 3) := by decide +kernel
theorem dX1_fittingLink_15 : decode cX1_fittingLink 15 = .ok (.iconst 5, 1) := by decide +kernel
theorem dX1_fittingLink_16 : decode cX1_fittingLink 16 = .ok (.invokevirtual 35, 3) := by decide +kernel
theorem dX1_fittingLink_19 : decode cX1_fittingLink 19 = .ok (.imul, 1) := by decide +kernel
theorem dX1_fittingLink_20 : decode cX1_fittingLink 20 = .ok (.bipush 7, 2) := by decide +kernel
theorem dX1_fittingLink_22 : decode cX1_fittingLink 22 = .ok (.aload_n 0, 1) := by decide +kernel
theorem dX1_fittingLink_23 : decode cX1_fittingLink 23 = .ok (.iload_n 1, 1) := by decide +kernel
theorem dX1_fittingLink_24 : decode cX1_fittingLink 24 = .ok (.iconst 0, 1) := by decide +kernel
theorem dX1_fittingLink_25 : decode cX1_fittingLink 25 = .ok (.invokevirtual 35, 3) := by decide +kernel
theorem dX1_fittingLink_28 : decode cX1_fittingLink 28 = .ok (.imul, 1) := by decide +kernel
theorem dX1_fittingLink_29 : decode cX1_fittingLink 29 = .ok (.iadd, 1) := by decide +kernel
theorem dX1_fittingLink_30 : decode cX1_fittingLink 30 = .ok (.bipush 11, 2) := by decide +kernel
theorem dX1_fittingLink_32 : decode cX1_fittingLink 32 = .ok (.aload_n 0, 1) := by decide +kernel
theorem dX1_fittingLink_33 : decode cX1_fittingLink 33 = .ok (.iload_n 1, 1) := by decide +kernel
theorem dX1_fittingLink_34 : decode cX1_fittingLink 34 = .ok (.iconst 1, 1) := by decide +kernel
theorem dX1_fittingLink_35 : decode cX1_fittingLink 35 = .ok (.invokevirtual 35, 3) := by decide +kernel
theorem dX1_fittingLink_38 : decode cX1_fittingLink 38 = .ok (.imul, 1) := by decide +kernel
theorem dX1_fittingLink_39 : decode cX1_fittingLink 39 = .ok (.iadd, 1) := by decide +kernel
theorem dX1_fittingLink_40 : decode cX1_fittingLink 40 = .ok (.bipush 13, 2) := by decide +kernel
theorem dX1_fittingLink_42 : decode cX1_fittingLink 42 = .ok (.aload_n 0, 1) := by decide +kernel
theorem dX1_fittingLink_43 : decode cX1_fittingLink 43 = .ok (.iload_n 1, 1) := by decide +kernel
theorem dX1_fittingLink_44 : decode cX1_fittingLink 44 = .ok (.iconst 2, 1) := by decide +kernel
theorem dX1_fittingLink_45 : decode cX1_fittingLink 45 = .ok (.invokevirtual 35, 3) := by decide +kernel
theorem dX1_fittingLink_48 : decode cX1_fittingLink 48 = .ok (.imul, 1) := by decide +kernel
theorem dX1_fittingLink_49 : decode cX1_fittingLink 49 = .ok (.iadd, 1) := by decide +kernel
theorem dX1_fittingLink_50 : decode cX1_fittingLink 50 = .ok (.bipush 17, 2) := by decide +kernel
theorem dX1_fittingLink_52 : decode cX1_fittingLink 52 = .ok (.aload_n 0, 1) := by decide +kernel
theorem dX1_fittingLink_53 : decode cX1_fittingLink 53 = .ok (.iload_n 1, 1) := by decide +kernel
theorem dX1_fittingLink_54 : decode cX1_fittingLink 54 = .ok (.iconst 3, 1) := by decide +kernel
theorem dX1_fittingLink_55 : decode cX1_fittingLink 55 = .ok (.invokevirtual 35, 3) := by decide +kernel
theorem dX1_fittingLink_58 : decode cX1_fittingLink 58 = .ok (.imul, 1) := by decide +kernel
theorem dX1_fittingLink_59 : decode cX1_fittingLink 59 = .ok (.iadd, 1) := by decide +kernel
theorem dX1_fittingLink_60 : decode cX1_fittingLink 60 = .ok (.bipush 19, 2) := by decide +kernel
theorem dX1_fittingLink_62 : decode cX1_fittingLink 62 = .ok (.iload_n 1, 1) := by decide +kernel
theorem dX1_fittingLink_63 : decode cX1_fittingLink 63 = .ok (.imul, 1) := by decide +kernel
theorem dX1_fittingLink_64 : decode cX1_fittingLink 64 = .ok (.iadd, 1) := by decide +kernel
theorem dX1_fittingLink_65 : decode cX1_fittingLink 65 = .ok (.istore_n 2, 1) := by decide +kernel
theorem dX1_fittingLink_66 : decode cX1_fittingLink 66 = .ok (.iload_n 2, 1) := by decide +kernel
theorem dX1_fittingLink_67 : decode cX1_fittingLink 67 = .ok (.sipush 9973, 3) := by decide +kernel
theorem dX1_fittingLink_70 : decode cX1_fittingLink 70 = .ok (.irem, 1) := by decide +kernel
theorem dX1_fittingLink_71 : decode cX1_fittingLink 71 = .ok (.ireturn, 1) := by decide +kernel
set_option maxRecDepth 20000 in
theorem ggX1_fits_X1_ofEntry : GoodIn wsX1_fits wsX1_ofEntry := goodIn_r _ [5, 6, 11] (by decide +kernel) (by decide +kernel)
set_option maxRecDepth 20000 in
theorem gX1_fits_X1_ofEntry : GoodIn wsX1_fits (wsV RX1 35 RX1 yX1_ofEntry wsX1_ofEntry) := goodIn_app (goodIn_of _ (by decide +kernel)) ggX1_fits_X1_ofEntry
set_option maxRecDepth 20000 in
theorem ggX1_fits_X1_fittingLink : GoodIn wsX1_fits wsX1_fittingLink := goodIn_r _ [10, 1, 2, 3, 4, 5, 6, 11] (by decide +kernel) (by decide +kernel)
set_option maxRecDepth 20000 in
theorem gX1_fits_X1_fittingLink : GoodIn wsX1_fits (wsV RX1 32 RX1 yX1_fittingLink wsX1_fittingLink) := goodIn_app (goodIn_of _ (by decide +kernel)) ggX1_fits_X1_fittingLink
theorem dX1_fits_0 : decode cX1_fits 0 = .ok (.aload_n 0, 1) := by decide +kernel
theorem dX1_fits_1 : decode cX1_fits 1 = .ok (.iload_n 1, 1) := by decide +kernel
theorem dX1_fits_2 : decode cX1_fits 2 = .ok (.iconst 5, 1) := by decide +kernel
theorem dX1_fits_3 : decode cX1_fits 3 = .ok (.invokevirtual 35, 3) := by decide +kernel
theorem dX1_fits_6 : decode cX1_fits 6 = .ok (.aload_n 0, 1) := by decide +kernel
theorem dX1_fits_7 : decode cX1_fits 7 = .ok (.iload_n 1, 1) := by decide +kernel
theorem dX1_fits_8 : decode cX1_fits 8 = .ok (.invokevirtual 32, 3) := by decide +kernel
theorem dX1_fits_11 : decode cX1_fits 11 = .ok (.if_icmp .ne 7, 3) := by decide +kernel
theorem dX1_fits_14 : decode cX1_fits 14 = .ok (.iconst 1, 1) := by decide +kernel
theorem dX1_fits_15 : decode cX1_fits 15 = .ok (.goto 4, 3) := by decide +kernel
theorem dX1_fits_18 : decode cX1_fits 18 = .ok (.iconst 0, 1) := by decide +kernel
theorem dX1_fits_19 : decode cX1_fits 19 = .ok (.ireturn, 1) := by decide +kernel
set_option maxRecDepth 20000 in
theorem ggX1_brokenLinks_X1_number : GoodIn wsX1_brokenLinks wsX1_number := goodIn_r _ [5, 6, 19] (by decide +kernel) (by decide +kernel)
set_option maxRecDepth 20000 in
theorem gX1_brokenLinks_X1_number : GoodIn wsX1_brokenLinks (wsV RX1 24 RX1 yX1_number wsX1_number) := goodIn_app (goodIn_of _ (by decide +kernel)) ggX1_brokenLinks_X1_number
set_option maxRecDepth 20000 in
theorem ggX1_brokenLinks_X1_fits : GoodIn wsX1_brokenLinks wsX1_fits := goodIn_r _ [10, 11, 12, 13, 4, 14, 6, 15, 16, 17, 18, 19] (by decide +kernel) (by decide +kernel)
set_option maxRecDepth 20000 in
theorem gX1_brokenLinks_X1_fits : GoodIn wsX1_brokenLinks (wsV RX1 47 RX1 yX1_fits wsX1_fits) := goodIn_app (goodIn_of _ (by decide +kernel)) ggX1_brokenLinks_X1_fits
theorem dX1_brokenLinks_0 : decode cX1_brokenLinks 0 = .ok (.iconst 0, 1) := by decide +kernel
theorem dX1_brokenLinks_1 : decode cX1_brokenLinks 1 = .ok (.istore_n 1, 1) := by decide +kernel
theorem dX1_brokenLinks_2 : decode cX1_brokenLinks 2 = .ok (.iconst 0, 1) := by decide +kernel
theorem dX1_brokenLinks_3 : decode cX1_brokenLinks 3 = .ok (.istore_n 2, 1) := by decide +kernel
theorem dX1_brokenLinks_4 : decode cX1_brokenLinks 4 = .ok (.iload_n 2, 1) := by decide +kernel
theorem dX1_brokenLinks_5 : decode cX1_brokenLinks 5 = .ok (.aload_n 0, 1) := by decide +kernel
theorem dX1_brokenLinks_6 : decode cX1_brokenLinks 6 = .ok (.iconst 0, 1) := by decide +kernel
theorem dX1_brokenLinks_7 : decode cX1_brokenLinks 7 = .ok (.invokevirtual 24, 3) := by decide +kernel
theorem dX1_brokenLinks_10 : decode cX1_brokenLinks 10 = .ok (.if_icmp .ge 20, 3) := by decide +kernel
theorem dX1_brokenLinks_13 : decode cX1_brokenLinks 13 = .ok (.aload_n 0, 1) := by decide +kernel
theorem dX1_brokenLinks_14 : decode cX1_brokenLinks 14 = .ok (.iload_n 2, 1) := by decide +kernel
theorem dX1_brokenLinks_15 : decode cX1_brokenLinks 15 = .ok (.invokevirtual 47, 3) := by decide +kernel
theorem dX1_brokenLinks_18 : decode cX1_brokenLinks 18 = .ok (.ifCond .ne 6, 3) := by decide +kernel
theorem dX1_brokenLinks_21 : decode cX1_brokenLinks 21 = .ok (.iinc 1 1, 3) := by decide +kernel
theorem dX1_brokenLinks_24 : decode cX1_brokenLinks 24 = .ok (.iinc 2 1, 3) := by decide +kernel
theorem dX1_brokenLinks_27 : decode cX1_brokenLinks 27 = .ok (.goto (-23), 3) := by decide +kernel
theorem dX1_brokenLinks_30 : decode cX1_brokenLinks 30 = .ok (.iload_n 1, 1) := by decide +kernel
theorem dX1_brokenLinks_31 : decode cX1_brokenLinks 31 = .ok (.ireturn, 1) := by decide +kernel
set_option maxRecDepth 20000 in
theorem ggX1_firstBrokenLink_X1_number : GoodIn wsX1_firstBrokenLink wsX1_number := goodIn_r _ [6, 7, 20] (by decide +kernel) (by decide +kernel)
set_option maxRecDepth 20000 in
theorem gX1_firstBrokenLink_X1_number : GoodIn wsX1_firstBrokenLink (wsV RX1 24 RX1 yX1_number wsX1_number) := goodIn_app (goodIn_of _ (by decide +kernel)) ggX1_firstBrokenLink_X1_number
set_option maxRecDepth 20000 in
theorem ggX1_firstBrokenLink_X1_fits : GoodIn wsX1_firstBrokenLink wsX1_fits := goodIn_r _ [11, 12, 13, 14, 5, 15, 7, 16, 17, 18, 19, 20] (by decide +kernel) (by decide +kernel)
set_option maxRecDepth 20000 in
theorem gX1_firstBrokenLink_X1_fits : GoodIn wsX1_firstBrokenLink (wsV RX1 47 RX1 yX1_fits wsX1_fits) := goodIn_app (goodIn_of _ (by decide +kernel)) ggX1_firstBrokenLink_X1_fits
theorem dX1_firstBrokenLink_0 : decode cX1_firstBrokenLink 0 = .ok (.iconst 0, 1) := by decide +kernel
theorem dX1_firstBrokenLink_1 : decode cX1_firstBrokenLink 1 = .ok (.istore_n 1, 1) := by decide +kernel
theorem dX1_firstBrokenLink_2 : decode cX1_firstBrokenLink 2 = .ok (.iload_n 1, 1) := by decide +kernel
theorem dX1_firstBrokenLink_3 : decode cX1_firstBrokenLink 3 = .ok (.aload_n 0, 1) := by decide +kernel
theorem dX1_firstBrokenLink_4 : decode cX1_firstBrokenLink 4 = .ok (.iconst 0, 1) := by decide +kernel
theorem dX1_firstBrokenLink_5 : decode cX1_firstBrokenLink 5 = .ok (.invokevirtual 24, 3) := by decide +kernel
theorem dX1_firstBrokenLink_8 : decode cX1_firstBrokenLink 8 = .ok (.if_icmp .ge 19, 3) := by decide +kernel
theorem dX1_firstBrokenLink_11 : decode cX1_firstBrokenLink 11 = .ok (.aload_n 0, 1) := by decide +kernel
theorem dX1_firstBrokenLink_12 : decode cX1_firstBrokenLink 12 = .ok (.iload_n 1, 1) := by decide +kernel
theorem dX1_firstBrokenLink_13 : decode cX1_firstBrokenLink 13 = .ok (.invokevirtual 47, 3) := by decide +kernel
theorem dX1_firstBrokenLink_16 : decode cX1_firstBrokenLink 16 = .ok (.ifCond .ne 5, 3) := by decide +kernel
theorem dX1_firstBrokenLink_19 : decode cX1_firstBrokenLink 19 = .ok (.iload_n 1, 1) := by decide +kernel
theorem dX1_firstBrokenLink_20 : decode cX1_firstBrokenLink 20 = .ok (.ireturn, 1) := by decide +kernel
theorem dX1_firstBrokenLink_21 : decode cX1_firstBrokenLink 21 = .ok (.iinc 1 1, 3) := by decide +kernel
theorem dX1_firstBrokenLink_24 : decode cX1_firstBrokenLink 24 = .ok (.goto (-22), 3) := by decide +kernel
theorem dX1_firstBrokenLink_27 : decode cX1_firstBrokenLink 27 = .ok (.ldc 19, 2) := by decide +kernel
theorem dX1_firstBrokenLink_29 : decode cX1_firstBrokenLink 29 = .ok (.ireturn, 1) := by decide +kernel
set_option maxRecDepth 20000 in
theorem ggX1_hasSeal_X1_number : GoodIn wsX1_hasSeal wsX1_number := goodIn_r _ [5, 6, 10] (by decide +kernel) (by decide +kernel)
set_option maxRecDepth 20000 in
theorem gX1_hasSeal_X1_number : GoodIn wsX1_hasSeal (wsV RX1 24 RX1 yX1_number wsX1_number) := goodIn_app (goodIn_of _ (by decide +kernel)) ggX1_hasSeal_X1_number
set_option maxRecDepth 20000 in
theorem ggX1_hasSeal_X7_isWithin : GoodIn wsX1_hasSeal wsX7_isWithin := goodIn_r _ [9] (by decide +kernel) (by decide +kernel)
set_option maxRecDepth 20000 in
theorem gX1_hasSeal_X7_isWithin_n28 : GoodIn wsX1_hasSeal (wsX7_isWithin) := ggX1_hasSeal_X7_isWithin
theorem dX1_hasSeal_0 : decode cX1_hasSeal 0 = .ok (.iload_n 1, 1) := by decide +kernel
theorem dX1_hasSeal_1 : decode cX1_hasSeal 1 = .ok (.iconst 0, 1) := by decide +kernel
theorem dX1_hasSeal_2 : decode cX1_hasSeal 2 = .ok (.aload_n 0, 1) := by decide +kernel
theorem dX1_hasSeal_3 : decode cX1_hasSeal 3 = .ok (.iconst 4, 1) := by decide +kernel
theorem dX1_hasSeal_4 : decode cX1_hasSeal 4 = .ok (.invokevirtual 24, 3) := by decide +kernel
theorem dX1_hasSeal_7 : decode cX1_hasSeal 7 = .ok (.iconst 1, 1) := by decide +kernel
theorem dX1_hasSeal_8 : decode cX1_hasSeal 8 = .ok (.isub, 1) := by decide +kernel
theorem dX1_hasSeal_9 : decode cX1_hasSeal 9 = .ok (.invokestatic 28, 3) := by decide +kernel
theorem dX1_hasSeal_12 : decode cX1_hasSeal 12 = .ok (.ireturn, 1) := by decide +kernel
set_option maxRecDepth 20000 in
theorem ggX1_addSeal_X1_number : GoodIn wsX1_addSeal wsX1_number := goodIn_r _ [5, 6, 19] (by decide +kernel) (by decide +kernel)
set_option maxRecDepth 20000 in
theorem gX1_addSeal_X1_number : GoodIn wsX1_addSeal (wsV RX1 24 RX1 yX1_number wsX1_number) := goodIn_app (goodIn_of _ (by decide +kernel)) ggX1_addSeal_X1_number
set_option maxRecDepth 20000 in
theorem ggX1_addSeal_X1_setOfSeal : GoodIn wsX1_addSeal wsX1_setOfSeal := goodIn_r _ [10, 6, 19] (by decide +kernel) (by decide +kernel)
set_option maxRecDepth 20000 in
theorem gX1_addSeal_X1_setOfSeal : GoodIn wsX1_addSeal (wsV RX1 50 RX1 yX1_setOfSeal wsX1_setOfSeal) := goodIn_app (goodIn_of _ (by decide +kernel)) ggX1_addSeal_X1_setOfSeal
set_option maxRecDepth 20000 in
theorem ggX1_addSeal_X1_ofEntry : GoodIn wsX1_addSeal wsX1_ofEntry := goodIn_r _ [14, 6, 19] (by decide +kernel) (by decide +kernel)
set_option maxRecDepth 20000 in
theorem gX1_addSeal_X1_ofEntry : GoodIn wsX1_addSeal (wsV RX1 35 RX1 yX1_ofEntry wsX1_ofEntry) := goodIn_app (goodIn_of _ (by decide +kernel)) ggX1_addSeal_X1_ofEntry
set_option maxRecDepth 20000 in
theorem ggX1_addSeal_X1_setNumber : GoodIn wsX1_addSeal wsX1_setNumber := goodIn_r _ [18, 6, 19] (by decide +kernel) (by decide +kernel)
set_option maxRecDepth 20000 in
theorem gX1_addSeal_X1_setNumber : GoodIn wsX1_addSeal (wsV RX1 15 RX1 yX1_setNumber wsX1_setNumber) := goodIn_app (goodIn_of _ (by decide +kernel)) ggX1_addSeal_X1_setNumber
theorem dX1_addSeal_0 : decode cX1_addSeal 0 = .ok (.aload_n 0, 1) := by decide +kernel
theorem dX1_addSeal_1 : decode cX1_addSeal 1 = .ok (.iconst 4, 1) := by decide +kernel
theorem dX1_addSeal_2 : decode cX1_addSeal 2 = .ok (.invokevirtual 24, 3) := by decide +kernel
theorem dX1_addSeal_5 : decode cX1_addSeal 5 = .ok (.istore_n 1, 1) := by decide +kernel
theorem dX1_addSeal_6 : decode cX1_addSeal 6 = .ok (.aload_n 0, 1) := by decide +kernel
theorem dX1_addSeal_7 : decode cX1_addSeal 7 = .ok (.iload_n 1, 1) := by decide +kernel
theorem dX1_addSeal_8 : decode cX1_addSeal 8 = .ok (.iconst 0, 1) := by decide +kernel
theorem dX1_addSeal_9 : decode cX1_addSeal 9 = .ok (.aload_n 0, 1) := by decide +kernel
theorem dX1_addSeal_10 : decode cX1_addSeal 10 = .ok (.iconst 1, 1) := by decide +kernel
theorem dX1_addSeal_11 : decode cX1_addSeal 11 = .ok (.invokevirtual 24, 3) := by decide +kernel
theorem dX1_addSeal_14 : decode cX1_addSeal 14 = .ok (.invokevirtual 50, 3) := by decide +kernel
theorem dX1_addSeal_17 : decode cX1_addSeal 17 = .ok (.aload_n 0, 1) := by decide +kernel
theorem dX1_addSeal_18 : decode cX1_addSeal 18 = .ok (.iload_n 1, 1) := by decide +kernel
theorem dX1_addSeal_19 : decode cX1_addSeal 19 = .ok (.iconst 1, 1) := by decide +kernel
theorem dX1_addSeal_20 : decode cX1_addSeal 20 = .ok (.aload_n 0, 1) := by decide +kernel
theorem dX1_addSeal_21 : decode cX1_addSeal 21 = .ok (.aload_n 0, 1) := by decide +kernel
theorem dX1_addSeal_22 : decode cX1_addSeal 22 = .ok (.iconst 1, 1) := by decide +kernel
theorem dX1_addSeal_23 : decode cX1_addSeal 23 = .ok (.invokevirtual 24, 3) := by decide +kernel
theorem dX1_addSeal_26 : decode cX1_addSeal 26 = .ok (.iconst 5, 1) := by decide +kernel
theorem dX1_addSeal_27 : decode cX1_addSeal 27 = .ok (.invokevirtual 35, 3) := by decide +kernel
theorem dX1_addSeal_30 : decode cX1_addSeal 30 = .ok (.invokevirtual 50, 3) := by decide +kernel
theorem dX1_addSeal_33 : decode cX1_addSeal 33 = .ok (.aload_n 0, 1) := by decide +kernel
theorem dX1_addSeal_34 : decode cX1_addSeal 34 = .ok (.iconst 4, 1) := by decide +kernel
theorem dX1_addSeal_35 : decode cX1_addSeal 35 = .ok (.iload_n 1, 1) := by decide +kernel
theorem dX1_addSeal_36 : decode cX1_addSeal 36 = .ok (.iconst 1, 1) := by decide +kernel
theorem dX1_addSeal_37 : decode cX1_addSeal 37 = .ok (.iadd, 1) := by decide +kernel
theorem dX1_addSeal_38 : decode cX1_addSeal 38 = .ok (.invokevirtual 15, 3) := by decide +kernel
theorem dX1_addSeal_41 : decode cX1_addSeal 41 = .ok (.iload_n 1, 1) := by decide +kernel
theorem dX1_addSeal_42 : decode cX1_addSeal 42 = .ok (.ireturn, 1) := by decide +kernel
set_option maxRecDepth 20000 in
theorem ggX1_sealFits_X1_ofSeal : GoodIn wsX1_sealFits wsX1_ofSeal := goodIn_r _ [5, 6, 11] (by decide +kernel) (by decide +kernel)
set_option maxRecDepth 20000 in
theorem gX1_sealFits_X1_ofSeal : GoodIn wsX1_sealFits (wsV RX1 53 RX1 yX1_ofSeal wsX1_ofSeal) := goodIn_app (goodIn_of _ (by decide +kernel)) ggX1_sealFits_X1_ofSeal
set_option maxRecDepth 20000 in
theorem ggX1_sealFits_X1_ofEntry : GoodIn wsX1_sealFits wsX1_ofEntry := goodIn_r _ [10, 6, 11] (by decide +kernel) (by decide +kernel)
set_option maxRecDepth 20000 in
theorem gX1_sealFits_X1_ofEntry : GoodIn wsX1_sealFits (wsV RX1 35 RX1 yX1_ofEntry wsX1_ofEntry) := goodIn_app (goodIn_of _ (by decide +kernel)) ggX1_sealFits_X1_ofEntry
theorem dX1_sealFits_0 : decode cX1_sealFits 0 = .ok (.aload_n 0, 1) := by decide +kernel
theorem dX1_sealFits_1 : decode cX1_sealFits 1 = .ok (.aload_n 0, 1) := by decide +kernel
theorem dX1_sealFits_2 : decode cX1_sealFits 2 = .ok (.iload_n 1, 1) := by decide +kernel
theorem dX1_sealFits_3 : decode cX1_sealFits 3 = .ok (.iconst 0, 1) := by decide +kernel
theorem dX1_sealFits_4 : decode cX1_sealFits 4 = .ok (.invokevirtual 53, 3) := by decide +kernel
theorem dX1_sealFits_7 : decode cX1_sealFits 7 = .ok (.iconst 5, 1) := by decide +kernel
theorem dX1_sealFits_8 : decode cX1_sealFits 8 = .ok (.invokevirtual 35, 3) := by decide +kernel
theorem dX1_sealFits_11 : decode cX1_sealFits 11 = .ok (.aload_n 0, 1) := by decide +kernel
theorem dX1_sealFits_12 : decode cX1_sealFits 12 = .ok (.iload_n 1, 1) := by decide +kernel
theorem dX1_sealFits_13 : decode cX1_sealFits 13 = .ok (.iconst 1, 1) := by decide +kernel
theorem dX1_sealFits_14 : decode cX1_sealFits 14 = .ok (.invokevirtual 53, 3) := by decide +kernel
theorem dX1_sealFits_17 : decode cX1_sealFits 17 = .ok (.if_icmp .ne 7, 3) := by decide +kernel
theorem dX1_sealFits_20 : decode cX1_sealFits 20 = .ok (.iconst 1, 1) := by decide +kernel
theorem dX1_sealFits_21 : decode cX1_sealFits 21 = .ok (.goto 4, 3) := by decide +kernel
theorem dX1_sealFits_24 : decode cX1_sealFits 24 = .ok (.iconst 0, 1) := by decide +kernel
theorem dX1_sealFits_25 : decode cX1_sealFits 25 = .ok (.ireturn, 1) := by decide +kernel
set_option maxRecDepth 20000 in
theorem ggX1_brokenSeals_X1_number : GoodIn wsX1_brokenSeals wsX1_number := goodIn_r _ [5, 6, 19] (by decide +kernel) (by decide +kernel)
set_option maxRecDepth 20000 in
theorem gX1_brokenSeals_X1_number : GoodIn wsX1_brokenSeals (wsV RX1 24 RX1 yX1_number wsX1_number) := goodIn_app (goodIn_of _ (by decide +kernel)) ggX1_brokenSeals_X1_number
set_option maxRecDepth 20000 in
theorem ggX1_brokenSeals_X1_sealFits : GoodIn wsX1_brokenSeals wsX1_sealFits := goodIn_r _ [10, 11, 12, 13, 4, 14, 6, 15, 16, 17, 18, 19] (by decide +kernel) (by decide +kernel)
set_option maxRecDepth 20000 in
theorem gX1_brokenSeals_X1_sealFits : GoodIn wsX1_brokenSeals (wsV RX1 56 RX1 yX1_sealFits wsX1_sealFits) := goodIn_app (goodIn_of _ (by decide +kernel)) ggX1_brokenSeals_X1_sealFits
theorem dX1_brokenSeals_0 : decode cX1_brokenSeals 0 = .ok (.iconst 0, 1) := by decide +kernel
theorem dX1_brokenSeals_1 : decode cX1_brokenSeals 1 = .ok (.istore_n 1, 1) := by decide +kernel
theorem dX1_brokenSeals_2 : decode cX1_brokenSeals 2 = .ok (.iconst 0, 1) := by decide +kernel
theorem dX1_brokenSeals_3 : decode cX1_brokenSeals 3 = .ok (.istore_n 2, 1) := by decide +kernel
theorem dX1_brokenSeals_4 : decode cX1_brokenSeals 4 = .ok (.iload_n 2, 1) := by decide +kernel
theorem dX1_brokenSeals_5 : decode cX1_brokenSeals 5 = .ok (.aload_n 0, 1) := by decide +kernel
theorem dX1_brokenSeals_6 : decode cX1_brokenSeals 6 = .ok (.iconst 4, 1) := by decide +kernel
theorem dX1_brokenSeals_7 : decode cX1_brokenSeals 7 = .ok (.invokevirtual 24, 3) := by decide +kernel
theorem dX1_brokenSeals_10 : decode cX1_brokenSeals 10 = .ok (.if_icmp .ge 20, 3) := by decide +kernel
theorem dX1_brokenSeals_13 : decode cX1_brokenSeals 13 = .ok (.aload_n 0, 1) := by decide +kernel
theorem dX1_brokenSeals_14 : decode cX1_brokenSeals 14 = .ok (.iload_n 2, 1) := by decide +kernel
theorem dX1_brokenSeals_15 : decode cX1_brokenSeals 15 = .ok (.invokevirtual 56, 3) := by decide +kernel
theorem dX1_brokenSeals_18 : decode cX1_brokenSeals 18 = .ok (.ifCond .ne 6, 3) := by decide +kernel
theorem dX1_brokenSeals_21 : decode cX1_brokenSeals 21 = .ok (.iinc 1 1, 3) := by decide +kernel
theorem dX1_brokenSeals_24 : decode cX1_brokenSeals 24 = .ok (.iinc 2 1, 3) := by decide +kernel
theorem dX1_brokenSeals_27 : decode cX1_brokenSeals 27 = .ok (.goto (-23), 3) := by decide +kernel
theorem dX1_brokenSeals_30 : decode cX1_brokenSeals 30 = .ok (.iload_n 1, 1) := by decide +kernel
theorem dX1_brokenSeals_31 : decode cX1_brokenSeals 31 = .ok (.ireturn, 1) := by decide +kernel
set_option maxRecDepth 20000 in
theorem ggX1_hasBranch_X1_number : GoodIn wsX1_hasBranch wsX1_number := goodIn_r _ [5, 6, 10] (by decide +kernel) (by decide +kernel)
set_option maxRecDepth 20000 in
theorem gX1_hasBranch_X1_number : GoodIn wsX1_hasBranch (wsV RX1 24 RX1 yX1_number wsX1_number) := goodIn_app (goodIn_of _ (by decide +kernel)) ggX1_hasBranch_X1_number
set_option maxRecDepth 20000 in
theorem ggX1_hasBranch_X7_isWithin : GoodIn wsX1_hasBranch wsX7_isWithin := goodIn_r _ [9] (by decide +kernel) (by decide +kernel)
set_option maxRecDepth 20000 in
theorem gX1_hasBranch_X7_isWithin_n28 : GoodIn wsX1_hasBranch (wsX7_isWithin) := ggX1_hasBranch_X7_isWithin
theorem dX1_hasBranch_0 : decode cX1_hasBranch 0 = .ok (.iload_n 1, 1) := by decide +kernel
theorem dX1_hasBranch_1 : decode cX1_hasBranch 1 = .ok (.iconst 0, 1) := by decide +kernel
theorem dX1_hasBranch_2 : decode cX1_hasBranch 2 = .ok (.aload_n 0, 1) := by decide +kernel
theorem dX1_hasBranch_3 : decode cX1_hasBranch 3 = .ok (.iconst 3, 1) := by decide +kernel
theorem dX1_hasBranch_4 : decode cX1_hasBranch 4 = .ok (.invokevirtual 24, 3) := by decide +kernel
theorem dX1_hasBranch_7 : decode cX1_hasBranch 7 = .ok (.iconst 1, 1) := by decide +kernel
theorem dX1_hasBranch_8 : decode cX1_hasBranch 8 = .ok (.isub, 1) := by decide +kernel
theorem dX1_hasBranch_9 : decode cX1_hasBranch 9 = .ok (.invokestatic 28, 3) := by decide +kernel
theorem dX1_hasBranch_12 : decode cX1_hasBranch 12 = .ok (.ireturn, 1) := by decide +kernel
set_option maxRecDepth 20000 in
theorem ggX1_addBranch_X1_number : GoodIn wsX1_addBranch wsX1_number := goodIn_r _ [5, 6, 15] (by decide +kernel) (by decide +kernel)
set_option maxRecDepth 20000 in
theorem gX1_addBranch_X1_number : GoodIn wsX1_addBranch (wsV RX1 24 RX1 yX1_number wsX1_number) := goodIn_app (goodIn_of _ (by decide +kernel)) ggX1_addBranch_X1_number
set_option maxRecDepth 20000 in
theorem ggX1_addBranch_X1_setOfBranch : GoodIn wsX1_addBranch wsX1_setOfBranch := goodIn_r _ [10, 6, 15] (by decide +kernel) (by decide +kernel)
set_option maxRecDepth 20000 in
theorem gX1_addBranch_X1_setOfBranch : GoodIn wsX1_addBranch (wsV RX1 59 RX1 yX1_setOfBranch wsX1_setOfBranch) := goodIn_app (goodIn_of _ (by decide +kernel)) ggX1_addBranch_X1_setOfBranch
set_option maxRecDepth 20000 in
theorem ggX1_addBranch_X1_setNumber : GoodIn wsX1_addBranch wsX1_setNumber := goodIn_r _ [14, 6, 15] (by decide +kernel) (by decide +kernel)
set_option maxRecDepth 20000 in
theorem gX1_addBranch_X1_setNumber : GoodIn wsX1_addBranch (wsV RX1 15 RX1 yX1_setNumber wsX1_setNumber) := goodIn_app (goodIn_of _ (by decide +kernel)) ggX1_addBranch_X1_setNumber
theorem dX1_addBranch_0 : decode cX1_addBranch 0 = .ok (.aload_n 0, 1) := by decide +kernel
theorem dX1_addBranch_1 : decode cX1_addBranch 1 = .ok (.iconst 3, 1) := by decide +kernel
theorem dX1_addBranch_2 : decode cX1_addBranch 2 = .ok (.invokevirtual 24, 3) := by decide +kernel
theorem dX1_addBranch_5 : decode cX1_addBranch 5 = .ok (.istore 4, 2) := by decide +kernel
theorem dX1_addBranch_7 : decode cX1_addBranch 7 = .ok (.aload_n 0, 1) := by decide +kernel
theorem dX1_addBranch_8 : decode cX1_addBranch 8 = .ok (.iload 4, 2) := by decide +kernel
theorem dX1_addBranch_10 : decode cX1_addBranch 10 = .ok (.iconst 0, 1) := by decide +kernel
theorem dX1_addBranch_11 : decode cX1_addBranch 11 = .ok (.iload_n 1, 1) := by decide +kernel
theorem dX1_addBranch_12 : decode cX1_addBranch 12 = .ok (.invokevirtual 59, 3) := by decide +kernel
theorem dX1_addBranch_15 : decode cX1_addBranch 15 = .ok (.aload_n 0, 1) := by decide +kernel
theorem dX1_addBranch_16 : decode cX1_addBranch 16 = .ok (.iload 4, 2) := by decide +kernel
theorem dX1_addBranch_18 : decode cX1_addBranch 18 = .ok (.iconst 1, 1) := by decide +kernel
theorem dX1_addBranch_19 : decode cX1_addBranch 19 = .ok (.iload_n 2, 1) := by decide +kernel
theorem dX1_addBranch_20 : decode cX1_addBranch 20 = .ok (.invokevirtual 59, 3) := by decide +kernel
theorem dX1_addBranch_23 : decode cX1_addBranch 23 = .ok (.aload_n 0, 1) := by decide +kernel
theorem dX1_addBranch_24 : decode cX1_addBranch 24 = .ok (.iload 4, 2) := by decide +kernel
theorem dX1_addBranch_26 : decode cX1_addBranch 26 = .ok (.iconst 2, 1) := by decide +kernel
theorem dX1_addBranch_27 : decode cX1_addBranch 27 = .ok (.iload_n 3, 1) := by decide +kernel
theorem dX1_addBranch_28 : decode cX1_addBranch 28 = .ok (.invokevirtual 59, 3) := by decide +kernel
theorem dX1_addBranch_31 : decode cX1_addBranch 31 = .ok (.aload_n 0, 1) := by decide +kernel
theorem dX1_addBranch_32 : decode cX1_addBranch 32 = .ok (.iload 4, 2) := by decide +kernel
theorem dX1_addBranch_34 : decode cX1_addBranch 34 = .ok (.iconst 3, 1) := by decide +kernel
theorem dX1_addBranch_35 : decode cX1_addBranch 35 = .ok (.iconst 0, 1) := by decide +kernel
theorem dX1_addBranch_36 : decode cX1_addBranch 36 = .ok (.invokevirtual 59, 3) := by decide +kernel
theorem dX1_addBranch_39 : decode cX1_addBranch 39 = .ok (.aload_n 0, 1) := by decide +kernel
theorem dX1_addBranch_40 : decode cX1_addBranch 40 = .ok (.iload 4, 2) := by decide +kernel
theorem dX1_addBranch_42 : decode cX1_addBranch 42 = .ok (.iconst 4, 1) := by decide +kernel
theorem dX1_addBranch_43 : decode cX1_addBranch 43 = .ok (.iconst 0, 1) := by decide +kernel
theorem dX1_addBranch_44 : decode cX1_addBranch 44 = .ok (.invokevirtual 59, 3) := by decide +kernel
theorem dX1_addBranch_47 : decode cX1_addBranch 47 = .ok (.aload_n 0, 1) := by decide +kernel
theorem dX1_addBranch_48 : decode cX1_addBranch 48 = .ok (.iconst 3, 1) := by decide +kernel
theorem dX1_addBranch_49 : decode cX1_addBranch 49 = .ok (.iload 4, 2) := by decide +kernel
theorem dX1_addBranch_51 : decode cX1_addBranch 51 = .ok (.iconst 1, 1) := by decide +kernel
theorem dX1_addBranch_52 : decode cX1_addBranch 52 = .ok (.iadd, 1) := by decide +kernel
theorem dX1_addBranch_53 : decode cX1_addBranch 53 = .ok (.invokevirtual 15, 3) := by decide +kernel
theorem dX1_addBranch_56 : decode cX1_addBranch 56 = .ok (.return_, 1) := by decide +kernel
set_option maxRecDepth 20000 in
theorem ggX1_isWaiting_X1_ofBranch : GoodIn wsX1_isWaiting wsX1_ofBranch := goodIn_r _ [5, 6, 7] (by decide +kernel) (by decide +kernel)
set_option maxRecDepth 20000 in
theorem gX1_isWaiting_X1_ofBranch : GoodIn wsX1_isWaiting (wsV RX1 62 RX1 yX1_ofBranch wsX1_ofBranch) := goodIn_app (goodIn_of _ (by decide +kernel)) ggX1_isWaiting_X1_ofBranch
theorem dX1_isWaiting_0 : decode cX1_isWaiting 0 = .ok (.aload_n 0, 1) := by decide +kernel
theorem dX1_isWaiting_1 : decode cX1_isWaiting 1 = .ok (.iload_n 1, 1) := by decide +kernel
theorem dX1_isWaiting_2 : decode cX1_isWaiting 2 = .ok (.iconst 4, 1) := by decide +kernel
theorem dX1_isWaiting_3 : decode cX1_isWaiting 3 = .ok (.invokevirtual 62, 3) := by decide +kernel
theorem dX1_isWaiting_6 : decode cX1_isWaiting 6 = .ok (.ifCond .ne 7, 3) := by decide +kernel
theorem dX1_isWaiting_9 : decode cX1_isWaiting 9 = .ok (.iconst 1, 1) := by decide +kernel
theorem dX1_isWaiting_10 : decode cX1_isWaiting 10 = .ok (.goto 4, 3) := by decide +kernel
theorem dX1_isWaiting_13 : decode cX1_isWaiting 13 = .ok (.iconst 0, 1) := by decide +kernel
theorem dX1_isWaiting_14 : decode cX1_isWaiting 14 = .ok (.ireturn, 1) := by decide +kernel
set_option maxRecDepth 20000 in
theorem ggX1_isLoud_X1_isWaiting : GoodIn wsX1_isLoud wsX1_isWaiting := goodIn_r _ [5, 6, 7, 8, 4, 9, 10, 15] (by decide +kernel) (by decide +kernel)
set_option maxRecDepth 20000 in
theorem gX1_isLoud_X1_isWaiting : GoodIn wsX1_isLoud (wsV RX1 65 RX1 yX1_isWaiting wsX1_isWaiting) := goodIn_app (goodIn_of _ (by decide +kernel)) ggX1_isLoud_X1_isWaiting
set_option maxRecDepth 20000 in
theorem ggX1_isLoud_X1_ofBranch : GoodIn wsX1_isLoud wsX1_ofBranch := goodIn_r _ [9, 10, 15] (by decide +kernel) (by decide +kernel)
set_option maxRecDepth 20000 in
theorem gX1_isLoud_X1_ofBranch : GoodIn wsX1_isLoud (wsV RX1 62 RX1 yX1_ofBranch wsX1_ofBranch) := goodIn_app (goodIn_of _ (by decide +kernel)) ggX1_isLoud_X1_ofBranch
set_option maxRecDepth 20000 in
theorem ggX1_isLoud_X1_number : GoodIn wsX1_isLoud wsX1_number := goodIn_r _ [14, 10, 15] (by decide +kernel) (by decide +kernel)
set_option maxRecDepth 20000 in
theorem gX1_isLoud_X1_number : GoodIn wsX1_isLoud (wsV RX1 24 RX1 yX1_number wsX1_number) := goodIn_app (goodIn_of _ (by decide +kernel)) ggX1_isLoud_X1_number
theorem dX1_isLoud_0 : decode cX1_isLoud 0 = .ok (.aload_n 0, 1) := by decide +kernel
theorem dX1_isLoud_1 : decode cX1_isLoud 1 = .ok (.iload_n 1, 1) := by decide +kernel
theorem dX1_isLoud_2 : decode cX1_isLoud 2 = .ok (.invokevirtual 65, 3) := by decide +kernel
theorem dX1_isLoud_5 : decode cX1_isLoud 5 = .ok (.ifCond .eq 21, 3) := by decide +kernel
theorem dX1_isLoud_8 : decode cX1_isLoud 8 = .ok (.aload_n 0, 1) := by decide +kernel
theorem dX1_isLoud_9 : decode cX1_isLoud 9 = .ok (.iload_n 1, 1) := by decide +kernel
theorem dX1_isLoud_10 : decode cX1_isLoud 10 = .ok (.iconst 3, 1) := by decide +kernel
theorem dX1_isLoud_11 : decode cX1_isLoud 11 = .ok (.invokevirtual 62, 3) := by decide +kernel
theorem dX1_isLoud_14 : decode cX1_isLoud 14 = .ok (.aload_n 0, 1) := by decide +kernel
theorem dX1_isLoud_15 : decode cX1_isLoud 15 = .ok (.iconst 2, 1) := by decide +kernel
theorem dX1_isLoud_16 : decode cX1_isLoud 16 = .ok (.invokevirtual 24, 3) := by decide +kernel
theorem dX1_isLoud_19 : decode cX1_isLoud 19 = .ok (.if_icmp .lt 7, 3) := by decide +kernel
theorem dX1_isLoud_22 : decode cX1_isLoud 22 = .ok (.iconst 1, 1) := by decide +kernel
theorem dX1_isLoud_23 : decode cX1_isLoud 23 = .ok (.goto 4, 3) := by decide +kernel
theorem dX1_isLoud_26 : decode cX1_isLoud 26 = .ok (.iconst 0, 1) := by decide +kernel
theorem dX1_isLoud_27 : decode cX1_isLoud 27 = .ok (.ireturn, 1) := by decide +kernel
set_option maxRecDepth 20000 in
theorem ggX1_plead_X1_number : GoodIn wsX1_plead wsX1_number := goodIn_r _ [5, 6, 19] (by decide +kernel) (by decide +kernel)
set_option maxRecDepth 20000 in
theorem gX1_plead_X1_number : GoodIn wsX1_plead (wsV RX1 24 RX1 yX1_number wsX1_number) := goodIn_app (goodIn_of _ (by decide +kernel)) ggX1_plead_X1_number
set_option maxRecDepth 20000 in
theorem ggX1_plead_X1_isWaiting : GoodIn wsX1_plead wsX1_isWaiting := goodIn_r _ [10, 11, 12, 13, 4, 14, 6, 19] (by decide +kernel) (by decide +kernel)
set_option maxRecDepth 20000 in
theorem gX1_plead_X1_isWaiting : GoodIn wsX1_plead (wsV RX1 65 RX1 yX1_isWaiting wsX1_isWaiting) := goodIn_app (goodIn_of _ (by decide +kernel)) ggX1_plead_X1_isWaiting
set_option maxRecDepth 20000 in
theorem ggX1_plead_X1_ofBranch : GoodIn wsX1_plead wsX1_ofBranch := goodIn_r _ [14, 6, 19] (by decide +kernel) (by decide +kernel)
set_option maxRecDepth 20000 in
theorem gX1_plead_X1_ofBranch : GoodIn wsX1_plead (wsV RX1 62 RX1 yX1_ofBranch wsX1_ofBranch) := goodIn_app (goodIn_of _ (by decide +kernel)) ggX1_plead_X1_ofBranch
set_option maxRecDepth 20000 in
theorem ggX1_plead_X1_setOfBranch : GoodIn wsX1_plead wsX1_setOfBranch := goodIn_r _ [18, 6, 19] (by decide +kernel) (by decide +kernel)
set_option maxRecDepth 20000 in
theorem gX1_plead_X1_setOfBranch : GoodIn wsX1_plead (wsV RX1 59 RX1 yX1_setOfBranch wsX1_setOfBranch) := goodIn_app (goodIn_of _ (by decide +kernel)) ggX1_plead_X1_setOfBranch
theorem dX1_plead_0 : decode cX1_plead 0 = .ok (.iconst 0, 1) := by decide +kernel
theorem dX1_plead_1 : decode cX1_plead 1 = .ok (.istore_n 1, 1) := by decide +kernel
theorem dX1_plead_2 : decode cX1_plead 2 = .ok (.iload_n 1, 1) := by decide +kernel
theorem dX1_plead_3 : decode cX1_plead 3 = .ok (.aload_n 0, 1) := by decide +kernel
theorem dX1_plead_4 : decode cX1_plead 4 = .ok (.iconst 3, 1) := by decide +kernel
theorem dX1_plead_5 : decode cX1_plead 5 = .ok (.invokevirtual 24, 3) := by decide +kernel
theorem dX1_plead_8 : decode cX1_plead 8 = .ok (.if_icmp .ge 31, 3) := by decide +kernel
theorem dX1_plead_11 : decode cX1_plead 11 = .ok (.aload_n 0, 1) := by decide +kernel
theorem dX1_plead_12 : decode cX1_plead 12 = .ok (.iload_n 1, 1) := by decide +kernel
theorem dX1_plead_13 : decode cX1_plead 13 = .ok (.invokevirtual 65, 3) := by decide +kernel
theorem dX1_plead_16 : decode cX1_plead 16 = .ok (.ifCond .eq 17, 3) := by decide +kernel
theorem dX1_plead_19 : decode cX1_plead 19 = .ok (.aload_n 0, 1) := by decide +kernel
theorem dX1_plead_20 : decode cX1_plead 20 = .ok (.iload_n 1, 1) := by decide +kernel
theorem dX1_plead_21 : decode cX1_plead 21 = .ok (.iconst 3, 1) := by decide +kernel
theorem dX1_plead_22 : decode cX1_plead 22 = .ok (.aload_n 0, 1) := by decide +kernel
theorem dX1_plead_23 : decode cX1_plead 23 = .ok (.iload_n 1, 1) := by decide +kernel
theorem dX1_plead_24 : decode cX1_plead 24 = .ok (.iconst 3, 1) := by decide +kernel
theorem dX1_plead_25 : decode cX1_plead 25 = .ok (.invokevirtual 62, 3) := by decide +kernel
theorem dX1_plead_28 : decode cX1_plead 28 = .ok (.iconst 1, 1) := by decide +kernel
theorem dX1_plead_29 : decode cX1_plead 29 = .ok (.iadd, 1) := by decide +kernel
theorem dX1_plead_30 : decode cX1_plead 30 = .ok (.invokevirtual 59, 3) := by decide +kernel
theorem dX1_plead_33 : decode cX1_plead 33 = .ok (.iinc 1 1, 3) := by decide +kernel
theorem dX1_plead_36 : decode cX1_plead 36 = .ok (.goto (-34), 3) := by decide +kernel
theorem dX1_plead_39 : decode cX1_plead 39 = .ok (.return_, 1) := by decide +kernel
set_option maxRecDepth 20000 in
theorem ggX1_waitingBranches_X1_number : GoodIn wsX1_waitingBranches wsX1_number := goodIn_r _ [5, 6, 15] (by decide +kernel) (by decide +kernel)
set_option maxRecDepth 20000 in
theorem gX1_waitingBranches_X1_number : GoodIn wsX1_waitingBranches (wsV RX1 24 RX1 yX1_number wsX1_number) := goodIn_app (goodIn_of _ (by decide +kernel)) ggX1_waitingBranches_X1_number
set_option maxRecDepth 20000 in
theorem ggX1_waitingBranches_X1_isWaiting : GoodIn wsX1_waitingBranches wsX1_isWaiting := goodIn_r _ [10, 11, 12, 13, 4, 14, 6, 15] (by decide +kernel) (by decide +kernel)
set_option maxRecDepth 20000 in
theorem gX1_waitingBranches_X1_isWaiting : GoodIn wsX1_waitingBranches (wsV RX1 65 RX1 yX1_isWaiting wsX1_isWaiting) := goodIn_app (goodIn_of _ (by decide +kernel)) ggX1_waitingBranches_X1_isWaiting
theorem dX1_waitingBranches_0 : decode cX1_waitingBranches 0 = .ok (.iconst 0, 1) := by decide +kernel
theorem dX1_waitingBranches_1 : decode cX1_waitingBranches 1 = .ok (.istore_n 1, 1) := by decide +kernel
theorem dX1_waitingBranches_2 : decode cX1_waitingBranches 2 = .ok (.iconst 0, 1) := by decide +kernel
theorem dX1_waitingBranches_3 : decode cX1_waitingBranches 3 = .ok (.istore_n 2, 1) := by decide +kernel
theorem dX1_waitingBranches_4 : decode cX1_waitingBranches 4 = .ok (.iload_n 2, 1) := by decide +kernel
theorem dX1_waitingBranches_5 : decode cX1_waitingBranches 5 = .ok (.aload_n 0, 1) := by decide +kernel
theorem dX1_waitingBranches_6 : decode cX1_waitingBranches 6 = .ok (.iconst 3, 1) := by decide +kernel
theorem dX1_waitingBranches_7 : decode cX1_waitingBranches 7 = .ok (.invokevirtual 24, 3) := by decide +kernel
theorem dX1_waitingBranches_10 : decode cX1_waitingBranches 10 = .ok (.if_icmp .ge 20, 3) := by decide +kernel
theorem dX1_waitingBranches_13 : decode cX1_waitingBranches 13 = .ok (.aload_n 0, 1) := by decide +kernel
theorem dX1_waitingBranches_14 : decode cX1_waitingBranches 14 = .ok (.iload_n 2, 1) := by decide +kernel
theorem dX1_waitingBranches_15 : decode cX1_waitingBranches 15 = .ok (.invokevirtual 65, 3) := by decide +kernel
theorem dX1_waitingBranches_18 : decode cX1_waitingBranches 18 = .ok (.ifCond .eq 6, 3) := by decide +kernel
theorem dX1_waitingBranches_21 : decode cX1_waitingBranches 21 = .ok (.iinc 1 1, 3) := by decide +kernel
theorem dX1_waitingBranches_24 : decode cX1_waitingBranches 24 = .ok (.iinc 2 1, 3) := by decide +kernel
theorem dX1_waitingBranches_27 : decode cX1_waitingBranches 27 = .ok (.goto (-23), 3) := by decide +kernel
theorem dX1_waitingBranches_30 : decode cX1_waitingBranches 30 = .ok (.iload_n 1, 1) := by decide +kernel
theorem dX1_waitingBranches_31 : decode cX1_waitingBranches 31 = .ok (.ireturn, 1) := by decide +kernel
set_option maxRecDepth 20000 in
theorem ggX1_loudBranches_X1_number : GoodIn wsX1_loudBranches wsX1_number := goodIn_r _ [5, 6, 19] (by decide +kernel) (by decide +kernel)
set_option maxRecDepth 20000 in
theorem gX1_loudBranches_X1_number : GoodIn wsX1_loudBranches (wsV RX1 24 RX1 yX1_number wsX1_number) := goodIn_app (goodIn_of _ (by decide +kernel)) ggX1_loudBranches_X1_number
set_option maxRecDepth 20000 in
theorem ggX1_loudBranches_X1_isLoud : GoodIn wsX1_loudBranches wsX1_isLoud := goodIn_r _ [10, 11, 12, 13, 4, 14, 15, 16, 17, 18, 6, 1, 2, 3, 5, 19] (by decide +kernel) (by decide +kernel)
set_option maxRecDepth 20000 in
theorem gX1_loudBranches_X1_isLoud : GoodIn wsX1_loudBranches (wsV RX1 68 RX1 yX1_isLoud wsX1_isLoud) := goodIn_app (goodIn_of _ (by decide +kernel)) ggX1_loudBranches_X1_isLoud
theorem dX1_loudBranches_0 : decode cX1_loudBranches 0 = .ok (.iconst 0, 1) := by decide +kernel
theorem dX1_loudBranches_1 : decode cX1_loudBranches 1 = .ok (.istore_n 1, 1) := by decide +kernel
theorem dX1_loudBranches_2 : decode cX1_loudBranches 2 = .ok (.iconst 0, 1) := by decide +kernel
theorem dX1_loudBranches_3 : decode cX1_loudBranches 3 = .ok (.istore_n 2, 1) := by decide +kernel
theorem dX1_loudBranches_4 : decode cX1_loudBranches 4 = .ok (.iload_n 2, 1) := by decide +kernel
theorem dX1_loudBranches_5 : decode cX1_loudBranches 5 = .ok (.aload_n 0, 1) := by decide +kernel
theorem dX1_loudBranches_6 : decode cX1_loudBranches 6 = .ok (.iconst 3, 1) := by decide +kernel
theorem dX1_loudBranches_7 : decode cX1_loudBranches 7 = .ok (.invokevirtual 24, 3) := by decide +kernel
theorem dX1_loudBranches_10 : decode cX1_loudBranches 10 = .ok (.if_icmp .ge 20, 3) := by decide +kernel
theorem dX1_loudBranches_13 : decode cX1_loudBranches 13 = .ok (.aload_n 0, 1) := by decide +kernel
theorem dX1_loudBranches_14 : decode cX1_loudBranches 14 = .ok (.iload_n 2, 1) := by decide +kernel
theorem dX1_loudBranches_15 : decode cX1_loudBranches 15 = .ok (.invokevirtual 68, 3) := by decide +kernel
theorem dX1_loudBranches_18 : decode cX1_loudBranches 18 = .ok (.ifCond .eq 6, 3) := by decide +kernel
theorem dX1_loudBranches_21 : decode cX1_loudBranches 21 = .ok (.iinc 1 1, 3) := by decide +kernel
theorem dX1_loudBranches_24 : decode cX1_loudBranches 24 = .ok (.iinc 2 1, 3) := by decide +kernel
theorem dX1_loudBranches_27 : decode cX1_loudBranches 27 = .ok (.goto (-23), 3) := by decide +kernel
theorem dX1_loudBranches_30 : decode cX1_loudBranches 30 = .ok (.iload_n 1, 1) := by decide +kernel
theorem dX1_loudBranches_31 : decode cX1_loudBranches 31 = .ok (.ireturn, 1) := by decide +kernel
set_option maxRecDepth 20000 in
theorem ggX1_isEmpty_X7_isSlot : GoodIn wsX1_isEmpty wsX7_isSlot := goodIn_r _ [4, 5, 6, 3, 7] (by decide +kernel) (by decide +kernel)
set_option maxRecDepth 20000 in
theorem gX1_isEmpty_X7_isSlot_n71 : GoodIn wsX1_isEmpty (wsX7_isSlot) := ggX1_isEmpty_X7_isSlot
set_option maxRecDepth 20000 in
theorem ggX1_isEmpty_X1_slotStart : GoodIn wsX1_isEmpty wsX1_slotStart := goodIn_r _ [11] (by decide +kernel) (by decide +kernel)
set_option maxRecDepth 20000 in
theorem gX1_isEmpty_X1_slotStart : GoodIn wsX1_isEmpty (va_wsS RX1 74 yX1_slotStart wsX1_slotStart) := goodIn_app (goodIn_of _ (by decide +kernel)) ggX1_isEmpty_X1_slotStart
theorem dX1_isEmpty_0 : decode cX1_isEmpty 0 = .ok (.iload_n 1, 1) := by decide +kernel
theorem dX1_isEmpty_1 : decode cX1_isEmpty 1 = .ok (.invokestatic 71, 3) := by decide +kernel
theorem dX1_isEmpty_4 : decode cX1_isEmpty 4 = .ok (.ifCond .eq 17, 3) := by decide +kernel
theorem dX1_isEmpty_7 : decode cX1_isEmpty 7 = .ok (.aload_n 0, 1) := by decide +kernel
theorem dX1_isEmpty_8 : decode cX1_isEmpty 8 = .ok (.getfield 9, 3) := by decide +kernel
theorem dX1_isEmpty_11 : decode cX1_isEmpty 11 = .ok (.iload_n 1, 1) := by decide +kernel
theorem dX1_isEmpty_12 : decode cX1_isEmpty 12 = .ok (.invokestatic 74, 3) := by decide +kernel
theorem dX1_isEmpty_15 : decode cX1_isEmpty 15 = .ok (.iconst 0, 1) := by decide +kernel
theorem dX1_isEmpty_16 : decode cX1_isEmpty 16 = .ok (.iadd, 1) := by decide +kernel
theorem dX1_isEmpty_17 : decode cX1_isEmpty 17 = .ok (.iaload, 1) := by decide +kernel
theorem dX1_isEmpty_18 : decode cX1_isEmpty 18 = .ok (.ifCond .ne 7, 3) := by decide +kernel
theorem dX1_isEmpty_21 : decode cX1_isEmpty 21 = .ok (.iconst 1, 1) := by decide +kernel
theorem dX1_isEmpty_22 : decode cX1_isEmpty 22 = .ok (.goto 4, 3) := by decide +kernel
theorem dX1_isEmpty_25 : decode cX1_isEmpty 25 = .ok (.iconst 0, 1) := by decide +kernel
theorem dX1_isEmpty_26 : decode cX1_isEmpty 26 = .ok (.ireturn, 1) := by decide +kernel
set_option maxRecDepth 20000 in
theorem ggX1_snapshots_X1_isEmpty : GoodIn wsX1_snapshots wsX1_isEmpty := goodIn_r _ [5, 6, 7, 8, 9, 10, 11, 12, 13, 14, 4, 15, 16] (by decide +kernel) (by decide +kernel)
set_option maxRecDepth 20000 in
theorem gX1_snapshots_X1_isEmpty : GoodIn wsX1_snapshots (wsV RX1 77 RX1 yX1_isEmpty wsX1_isEmpty) := goodIn_app (goodIn_of _ (by decide +kernel)) ggX1_snapshots_X1_isEmpty
theorem dX1_snapshots_0 : decode cX1_snapshots 0 = .ok (.iconst 0, 1) := by decide +kernel
theorem dX1_snapshots_1 : decode cX1_snapshots 1 = .ok (.istore_n 1, 1) := by decide +kernel
theorem dX1_snapshots_2 : decode cX1_snapshots 2 = .ok (.iconst 0, 1) := by decide +kernel
theorem dX1_snapshots_3 : decode cX1_snapshots 3 = .ok (.istore_n 2, 1) := by decide +kernel
theorem dX1_snapshots_4 : decode cX1_snapshots 4 = .ok (.iload_n 2, 1) := by decide +kernel
theorem dX1_snapshots_5 : decode cX1_snapshots 5 = .ok (.iconst 2, 1) := by decide +kernel
theorem dX1_snapshots_6 : decode cX1_snapshots 6 = .ok (.if_icmp .ge 20, 3) := by decide +kernel
theorem dX1_snapshots_9 : decode cX1_snapshots 9 = .ok (.aload_n 0, 1) := by decide +kernel
theorem dX1_snapshots_10 : decode cX1_snapshots 10 = .ok (.iload_n 2, 1) := by decide +kernel
theorem dX1_snapshots_11 : decode cX1_snapshots 11 = .ok (.invokevirtual 77, 3) := by decide +kernel
theorem dX1_snapshots_14 : decode cX1_snapshots 14 = .ok (.ifCond .ne 6, 3) := by decide +kernel
theorem dX1_snapshots_17 : decode cX1_snapshots 17 = .ok (.iinc 1 1, 3) := by decide +kernel
theorem dX1_snapshots_20 : decode cX1_snapshots 20 = .ok (.iinc 2 1, 3) := by decide +kernel
theorem dX1_snapshots_23 : decode cX1_snapshots 23 = .ok (.goto (-19), 3) := by decide +kernel
theorem dX1_snapshots_26 : decode cX1_snapshots 26 = .ok (.iload_n 1, 1) := by decide +kernel
theorem dX1_snapshots_27 : decode cX1_snapshots 27 = .ok (.ireturn, 1) := by decide +kernel
set_option maxRecDepth 20000 in
theorem ggX1_keepIn_X7_isSlot : GoodIn wsX1_keepIn wsX7_isSlot := goodIn_r _ [8, 9, 10, 7, 11] (by decide +kernel) (by decide +kernel)
set_option maxRecDepth 20000 in
theorem gX1_keepIn_X7_isSlot_n71 : GoodIn wsX1_keepIn (wsX7_isSlot) := ggX1_keepIn_X7_isSlot
set_option maxRecDepth 20000 in
theorem ggX1_keepIn_X1_slotStart : GoodIn wsX1_keepIn wsX1_slotStart := goodIn_r _ [15] (by decide +kernel) (by decide +kernel)
set_option maxRecDepth 20000 in
theorem gX1_keepIn_X1_slotStart : GoodIn wsX1_keepIn (va_wsS RX1 74 yX1_slotStart wsX1_slotStart) := goodIn_app (goodIn_of _ (by decide +kernel)) ggX1_keepIn_X1_slotStart
theorem dX1_keepIn_0 : decode cX1_keepIn 0 = .ok (.iload_n 1, 1) := by decide +kernel
theorem dX1_keepIn_1 : decode cX1_keepIn 1 = .ok (.invokestatic 71, 3) := by decide +kernel
theorem dX1_keepIn_4 : decode cX1_keepIn 4 = .ok (.ifCond .eq 22, 3) := by decide +kernel
theorem dX1_keepIn_7 : decode cX1_keepIn 7 = .ok (.aload_n 0, 1) := by decide +kernel
theorem dX1_keepIn_8 : decode cX1_keepIn 8 = .ok (.getfield 9, 3) := by decide +kernel
theorem dX1_keepIn_11 : decode cX1_keepIn 11 = .ok (.iconst 0, 1) := by decide +kernel
theorem dX1_keepIn_12 : decode cX1_keepIn 12 = .ok (.aload_n 0, 1) := by decide +kernel
theorem dX1_keepIn_13 : decode cX1_keepIn 13 = .ok (.getfield 9, 3) := by decide +kernel
theorem dX1_keepIn_16 : decode cX1_keepIn 16 = .ok (.iload_n 1, 1) := by decide +kernel
theorem dX1_keepIn_17 : decode cX1_keepIn 17 = .ok (.invokestatic 74, 3) := by decide +kernel
theorem dX1_keepIn_20 : decode cX1_keepIn 20 = .ok (.sipush 491, 3) := by decide +kernel
theorem dX1_keepIn_23 : decode cX1_keepIn 23 = .ok (.invokestatic 80, 3) := by decide +kernel
theorem dX1_keepIn_26 : decode cX1_keepIn 26 = .ok (.return_, 1) := by decide +kernel
set_option maxRecDepth 20000 in
theorem ggX1_bringFrom_X1_isEmpty : GoodIn wsX1_bringFrom wsX1_isEmpty := goodIn_r _ [10, 1, 11, 12, 13, 14, 15, 16, 17, 18, 9, 19, 20] (by decide +kernel) (by decide +kernel)
set_option maxRecDepth 20000 in
theorem gX1_bringFrom_X1_isEmpty : GoodIn wsX1_bringFrom (wsV RX1 77 RX1 yX1_isEmpty wsX1_isEmpty) := goodIn_app (goodIn_of _ (by decide +kernel)) ggX1_bringFrom_X1_isEmpty
set_option maxRecDepth 20000 in
theorem ggX1_bringFrom_X1_slotStart : GoodIn wsX1_bringFrom wsX1_slotStart := goodIn_r _ [19] (by decide +kernel) (by decide +kernel)
set_option maxRecDepth 20000 in
theorem gX1_bringFrom_X1_slotStart : GoodIn wsX1_bringFrom (va_wsS RX1 74 yX1_slotStart wsX1_slotStart) := goodIn_app (goodIn_of _ (by decide +kernel)) ggX1_bringFrom_X1_slotStart
theorem dX1_bringFrom_0 : decode cX1_bringFrom 0 = .ok (.aload_n 0, 1) := by decide +kernel
theorem dX1_bringFrom_1 : decode cX1_bringFrom 1 = .ok (.iload_n 1, 1) := by decide +kernel
theorem dX1_bringFrom_2 : decode cX1_bringFrom 2 = .ok (.invokevirtual 77, 3) := by decide +kernel
theorem dX1_bringFrom_5 : decode cX1_bringFrom 5 = .ok (.ifCond .ne 22, 3) := by decide +kernel
theorem dX1_bringFrom_8 : decode cX1_bringFrom 8 = .ok (.aload_n 0, 1) := by decide +kernel
theorem dX1_bringFrom_9 : decode cX1_bringFrom 9 = .ok (.getfield 9, 3) := by decide +kernel
theorem dX1_bringFrom_12 : decode cX1_bringFrom 12 = .ok (.iload_n 1, 1) := by decide +kernel
theorem dX1_bringFrom_13 : decode cX1_bringFrom 13 = .ok (.invokestatic 74, 3) := by decide +kernel
theorem dX1_bringFrom_16 : decode cX1_bringFrom 16 = .ok (.aload_n 0, 1) := by decide +kernel
theorem dX1_bringFrom_17 : decode cX1_bringFrom 17 = .ok (.getfield 9, 3) := by decide +kernel
theorem dX1_bringFrom_20 : decode cX1_bringFrom 20 = .ok (.iconst 0, 1) := by decide +kernel
theorem dX1_bringFrom_21 : decode cX1_bringFrom 21 = .ok (.sipush 491, 3) := by decide +kernel
theorem dX1_bringFrom_24 : decode cX1_bringFrom 24 = .ok (.invokestatic 80, 3) := by decide +kernel
theorem dX1_bringFrom_27 : decode cX1_bringFrom 27 = .ok (.return_, 1) := by decide +kernel
theorem dX1_slotStart_0 : decode cX1_slotStart 0 = .ok (.iconst 1, 1) := by decide +kernel
theorem dX1_slotStart_1 : decode cX1_slotStart 1 = .ok (.iload_n 0, 1) := by decide +kernel
theorem dX1_slotStart_2 : decode cX1_slotStart 2 = .ok (.iadd, 1) := by decide +kernel
theorem dX1_slotStart_3 : decode cX1_slotStart 3 = .ok (.sipush 491, 3) := by decide +kernel
theorem dX1_slotStart_6 : decode cX1_slotStart 6 = .ok (.imul, 1) := by decide +kernel
theorem dX1_slotStart_7 : decode cX1_slotStart 7 = .ok (.ireturn, 1) := by decide +kernel
set_option maxRecDepth 20000 in
theorem ggX1_copyTo_X7_isWithin : GoodIn wsX1_copyTo wsX7_isWithin := goodIn_r _ [8] (by decide +kernel) (by decide +kernel)
set_option maxRecDepth 20000 in
theorem gX1_copyTo_X7_isWithin_n28 : GoodIn wsX1_copyTo (wsX7_isWithin) := ggX1_copyTo_X7_isWithin
theorem dX1_copyTo_0 : decode cX1_copyTo 0 = .ok (.iload_n 2, 1) := by decide +kernel
theorem dX1_copyTo_1 : decode cX1_copyTo 1 = .ok (.iconst 0, 1) := by decide +kernel
theorem dX1_copyTo_2 : decode cX1_copyTo 2 = .ok (.aload_n 1, 1) := by decide +kernel
theorem dX1_copyTo_3 : decode cX1_copyTo 3 = .ok (.arraylength, 1) := by decide +kernel
theorem dX1_copyTo_4 : decode cX1_copyTo 4 = .ok (.sipush 1473, 3) := by decide +kernel
theorem dX1_copyTo_7 : decode cX1_copyTo 7 = .ok (.isub, 1) := by decide +kernel
theorem dX1_copyTo_8 : decode cX1_copyTo 8 = .ok (.invokestatic 28, 3) := by decide +kernel
theorem dX1_copyTo_11 : decode cX1_copyTo 11 = .ok (.ifCond .eq 16, 3) := by decide +kernel
theorem dX1_copyTo_14 : decode cX1_copyTo 14 = .ok (.aload_n 0, 1) := by decide +kernel
theorem dX1_copyTo_15 : decode cX1_copyTo 15 = .ok (.getfield 9, 3) := by decide +kernel
theorem dX1_copyTo_18 : decode cX1_copyTo 18 = .ok (.iconst 0, 1) := by decide +kernel
theorem dX1_copyTo_19 : decode cX1_copyTo 19 = .ok (.aload_n 1, 1) := by decide +kernel
theorem dX1_copyTo_20 : decode cX1_copyTo 20 = .ok (.iload_n 2, 1) := by decide +kernel
theorem dX1_copyTo_21 : decode cX1_copyTo 21 = .ok (.sipush 1473, 3) := by decide +kernel
theorem dX1_copyTo_24 : decode cX1_copyTo 24 = .ok (.invokestatic 80, 3) := by decide +kernel
theorem dX1_copyTo_27 : decode cX1_copyTo 27 = .ok (.return_, 1) := by decide +kernel
set_option maxRecDepth 20000 in
theorem ggX1_copyFrom_X7_isWithin : GoodIn wsX1_copyFrom wsX7_isWithin := goodIn_r _ [8] (by decide +kernel) (by decide +kernel)
set_option maxRecDepth 20000 in
theorem gX1_copyFrom_X7_isWithin_n28 : GoodIn wsX1_copyFrom (wsX7_isWithin) := ggX1_copyFrom_X7_isWithin
theorem dX1_copyFrom_0 : decode cX1_copyFrom 0 = .ok (.iload_n 2, 1) := by decide +kernel
theorem dX1_copyFrom_1 : decode cX1_copyFrom 1 = .ok (.iconst 0, 1) := by decide +kernel
theorem dX1_copyFrom_2 : decode cX1_copyFrom 2 = .ok (.aload_n 1, 1) := by decide +kernel
theorem dX1_copyFrom_3 : decode cX1_copyFrom 3 = .ok (.arraylength, 1) := by decide +kernel
theorem dX1_copyFrom_4 : decode cX1_copyFrom 4 = .ok (.sipush 1473, 3) := by decide +kernel
theorem dX1_copyFrom_7 : decode cX1_copyFrom 7 = .ok (.isub, 1) := by decide +kernel
theorem dX1_copyFrom_8 : decode cX1_copyFrom 8 = .ok (.invokestatic 28, 3) := by decide +kernel
theorem dX1_copyFrom_11 : decode cX1_copyFrom 11 = .ok (.ifCond .eq 16, 3) := by decide +kernel
theorem dX1_copyFrom_14 : decode cX1_copyFrom 14 = .ok (.aload_n 1, 1) := by decide +kernel
theorem dX1_copyFrom_15 : decode cX1_copyFrom 15 = .ok (.iload_n 2, 1) := by decide +kernel
theorem dX1_copyFrom_16 : decode cX1_copyFrom 16 = .ok (.aload_n 0, 1) := by decide +kernel
theorem dX1_copyFrom_17 : decode cX1_copyFrom 17 = .ok (.getfield 9, 3) := by decide +kernel
theorem dX1_copyFrom_20 : decode cX1_copyFrom 20 = .ok (.iconst 0, 1) := by decide +kernel
theorem dX1_copyFrom_21 : decode cX1_copyFrom 21 = .ok (.sipush 1473, 3) := by decide +kernel
theorem dX1_copyFrom_24 : decode cX1_copyFrom 24 = .ok (.invokestatic 80, 3) := by decide +kernel
theorem dX1_copyFrom_27 : decode cX1_copyFrom 27 = .ok (.return_, 1) := by decide +kernel
set_option maxRecDepth 20000 in
theorem ggX2_init_X5_init : GoodIn wsX2_init wsX5_init := goodIn_r _ [18, 19, 2, 3, 4, 20, 32] (by decide +kernel) (by decide +kernel)
set_option maxRecDepth 20000 in
theorem gX2_init_X5_init_n20 : GoodIn wsX2_init (wsX5_init) := ggX2_init_X5_init
set_option maxRecDepth 20000 in
theorem ggX2_init_X3_init : GoodIn wsX2_init wsX3_init := goodIn_r _ [22, 23, 2, 3, 4, 24, 25, 33, 34] (by decide +kernel) (by decide +kernel)
set_option maxRecDepth 20000 in
theorem gX2_init_X3_init_n30 : GoodIn wsX2_init (wsX3_init) := ggX2_init_X3_init
theorem dX2_init_0 : decode cX2_init 0 = .ok (.aload_n 0, 1) := by decide +kernel
theorem dX2_init_1 : decode cX2_init 1 = .ok (.invokespecial 3, 3) := by decide +kernel
theorem dX2_init_4 : decode cX2_init 4 = .ok (.aload_n 0, 1) := by decide +kernel
theorem dX2_init_5 : decode cX2_init 5 = .ok (.iconst 5, 1) := by decide +kernel
theorem dX2_init_6 : decode cX2_init 6 = .ok (.newarray .int, 2) := by decide +kernel
theorem dX2_init_8 : decode cX2_init 8 = .ok (.putfield 9, 3) := by decide +kernel
theorem dX2_init_11 : decode cX2_init 11 = .ok (.aload_n 0, 1) := by decide +kernel
theorem dX2_init_12 : decode cX2_init 12 = .ok (.bipush 32, 2) := by decide +kernel
theorem dX2_init_14 : decode cX2_init 14 = .ok (.newarray .int, 2) := by decide +kernel
theorem dX2_init_16 : decode cX2_init 16 = .ok (.putfield 15, 3) := by decide +kernel
theorem dX2_init_19 : decode cX2_init 19 = .ok (.aload_n 0, 1) := by decide +kernel
theorem dX2_init_20 : decode cX2_init 20 = .ok (.new 18, 3) := by decide +kernel
theorem dX2_init_23 : decode cX2_init 23 = .ok (.dup, 1) := by decide +kernel
theorem dX2_init_24 : decode cX2_init 24 = .ok (.invokespecial 20, 3) := by decide +kernel
theorem dX2_init_27 : decode cX2_init 27 = .ok (.putfield 21, 3) := by decide +kernel
theorem dX2_init_30 : decode cX2_init 30 = .ok (.aload_n 0, 1) := by decide +kernel
theorem dX2_init_31 : decode cX2_init 31 = .ok (.new 18, 3) := by decide +kernel
theorem dX2_init_34 : decode cX2_init 34 = .ok (.dup, 1) := by decide +kernel
theorem dX2_init_35 : decode cX2_init 35 = .ok (.invokespecial 20, 3) := by decide +kernel
theorem dX2_init_38 : decode cX2_init 38 = .ok (.putfield 25, 3) := by decide +kernel
theorem dX2_init_41 : decode cX2_init 41 = .ok (.aload_n 0, 1) := by decide +kernel
theorem dX2_init_42 : decode cX2_init 42 = .ok (.new 28, 3) := by decide +kernel
theorem dX2_init_45 : decode cX2_init 45 = .ok (.dup, 1) := by decide +kernel
theorem dX2_init_46 : decode cX2_init 46 = .ok (.invokespecial 30, 3) := by decide +kernel
theorem dX2_init_49 : decode cX2_init 49 = .ok (.putfield 31, 3) := by decide +kernel
theorem dX2_init_52 : decode cX2_init 52 = .ok (.aload_n 0, 1) := by decide +kernel
theorem dX2_init_53 : decode cX2_init 53 = .ok (.iconst 0, 1) := by decide +kernel
theorem dX2_init_54 : decode cX2_init 54 = .ok (.putfield 35, 3) := by decide +kernel
theorem dX2_init_57 : decode cX2_init 57 = .ok (.return_, 1) := by decide +kernel
theorem dX3_init_0 : decode cX3_init 0 = .ok (.aload_n 0, 1) := by decide +kernel
theorem dX3_init_1 : decode cX3_init 1 = .ok (.invokespecial 3, 3) := by decide +kernel
theorem dX3_init_4 : decode cX3_init 4 = .ok (.aload_n 0, 1) := by decide +kernel
theorem dX3_init_5 : decode cX3_init 5 = .ok (.bipush 60, 2) := by decide +kernel
theorem dX3_init_7 : decode cX3_init 7 = .ok (.newarray .int, 2) := by decide +kernel
theorem dX3_init_9 : decode cX3_init 9 = .ok (.putfield 9, 3) := by decide +kernel
theorem dX3_init_12 : decode cX3_init 12 = .ok (.aload_n 0, 1) := by decide +kernel
theorem dX3_init_13 : decode cX3_init 13 = .ok (.iconst 0, 1) := by decide +kernel
theorem dX3_init_14 : decode cX3_init 14 = .ok (.putfield 15, 3) := by decide +kernel
theorem dX3_init_17 : decode cX3_init 17 = .ok (.return_, 1) := by decide +kernel
set_option maxRecDepth 20000 in
theorem ggX3_trace_X1_ofEntry : GoodIn wsX3_trace wsX1_ofEntry := goodIn_r _ [14, 15, 18] (by decide +kernel) (by decide +kernel)
set_option maxRecDepth 20000 in
theorem gX3_trace_X1_ofEntry : GoodIn wsX3_trace (wsV RX3 28 RX1 yX1_ofEntry wsX1_ofEntry) := goodIn_app (goodIn_of _ (by decide +kernel)) ggX3_trace_X1_ofEntry
theorem dX3_trace_0 : decode cX3_trace 0 = .ok (.aload_n 0, 1) := by decide +kernel
theorem dX3_trace_1 : decode cX3_trace 1 = .ok (.iconst 0, 1) := by decide +kernel
theorem dX3_trace_2 : decode cX3_trace 2 = .ok (.iload_n 3, 1) := by decide +kernel
theorem dX3_trace_3 : decode cX3_trace 3 = .ok (.aload_n 0, 1) := by decide +kernel
theorem dX3_trace_4 : decode cX3_trace 4 = .ok (.getfield 9, 3) := by decide +kernel
theorem dX3_trace_7 : decode cX3_trace 7 = .ok (.arraylength, 1) := by decide +kernel
theorem dX3_trace_8 : decode cX3_trace 8 = .ok (.invokestatic 19, 3) := by decide +kernel
theorem dX3_trace_11 : decode cX3_trace 11 = .ok (.invokestatic 25, 3) := by decide +kernel
theorem dX3_trace_14 : decode cX3_trace 14 = .ok (.putfield 15, 3) := by decide +kernel
theorem dX3_trace_17 : decode cX3_trace 17 = .ok (.iload_n 2, 1) := by decide +kernel
theorem dX3_trace_18 : decode cX3_trace 18 = .ok (.istore 4, 2) := by decide +kernel
theorem dX3_trace_20 : decode cX3_trace 20 = .ok (.aload_n 0, 1) := by decide +kernel
theorem dX3_trace_21 : decode cX3_trace 21 = .ok (.getfield 15, 3) := by decide +kernel
theorem dX3_trace_24 : decode cX3_trace 24 = .ok (.iconst 1, 1) := by decide +kernel
theorem dX3_trace_25 : decode cX3_trace 25 = .ok (.isub, 1) := by decide +kernel
theorem dX3_trace_26 : decode cX3_trace 26 = .ok (.istore 5, 2) := by decide +kernel
theorem dX3_trace_28 : decode cX3_trace 28 = .ok (.iload 5, 2) := by decide +kernel
theorem dX3_trace_30 : decode cX3_trace 30 = .ok (.ifCond .lt 27, 3) := by decide +kernel
theorem dX3_trace_33 : decode cX3_trace 33 = .ok (.aload_n 0, 1) := by decide +kernel
theorem dX3_trace_34 : decode cX3_trace 34 = .ok (.getfield 9, 3) := by decide +kernel
theorem dX3_trace_37 : decode cX3_trace 37 = .ok (.iload 5, 2) := by decide +kernel
theorem dX3_trace_39 : decode cX3_trace 39 = .ok (.iload 4, 2) := by decide +kernel
theorem dX3_trace_41 : decode cX3_trace 41 = .ok (.iastore, 1) := by decide +kernel
theorem dX3_trace_42 : decode cX3_trace 42 = .ok (.aload_n 1, 1) := by decide +kernel
theorem dX3_trace_43 : decode cX3_trace 43 = .ok (.iload 4, 2) := by decide +kernel
theorem dX3_trace_45 : decode cX3_trace 45 = .ok (.iconst 4, 1) := by decide +kernel
theorem dX3_trace_46 : decode cX3_trace 46 = .ok (.invokevirtual 28, 3) := by decide +kernel
theorem dX3_trace_49 : decode cX3_trace 49 = .ok (.istore 4, 2) := by decide +kernel
theorem dX3_trace_51 : decode cX3_trace 51 = .ok (.iinc 5 (-1), 3) := by decide +kernel
theorem dX3_trace_54 : decode cX3_trace 54 = .ok (.goto (-26), 3) := by decide +kernel
theorem dX3_trace_57 : decode cX3_trace 57 = .ok (.return_, 1) := by decide +kernel
set_option maxRecDepth 20000 in
theorem ggX3_traceBranch_X1_ofBranch : GoodIn wsX3_traceBranch wsX1_ofBranch := goodIn_r _ [5, 6, 25] (by decide +kernel) (by decide +kernel)
set_option maxRecDepth 20000 in
theorem gX3_traceBranch_X1_ofBranch : GoodIn wsX3_traceBranch (wsV RX3 33 RX1 yX1_ofBranch wsX1_ofBranch) := goodIn_app (goodIn_of _ (by decide +kernel)) ggX3_traceBranch_X1_ofBranch
set_option maxRecDepth 20000 in
theorem ggX3_traceBranch_X3_trace : GoodIn wsX3_traceBranch wsX3_trace := goodIn_r _ [11, 12, 13, 14, 15, 16, 17, 18, 19, 20, 21, 22, 23, 4, 24, 6, 26, 27, 25] (by decide +kernel) (by decide +kernel)
set_option maxRecDepth 20000 in
theorem gX3_traceBranch_X3_trace : GoodIn wsX3_traceBranch (wsV RX3 36 RX3 yX3_trace wsX3_trace) := goodIn_app (goodIn_of _ (by decide +kernel)) ggX3_traceBranch_X3_trace
theorem dX3_traceBranch_0 : decode cX3_traceBranch 0 = .ok (.aload_n 0, 1) := by decide +kernel
theorem dX3_traceBranch_1 : decode cX3_traceBranch 1 = .ok (.aload_n 1, 1) := by decide +kernel
theorem dX3_traceBranch_2 : decode cX3_traceBranch 2 = .ok (.aload_n 1, 1) := by decide +kernel
theorem dX3_traceBranch_3 : decode cX3_traceBranch 3 = .ok (.iload_n 2, 1) := by decide +kernel
theorem dX3_traceBranch_4 : decode cX3_traceBranch 4 = .ok (.iconst 0, 1) := by decide +kernel
theorem dX3_traceBranch_5 : decode cX3_traceBranch 5 = .ok (.invokevirtual 33, 3) := by decide +kernel
theorem dX3_traceBranch_8 : decode cX3_traceBranch 8 = .ok (.aload_n 1, 1) := by decide +kernel
theorem dX3_traceBranch_9 : decode cX3_traceBranch 9 = .ok (.iload_n 2, 1) := by decide +kernel
theorem dX3_traceBranch_10 : decode cX3_traceBranch 10 = .ok (.iconst 1, 1) := by decide +kernel
theorem dX3_traceBranch_11 : decode cX3_traceBranch 11 = .ok (.invokevirtual 33, 3) := by decide +kernel
theorem dX3_traceBranch_14 : decode cX3_traceBranch 14 = .ok (.invokevirtual 36, 3) := by decide +kernel
theorem dX3_traceBranch_17 : decode cX3_traceBranch 17 = .ok (.return_, 1) := by decide +kernel
theorem dX3_length_0 : decode cX3_length 0 = .ok (.aload_n 0, 1) := by decide +kernel
theorem dX3_length_1 : decode cX3_length 1 = .ok (.getfield 15, 3) := by decide +kernel
theorem dX3_length_4 : decode cX3_length 4 = .ok (.ireturn, 1) := by decide +kernel
theorem dX3_at_0 : decode cX3_at 0 = .ok (.iload_n 1, 1) := by decide +kernel
theorem dX3_at_1 : decode cX3_at 1 = .ok (.ifCond .lt 29, 3) := by decide +kernel
theorem dX3_at_4 : decode cX3_at 4 = .ok (.iload_n 1, 1) := by decide +kernel
theorem dX3_at_5 : decode cX3_at 5 = .ok (.aload_n 0, 1) := by decide +kernel
theorem dX3_at_6 : decode cX3_at 6 = .ok (.getfield 15, 3) := by decide +kernel
theorem dX3_at_9 : decode cX3_at 9 = .ok (.if_icmp .ge 21, 3) := by decide +kernel
theorem dX3_at_12 : decode cX3_at 12 = .ok (.iload_n 1, 1) := by decide +kernel
theorem dX3_at_13 : decode cX3_at 13 = .ok (.aload_n 0, 1) := by decide +kernel
theorem dX3_at_14 : decode cX3_at 14 = .ok (.getfield 9, 3) := by decide +kernel
theorem dX3_at_17 : decode cX3_at 17 = .ok (.arraylength, 1) := by decide +kernel
theorem dX3_at_18 : decode cX3_at 18 = .ok (.if_icmp .ge 12, 3) := by decide +kernel
theorem dX3_at_21 : decode cX3_at 21 = .ok (.aload_n 0, 1) := by decide +kernel
theorem dX3_at_22 : decode cX3_at 22 = .ok (.getfield 9, 3) := by decide +kernel
theorem dX3_at_25 : decode cX3_at 25 = .ok (.iload_n 1, 1) := by decide +kernel
theorem dX3_at_26 : decode cX3_at 26 = .ok (.iaload, 1) := by decide +kernel
theorem dX3_at_27 : decode cX3_at 27 = .ok (.goto 5, 3) := by decide +kernel
theorem dX3_at_30 : decode cX3_at 30 = .ok (.ldc 40, 2) := by decide +kernel
theorem dX3_at_32 : decode cX3_at 32 = .ok (.ireturn, 1) := by decide +kernel
theorem dX4_init_0 : decode cX4_init 0 = .ok (.aload_n 0, 1) := by decide +kernel
theorem dX4_init_1 : decode cX4_init 1 = .ok (.invokespecial 3, 3) := by decide +kernel
theorem dX4_init_4 : decode cX4_init 4 = .ok (.aload_n 0, 1) := by decide +kernel
theorem dX4_init_5 : decode cX4_init 5 = .ok (.bipush 100, 2) := by decide +kernel
theorem dX4_init_7 : decode cX4_init 7 = .ok (.newarray .int, 2) := by decide +kernel
theorem dX4_init_9 : decode cX4_init 9 = .ok (.putfield 9, 3) := by decide +kernel
theorem dX4_init_12 : decode cX4_init 12 = .ok (.aload_n 0, 1) := by decide +kernel
theorem dX4_init_13 : decode cX4_init 13 = .ok (.iconst 0, 1) := by decide +kernel
theorem dX4_init_14 : decode cX4_init 14 = .ok (.putfield 15, 3) := by decide +kernel
theorem dX4_init_17 : decode cX4_init 17 = .ok (.return_, 1) := by decide +kernel
theorem dX5_init_0 : decode cX5_init 0 = .ok (.aload_n 0, 1) := by decide +kernel
theorem dX5_init_1 : decode cX5_init 1 = .ok (.invokespecial 3, 3) := by decide +kernel
theorem dX5_init_4 : decode cX5_init 4 = .ok (.aload_n 0, 1) := by decide +kernel
theorem dX5_init_5 : decode cX5_init 5 = .ok (.bipush 6, 2) := by decide +kernel
theorem dX5_init_7 : decode cX5_init 7 = .ok (.newarray .int, 2) := by decide +kernel
theorem dX5_init_9 : decode cX5_init 9 = .ok (.putfield 9, 3) := by decide +kernel
theorem dX5_init_12 : decode cX5_init 12 = .ok (.return_, 1) := by decide +kernel
set_option maxRecDepth 20000 in
theorem ggX5_clear_J7_fill_53178 : GoodIn wsX5_clear wsJ7_fill_53178 := goodIn_r _ [5] (by decide +kernel) (by decide +kernel)
set_option maxRecDepth 20000 in
theorem gX5_clear_J7_fill_53178 : GoodIn wsX5_clear (va_wsS RX5 15 yJ7_fill_53178 wsJ7_fill_53178) := goodIn_app (goodIn_of _ (by decide +kernel)) ggX5_clear_J7_fill_53178
theorem dX5_clear_0 : decode cX5_clear 0 = .ok (.aload_n 0, 1) := by decide +kernel
theorem dX5_clear_1 : decode cX5_clear 1 = .ok (.getfield 9, 3) := by decide +kernel
theorem dX5_clear_4 : decode cX5_clear 4 = .ok (.iconst 0, 1) := by decide +kernel
theorem dX5_clear_5 : decode cX5_clear 5 = .ok (.invokestatic 15, 3) := by decide +kernel
theorem dX5_clear_8 : decode cX5_clear 8 = .ok (.return_, 1) := by decide +kernel
set_option maxRecDepth 20000 in
theorem ggX5_fill_X5_clear : GoodIn wsX5_fill wsX5_clear := goodIn_r _ [5, 6, 7, 8, 9, 10, 30] (by decide +kernel) (by decide +kernel)
set_option maxRecDepth 20000 in
theorem gX5_fill_X5_clear : GoodIn wsX5_fill (wsV RX5 21 RX5 yX5_clear wsX5_clear) := goodIn_app (goodIn_of _ (by decide +kernel)) ggX5_fill_X5_clear
set_option maxRecDepth 20000 in
theorem ggX5_fill_X5_add : GoodIn wsX5_fill wsX5_add := goodIn_r _ [14, 15, 16, 17, 18, 19, 20, 21, 22, 23, 24, 25, 26, 4, 27, 6, 28, 29, 31, 30] (by decide +kernel) (by decide +kernel)
set_option maxRecDepth 20000 in
theorem gX5_fill_X5_add : GoodIn wsX5_fill (wsV RX5 24 RX5 yX5_add wsX5_add) := goodIn_app (goodIn_of _ (by decide +kernel)) ggX5_fill_X5_add
set_option maxRecDepth 20000 in
theorem ggX5_fill_X1_ofEntry : GoodIn wsX5_fill wsX1_ofEntry := goodIn_r _ [19, 20, 31] (by decide +kernel) (by decide +kernel)
set_option maxRecDepth 20000 in
theorem gX5_fill_X1_ofEntry : GoodIn wsX5_fill (wsV RX5 28 RX1 yX1_ofEntry wsX1_ofEntry) := goodIn_app (goodIn_of _ (by decide +kernel)) ggX5_fill_X1_ofEntry
theorem dX5_fill_0 : decode cX5_fill 0 = .ok (.aload_n 0, 1) := by decide +kernel
theorem dX5_fill_1 : decode cX5_fill 1 = .ok (.invokevirtual 21, 3) := by decide +kernel
theorem dX5_fill_4 : decode cX5_fill 4 = .ok (.iload_n 2, 1) := by decide +kernel
theorem dX5_fill_5 : decode cX5_fill 5 = .ok (.istore_n 3, 1) := by decide +kernel
theorem dX5_fill_6 : decode cX5_fill 6 = .ok (.iconst 0, 1) := by decide +kernel
theorem dX5_fill_7 : decode cX5_fill 7 = .ok (.istore 4, 2) := by decide +kernel
theorem dX5_fill_9 : decode cX5_fill 9 = .ok (.iload 4, 2) := by decide +kernel
theorem dX5_fill_11 : decode cX5_fill 11 = .ok (.bipush 60, 2) := by decide +kernel
theorem dX5_fill_13 : decode cX5_fill 13 = .ok (.if_icmp .ge 26, 3) := by decide +kernel
theorem dX5_fill_16 : decode cX5_fill 16 = .ok (.iload_n 3, 1) := by decide +kernel
theorem dX5_fill_17 : decode cX5_fill 17 = .ok (.ifCond .le 22, 3) := by decide +kernel
theorem dX5_fill_20 : decode cX5_fill 20 = .ok (.aload_n 0, 1) := by decide +kernel
theorem dX5_fill_21 : decode cX5_fill 21 = .ok (.aload_n 1, 1) := by decide +kernel
theorem dX5_fill_22 : decode cX5_fill 22 = .ok (.iload_n 3, 1) := by decide +kernel
theorem dX5_fill_23 : decode cX5_fill 23 = .ok (.invokevirtual 24, 3) := by decide +kernel
theorem dX5_fill_26 : decode cX5_fill 26 = .ok (.aload_n 1, 1) := by decide +kernel
theorem dX5_fill_27 : decode cX5_fill 27 = .ok (.iload_n 3, 1) := by decide +kernel
theorem dX5_fill_28 : decode cX5_fill 28 = .ok (.iconst 4, 1) := by decide +kernel
theorem dX5_fill_29 : decode cX5_fill 29 = .ok (.invokevirtual 28, 3) := by decide +kernel
theorem dX5_fill_32 : decode cX5_fill 32 = .ok (.istore_n 3, 1) := by decide +kernel
theorem dX5_fill_33 : decode cX5_fill 33 = .ok (.iinc 4 1, 3) := by decide +kernel
theorem dX5_fill_36 : decode cX5_fill 36 = .ok (.goto (-27), 3) := by decide +kernel
theorem dX5_fill_39 : decode cX5_fill 39 = .ok (.return_, 1) := by decide +kernel
theorem dX5_sum_0 : decode cX5_sum 0 = .ok (.iload_n 1, 1) := by decide +kernel
theorem dX5_sum_1 : decode cX5_sum 1 = .ok (.ifCond .lt 18, 3) := by decide +kernel
theorem dX5_sum_4 : decode cX5_sum 4 = .ok (.iload_n 1, 1) := by decide +kernel
theorem dX5_sum_5 : decode cX5_sum 5 = .ok (.bipush 6, 2) := by decide +kernel
theorem dX5_sum_7 : decode cX5_sum 7 = .ok (.if_icmp .ge 12, 3) := by decide +kernel
theorem dX5_sum_10 : decode cX5_sum 10 = .ok (.aload_n 0, 1) := by decide +kernel
theorem dX5_sum_11 : decode cX5_sum 11 = .ok (.getfield 9, 3) := by decide +kernel
theorem dX5_sum_14 : decode cX5_sum 14 = .ok (.iload_n 1, 1) := by decide +kernel
theorem dX5_sum_15 : decode cX5_sum 15 = .ok (.iaload, 1) := by decide +kernel
theorem dX5_sum_16 : decode cX5_sum 16 = .ok (.goto 4, 3) := by decide +kernel
theorem dX5_sum_19 : decode cX5_sum 19 = .ok (.iconst 0, 1) := by decide +kernel
theorem dX5_sum_20 : decode cX5_sum 20 = .ok (.ireturn, 1) := by decide +kernel
set_option maxRecDepth 20000 in
theorem ggX5_total_X5_sum : GoodIn wsX5_total wsX5_sum := goodIn_r _ [5, 6, 7] (by decide +kernel) (by decide +kernel)
set_option maxRecDepth 20000 in
theorem gX5_total_X5_sum : GoodIn wsX5_total (wsV RX5 40 RX5 yX5_sum wsX5_sum) := goodIn_app (goodIn_of _ (by decide +kernel)) ggX5_total_X5_sum
theorem dX5_total_0 : decode cX5_total 0 = .ok (.iconst 0, 1) := by decide +kernel
theorem dX5_total_1 : decode cX5_total 1 = .ok (.istore_n 1, 1) := by decide +kernel
theorem dX5_total_2 : decode cX5_total 2 = .ok (.iconst 0, 1) := by decide +kernel
theorem dX5_total_3 : decode cX5_total 3 = .ok (.istore_n 2, 1) := by decide +kernel
theorem dX5_total_4 : decode cX5_total 4 = .ok (.iload_n 2, 1) := by decide +kernel
theorem dX5_total_5 : decode cX5_total 5 = .ok (.bipush 6, 2) := by decide +kernel
theorem dX5_total_7 : decode cX5_total 7 = .ok (.if_icmp .ge 17, 3) := by decide +kernel
theorem dX5_total_10 : decode cX5_total 10 = .ok (.iload_n 1, 1) := by decide +kernel
theorem dX5_total_11 : decode cX5_total 11 = .ok (.aload_n 0, 1) := by decide +kernel
theorem dX5_total_12 : decode cX5_total 12 = .ok (.iload_n 2, 1) := by decide +kernel
theorem dX5_total_13 : decode cX5_total 13 = .ok (.invokevirtual 40, 3) := by decide +kernel
theorem dX5_total_16 : decode cX5_total 16 = .ok (.iadd, 1) := by decide +kernel
theorem dX5_total_17 : decode cX5_total 17 = .ok (.istore_n 1, 1) := by decide +kernel
theorem dX5_total_18 : decode cX5_total 18 = .ok (.iinc 2 1, 3) := by decide +kernel
theorem dX5_total_21 : decode cX5_total 21 = .ok (.goto (-17), 3) := by decide +kernel
theorem dX5_total_24 : decode cX5_total 24 = .ok (.iload_n 1, 1) := by decide +kernel
theorem dX5_total_25 : decode cX5_total 25 = .ok (.ireturn, 1) := by decide +kernel
set_option maxRecDepth 20000 in
theorem ggX5_affords_X7_takes : GoodIn wsX5_affords wsX7_takes := goodIn_r _ [3] (by decide +kernel) (by decide +kernel)
set_option maxRecDepth 20000 in
theorem gX5_affords_X7_takes_n44 : GoodIn wsX5_affords (wsX7_takes) := ggX5_affords_X7_takes
set_option maxRecDepth 20000 in
theorem ggX5_affords_X5_sum : GoodIn wsX5_affords wsX5_sum := goodIn_r _ [8, 9, 10] (by decide +kernel) (by decide +kernel)
set_option maxRecDepth 20000 in
theorem gX5_affords_X5_sum : GoodIn wsX5_affords (wsV RX5 40 RX5 yX5_sum wsX5_sum) := goodIn_app (goodIn_of _ (by decide +kernel)) ggX5_affords_X5_sum
theorem dX5_affords_0 : decode cX5_affords 0 = .ok (.iload_n 1, 1) := by decide +kernel
theorem dX5_affords_1 : decode cX5_affords 1 = .ok (.invokestatic 44, 3) := by decide +kernel
theorem dX5_affords_4 : decode cX5_affords 4 = .ok (.ifCond .eq 12, 3) := by decide +kernel
theorem dX5_affords_7 : decode cX5_affords 7 = .ok (.aload_n 0, 1) := by decide +kernel
theorem dX5_affords_8 : decode cX5_affords 8 = .ok (.iload_n 2, 1) := by decide +kernel
theorem dX5_affords_9 : decode cX5_affords 9 = .ok (.invokevirtual 40, 3) := by decide +kernel
theorem dX5_affords_12 : decode cX5_affords 12 = .ok (.iload_n 3, 1) := by decide +kernel
theorem dX5_affords_13 : decode cX5_affords 13 = .ok (.if_icmp .lt 7, 3) := by decide +kernel
theorem dX5_affords_16 : decode cX5_affords 16 = .ok (.iconst 1, 1) := by decide +kernel
theorem dX5_affords_17 : decode cX5_affords 17 = .ok (.goto 4, 3) := by decide +kernel
theorem dX5_affords_20 : decode cX5_affords 20 = .ok (.iconst 0, 1) := by decide +kernel
theorem dX5_affords_21 : decode cX5_affords 21 = .ok (.ireturn, 1) := by decide +kernel
set_option maxRecDepth 20000 in
theorem ggX5_add_X1_ofEntry : GoodIn wsX5_add wsX1_ofEntry := goodIn_r _ [5, 6, 18] (by decide +kernel) (by decide +kernel)
set_option maxRecDepth 20000 in
theorem gX5_add_X1_ofEntry : GoodIn wsX5_add (wsV RX5 28 RX1 yX1_ofEntry wsX1_ofEntry) := goodIn_app (goodIn_of _ (by decide +kernel)) ggX5_add_X1_ofEntry
set_option maxRecDepth 20000 in
theorem ggX5_add_X7_takes : GoodIn wsX5_add wsX7_takes := goodIn_r _ [9] (by decide +kernel) (by decide +kernel)
set_option maxRecDepth 20000 in
theorem gX5_add_X7_takes_n44 : GoodIn wsX5_add (wsX7_takes) := ggX5_add_X7_takes
set_option maxRecDepth 20000 in
theorem ggX5_add_X5_change : GoodIn wsX5_add wsX5_change := goodIn_r _ [14, 15, 19] (by decide +kernel) (by decide +kernel)
set_option maxRecDepth 20000 in
theorem gX5_add_X5_change : GoodIn wsX5_add (wsV RX5 48 RX5 yX5_change wsX5_change) := goodIn_app (goodIn_of _ (by decide +kernel)) ggX5_add_X5_change
set_option maxRecDepth 20000 in
theorem ggX5_add_X7_brings : GoodIn wsX5_add wsX7_brings := goodIn_r _ [17] (by decide +kernel) (by decide +kernel)
set_option maxRecDepth 20000 in
theorem gX5_add_X7_brings_n52 : GoodIn wsX5_add (wsX7_brings) := ggX5_add_X7_brings
theorem dX5_add_0 : decode cX5_add 0 = .ok (.aload_n 1, 1) := by decide +kernel
theorem dX5_add_1 : decode cX5_add 1 = .ok (.iload_n 2, 1) := by decide +kernel
theorem dX5_add_2 : decode cX5_add 2 = .ok (.iconst 0, 1) := by decide +kernel
theorem dX5_add_3 : decode cX5_add 3 = .ok (.invokevirtual 28, 3) := by decide +kernel
theorem dX5_add_6 : decode cX5_add 6 = .ok (.istore_n 3, 1) := by decide +kernel
theorem dX5_add_7 : decode cX5_add 7 = .ok (.aload_n 1, 1) := by decide +kernel
theorem dX5_add_8 : decode cX5_add 8 = .ok (.iload_n 2, 1) := by decide +kernel
theorem dX5_add_9 : decode cX5_add 9 = .ok (.iconst 3, 1) := by decide +kernel
theorem dX5_add_10 : decode cX5_add 10 = .ok (.invokevirtual 28, 3) := by decide +kernel
theorem dX5_add_13 : decode cX5_add 13 = .ok (.istore 4, 2) := by decide +kernel
theorem dX5_add_15 : decode cX5_add 15 = .ok (.iload_n 3, 1) := by decide +kernel
theorem dX5_add_16 : decode cX5_add 16 = .ok (.invokestatic 44, 3) := by decide +kernel
theorem dX5_add_19 : decode cX5_add 19 = .ok (.ifCond .eq 16, 3) := by decide +kernel
theorem dX5_add_22 : decode cX5_add 22 = .ok (.aload_n 0, 1) := by decide +kernel
theorem dX5_add_23 : decode cX5_add 23 = .ok (.aload_n 1, 1) := by decide +kernel
theorem dX5_add_24 : decode cX5_add 24 = .ok (.iload_n 2, 1) := by decide +kernel
theorem dX5_add_25 : decode cX5_add 25 = .ok (.iconst 1, 1) := by decide +kernel
theorem dX5_add_26 : decode cX5_add 26 = .ok (.invokevirtual 28, 3) := by decide +kernel
theorem dX5_add_29 : decode cX5_add 29 = .ok (.iload 4, 2) := by decide +kernel
theorem dX5_add_31 : decode cX5_add 31 = .ok (.ineg, 1) := by decide +kernel
theorem dX5_add_32 : decode cX5_add 32 = .ok (.invokevirtual 48, 3) := by decide +kernel
theorem dX5_add_35 : decode cX5_add 35 = .ok (.iload_n 3, 1) := by decide +kernel
theorem dX5_add_36 : decode cX5_add 36 = .ok (.invokestatic 52, 3) := by decide +kernel
theorem dX5_add_39 : decode cX5_add 39 = .ok (.ifCond .eq 15, 3) := by decide +kernel
theorem dX5_add_42 : decode cX5_add 42 = .ok (.aload_n 0, 1) := by decide +kernel
theorem dX5_add_43 : decode cX5_add 43 = .ok (.aload_n 1, 1) := by decide +kernel
theorem dX5_add_44 : decode cX5_add 44 = .ok (.iload_n 2, 1) := by decide +kernel
theorem dX5_add_45 : decode cX5_add 45 = .ok (.iconst 2, 1) := by decide +kernel
theorem dX5_add_46 : decode cX5_add 46 = .ok (.invokevirtual 28, 3) := by decide +kernel
theorem dX5_add_49 : decode cX5_add 49 = .ok (.iload 4, 2) := by decide +kernel
theorem dX5_add_51 : decode cX5_add 51 = .ok (.invokevirtual 48, 3) := by decide +kernel
theorem dX5_add_54 : decode cX5_add 54 = .ok (.return_, 1) := by decide +kernel
theorem dX5_change_0 : decode cX5_change 0 = .ok (.iload_n 1, 1) := by decide +kernel
theorem dX5_change_1 : decode cX5_change 1 = .ok (.ifCond .lt 19, 3) := by decide +kernel
theorem dX5_change_4 : decode cX5_change 4 = .ok (.iload_n 1, 1) := by decide +kernel
theorem dX5_change_5 : decode cX5_change 5 = .ok (.bipush 6, 2) := by decide +kernel
theorem dX5_change_7 : decode cX5_change 7 = .ok (.if_icmp .ge 13, 3) := by decide +kernel
theorem dX5_change_10 : decode cX5_change 10 = .ok (.aload_n 0, 1) := by decide +kernel
theorem dX5_change_11 : decode cX5_change 11 = .ok (.getfield 9, 3) := by decide +kernel
theorem dX5_change_14 : decode cX5_change 14 = .ok (.iload_n 1, 1) := by decide +kernel
theorem dX5_change_15 : decode cX5_change 15 = .ok (.dup2, 1) := by decide +kernel
theorem dX5_change_16 : decode cX5_change 16 = .ok (.iaload, 1) := by decide +kernel
theorem dX5_change_17 : decode cX5_change 17 = .ok (.iload_n 2, 1) := by decide +kernel
theorem dX5_change_18 : decode cX5_change 18 = .ok (.iadd, 1) := by decide +kernel
theorem dX5_change_19 : decode cX5_change 19 = .ok (.iastore, 1) := by decide +kernel
theorem dX5_change_20 : decode cX5_change 20 = .ok (.return_, 1) := by decide +kernel
set_option maxRecDepth 20000 in
theorem ggX5_addIfAfforded_X1_ofEntry : GoodIn wsX5_addIfAfforded wsX1_ofEntry := goodIn_r _ [5, 6, 30] (by decide +kernel) (by decide +kernel)
set_option maxRecDepth 20000 in
theorem gX5_addIfAfforded_X1_ofEntry : GoodIn wsX5_addIfAfforded (wsV RX5 28 RX1 yX1_ofEntry wsX1_ofEntry) := goodIn_app (goodIn_of _ (by decide +kernel)) ggX5_addIfAfforded_X1_ofEntry
set_option maxRecDepth 20000 in
theorem ggX5_addIfAfforded_X5_affords : GoodIn wsX5_addIfAfforded wsX5_affords := goodIn_r _ [11, 12, 13, 14, 15, 16, 17, 10, 18, 19, 31] (by decide +kernel) (by decide +kernel)
set_option maxRecDepth 20000 in
theorem gX5_addIfAfforded_X5_affords : GoodIn wsX5_addIfAfforded (wsV RX5 55 RX5 yX5_affords wsX5_affords) := goodIn_app (goodIn_of _ (by decide +kernel)) ggX5_addIfAfforded_X5_affords
set_option maxRecDepth 20000 in
theorem ggX5_addIfAfforded_X5_add : GoodIn wsX5_addIfAfforded wsX5_add := goodIn_r _ [23, 1, 2, 3, 4, 5, 6, 12, 13, 14, 24, 25, 26, 10, 27, 19, 28, 29, 30, 31] (by decide +kernel) (by decide +kernel)
set_option maxRecDepth 20000 in
theorem gX5_addIfAfforded_X5_add : GoodIn wsX5_addIfAfforded (wsV RX5 24 RX5 yX5_add wsX5_add) := goodIn_app (goodIn_of _ (by decide +kernel)) ggX5_addIfAfforded_X5_add
theorem dX5_addIfAfforded_0 : decode cX5_addIfAfforded 0 = .ok (.aload_n 1, 1) := by decide +kernel
theorem dX5_addIfAfforded_1 : decode cX5_addIfAfforded 1 = .ok (.iload_n 2, 1) := by decide +kernel
theorem dX5_addIfAfforded_2 : decode cX5_addIfAfforded 2 = .ok (.iconst 1, 1) := by decide +kernel
theorem dX5_addIfAfforded_3 : decode cX5_addIfAfforded 3 = .ok (.invokevirtual 28, 3) := by decide +kernel
theorem dX5_addIfAfforded_6 : decode cX5_addIfAfforded 6 = .ok (.istore_n 3, 1) := by decide +kernel
theorem dX5_addIfAfforded_7 : decode cX5_addIfAfforded 7 = .ok (.aload_n 0, 1) := by decide +kernel
theorem dX5_addIfAfforded_8 : decode cX5_addIfAfforded 8 = .ok (.aload_n 1, 1) := by decide +kernel
theorem dX5_addIfAfforded_9 : decode cX5_addIfAfforded 9 = .ok (.iload_n 2, 1) := by decide +kernel
theorem dX5_addIfAfforded_10 : decode cX5_addIfAfforded 10 = .ok (.iconst 0, 1) := by decide +kernel
theorem dX5_addIfAfforded_11 : decode cX5_addIfAfforded 11 = .ok (.invokevirtual 28, 3) := by decide +kernel
theorem dX5_addIfAfforded_14 : decode cX5_addIfAfforded 14 = .ok (.iload_n 3, 1) := by decide +kernel
theorem dX5_addIfAfforded_15 : decode cX5_addIfAfforded 15 = .ok (.aload_n 1, 1) := by decide +kernel
theorem dX5_addIfAfforded_16 : decode cX5_addIfAfforded 16 = .ok (.iload_n 2, 1) := by decide +kernel
theorem dX5_addIfAfforded_17 : decode cX5_addIfAfforded 17 = .ok (.iconst 3, 1) := by decide +kernel
theorem dX5_addIfAfforded_18 : decode cX5_addIfAfforded 18 = .ok (.invokevirtual 28, 3) := by decide +kernel
theorem dX5_addIfAfforded_21 : decode cX5_addIfAfforded 21 = .ok (.invokevirtual 55, 3) := by decide +kernel
theorem dX5_addIfAfforded_24 : decode cX5_addIfAfforded 24 = .ok (.ifCond .ne 5, 3) := by decide +kernel
theorem dX5_addIfAfforded_27 : decode cX5_addIfAfforded 27 = .ok (.iconst 0, 1) := by decide +kernel
theorem dX5_addIfAfforded_28 : decode cX5_addIfAfforded 28 = .ok (.ireturn, 1) := by decide +kernel
theorem dX5_addIfAfforded_29 : decode cX5_addIfAfforded 29 = .ok (.aload_n 0, 1) := by decide +kernel
theorem dX5_addIfAfforded_30 : decode cX5_addIfAfforded 30 = .ok (.aload_n 1, 1) := by decide +kernel
theorem dX5_addIfAfforded_31 : decode cX5_addIfAfforded 31 = .ok (.iload_n 2, 1) := by decide +kernel
theorem dX5_addIfAfforded_32 : decode cX5_addIfAfforded 32 = .ok (.invokevirtual 24, 3) := by decide +kernel
theorem dX5_addIfAfforded_35 : decode cX5_addIfAfforded 35 = .ok (.iconst 1, 1) := by decide +kernel
theorem dX5_addIfAfforded_36 : decode cX5_addIfAfforded 36 = .ok (.ireturn, 1) := by decide +kernel
set_option maxRecDepth 20000 in
theorem ggX5_addAfforded_X3_length : GoodIn wsX5_addAfforded wsX3_length := goodIn_r _ [5, 6, 46, 47] (by decide +kernel) (by decide +kernel)
set_option maxRecDepth 20000 in
theorem gX5_addAfforded_X3_length : GoodIn wsX5_addAfforded (wsV RX5 59 RX3 yX3_length wsX3_length) := goodIn_app (goodIn_of _ (by decide +kernel)) ggX5_addAfforded_X3_length
set_option maxRecDepth 20000 in
theorem ggX5_addAfforded_X3_at : GoodIn wsX5_addAfforded wsX3_at := goodIn_r _ [10, 6, 11, 12, 46, 47] (by decide +kernel) (by decide +kernel)
set_option maxRecDepth 20000 in
theorem gX5_addAfforded_X3_at : GoodIn wsX5_addAfforded (wsV RX5 65 RX3 yX3_at wsX3_at) := goodIn_app (goodIn_of _ (by decide +kernel)) ggX5_addAfforded_X3_at
set_option maxRecDepth 20000 in
theorem ggX5_addAfforded_X5_addIfAfforded : GoodIn wsX5_addAfforded wsX5_addIfAfforded := goodIn_r _ [17, 18, 19, 20, 21, 22, 23, 24, 25, 26, 16, 27, 28, 29, 30, 31, 32, 33, 34, 35, 36, 37, 38, 39, 40, 41, 42, 43, 44, 45, 48, 49] (by decide +kernel) (by decide +kernel)
set_option maxRecDepth 20000 in
theorem gX5_addAfforded_X5_addIfAfforded : GoodIn wsX5_addAfforded (wsV RX5 68 RX5 yX5_addIfAfforded wsX5_addIfAfforded) := goodIn_app (goodIn_of _ (by decide +kernel)) ggX5_addAfforded_X5_addIfAfforded
theorem dX5_addAfforded_0 : decode cX5_addAfforded 0 = .ok (.iconst 0, 1) := by decide +kernel
theorem dX5_addAfforded_1 : decode cX5_addAfforded 1 = .ok (.istore_n 3, 1) := by decide +kernel
theorem dX5_addAfforded_2 : decode cX5_addAfforded 2 = .ok (.iconst 0, 1) := by decide +kernel
theorem dX5_addAfforded_3 : decode cX5_addAfforded 3 = .ok (.istore 4, 2) := by decide +kernel
theorem dX5_addAfforded_5 : decode cX5_addAfforded 5 = .ok (.iload 4, 2) := by decide +kernel
theorem dX5_addAfforded_7 : decode cX5_addAfforded 7 = .ok (.aload_n 2, 1) := by decide +kernel
theorem dX5_addAfforded_8 : decode cX5_addAfforded 8 = .ok (.invokevirtual 59, 3) := by decide +kernel
theorem dX5_addAfforded_11 : decode cX5_addAfforded 11 = .ok (.if_icmp .ge 26, 3) := by decide +kernel
theorem dX5_addAfforded_14 : decode cX5_addAfforded 14 = .ok (.aload_n 0, 1) := by decide +kernel
theorem dX5_addAfforded_15 : decode cX5_addAfforded 15 = .ok (.aload_n 1, 1) := by decide +kernel
theorem dX5_addAfforded_16 : decode cX5_addAfforded 16 = .ok (.aload_n 2, 1) := by decide +kernel
theorem dX5_addAfforded_17 : decode cX5_addAfforded 17 = .ok (.iload 4, 2) := by decide +kernel
theorem dX5_addAfforded_19 : decode cX5_addAfforded 19 = .ok (.invokevirtual 65, 3) := by decide +kernel
theorem dX5_addAfforded_22 : decode cX5_addAfforded 22 = .ok (.invokevirtual 68, 3) := by decide +kernel
theorem dX5_addAfforded_25 : decode cX5_addAfforded 25 = .ok (.ifCond .eq 6, 3) := by decide +kernel
theorem dX5_addAfforded_28 : decode cX5_addAfforded 28 = .ok (.iinc 3 1, 3) := by decide +kernel
theorem dX5_addAfforded_31 : decode cX5_addAfforded 31 = .ok (.iinc 4 1, 3) := by decide +kernel
theorem dX5_addAfforded_34 : decode cX5_addAfforded 34 = .ok (.goto (-29), 3) := by decide +kernel
theorem dX5_addAfforded_37 : decode cX5_addAfforded 37 = .ok (.iload_n 3, 1) := by decide +kernel
theorem dX5_addAfforded_38 : decode cX5_addAfforded 38 = .ok (.ireturn, 1) := by decide +kernel
theorem dX6_init_0 : decode cX6_init 0 = .ok (.aload_n 0, 1) := by decide +kernel
theorem dX6_init_1 : decode cX6_init 1 = .ok (.invokespecial 3, 3) := by decide +kernel
theorem dX6_init_4 : decode cX6_init 4 = .ok (.aload_n 0, 1) := by decide +kernel
theorem dX6_init_5 : decode cX6_init 5 = .ok (.bipush 100, 2) := by decide +kernel
theorem dX6_init_7 : decode cX6_init 7 = .ok (.newarray .int, 2) := by decide +kernel
theorem dX6_init_9 : decode cX6_init 9 = .ok (.putfield 9, 3) := by decide +kernel
theorem dX6_init_12 : decode cX6_init 12 = .ok (.aload_n 0, 1) := by decide +kernel
theorem dX6_init_13 : decode cX6_init 13 = .ok (.iconst 0, 1) := by decide +kernel
theorem dX6_init_14 : decode cX6_init 14 = .ok (.putfield 15, 3) := by decide +kernel
theorem dX6_init_17 : decode cX6_init 17 = .ok (.return_, 1) := by decide +kernel
theorem dX6_length_0 : decode cX6_length 0 = .ok (.aload_n 0, 1) := by decide +kernel
theorem dX6_length_1 : decode cX6_length 1 = .ok (.getfield 15, 3) := by decide +kernel
theorem dX6_length_4 : decode cX6_length 4 = .ok (.ireturn, 1) := by decide +kernel
