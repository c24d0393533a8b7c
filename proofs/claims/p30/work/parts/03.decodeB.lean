set_option maxRecDepth 20000 in
theorem ggX7_init_X1_init : GoodIn wsX7_init wsX1_init := goodIn_r _ [34, 35, 2, 3, 36, 37, 38, 39, 40, 41, 6, 42, 43, 44, 45, 46, 83] (by decide +kernel) (by decide +kernel)
set_option maxRecDepth 20000 in
theorem gX7_init_X1_init : GoodIn wsX7_init (wsX1_init) := ggX7_init_X1_init
set_option maxRecDepth 20000 in
theorem ggX7_init_X0_init : GoodIn wsX7_init wsX0_init := goodIn_r _ [48, 49, 2, 3, 36, 50, 51, 52, 91, 92, 93] (by decide +kernel) (by decide +kernel)
set_option maxRecDepth 20000 in
theorem gX7_init_X0_init_n18 : GoodIn wsX7_init (wsX0_init) := ggX7_init_X0_init
set_option maxRecDepth 20000 in
theorem ggX7_init_X6_init : GoodIn wsX7_init wsX6_init := goodIn_r _ [54, 55, 2, 3, 36, 56, 57, 94, 95] (by decide +kernel) (by decide +kernel)
set_option maxRecDepth 20000 in
theorem gX7_init_X6_init_n25 : GoodIn wsX7_init (wsX6_init) := ggX7_init_X6_init
set_option maxRecDepth 20000 in
theorem ggX7_init_X4_init : GoodIn wsX7_init wsX4_init := goodIn_r _ [59, 60, 2, 3, 36, 61, 62, 96, 97] (by decide +kernel) (by decide +kernel)
set_option maxRecDepth 20000 in
theorem gX7_init_X4_init_n32 : GoodIn wsX7_init (wsX4_init) := ggX7_init_X4_init
set_option maxRecDepth 20000 in
theorem ggX7_init_X2_init : GoodIn wsX7_init wsX2_init := goodIn_r _ [64, 65, 2, 3, 36, 66, 67, 68, 25, 26, 69, 70, 71, 29, 30, 72, 73, 74, 75, 76, 77, 78, 79, 80, 81, 82, 98, 99, 100, 101, 102, 103, 104, 105, 106] (by decide +kernel) (by decide +kernel)
set_option maxRecDepth 20000 in
theorem gX7_init_X2_init_n39 : GoodIn wsX7_init (wsX2_init) := ggX7_init_X2_init
set_option maxRecDepth 20000 in
theorem ggX7_init_X5_init : GoodIn wsX7_init wsX5_init := goodIn_r _ [75, 76, 2, 3, 36, 77, 104] (by decide +kernel) (by decide +kernel)
set_option maxRecDepth 20000 in
theorem gX7_init_X5_init_n46 : GoodIn wsX7_init (wsX5_init) := ggX7_init_X5_init
set_option maxRecDepth 20000 in
theorem ggX7_init_X3_init : GoodIn wsX7_init wsX3_init := goodIn_r _ [79, 80, 2, 3, 36, 81, 82, 105, 106] (by decide +kernel) (by decide +kernel)
set_option maxRecDepth 20000 in
theorem gX7_init_X3_init_n53 : GoodIn wsX7_init (wsX3_init) := ggX7_init_X3_init
theorem dX7_init_0 : decode cX7_init 0 = .ok (.aload_n 0, 1) := by decide +kernel
theorem dX7_init_1 : decode cX7_init 1 = .ok (.invokespecial 3, 3) := by decide +kernel
theorem dX7_init_4 : decode cX7_init 4 = .ok (.aload_n 0, 1) := by decide +kernel
theorem dX7_init_5 : decode cX7_init 5 = .ok (.new 9, 3) := by decide +kernel
theorem dX7_init_8 : decode cX7_init 8 = .ok (.dup, 1) := by decide +kernel
theorem dX7_init_9 : decode cX7_init 9 = .ok (.invokespecial 11, 3) := by decide +kernel
theorem dX7_init_12 : decode cX7_init 12 = .ok (.putfield 12, 3) := by decide +kernel
theorem dX7_init_15 : decode cX7_init 15 = .ok (.aload_n 0, 1) := by decide +kernel
theorem dX7_init_16 : decode cX7_init 16 = .ok (.new 16, 3) := by decide +kernel
theorem dX7_init_19 : decode cX7_init 19 = .ok (.dup, 1) := by decide +kernel
theorem dX7_init_20 : decode cX7_init 20 = .ok (.invokespecial 18, 3) := by decide +kernel
theorem dX7_init_23 : decode cX7_init 23 = .ok (.putfield 19, 3) := by decide +kernel
theorem dX7_init_26 : decode cX7_init 26 = .ok (.aload_n 0, 1) := by decide +kernel
theorem dX7_init_27 : decode cX7_init 27 = .ok (.new 23, 3) := by decide +kernel
theorem dX7_init_30 : decode cX7_init 30 = .ok (.dup, 1) := by decide +kernel
theorem dX7_init_31 : decode cX7_init 31 = .ok (.invokespecial 25, 3) := by decide +kernel
theorem dX7_init_34 : decode cX7_init 34 = .ok (.putfield 26, 3) := by decide +kernel
theorem dX7_init_37 : decode cX7_init 37 = .ok (.aload_n 0, 1) := by decide +kernel
theorem dX7_init_38 : decode cX7_init 38 = .ok (.new 30, 3) := by decide +kernel
theorem dX7_init_41 : decode cX7_init 41 = .ok (.dup, 1) := by decide +kernel
theorem dX7_init_42 : decode cX7_init 42 = .ok (.invokespecial 32, 3) := by decide +kernel
theorem dX7_init_45 : decode cX7_init 45 = .ok (.putfield 33, 3) := by decide +kernel
theorem dX7_init_48 : decode cX7_init 48 = .ok (.aload_n 0, 1) := by decide +kernel
theorem dX7_init_49 : decode cX7_init 49 = .ok (.new 37, 3) := by decide +kernel
theorem dX7_init_52 : decode cX7_init 52 = .ok (.dup, 1) := by decide +kernel
theorem dX7_init_53 : decode cX7_init 53 = .ok (.invokespecial 39, 3) := by decide +kernel
theorem dX7_init_56 : decode cX7_init 56 = .ok (.putfield 40, 3) := by decide +kernel
theorem dX7_init_59 : decode cX7_init 59 = .ok (.aload_n 0, 1) := by decide +kernel
theorem dX7_init_60 : decode cX7_init 60 = .ok (.new 44, 3) := by decide +kernel
theorem dX7_init_63 : decode cX7_init 63 = .ok (.dup, 1) := by decide +kernel
theorem dX7_init_64 : decode cX7_init 64 = .ok (.invokespecial 46, 3) := by decide +kernel
theorem dX7_init_67 : decode cX7_init 67 = .ok (.putfield 47, 3) := by decide +kernel
theorem dX7_init_70 : decode cX7_init 70 = .ok (.aload_n 0, 1) := by decide +kernel
theorem dX7_init_71 : decode cX7_init 71 = .ok (.new 51, 3) := by decide +kernel
theorem dX7_init_74 : decode cX7_init 74 = .ok (.dup, 1) := by decide +kernel
theorem dX7_init_75 : decode cX7_init 75 = .ok (.invokespecial 53, 3) := by decide +kernel
theorem dX7_init_78 : decode cX7_init 78 = .ok (.putfield 54, 3) := by decide +kernel
theorem dX7_init_81 : decode cX7_init 81 = .ok (.return_, 1) := by decide +kernel
set_option maxRecDepth 20000 in
theorem ggX7_deposit_X7_isAccount : GoodIn wsX7_deposit wsX7_isAccount := goodIn_r _ [5, 6, 7, 4, 8] (by decide +kernel) (by decide +kernel)
set_option maxRecDepth 20000 in
theorem gX7_deposit_X7_isAccount : GoodIn wsX7_deposit (va_wsS RX7 58 yX7_isAccount wsX7_isAccount) := goodIn_app (goodIn_of _ (by decide +kernel)) ggX7_deposit_X7_isAccount
set_option maxRecDepth 20000 in
theorem ggX7_deposit_X7_isSum : GoodIn wsX7_deposit wsX7_isSum := goodIn_r _ [11, 6, 7, 4, 8] (by decide +kernel) (by decide +kernel)
set_option maxRecDepth 20000 in
theorem gX7_deposit_X7_isSum : GoodIn wsX7_deposit (va_wsS RX7 62 yX7_isSum wsX7_isSum) := goodIn_app (goodIn_of _ (by decide +kernel)) ggX7_deposit_X7_isSum
set_option maxRecDepth 20000 in
theorem ggX7_deposit_X7_write : GoodIn wsX7_deposit wsX7_write := goodIn_r _ [15, 16, 17, 18, 19, 20, 21, 22, 23, 24, 25, 26, 27, 28, 29, 30, 31, 32, 33, 34, 35, 36, 37, 38, 39, 40, 41, 42, 43, 44, 45, 46, 47, 48, 49, 50, 51, 52, 53, 54, 55, 56, 57, 58, 59, 60, 61, 62, 63, 64, 65, 66, 67, 4, 68, 69, 70, 71, 72, 73, 74, 75, 76, 77, 78, 79, 80, 81, 82, 83, 84, 85, 86, 87, 88, 89, 90, 91, 92, 93, 94, 95, 96, 97, 98, 99, 100, 101, 102, 103, 104, 105, 106, 7, 8, 107, 108, 109, 110, 111, 112, 113, 114, 115, 116, 117, 118, 119, 120, 121, 122, 123, 124, 125, 126, 127, 128, 129, 130, 131, 132, 133, 134, 135, 136, 137, 138, 139, 140, 141, 142, 143] (by decide +kernel) (by decide +kernel)
set_option maxRecDepth 20000 in
theorem gX7_deposit_X7_write : GoodIn wsX7_deposit (wsV RX7 66 RX7 yX7_write wsX7_write) := goodIn_app (goodIn_of _ (by decide +kernel)) ggX7_deposit_X7_write
theorem dX7_deposit_0 : decode cX7_deposit 0 = .ok (.iload_n 1, 1) := by decide +kernel
theorem dX7_deposit_1 : decode cX7_deposit 1 = .ok (.invokestatic 58, 3) := by decide +kernel
theorem dX7_deposit_4 : decode cX7_deposit 4 = .ok (.ifCond .eq 10, 3) := by decide +kernel
theorem dX7_deposit_7 : decode cX7_deposit 7 = .ok (.iload_n 2, 1) := by decide +kernel
theorem dX7_deposit_8 : decode cX7_deposit 8 = .ok (.invokestatic 62, 3) := by decide +kernel
theorem dX7_deposit_11 : decode cX7_deposit 11 = .ok (.ifCond .ne 6, 3) := by decide +kernel
theorem dX7_deposit_14 : decode cX7_deposit 14 = .ok (.ldc 65, 2) := by decide +kernel
theorem dX7_deposit_16 : decode cX7_deposit 16 = .ok (.ireturn, 1) := by decide +kernel
theorem dX7_deposit_17 : decode cX7_deposit 17 = .ok (.aload_n 0, 1) := by decide +kernel
theorem dX7_deposit_18 : decode cX7_deposit 18 = .ok (.iconst 1, 1) := by decide +kernel
theorem dX7_deposit_19 : decode cX7_deposit 19 = .ok (.iconst 0, 1) := by decide +kernel
theorem dX7_deposit_20 : decode cX7_deposit 20 = .ok (.iload_n 1, 1) := by decide +kernel
theorem dX7_deposit_21 : decode cX7_deposit 21 = .ok (.iload_n 2, 1) := by decide +kernel
theorem dX7_deposit_22 : decode cX7_deposit 22 = .ok (.invokevirtual 66, 3) := by decide +kernel
theorem dX7_deposit_25 : decode cX7_deposit 25 = .ok (.ireturn, 1) := by decide +kernel
set_option maxRecDepth 20000 in
theorem ggX7_pay_X7_isPayer : GoodIn wsX7_pay wsX7_isPayer := goodIn_r _ [5, 6, 7, 4, 8] (by decide +kernel) (by decide +kernel)
set_option maxRecDepth 20000 in
theorem gX7_pay_X7_isPayer : GoodIn wsX7_pay (va_wsS RX7 70 yX7_isPayer wsX7_isPayer) := goodIn_app (goodIn_of _ (by decide +kernel)) ggX7_pay_X7_isPayer
set_option maxRecDepth 20000 in
theorem ggX7_pay_X7_isSum : GoodIn wsX7_pay wsX7_isSum := goodIn_r _ [11, 6, 7, 4, 8] (by decide +kernel) (by decide +kernel)
set_option maxRecDepth 20000 in
theorem gX7_pay_X7_isSum : GoodIn wsX7_pay (va_wsS RX7 62 yX7_isSum wsX7_isSum) := goodIn_app (goodIn_of _ (by decide +kernel)) ggX7_pay_X7_isSum
set_option maxRecDepth 20000 in
theorem ggX7_pay_X7_write : GoodIn wsX7_pay wsX7_write := goodIn_r _ [15, 16, 17, 18, 19, 20, 21, 22, 23, 24, 25, 26, 27, 28, 29, 30, 31, 32, 33, 34, 35, 36, 37, 38, 39, 40, 41, 42, 43, 44, 45, 46, 47, 48, 49, 50, 51, 52, 53, 54, 55, 56, 57, 58, 59, 60, 61, 62, 63, 64, 65, 66, 67, 4, 68, 69, 70, 71, 72, 73, 74, 75, 76, 77, 78, 79, 80, 81, 82, 83, 84, 85, 86, 87, 88, 89, 90, 91, 92, 93, 94, 95, 96, 97, 98, 99, 100, 101, 102, 103, 104, 105, 106, 7, 8, 107, 108, 109, 110, 111, 112, 113, 114, 115, 116, 117, 118, 119, 120, 121, 122, 123, 124, 125, 126, 127, 128, 129, 130, 131, 132, 133, 134, 135, 136, 137, 138, 139, 140, 141, 142, 143] (by decide +kernel) (by decide +kernel)
set_option maxRecDepth 20000 in
theorem gX7_pay_X7_write : GoodIn wsX7_pay (wsV RX7 66 RX7 yX7_write wsX7_write) := goodIn_app (goodIn_of _ (by decide +kernel)) ggX7_pay_X7_write
theorem dX7_pay_0 : decode cX7_pay 0 = .ok (.iload_n 1, 1) := by decide +kernel
theorem dX7_pay_1 : decode cX7_pay 1 = .ok (.invokestatic 70, 3) := by decide +kernel
theorem dX7_pay_4 : decode cX7_pay 4 = .ok (.ifCond .eq 22, 3) := by decide +kernel
theorem dX7_pay_7 : decode cX7_pay 7 = .ok (.iload_n 2, 1) := by decide +kernel
theorem dX7_pay_8 : decode cX7_pay 8 = .ok (.invokestatic 70, 3) := by decide +kernel
theorem dX7_pay_11 : decode cX7_pay 11 = .ok (.ifCond .eq 15, 3) := by decide +kernel
theorem dX7_pay_14 : decode cX7_pay 14 = .ok (.iload_n 1, 1) := by decide +kernel
theorem dX7_pay_15 : decode cX7_pay 15 = .ok (.iload_n 2, 1) := by decide +kernel
theorem dX7_pay_16 : decode cX7_pay 16 = .ok (.if_icmp .eq 10, 3) := by decide +kernel
theorem dX7_pay_19 : decode cX7_pay 19 = .ok (.iload_n 3, 1) := by decide +kernel
theorem dX7_pay_20 : decode cX7_pay 20 = .ok (.invokestatic 62, 3) := by decide +kernel
theorem dX7_pay_23 : decode cX7_pay 23 = .ok (.ifCond .ne 6, 3) := by decide +kernel
theorem dX7_pay_26 : decode cX7_pay 26 = .ok (.ldc 65, 2) := by decide +kernel
theorem dX7_pay_28 : decode cX7_pay 28 = .ok (.ireturn, 1) := by decide +kernel
theorem dX7_pay_29 : decode cX7_pay 29 = .ok (.aload_n 0, 1) := by decide +kernel
theorem dX7_pay_30 : decode cX7_pay 30 = .ok (.iconst 2, 1) := by decide +kernel
theorem dX7_pay_31 : decode cX7_pay 31 = .ok (.iload_n 1, 1) := by decide +kernel
theorem dX7_pay_32 : decode cX7_pay 32 = .ok (.iload_n 2, 1) := by decide +kernel
theorem dX7_pay_33 : decode cX7_pay 33 = .ok (.iload_n 3, 1) := by decide +kernel
theorem dX7_pay_34 : decode cX7_pay 34 = .ok (.invokevirtual 66, 3) := by decide +kernel
theorem dX7_pay_37 : decode cX7_pay 37 = .ok (.ireturn, 1) := by decide +kernel
set_option maxRecDepth 20000 in
theorem ggX7_fee_X7_isPayer : GoodIn wsX7_fee wsX7_isPayer := goodIn_r _ [5, 6, 7, 4, 8] (by decide +kernel) (by decide +kernel)
set_option maxRecDepth 20000 in
theorem gX7_fee_X7_isPayer : GoodIn wsX7_fee (va_wsS RX7 70 yX7_isPayer wsX7_isPayer) := goodIn_app (goodIn_of _ (by decide +kernel)) ggX7_fee_X7_isPayer
set_option maxRecDepth 20000 in
theorem ggX7_fee_X7_isSum : GoodIn wsX7_fee wsX7_isSum := goodIn_r _ [11, 6, 7, 4, 8] (by decide +kernel) (by decide +kernel)
set_option maxRecDepth 20000 in
theorem gX7_fee_X7_isSum : GoodIn wsX7_fee (va_wsS RX7 62 yX7_isSum wsX7_isSum) := goodIn_app (goodIn_of _ (by decide +kernel)) ggX7_fee_X7_isSum
set_option maxRecDepth 20000 in
theorem ggX7_fee_X7_write : GoodIn wsX7_fee wsX7_write := goodIn_r _ [15, 16, 17, 18, 19, 20, 21, 22, 23, 24, 25, 26, 27, 28, 29, 30, 31, 32, 33, 34, 35, 36, 37, 38, 39, 40, 41, 42, 43, 44, 45, 46, 47, 48, 49, 50, 51, 52, 53, 54, 55, 56, 57, 58, 59, 60, 61, 62, 63, 64, 65, 66, 67, 4, 68, 69, 70, 71, 72, 73, 74, 75, 76, 77, 78, 79, 80, 81, 82, 83, 84, 85, 86, 87, 88, 89, 90, 91, 92, 93, 94, 95, 96, 97, 98, 99, 100, 101, 102, 103, 104, 105, 106, 7, 8, 107, 108, 109, 110, 111, 112, 113, 114, 115, 116, 117, 118, 119, 120, 121, 122, 123, 124, 125, 126, 127, 128, 129, 130, 131, 132, 133, 134, 135, 136, 137, 138, 139, 140, 141, 142, 143] (by decide +kernel) (by decide +kernel)
set_option maxRecDepth 20000 in
theorem gX7_fee_X7_write : GoodIn wsX7_fee (wsV RX7 66 RX7 yX7_write wsX7_write) := goodIn_app (goodIn_of _ (by decide +kernel)) ggX7_fee_X7_write
theorem dX7_fee_0 : decode cX7_fee 0 = .ok (.iload_n 1, 1) := by decide +kernel
theorem dX7_fee_1 : decode cX7_fee 1 = .ok (.invokestatic 70, 3) := by decide +kernel
theorem dX7_fee_4 : decode cX7_fee 4 = .ok (.ifCond .eq 10, 3) := by decide +kernel
theorem dX7_fee_7 : decode cX7_fee 7 = .ok (.iload_n 2, 1) := by decide +kernel
theorem dX7_fee_8 : decode cX7_fee 8 = .ok (.invokestatic 62, 3) := by decide +kernel
theorem dX7_fee_11 : decode cX7_fee 11 = .ok (.ifCond .ne 6, 3) := by decide +kernel
theorem dX7_fee_14 : decode cX7_fee 14 = .ok (.ldc 65, 2) := by decide +kernel
theorem dX7_fee_16 : decode cX7_fee 16 = .ok (.ireturn, 1) := by decide +kernel
theorem dX7_fee_17 : decode cX7_fee 17 = .ok (.aload_n 0, 1) := by decide +kernel
theorem dX7_fee_18 : decode cX7_fee 18 = .ok (.iconst 3, 1) := by decide +kernel
theorem dX7_fee_19 : decode cX7_fee 19 = .ok (.iload_n 1, 1) := by decide +kernel
theorem dX7_fee_20 : decode cX7_fee 20 = .ok (.iconst 0, 1) := by decide +kernel
theorem dX7_fee_21 : decode cX7_fee 21 = .ok (.iload_n 2, 1) := by decide +kernel
theorem dX7_fee_22 : decode cX7_fee 22 = .ok (.invokevirtual 66, 3) := by decide +kernel
theorem dX7_fee_25 : decode cX7_fee 25 = .ok (.ireturn, 1) := by decide +kernel
set_option maxRecDepth 20000 in
theorem ggX7_note_X7_isCode : GoodIn wsX7_note wsX7_isCode := goodIn_r _ [5, 6, 7, 4, 8] (by decide +kernel) (by decide +kernel)
set_option maxRecDepth 20000 in
theorem gX7_note_X7_isCode : GoodIn wsX7_note (va_wsS RX7 73 yX7_isCode wsX7_isCode) := goodIn_app (goodIn_of _ (by decide +kernel)) ggX7_note_X7_isCode
set_option maxRecDepth 20000 in
theorem ggX7_note_X7_write : GoodIn wsX7_note wsX7_write := goodIn_r _ [12, 13, 14, 15, 16, 17, 18, 19, 20, 21, 22, 23, 24, 25, 26, 27, 28, 29, 30, 31, 32, 33, 34, 35, 36, 37, 38, 39, 40, 41, 42, 43, 44, 45, 46, 47, 48, 49, 50, 51, 52, 53, 54, 55, 56, 57, 58, 59, 60, 61, 62, 63, 64, 4, 65, 66, 67, 68, 69, 70, 71, 72, 73, 74, 75, 76, 77, 78, 79, 80, 81, 82, 83, 84, 85, 86, 87, 88, 89, 90, 91, 92, 93, 94, 95, 96, 97, 98, 99, 100, 101, 102, 103, 7, 8, 104, 105, 106, 107, 108, 109, 110, 111, 112, 113, 114, 115, 116, 117, 118, 119, 120, 121, 122, 123, 124, 125, 126, 127, 128, 129, 130, 131, 132, 133, 134, 135, 136, 137, 138, 139, 140] (by decide +kernel) (by decide +kernel)
set_option maxRecDepth 20000 in
theorem gX7_note_X7_write : GoodIn wsX7_note (wsV RX7 66 RX7 yX7_write wsX7_write) := goodIn_app (goodIn_of _ (by decide +kernel)) ggX7_note_X7_write
theorem dX7_note_0 : decode cX7_note 0 = .ok (.iload_n 1, 1) := by decide +kernel
theorem dX7_note_1 : decode cX7_note 1 = .ok (.invokestatic 73, 3) := by decide +kernel
theorem dX7_note_4 : decode cX7_note 4 = .ok (.ifCond .ne 6, 3) := by decide +kernel
theorem dX7_note_7 : decode cX7_note 7 = .ok (.ldc 65, 2) := by decide +kernel
theorem dX7_note_9 : decode cX7_note 9 = .ok (.ireturn, 1) := by decide +kernel
theorem dX7_note_10 : decode cX7_note 10 = .ok (.aload_n 0, 1) := by decide +kernel
theorem dX7_note_11 : decode cX7_note 11 = .ok (.iconst 4, 1) := by decide +kernel
theorem dX7_note_12 : decode cX7_note 12 = .ok (.iconst 0, 1) := by decide +kernel
theorem dX7_note_13 : decode cX7_note 13 = .ok (.iconst 0, 1) := by decide +kernel
theorem dX7_note_14 : decode cX7_note 14 = .ok (.iload_n 1, 1) := by decide +kernel
theorem dX7_note_15 : decode cX7_note 15 = .ok (.invokevirtual 66, 3) := by decide +kernel
theorem dX7_note_18 : decode cX7_note 18 = .ok (.ireturn, 1) := by decide +kernel
set_option maxRecDepth 20000 in
theorem ggX7_write_X1_loudBranches : GoodIn wsX7_write wsX1_loudBranches := goodIn_r _ [11, 12, 13, 14, 10, 15, 16, 17, 18, 19, 20, 21, 22, 23, 24, 25, 26, 27, 28, 127] (by decide +kernel) (by decide +kernel)
set_option maxRecDepth 20000 in
theorem gX7_write_X1_loudBranches : GoodIn wsX7_write (wsV RX7 76 RX1 yX1_loudBranches wsX1_loudBranches) := goodIn_app (goodIn_of _ (by decide +kernel)) ggX7_write_X1_loudBranches
set_option maxRecDepth 20000 in
theorem ggX7_write_X1_number : GoodIn wsX7_write wsX1_number := goodIn_r _ [15, 16, 127] (by decide +kernel) (by decide +kernel)
set_option maxRecDepth 20000 in
theorem gX7_write_X1_number : GoodIn wsX7_write (wsV RX7 81 RX1 yX1_number wsX1_number) := goodIn_app (goodIn_of _ (by decide +kernel)) ggX7_write_X1_number
set_option maxRecDepth 20000 in
theorem ggX7_write_X5_fill : GoodIn wsX7_write wsX5_fill := goodIn_r _ [34, 35, 36, 37, 33, 38, 39, 40, 41, 42, 43, 44, 45, 46, 47, 48, 49, 50, 10, 51, 16, 52, 53, 54, 55, 56, 57, 58, 59, 60, 128, 127] (by decide +kernel) (by decide +kernel)
set_option maxRecDepth 20000 in
theorem gX7_write_X5_fill : GoodIn wsX7_write (wsV RX7 85 RX5 yX5_fill wsX5_fill) := goodIn_app (goodIn_of _ (by decide +kernel)) ggX7_write_X5_fill
set_option maxRecDepth 20000 in
theorem ggX7_write_X5_affords : GoodIn wsX7_write wsX5_affords := goodIn_r _ [64, 52, 53, 54, 65, 66, 67, 33, 68, 39, 128] (by decide +kernel) (by decide +kernel)
set_option maxRecDepth 20000 in
theorem gX7_write_X5_affords : GoodIn wsX7_write (wsV RX7 89 RX5 yX5_affords wsX5_affords) := goodIn_app (goodIn_of _ (by decide +kernel)) ggX7_write_X5_affords
set_option maxRecDepth 20000 in
theorem ggX7_write_X1_room : GoodIn wsX7_write wsX1_room := goodIn_r _ [72, 12, 13, 14, 10, 15, 16, 127] (by decide +kernel) (by decide +kernel)
set_option maxRecDepth 20000 in
theorem gX7_write_X1_room : GoodIn wsX7_write (wsV RX7 93 RX1 yX1_room wsX1_room) := goodIn_app (goodIn_of _ (by decide +kernel)) ggX7_write_X1_room
set_option maxRecDepth 20000 in
theorem ggX7_write_X0_remember : GoodIn wsX7_write wsX0_remember := goodIn_r _ [77, 78, 79, 80, 81, 82, 83, 84, 85, 86, 87, 10, 88, 16, 89, 90, 91, 92, 93, 53, 94, 129, 130, 131, 127] (by decide +kernel) (by decide +kernel)
set_option maxRecDepth 20000 in
theorem gX7_write_X0_remember : GoodIn wsX7_write (wsV RX7 97 RX0 yX0_remember wsX0_remember) := goodIn_app (goodIn_of _ (by decide +kernel)) ggX7_write_X0_remember
set_option maxRecDepth 20000 in
theorem ggX7_write_X1_plead : GoodIn wsX7_write wsX1_plead := goodIn_r _ [98, 12, 13, 14, 10, 15, 16, 21, 22, 23, 24, 25, 26, 27, 28, 99, 100, 101, 102, 127] (by decide +kernel) (by decide +kernel)
set_option maxRecDepth 20000 in
theorem gX7_write_X1_plead : GoodIn wsX7_write (wsV RX7 101 RX1 yX1_plead wsX1_plead) := goodIn_app (goodIn_of _ (by decide +kernel)) ggX7_write_X1_plead
set_option maxRecDepth 20000 in
theorem ggX7_write_X1_addEntry : GoodIn wsX7_write wsX1_addEntry := goodIn_r _ [106, 12, 13, 14, 10, 15, 16, 107, 108, 109, 110, 111, 112, 113, 114, 115, 49, 50, 51, 116, 117, 118, 119, 127] (by decide +kernel) (by decide +kernel)
set_option maxRecDepth 20000 in
theorem gX7_write_X1_addEntry : GoodIn wsX7_write (wsV RX7 105 RX1 yX1_addEntry wsX1_addEntry) := goodIn_app (goodIn_of _ (by decide +kernel)) ggX7_write_X1_addEntry
theorem dX7_write_0 : decode cX7_write 0 = .ok (.aload_n 0, 1) := by decide +kernel
theorem dX7_write_1 : decode cX7_write 1 = .ok (.getfield 12, 3) := by decide +kernel
theorem dX7_write_4 : decode cX7_write 4 = .ok (.invokevirtual 76, 3) := by decide +kernel
theorem dX7_write_7 : decode cX7_write 7 = .ok (.ifCond .le 6, 3) := by decide +kernel
theorem dX7_write_10 : decode cX7_write 10 = .ok (.ldc 80, 2) := by decide +kernel
theorem dX7_write_12 : decode cX7_write 12 = .ok (.ireturn, 1) := by decide +kernel
theorem dX7_write_13 : decode cX7_write 13 = .ok (.aload_n 0, 1) := by decide +kernel
theorem dX7_write_14 : decode cX7_write 14 = .ok (.getfield 47, 3) := by decide +kernel
theorem dX7_write_17 : decode cX7_write 17 = .ok (.aload_n 0, 1) := by decide +kernel
theorem dX7_write_18 : decode cX7_write 18 = .ok (.getfield 12, 3) := by decide +kernel
theorem dX7_write_21 : decode cX7_write 21 = .ok (.aload_n 0, 1) := by decide +kernel
theorem dX7_write_22 : decode cX7_write 22 = .ok (.getfield 12, 3) := by decide +kernel
theorem dX7_write_25 : decode cX7_write 25 = .ok (.iconst 1, 1) := by decide +kernel
theorem dX7_write_26 : decode cX7_write 26 = .ok (.invokevirtual 81, 3) := by decide +kernel
theorem dX7_write_29 : decode cX7_write 29 = .ok (.invokevirtual 85, 3) := by decide +kernel
theorem dX7_write_32 : decode cX7_write 32 = .ok (.aload_n 0, 1) := by decide +kernel
theorem dX7_write_33 : decode cX7_write 33 = .ok (.getfield 47, 3) := by decide +kernel
theorem dX7_write_36 : decode cX7_write 36 = .ok (.iload_n 1, 1) := by decide +kernel
theorem dX7_write_37 : decode cX7_write 37 = .ok (.iload_n 2, 1) := by decide +kernel
theorem dX7_write_38 : decode cX7_write 38 = .ok (.iload 4, 2) := by decide +kernel
theorem dX7_write_40 : decode cX7_write 40 = .ok (.invokevirtual 89, 3) := by decide +kernel
theorem dX7_write_43 : decode cX7_write 43 = .ok (.ifCond .ne 6, 3) := by decide +kernel
theorem dX7_write_46 : decode cX7_write 46 = .ok (.ldc 80, 2) := by decide +kernel
theorem dX7_write_48 : decode cX7_write 48 = .ok (.ireturn, 1) := by decide +kernel
theorem dX7_write_49 : decode cX7_write 49 = .ok (.aload_n 0, 1) := by decide +kernel
theorem dX7_write_50 : decode cX7_write 50 = .ok (.getfield 12, 3) := by decide +kernel
theorem dX7_write_53 : decode cX7_write 53 = .ok (.invokevirtual 93, 3) := by decide +kernel
theorem dX7_write_56 : decode cX7_write 56 = .ok (.iconst 1, 1) := by decide +kernel
theorem dX7_write_57 : decode cX7_write 57 = .ok (.if_icmp .ge 6, 3) := by decide +kernel
theorem dX7_write_60 : decode cX7_write 60 = .ok (.ldc 96, 2) := by decide +kernel
theorem dX7_write_62 : decode cX7_write 62 = .ok (.ireturn, 1) := by decide +kernel
theorem dX7_write_63 : decode cX7_write 63 = .ok (.aload_n 0, 1) := by decide +kernel
theorem dX7_write_64 : decode cX7_write 64 = .ok (.getfield 19, 3) := by decide +kernel
theorem dX7_write_67 : decode cX7_write 67 = .ok (.aload_n 0, 1) := by decide +kernel
theorem dX7_write_68 : decode cX7_write 68 = .ok (.getfield 12, 3) := by decide +kernel
theorem dX7_write_71 : decode cX7_write 71 = .ok (.invokevirtual 97, 3) := by decide +kernel
theorem dX7_write_74 : decode cX7_write 74 = .ok (.aload_n 0, 1) := by decide +kernel
theorem dX7_write_75 : decode cX7_write 75 = .ok (.getfield 12, 3) := by decide +kernel
theorem dX7_write_78 : decode cX7_write 78 = .ok (.invokevirtual 101, 3) := by decide +kernel
theorem dX7_write_81 : decode cX7_write 81 = .ok (.aload_n 0, 1) := by decide +kernel
theorem dX7_write_82 : decode cX7_write 82 = .ok (.getfield 12, 3) := by decide +kernel
theorem dX7_write_85 : decode cX7_write 85 = .ok (.iload_n 1, 1) := by decide +kernel
theorem dX7_write_86 : decode cX7_write 86 = .ok (.iload_n 2, 1) := by decide +kernel
theorem dX7_write_87 : decode cX7_write 87 = .ok (.iload_n 3, 1) := by decide +kernel
theorem dX7_write_88 : decode cX7_write 88 = .ok (.iload 4, 2) := by decide +kernel
theorem dX7_write_90 : decode cX7_write 90 = .ok (.ldc 104, 2) := by decide +kernel
theorem dX7_write_92 : decode cX7_write 92 = .ok (.invokevirtual 105, 3) := by decide +kernel
theorem dX7_write_95 : decode cX7_write 95 = .ok (.ireturn, 1) := by decide +kernel
set_option maxRecDepth 20000 in
theorem ggX7_goBack_X1_hasEntry : GoodIn wsX7_goBack wsX1_hasEntry := goodIn_r _ [11, 12, 13, 14, 10, 15, 16, 17, 18, 19, 90] (by decide +kernel) (by decide +kernel)
set_option maxRecDepth 20000 in
theorem gX7_goBack_X1_hasEntry : GoodIn wsX7_goBack (wsV RX7 109 RX1 yX1_hasEntry wsX1_hasEntry) := goodIn_app (goodIn_of _ (by decide +kernel)) ggX7_goBack_X1_hasEntry
set_option maxRecDepth 20000 in
theorem ggX7_goBack_X1_number : GoodIn wsX7_goBack wsX1_number := goodIn_r _ [15, 16, 90] (by decide +kernel) (by decide +kernel)
set_option maxRecDepth 20000 in
theorem gX7_goBack_X1_number : GoodIn wsX7_goBack (wsV RX7 81 RX1 yX1_number wsX1_number) := goodIn_app (goodIn_of _ (by decide +kernel)) ggX7_goBack_X1_number
set_option maxRecDepth 20000 in
theorem ggX7_goBack_X1_isOnPath : GoodIn wsX7_goBack wsX1_isOnPath := goodIn_r _ [24, 25, 26, 27, 10, 28, 16, 90] (by decide +kernel) (by decide +kernel)
set_option maxRecDepth 20000 in
theorem gX7_goBack_X1_isOnPath : GoodIn wsX7_goBack (wsV RX7 112 RX1 yX1_isOnPath wsX1_isOnPath) := goodIn_app (goodIn_of _ (by decide +kernel)) ggX7_goBack_X1_isOnPath
set_option maxRecDepth 20000 in
theorem ggX7_goBack_X0_remember : GoodIn wsX7_goBack wsX0_remember := goodIn_r _ [33, 34, 35, 36, 37, 38, 39, 40, 41, 42, 43, 10, 44, 16, 45, 46, 47, 48, 17, 18, 19, 91, 92, 93, 90] (by decide +kernel) (by decide +kernel)
set_option maxRecDepth 20000 in
theorem gX7_goBack_X0_remember : GoodIn wsX7_goBack (wsV RX7 97 RX0 yX0_remember wsX0_remember) := goodIn_app (goodIn_of _ (by decide +kernel)) ggX7_goBack_X0_remember
set_option maxRecDepth 20000 in
theorem ggX7_goBack_X1_pathLength : GoodIn wsX7_goBack wsX1_pathLength := goodIn_r _ [52, 25, 26, 27, 10, 28, 16, 90] (by decide +kernel) (by decide +kernel)
set_option maxRecDepth 20000 in
theorem gX7_goBack_X1_pathLength : GoodIn wsX7_goBack (wsV RX7 116 RX1 yX1_pathLength wsX1_pathLength) := goodIn_app (goodIn_of _ (by decide +kernel)) ggX7_goBack_X1_pathLength
set_option maxRecDepth 20000 in
theorem ggX7_goBack_X3_trace : GoodIn wsX7_goBack wsX3_trace := goodIn_r _ [57, 58, 59, 38, 39, 40, 60, 61, 62, 63, 64, 26, 27, 10, 28, 16, 94, 95, 90] (by decide +kernel) (by decide +kernel)
set_option maxRecDepth 20000 in
theorem gX7_goBack_X3_trace : GoodIn wsX7_goBack (wsV RX7 119 RX3 yX3_trace wsX3_trace) := goodIn_app (goodIn_of _ (by decide +kernel)) ggX7_goBack_X3_trace
set_option maxRecDepth 20000 in
theorem ggX7_goBack_X3_at : GoodIn wsX7_goBack wsX3_at := goodIn_r _ [68, 63, 58, 69, 94, 95] (by decide +kernel) (by decide +kernel)
set_option maxRecDepth 20000 in
theorem gX7_goBack_X3_at : GoodIn wsX7_goBack (wsV RX7 123 RX3 yX3_at wsX3_at) := goodIn_app (goodIn_of _ (by decide +kernel)) ggX7_goBack_X3_at
set_option maxRecDepth 20000 in
theorem ggX7_goBack_X1_addBranch : GoodIn wsX7_goBack wsX1_addBranch := goodIn_r _ [73, 12, 13, 14, 10, 15, 16, 74, 75, 76, 77, 78, 79, 80, 81, 90] (by decide +kernel) (by decide +kernel)
set_option maxRecDepth 20000 in
theorem gX7_goBack_X1_addBranch : GoodIn wsX7_goBack (wsV RX7 126 RX1 yX1_addBranch wsX1_addBranch) := goodIn_app (goodIn_of _ (by decide +kernel)) ggX7_goBack_X1_addBranch
set_option maxRecDepth 20000 in
theorem ggX7_goBack_X1_setNumber : GoodIn wsX7_goBack wsX1_setNumber := goodIn_r _ [81, 16, 90] (by decide +kernel) (by decide +kernel)
set_option maxRecDepth 20000 in
theorem gX7_goBack_X1_setNumber : GoodIn wsX7_goBack (wsV RX7 130 RX1 yX1_setNumber wsX1_setNumber) := goodIn_app (goodIn_of _ (by decide +kernel)) ggX7_goBack_X1_setNumber
theorem dX7_goBack_0 : decode cX7_goBack 0 = .ok (.aload_n 0, 1) := by decide +kernel
theorem dX7_goBack_1 : decode cX7_goBack 1 = .ok (.getfield 12, 3) := by decide +kernel
theorem dX7_goBack_4 : decode cX7_goBack 4 = .ok (.iload_n 1, 1) := by decide +kernel
theorem dX7_goBack_5 : decode cX7_goBack 5 = .ok (.invokevirtual 109, 3) := by decide +kernel
theorem dX7_goBack_8 : decode cX7_goBack 8 = .ok (.ifCond .ne 6, 3) := by decide +kernel
theorem dX7_goBack_11 : decode cX7_goBack 11 = .ok (.ldc 65, 2) := by decide +kernel
theorem dX7_goBack_13 : decode cX7_goBack 13 = .ok (.ireturn, 1) := by decide +kernel
theorem dX7_goBack_14 : decode cX7_goBack 14 = .ok (.aload_n 0, 1) := by decide +kernel
theorem dX7_goBack_15 : decode cX7_goBack 15 = .ok (.getfield 12, 3) := by decide +kernel
theorem dX7_goBack_18 : decode cX7_goBack 18 = .ok (.iconst 1, 1) := by decide +kernel
theorem dX7_goBack_19 : decode cX7_goBack 19 = .ok (.invokevirtual 81, 3) := by decide +kernel
theorem dX7_goBack_22 : decode cX7_goBack 22 = .ok (.istore_n 2, 1) := by decide +kernel
theorem dX7_goBack_23 : decode cX7_goBack 23 = .ok (.aload_n 0, 1) := by decide +kernel
theorem dX7_goBack_24 : decode cX7_goBack 24 = .ok (.getfield 12, 3) := by decide +kernel
theorem dX7_goBack_27 : decode cX7_goBack 27 = .ok (.iload_n 1, 1) := by decide +kernel
theorem dX7_goBack_28 : decode cX7_goBack 28 = .ok (.iload_n 2, 1) := by decide +kernel
theorem dX7_goBack_29 : decode cX7_goBack 29 = .ok (.invokevirtual 112, 3) := by decide +kernel
theorem dX7_goBack_32 : decode cX7_goBack 32 = .ok (.ifCond .ne 6, 3) := by decide +kernel
theorem dX7_goBack_35 : decode cX7_goBack 35 = .ok (.ldc 80, 2) := by decide +kernel
theorem dX7_goBack_37 : decode cX7_goBack 37 = .ok (.ireturn, 1) := by decide +kernel
theorem dX7_goBack_38 : decode cX7_goBack 38 = .ok (.aload_n 0, 1) := by decide +kernel
theorem dX7_goBack_39 : decode cX7_goBack 39 = .ok (.getfield 12, 3) := by decide +kernel
theorem dX7_goBack_42 : decode cX7_goBack 42 = .ok (.iconst 3, 1) := by decide +kernel
theorem dX7_goBack_43 : decode cX7_goBack 43 = .ok (.invokevirtual 81, 3) := by decide +kernel
theorem dX7_goBack_46 : decode cX7_goBack 46 = .ok (.istore_n 3, 1) := by decide +kernel
theorem dX7_goBack_47 : decode cX7_goBack 47 = .ok (.iload_n 1, 1) := by decide +kernel
theorem dX7_goBack_48 : decode cX7_goBack 48 = .ok (.iload_n 2, 1) := by decide +kernel
theorem dX7_goBack_49 : decode cX7_goBack 49 = .ok (.if_icmp .eq 12, 3) := by decide +kernel
theorem dX7_goBack_52 : decode cX7_goBack 52 = .ok (.iload_n 3, 1) := by decide +kernel
theorem dX7_goBack_53 : decode cX7_goBack 53 = .ok (.bipush 10, 2) := by decide +kernel
theorem dX7_goBack_55 : decode cX7_goBack 55 = .ok (.if_icmp .lt 6, 3) := by decide +kernel
theorem dX7_goBack_58 : decode cX7_goBack 58 = .ok (.ldc 96, 2) := by decide +kernel
theorem dX7_goBack_60 : decode cX7_goBack 60 = .ok (.ireturn, 1) := by decide +kernel
theorem dX7_goBack_61 : decode cX7_goBack 61 = .ok (.aload_n 0, 1) := by decide +kernel
theorem dX7_goBack_62 : decode cX7_goBack 62 = .ok (.getfield 19, 3) := by decide +kernel
theorem dX7_goBack_65 : decode cX7_goBack 65 = .ok (.aload_n 0, 1) := by decide +kernel
theorem dX7_goBack_66 : decode cX7_goBack 66 = .ok (.getfield 12, 3) := by decide +kernel
theorem dX7_goBack_69 : decode cX7_goBack 69 = .ok (.invokevirtual 97, 3) := by decide +kernel
theorem dX7_goBack_72 : decode cX7_goBack 72 = .ok (.iload_n 1, 1) := by decide +kernel
theorem dX7_goBack_73 : decode cX7_goBack 73 = .ok (.iload_n 2, 1) := by decide +kernel
theorem dX7_goBack_74 : decode cX7_goBack 74 = .ok (.if_icmp .eq 63, 3) := by decide +kernel
theorem dX7_goBack_77 : decode cX7_goBack 77 = .ok (.aload_n 0, 1) := by decide +kernel
theorem dX7_goBack_78 : decode cX7_goBack 78 = .ok (.getfield 12, 3) := by decide +kernel
theorem dX7_goBack_81 : decode cX7_goBack 81 = .ok (.iload_n 2, 1) := by decide +kernel
theorem dX7_goBack_82 : decode cX7_goBack 82 = .ok (.invokevirtual 116, 3) := by decide +kernel
theorem dX7_goBack_85 : decode cX7_goBack 85 = .ok (.aload_n 0, 1) := by decide +kernel
theorem dX7_goBack_86 : decode cX7_goBack 86 = .ok (.getfield 12, 3) := by decide +kernel
theorem dX7_goBack_89 : decode cX7_goBack 89 = .ok (.iload_n 1, 1) := by decide +kernel
theorem dX7_goBack_90 : decode cX7_goBack 90 = .ok (.invokevirtual 116, 3) := by decide +kernel
theorem dX7_goBack_93 : decode cX7_goBack 93 = .ok (.isub, 1) := by decide +kernel
theorem dX7_goBack_94 : decode cX7_goBack 94 = .ok (.istore 4, 2) := by decide +kernel
theorem dX7_goBack_96 : decode cX7_goBack 96 = .ok (.aload_n 0, 1) := by decide +kernel
theorem dX7_goBack_97 : decode cX7_goBack 97 = .ok (.getfield 54, 3) := by decide +kernel
theorem dX7_goBack_100 : decode cX7_goBack 100 = .ok (.aload_n 0, 1) := by decide +kernel
theorem dX7_goBack_101 : decode cX7_goBack 101 = .ok (.getfield 12, 3) := by decide +kernel
theorem dX7_goBack_104 : decode cX7_goBack 104 = .ok (.iload_n 2, 1) := by decide +kernel
theorem dX7_goBack_105 : decode cX7_goBack 105 = .ok (.iload 4, 2) := by decide +kernel
theorem dX7_goBack_107 : decode cX7_goBack 107 = .ok (.invokevirtual 119, 3) := by decide +kernel
theorem dX7_goBack_110 : decode cX7_goBack 110 = .ok (.aload_n 0, 1) := by decide +kernel
theorem dX7_goBack_111 : decode cX7_goBack 111 = .ok (.getfield 12, 3) := by decide +kernel
theorem dX7_goBack_114 : decode cX7_goBack 114 = .ok (.iload_n 2, 1) := by decide +kernel
theorem dX7_goBack_115 : decode cX7_goBack 115 = .ok (.iload 4, 2) := by decide +kernel
theorem dX7_goBack_117 : decode cX7_goBack 117 = .ok (.aload_n 0, 1) := by decide +kernel
theorem dX7_goBack_118 : decode cX7_goBack 118 = .ok (.getfield 54, 3) := by decide +kernel
theorem dX7_goBack_121 : decode cX7_goBack 121 = .ok (.iconst 0, 1) := by decide +kernel
theorem dX7_goBack_122 : decode cX7_goBack 122 = .ok (.invokevirtual 123, 3) := by decide +kernel
theorem dX7_goBack_125 : decode cX7_goBack 125 = .ok (.invokevirtual 126, 3) := by decide +kernel
theorem dX7_goBack_128 : decode cX7_goBack 128 = .ok (.aload_n 0, 1) := by decide +kernel
theorem dX7_goBack_129 : decode cX7_goBack 129 = .ok (.getfield 12, 3) := by decide +kernel
theorem dX7_goBack_132 : decode cX7_goBack 132 = .ok (.iconst 1, 1) := by decide +kernel
theorem dX7_goBack_133 : decode cX7_goBack 133 = .ok (.iload_n 1, 1) := by decide +kernel
theorem dX7_goBack_134 : decode cX7_goBack 134 = .ok (.invokevirtual 130, 3) := by decide +kernel
theorem dX7_goBack_137 : decode cX7_goBack 137 = .ok (.iload_n 3, 1) := by decide +kernel
theorem dX7_goBack_138 : decode cX7_goBack 138 = .ok (.ireturn, 1) := by decide +kernel
set_option maxRecDepth 20000 in
theorem ggX7_setPatience_X7_isWithin : GoodIn wsX7_setPatience wsX7_isWithin := goodIn_r _ [7] (by decide +kernel) (by decide +kernel)
set_option maxRecDepth 20000 in
theorem gX7_setPatience_X7_isWithin : GoodIn wsX7_setPatience (va_wsS RX7 134 yX7_isWithin wsX7_isWithin) := goodIn_app (goodIn_of _ (by decide +kernel)) ggX7_setPatience_X7_isWithin
set_option maxRecDepth 20000 in
theorem ggX7_setPatience_X0_remember : GoodIn wsX7_setPatience wsX0_remember := goodIn_r _ [12, 13, 14, 15, 16, 17, 18, 19, 20, 21, 22, 23, 24, 25, 26, 27, 28, 29, 5, 6, 7, 45, 46, 47, 48] (by decide +kernel) (by decide +kernel)
set_option maxRecDepth 20000 in
theorem gX7_setPatience_X0_remember : GoodIn wsX7_setPatience (wsV RX7 97 RX0 yX0_remember wsX0_remember) := goodIn_app (goodIn_of _ (by decide +kernel)) ggX7_setPatience_X0_remember
set_option maxRecDepth 20000 in
theorem ggX7_setPatience_X1_number : GoodIn wsX7_setPatience wsX1_number := goodIn_r _ [33, 25, 48] (by decide +kernel) (by decide +kernel)
set_option maxRecDepth 20000 in
theorem gX7_setPatience_X1_number : GoodIn wsX7_setPatience (wsV RX7 81 RX1 yX1_number wsX1_number) := goodIn_app (goodIn_of _ (by decide +kernel)) ggX7_setPatience_X1_number
set_option maxRecDepth 20000 in
theorem ggX7_setPatience_X1_setNumber : GoodIn wsX7_setPatience wsX1_setNumber := goodIn_r _ [37, 25, 48] (by decide +kernel) (by decide +kernel)
set_option maxRecDepth 20000 in
theorem gX7_setPatience_X1_setNumber : GoodIn wsX7_setPatience (wsV RX7 130 RX1 yX1_setNumber wsX1_setNumber) := goodIn_app (goodIn_of _ (by decide +kernel)) ggX7_setPatience_X1_setNumber
theorem dX7_setPatience_0 : decode cX7_setPatience 0 = .ok (.iload_n 1, 1) := by decide +kernel
theorem dX7_setPatience_1 : decode cX7_setPatience 1 = .ok (.iconst 1, 1) := by decide +kernel
theorem dX7_setPatience_2 : decode cX7_setPatience 2 = .ok (.bipush 30, 2) := by decide +kernel
theorem dX7_setPatience_4 : decode cX7_setPatience 4 = .ok (.invokestatic 134, 3) := by decide +kernel
theorem dX7_setPatience_7 : decode cX7_setPatience 7 = .ok (.ifCond .ne 6, 3) := by decide +kernel
theorem dX7_setPatience_10 : decode cX7_setPatience 10 = .ok (.ldc 65, 2) := by decide +kernel
theorem dX7_setPatience_12 : decode cX7_setPatience 12 = .ok (.ireturn, 1) := by decide +kernel
theorem dX7_setPatience_13 : decode cX7_setPatience 13 = .ok (.aload_n 0, 1) := by decide +kernel
theorem dX7_setPatience_14 : decode cX7_setPatience 14 = .ok (.getfield 19, 3) := by decide +kernel
theorem dX7_setPatience_17 : decode cX7_setPatience 17 = .ok (.aload_n 0, 1) := by decide +kernel
theorem dX7_setPatience_18 : decode cX7_setPatience 18 = .ok (.getfield 12, 3) := by decide +kernel
theorem dX7_setPatience_21 : decode cX7_setPatience 21 = .ok (.invokevirtual 97, 3) := by decide +kernel
theorem dX7_setPatience_24 : decode cX7_setPatience 24 = .ok (.aload_n 0, 1) := by decide +kernel
theorem dX7_setPatience_25 : decode cX7_setPatience 25 = .ok (.getfield 12, 3) := by decide +kernel
theorem dX7_setPatience_28 : decode cX7_setPatience 28 = .ok (.iconst 2, 1) := by decide +kernel
theorem dX7_setPatience_29 : decode cX7_setPatience 29 = .ok (.invokevirtual 81, 3) := by decide +kernel
theorem dX7_setPatience_32 : decode cX7_setPatience 32 = .ok (.istore_n 2, 1) := by decide +kernel
theorem dX7_setPatience_33 : decode cX7_setPatience 33 = .ok (.aload_n 0, 1) := by decide +kernel
theorem dX7_setPatience_34 : decode cX7_setPatience 34 = .ok (.getfield 12, 3) := by decide +kernel
theorem dX7_setPatience_37 : decode cX7_setPatience 37 = .ok (.iconst 2, 1) := by decide +kernel
theorem dX7_setPatience_38 : decode cX7_setPatience 38 = .ok (.iload_n 1, 1) := by decide +kernel
theorem dX7_setPatience_39 : decode cX7_setPatience 39 = .ok (.invokevirtual 130, 3) := by decide +kernel
theorem dX7_setPatience_42 : decode cX7_setPatience 42 = .ok (.iload_n 2, 1) := by decide +kernel
theorem dX7_setPatience_43 : decode cX7_setPatience 43 = .ok (.ireturn, 1) := by decide +kernel
set_option maxRecDepth 20000 in
theorem ggX7_adopt_X1_hasBranch : GoodIn wsX7_adopt wsX1_hasBranch := goodIn_r _ [12, 13, 14, 15, 11, 16, 17, 18, 19, 20, 170] (by decide +kernel) (by decide +kernel)
set_option maxRecDepth 20000 in
theorem gX7_adopt_X1_hasBranch : GoodIn wsX7_adopt (wsV RX7 137 RX1 yX1_hasBranch wsX1_hasBranch) := goodIn_app (goodIn_of _ (by decide +kernel)) ggX7_adopt_X1_hasBranch
set_option maxRecDepth 20000 in
theorem ggX7_adopt_X7_isWithin : GoodIn wsX7_adopt wsX7_isWithin := goodIn_r _ [20] (by decide +kernel) (by decide +kernel)
set_option maxRecDepth 20000 in
theorem gX7_adopt_X7_isWithin : GoodIn wsX7_adopt (va_wsS RX7 134 yX7_isWithin wsX7_isWithin) := goodIn_app (goodIn_of _ (by decide +kernel)) ggX7_adopt_X7_isWithin
set_option maxRecDepth 20000 in
theorem ggX7_adopt_X1_isWaiting : GoodIn wsX7_adopt wsX1_isWaiting := goodIn_r _ [25, 26, 27, 28, 11, 29, 17, 170] (by decide +kernel) (by decide +kernel)
set_option maxRecDepth 20000 in
theorem gX7_adopt_X1_isWaiting : GoodIn wsX7_adopt (wsV RX7 140 RX1 yX1_isWaiting wsX1_isWaiting) := goodIn_app (goodIn_of _ (by decide +kernel)) ggX7_adopt_X1_isWaiting
set_option maxRecDepth 20000 in
theorem ggX7_adopt_X7_layOut : GoodIn wsX7_adopt wsX7_layOut := goodIn_r _ [33, 5, 1, 4, 34, 35, 36, 37, 38, 39, 27, 28, 11, 29, 17, 40, 41, 42, 43, 44, 45, 46, 47, 48, 49, 50, 51, 52, 53, 54, 55, 56, 57, 14, 15, 16, 58, 59, 60, 61, 62, 63, 64, 65, 66, 67, 68, 69, 70, 71, 72, 73, 74, 75, 76, 77, 19, 78, 79, 80, 81, 82, 83, 84, 163, 164, 165, 166, 167, 168, 169, 170, 171, 172, 173] (by decide +kernel) (by decide +kernel)
set_option maxRecDepth 20000 in
theorem gX7_adopt_X7_layOut : GoodIn wsX7_adopt (wsV RX7 143 RX7 yX7_layOut wsX7_layOut) := goodIn_app (goodIn_of _ (by decide +kernel)) ggX7_adopt_X7_layOut
set_option maxRecDepth 20000 in
theorem ggX7_adopt_X5_addAfforded : GoodIn wsX7_adopt wsX5_addAfforded := goodIn_r _ [88, 89, 90, 91, 37, 92, 52, 93, 94, 95, 96, 44, 97, 98, 99, 100, 61, 101, 76, 54, 55, 11, 56, 17, 102, 103, 104, 105, 77, 19, 78, 106, 107, 108, 109, 67, 72, 73, 74, 75, 79, 80, 81, 82, 83, 84, 171, 172, 170, 173] (by decide +kernel) (by decide +kernel)
set_option maxRecDepth 20000 in
theorem gX7_adopt_X5_addAfforded : GoodIn wsX7_adopt (wsV RX7 147 RX5 yX5_addAfforded wsX5_addAfforded) := goodIn_app (goodIn_of _ (by decide +kernel)) ggX7_adopt_X5_addAfforded
set_option maxRecDepth 20000 in
theorem ggX7_adopt_X3_length : GoodIn wsX7_adopt wsX3_length := goodIn_r _ [92, 52, 171, 172] (by decide +kernel) (by decide +kernel)
set_option maxRecDepth 20000 in
theorem gX7_adopt_X3_length : GoodIn wsX7_adopt (wsV RX7 151 RX3 yX3_length wsX3_length) := goodIn_app (goodIn_of _ (by decide +kernel)) ggX7_adopt_X3_length
set_option maxRecDepth 20000 in
theorem ggX7_adopt_X1_room : GoodIn wsX7_adopt wsX1_room := goodIn_r _ [114, 13, 14, 15, 11, 16, 17, 170] (by decide +kernel) (by decide +kernel)
set_option maxRecDepth 20000 in
theorem gX7_adopt_X1_room : GoodIn wsX7_adopt (wsV RX7 93 RX1 yX1_room wsX1_room) := goodIn_app (goodIn_of _ (by decide +kernel)) ggX7_adopt_X1_room
set_option maxRecDepth 20000 in
theorem ggX7_adopt_X0_remember : GoodIn wsX7_adopt wsX0_remember := goodIn_r _ [119, 120, 121, 122, 123, 46, 47, 48, 124, 125, 126, 11, 127, 17, 128, 129, 130, 131, 18, 19, 20, 174, 175, 176, 170] (by decide +kernel) (by decide +kernel)
set_option maxRecDepth 20000 in
theorem gX7_adopt_X0_remember : GoodIn wsX7_adopt (wsV RX7 97 RX0 yX0_remember wsX0_remember) := goodIn_app (goodIn_of _ (by decide +kernel)) ggX7_adopt_X0_remember
set_option maxRecDepth 20000 in
theorem ggX7_adopt_X7_writeAnew : GoodIn wsX7_adopt wsX7_writeAnew := goodIn_r _ [135, 4, 1, 5, 57, 14, 15, 11, 16, 17, 58, 59, 60, 61, 62, 63, 64, 65, 66, 67, 68, 69, 70, 71, 72, 73, 74, 75, 76, 54, 55, 56, 77, 19, 78, 79, 80, 81, 82, 83, 84, 110, 90, 91, 37, 92, 52, 136, 94, 95, 96, 44, 97, 137, 99, 100, 101, 102, 103, 104, 105, 106, 107, 108, 109, 138, 139, 140, 141, 142, 143, 144, 145, 146, 13, 147, 148, 149, 150, 151, 152, 153, 154, 155, 156, 157, 158, 163, 164, 165, 166, 167, 168, 169, 170, 173, 171, 172] (by decide +kernel) (by decide +kernel)
set_option maxRecDepth 20000 in
theorem gX7_adopt_X7_writeAnew : GoodIn wsX7_adopt (wsV RX7 154 RX7 yX7_writeAnew wsX7_writeAnew) := goodIn_app (goodIn_of _ (by decide +kernel)) ggX7_adopt_X7_writeAnew
set_option maxRecDepth 20000 in
theorem ggX7_adopt_X1_setOfBranch : GoodIn wsX7_adopt wsX1_setOfBranch := goodIn_r _ [162, 17, 170] (by decide +kernel) (by decide +kernel)
set_option maxRecDepth 20000 in
theorem gX7_adopt_X1_setOfBranch : GoodIn wsX7_adopt (wsV RX7 157 RX1 yX1_setOfBranch wsX1_setOfBranch) := goodIn_app (goodIn_of _ (by decide +kernel)) ggX7_adopt_X1_setOfBranch
theorem dX7_adopt_0 : decode cX7_adopt 0 = .ok (.aload_n 0, 1) := by decide +kernel
theorem dX7_adopt_1 : decode cX7_adopt 1 = .ok (.getfield 12, 3) := by decide +kernel
theorem dX7_adopt_4 : decode cX7_adopt 4 = .ok (.iload_n 1, 1) := by decide +kernel
theorem dX7_adopt_5 : decode cX7_adopt 5 = .ok (.invokevirtual 137, 3) := by decide +kernel
theorem dX7_adopt_8 : decode cX7_adopt 8 = .ok (.ifCond .eq 12, 3) := by decide +kernel
theorem dX7_adopt_11 : decode cX7_adopt 11 = .ok (.iload_n 2, 1) := by decide +kernel
theorem dX7_adopt_12 : decode cX7_adopt 12 = .ok (.iconst 0, 1) := by decide +kernel
theorem dX7_adopt_13 : decode cX7_adopt 13 = .ok (.iconst 1, 1) := by decide +kernel
theorem dX7_adopt_14 : decode cX7_adopt 14 = .ok (.invokestatic 134, 3) := by decide +kernel
theorem dX7_adopt_17 : decode cX7_adopt 17 = .ok (.ifCond .ne 6, 3) := by decide +kernel
theorem dX7_adopt_20 : decode cX7_adopt 20 = .ok (.ldc 65, 2) := by decide +kernel
theorem dX7_adopt_22 : decode cX7_adopt 22 = .ok (.ireturn, 1) := by decide +kernel
theorem dX7_adopt_23 : decode cX7_adopt 23 = .ok (.aload_n 0, 1) := by decide +kernel
theorem dX7_adopt_24 : decode cX7_adopt 24 = .ok (.getfield 12, 3) := by decide +kernel
theorem dX7_adopt_27 : decode cX7_adopt 27 = .ok (.iload_n 1, 1) := by decide +kernel
theorem dX7_adopt_28 : decode cX7_adopt 28 = .ok (.invokevirtual 140, 3) := by decide +kernel
theorem dX7_adopt_31 : decode cX7_adopt 31 = .ok (.ifCond .ne 6, 3) := by decide +kernel
theorem dX7_adopt_34 : decode cX7_adopt 34 = .ok (.ldc 80, 2) := by decide +kernel
theorem dX7_adopt_36 : decode cX7_adopt 36 = .ok (.ireturn, 1) := by decide +kernel
theorem dX7_adopt_37 : decode cX7_adopt 37 = .ok (.aload_n 0, 1) := by decide +kernel
theorem dX7_adopt_38 : decode cX7_adopt 38 = .ok (.iload_n 1, 1) := by decide +kernel
theorem dX7_adopt_39 : decode cX7_adopt 39 = .ok (.invokevirtual 143, 3) := by decide +kernel
theorem dX7_adopt_42 : decode cX7_adopt 42 = .ok (.aload_n 0, 1) := by decide +kernel
theorem dX7_adopt_43 : decode cX7_adopt 43 = .ok (.getfield 47, 3) := by decide +kernel
theorem dX7_adopt_46 : decode cX7_adopt 46 = .ok (.aload_n 0, 1) := by decide +kernel
theorem dX7_adopt_47 : decode cX7_adopt 47 = .ok (.getfield 12, 3) := by decide +kernel
theorem dX7_adopt_50 : decode cX7_adopt 50 = .ok (.aload_n 0, 1) := by decide +kernel
theorem dX7_adopt_51 : decode cX7_adopt 51 = .ok (.getfield 54, 3) := by decide +kernel
theorem dX7_adopt_54 : decode cX7_adopt 54 = .ok (.invokevirtual 147, 3) := by decide +kernel
theorem dX7_adopt_57 : decode cX7_adopt 57 = .ok (.istore_n 3, 1) := by decide +kernel
theorem dX7_adopt_58 : decode cX7_adopt 58 = .ok (.iload_n 2, 1) := by decide +kernel
theorem dX7_adopt_59 : decode cX7_adopt 59 = .ok (.ifCond .ne 17, 3) := by decide +kernel
theorem dX7_adopt_62 : decode cX7_adopt 62 = .ok (.iload_n 3, 1) := by decide +kernel
theorem dX7_adopt_63 : decode cX7_adopt 63 = .ok (.aload_n 0, 1) := by decide +kernel
theorem dX7_adopt_64 : decode cX7_adopt 64 = .ok (.getfield 54, 3) := by decide +kernel
theorem dX7_adopt_67 : decode cX7_adopt 67 = .ok (.invokevirtual 151, 3) := by decide +kernel
theorem dX7_adopt_70 : decode cX7_adopt 70 = .ok (.if_icmp .ge 6, 3) := by decide +kernel
theorem dX7_adopt_73 : decode cX7_adopt 73 = .ok (.ldc 80, 2) := by decide +kernel
theorem dX7_adopt_75 : decode cX7_adopt 75 = .ok (.ireturn, 1) := by decide +kernel
theorem dX7_adopt_76 : decode cX7_adopt 76 = .ok (.iload_n 3, 1) := by decide +kernel
theorem dX7_adopt_77 : decode cX7_adopt 77 = .ok (.aload_n 0, 1) := by decide +kernel
theorem dX7_adopt_78 : decode cX7_adopt 78 = .ok (.getfield 12, 3) := by decide +kernel
theorem dX7_adopt_81 : decode cX7_adopt 81 = .ok (.invokevirtual 93, 3) := by decide +kernel
theorem dX7_adopt_84 : decode cX7_adopt 84 = .ok (.if_icmp .le 6, 3) := by decide +kernel
theorem dX7_adopt_87 : decode cX7_adopt 87 = .ok (.ldc 96, 2) := by decide +kernel
theorem dX7_adopt_89 : decode cX7_adopt 89 = .ok (.ireturn, 1) := by decide +kernel
theorem dX7_adopt_90 : decode cX7_adopt 90 = .ok (.aload_n 0, 1) := by decide +kernel
theorem dX7_adopt_91 : decode cX7_adopt 91 = .ok (.getfield 19, 3) := by decide +kernel
theorem dX7_adopt_94 : decode cX7_adopt 94 = .ok (.aload_n 0, 1) := by decide +kernel
theorem dX7_adopt_95 : decode cX7_adopt 95 = .ok (.getfield 12, 3) := by decide +kernel
theorem dX7_adopt_98 : decode cX7_adopt 98 = .ok (.invokevirtual 97, 3) := by decide +kernel
theorem dX7_adopt_101 : decode cX7_adopt 101 = .ok (.aload_n 0, 1) := by decide +kernel
theorem dX7_adopt_102 : decode cX7_adopt 102 = .ok (.invokevirtual 154, 3) := by decide +kernel
theorem dX7_adopt_105 : decode cX7_adopt 105 = .ok (.aload_n 0, 1) := by decide +kernel
theorem dX7_adopt_106 : decode cX7_adopt 106 = .ok (.getfield 12, 3) := by decide +kernel
theorem dX7_adopt_109 : decode cX7_adopt 109 = .ok (.iload_n 1, 1) := by decide +kernel
theorem dX7_adopt_110 : decode cX7_adopt 110 = .ok (.iconst 4, 1) := by decide +kernel
theorem dX7_adopt_111 : decode cX7_adopt 111 = .ok (.iconst 2, 1) := by decide +kernel
theorem dX7_adopt_112 : decode cX7_adopt 112 = .ok (.invokevirtual 157, 3) := by decide +kernel
theorem dX7_adopt_115 : decode cX7_adopt 115 = .ok (.iload_n 3, 1) := by decide +kernel
theorem dX7_adopt_116 : decode cX7_adopt 116 = .ok (.ireturn, 1) := by decide +kernel
set_option maxRecDepth 20000 in
theorem ggX7_writeAnew_X1_number : GoodIn wsX7_writeAnew wsX1_number := goodIn_r _ [8, 9, 94] (by decide +kernel) (by decide +kernel)
set_option maxRecDepth 20000 in
theorem gX7_writeAnew_X1_number : GoodIn wsX7_writeAnew (wsV RX7 81 RX1 yX1_number wsX1_number) := goodIn_app (goodIn_of _ (by decide +kernel)) ggX7_writeAnew_X1_number
set_option maxRecDepth 20000 in
theorem ggX7_writeAnew_X5_fill : GoodIn wsX7_writeAnew wsX5_fill := goodIn_r _ [14, 15, 16, 17, 13, 18, 19, 20, 21, 22, 23, 24, 25, 26, 27, 28, 29, 30, 7, 31, 9, 32, 33, 34, 35, 36, 37, 38, 39, 40, 95, 94] (by decide +kernel) (by decide +kernel)
set_option maxRecDepth 20000 in
theorem gX7_writeAnew_X5_fill : GoodIn wsX7_writeAnew (wsV RX7 85 RX5 yX5_fill wsX5_fill) := goodIn_app (goodIn_of _ (by decide +kernel)) ggX7_writeAnew_X5_fill
set_option maxRecDepth 20000 in
theorem ggX7_writeAnew_X3_length : GoodIn wsX7_writeAnew wsX3_length := goodIn_r _ [45, 46, 96, 97] (by decide +kernel) (by decide +kernel)
set_option maxRecDepth 20000 in
theorem gX7_writeAnew_X3_length : GoodIn wsX7_writeAnew (wsV RX7 151 RX3 yX3_length wsX3_length) := goodIn_app (goodIn_of _ (by decide +kernel)) ggX7_writeAnew_X3_length
set_option maxRecDepth 20000 in
theorem ggX7_writeAnew_X3_at : GoodIn wsX7_writeAnew wsX3_at := goodIn_r _ [50, 46, 51, 52, 96, 97] (by decide +kernel) (by decide +kernel)
set_option maxRecDepth 20000 in
theorem gX7_writeAnew_X3_at : GoodIn wsX7_writeAnew (wsV RX7 123 RX3 yX3_at wsX3_at) := goodIn_app (goodIn_of _ (by decide +kernel)) ggX7_writeAnew_X3_at
set_option maxRecDepth 20000 in
theorem ggX7_writeAnew_X5_addIfAfforded : GoodIn wsX7_writeAnew wsX5_addIfAfforded := goodIn_r _ [56, 28, 29, 30, 7, 31, 9, 57, 58, 59, 13, 60, 32, 33, 34, 61, 62, 63, 64, 19, 24, 25, 26, 27, 35, 36, 37, 38, 39, 40, 94, 95] (by decide +kernel) (by decide +kernel)
set_option maxRecDepth 20000 in
theorem gX7_writeAnew_X5_addIfAfforded : GoodIn wsX7_writeAnew (wsV RX7 160 RX5 yX5_addIfAfforded wsX5_addIfAfforded) := goodIn_app (goodIn_of _ (by decide +kernel)) ggX7_writeAnew_X5_addIfAfforded
set_option maxRecDepth 20000 in
theorem ggX7_writeAnew_X1_addAnew : GoodIn wsX7_writeAnew wsX1_addAnew := goodIn_r _ [68, 69, 29, 30, 7, 31, 9, 70, 71, 72, 73, 74, 5, 6, 8, 75, 76, 77, 78, 79, 80, 81, 82, 83, 84, 85, 86, 94] (by decide +kernel) (by decide +kernel)
set_option maxRecDepth 20000 in
theorem gX7_writeAnew_X1_addAnew : GoodIn wsX7_writeAnew (wsV RX7 164 RX1 yX1_addAnew wsX1_addAnew) := goodIn_app (goodIn_of _ (by decide +kernel)) ggX7_writeAnew_X1_addAnew
theorem dX7_writeAnew_0 : decode cX7_writeAnew 0 = .ok (.aload_n 0, 1) := by decide +kernel
theorem dX7_writeAnew_1 : decode cX7_writeAnew 1 = .ok (.getfield 47, 3) := by decide +kernel
theorem dX7_writeAnew_4 : decode cX7_writeAnew 4 = .ok (.aload_n 0, 1) := by decide +kernel
theorem dX7_writeAnew_5 : decode cX7_writeAnew 5 = .ok (.getfield 12, 3) := by decide +kernel
theorem dX7_writeAnew_8 : decode cX7_writeAnew 8 = .ok (.aload_n 0, 1) := by decide +kernel
theorem dX7_writeAnew_9 : decode cX7_writeAnew 9 = .ok (.getfield 12, 3) := by decide +kernel
theorem dX7_writeAnew_12 : decode cX7_writeAnew 12 = .ok (.iconst 1, 1) := by decide +kernel
theorem dX7_writeAnew_13 : decode cX7_writeAnew 13 = .ok (.invokevirtual 81, 3) := by decide +kernel
theorem dX7_writeAnew_16 : decode cX7_writeAnew 16 = .ok (.invokevirtual 85, 3) := by decide +kernel
theorem dX7_writeAnew_19 : decode cX7_writeAnew 19 = .ok (.iconst 0, 1) := by decide +kernel
theorem dX7_writeAnew_20 : decode cX7_writeAnew 20 = .ok (.istore_n 1, 1) := by decide +kernel
theorem dX7_writeAnew_21 : decode cX7_writeAnew 21 = .ok (.iload_n 1, 1) := by decide +kernel
theorem dX7_writeAnew_22 : decode cX7_writeAnew 22 = .ok (.aload_n 0, 1) := by decide +kernel
theorem dX7_writeAnew_23 : decode cX7_writeAnew 23 = .ok (.getfield 54, 3) := by decide +kernel
theorem dX7_writeAnew_26 : decode cX7_writeAnew 26 = .ok (.invokevirtual 151, 3) := by decide +kernel
theorem dX7_writeAnew_29 : decode cX7_writeAnew 29 = .ok (.if_icmp .ge 41, 3) := by decide +kernel
theorem dX7_writeAnew_32 : decode cX7_writeAnew 32 = .ok (.aload_n 0, 1) := by decide +kernel
theorem dX7_writeAnew_33 : decode cX7_writeAnew 33 = .ok (.getfield 54, 3) := by decide +kernel
theorem dX7_writeAnew_36 : decode cX7_writeAnew 36 = .ok (.iload_n 1, 1) := by decide +kernel
theorem dX7_writeAnew_37 : decode cX7_writeAnew 37 = .ok (.invokevirtual 123, 3) := by decide +kernel
theorem dX7_writeAnew_40 : decode cX7_writeAnew 40 = .ok (.istore_n 2, 1) := by decide +kernel
theorem dX7_writeAnew_41 : decode cX7_writeAnew 41 = .ok (.aload_n 0, 1) := by decide +kernel
theorem dX7_writeAnew_42 : decode cX7_writeAnew 42 = .ok (.getfield 47, 3) := by decide +kernel
theorem dX7_writeAnew_45 : decode cX7_writeAnew 45 = .ok (.aload_n 0, 1) := by decide +kernel
theorem dX7_writeAnew_46 : decode cX7_writeAnew 46 = .ok (.getfield 12, 3) := by decide +kernel
theorem dX7_writeAnew_49 : decode cX7_writeAnew 49 = .ok (.iload_n 2, 1) := by decide +kernel
theorem dX7_writeAnew_50 : decode cX7_writeAnew 50 = .ok (.invokevirtual 160, 3) := by decide +kernel
theorem dX7_writeAnew_53 : decode cX7_writeAnew 53 = .ok (.ifCond .eq 11, 3) := by decide +kernel
theorem dX7_writeAnew_56 : decode cX7_writeAnew 56 = .ok (.aload_n 0, 1) := by decide +kernel
theorem dX7_writeAnew_57 : decode cX7_writeAnew 57 = .ok (.getfield 12, 3) := by decide +kernel
theorem dX7_writeAnew_60 : decode cX7_writeAnew 60 = .ok (.iload_n 2, 1) := by decide +kernel
theorem dX7_writeAnew_61 : decode cX7_writeAnew 61 = .ok (.invokevirtual 164, 3) := by decide +kernel
theorem dX7_writeAnew_64 : decode cX7_writeAnew 64 = .ok (.iinc 1 1, 3) := by decide +kernel
theorem dX7_writeAnew_67 : decode cX7_writeAnew 67 = .ok (.goto (-46), 3) := by decide +kernel
theorem dX7_writeAnew_70 : decode cX7_writeAnew 70 = .ok (.return_, 1) := by decide +kernel
set_option maxRecDepth 20000 in
theorem ggX7_dismiss_X1_hasBranch : GoodIn wsX7_dismiss wsX1_hasBranch := goodIn_r _ [11, 12, 13, 14, 10, 15, 16, 17, 18, 19, 84] (by decide +kernel) (by decide +kernel)
set_option maxRecDepth 20000 in
theorem gX7_dismiss_X1_hasBranch : GoodIn wsX7_dismiss (wsV RX7 137 RX1 yX1_hasBranch wsX1_hasBranch) := goodIn_app (goodIn_of _ (by decide +kernel)) ggX7_dismiss_X1_hasBranch
set_option maxRecDepth 20000 in
theorem ggX7_dismiss_X1_isWaiting : GoodIn wsX7_dismiss wsX1_isWaiting := goodIn_r _ [23, 24, 25, 26, 10, 27, 16, 84] (by decide +kernel) (by decide +kernel)
set_option maxRecDepth 20000 in
theorem gX7_dismiss_X1_isWaiting : GoodIn wsX7_dismiss (wsV RX7 140 RX1 yX1_isWaiting wsX1_isWaiting) := goodIn_app (goodIn_of _ (by decide +kernel)) ggX7_dismiss_X1_isWaiting
set_option maxRecDepth 20000 in
theorem ggX7_dismiss_X1_room : GoodIn wsX7_dismiss wsX1_room := goodIn_r _ [31, 12, 13, 14, 10, 15, 16, 84] (by decide +kernel) (by decide +kernel)
set_option maxRecDepth 20000 in
theorem gX7_dismiss_X1_room : GoodIn wsX7_dismiss (wsV RX7 93 RX1 yX1_room wsX1_room) := goodIn_app (goodIn_of _ (by decide +kernel)) ggX7_dismiss_X1_room
set_option maxRecDepth 20000 in
theorem ggX7_dismiss_X0_remember : GoodIn wsX7_dismiss wsX0_remember := goodIn_r _ [36, 37, 38, 39, 40, 41, 42, 43, 44, 45, 46, 10, 47, 16, 48, 49, 50, 51, 17, 18, 19, 85, 86, 87, 84] (by decide +kernel) (by decide +kernel)
set_option maxRecDepth 20000 in
theorem gX7_dismiss_X0_remember : GoodIn wsX7_dismiss (wsV RX7 97 RX0 yX0_remember wsX0_remember) := goodIn_app (goodIn_of _ (by decide +kernel)) ggX7_dismiss_X0_remember
set_option maxRecDepth 20000 in
theorem ggX7_dismiss_X1_setOfBranch : GoodIn wsX7_dismiss wsX1_setOfBranch := goodIn_r _ [55, 16, 84] (by decide +kernel) (by decide +kernel)
set_option maxRecDepth 20000 in
theorem gX7_dismiss_X1_setOfBranch : GoodIn wsX7_dismiss (wsV RX7 157 RX1 yX1_setOfBranch wsX1_setOfBranch) := goodIn_app (goodIn_of _ (by decide +kernel)) ggX7_dismiss_X1_setOfBranch
set_option maxRecDepth 20000 in
theorem ggX7_dismiss_X1_ofBranch : GoodIn wsX7_dismiss wsX1_ofBranch := goodIn_r _ [27, 16, 84] (by decide +kernel) (by decide +kernel)
set_option maxRecDepth 20000 in
theorem gX7_dismiss_X1_ofBranch : GoodIn wsX7_dismiss (wsV RX7 167 RX1 yX1_ofBranch wsX1_ofBranch) := goodIn_app (goodIn_of _ (by decide +kernel)) ggX7_dismiss_X1_ofBranch
set_option maxRecDepth 20000 in
theorem ggX7_dismiss_X1_addEntry : GoodIn wsX7_dismiss wsX1_addEntry := goodIn_r _ [60, 12, 13, 14, 10, 15, 16, 61, 62, 63, 64, 65, 66, 67, 68, 69, 70, 71, 72, 73, 74, 75, 76, 84] (by decide +kernel) (by decide +kernel)
set_option maxRecDepth 20000 in
theorem gX7_dismiss_X1_addEntry : GoodIn wsX7_dismiss (wsV RX7 105 RX1 yX1_addEntry wsX1_addEntry) := goodIn_app (goodIn_of _ (by decide +kernel)) ggX7_dismiss_X1_addEntry
theorem dX7_dismiss_0 : decode cX7_dismiss 0 = .ok (.aload_n 0, 1) := by decide +kernel
theorem dX7_dismiss_1 : decode cX7_dismiss 1 = .ok (.getfield 12, 3) := by decide +kernel
theorem dX7_dismiss_4 : decode cX7_dismiss 4 = .ok (.iload_n 1, 1) := by decide +kernel
theorem dX7_dismiss_5 : decode cX7_dismiss 5 = .ok (.invokevirtual 137, 3) := by decide +kernel
theorem dX7_dismiss_8 : decode cX7_dismiss 8 = .ok (.ifCond .ne 6, 3) := by decide +kernel
theorem dX7_dismiss_11 : decode cX7_dismiss 11 = .ok (.ldc 65, 2) := by decide +kernel
theorem dX7_dismiss_13 : decode cX7_dismiss 13 = .ok (.ireturn, 1) := by decide +kernel
theorem dX7_dismiss_14 : decode cX7_dismiss 14 = .ok (.aload_n 0, 1) := by decide +kernel
theorem dX7_dismiss_15 : decode cX7_dismiss 15 = .ok (.getfield 12, 3) := by decide +kernel
theorem dX7_dismiss_18 : decode cX7_dismiss 18 = .ok (.iload_n 1, 1) := by decide +kernel
theorem dX7_dismiss_19 : decode cX7_dismiss 19 = .ok (.invokevirtual 140, 3) := by decide +kernel
theorem dX7_dismiss_22 : decode cX7_dismiss 22 = .ok (.ifCond .ne 6, 3) := by decide +kernel
theorem dX7_dismiss_25 : decode cX7_dismiss 25 = .ok (.ldc 80, 2) := by decide +kernel
theorem dX7_dismiss_27 : decode cX7_dismiss 27 = .ok (.ireturn, 1) := by decide +kernel
theorem dX7_dismiss_28 : decode cX7_dismiss 28 = .ok (.aload_n 0, 1) := by decide +kernel
theorem dX7_dismiss_29 : decode cX7_dismiss 29 = .ok (.getfield 12, 3) := by decide +kernel
theorem dX7_dismiss_32 : decode cX7_dismiss 32 = .ok (.invokevirtual 93, 3) := by decide +kernel
theorem dX7_dismiss_35 : decode cX7_dismiss 35 = .ok (.iconst 1, 1) := by decide +kernel
theorem dX7_dismiss_36 : decode cX7_dismiss 36 = .ok (.if_icmp .ge 6, 3) := by decide +kernel
theorem dX7_dismiss_39 : decode cX7_dismiss 39 = .ok (.ldc 96, 2) := by decide +kernel
theorem dX7_dismiss_41 : decode cX7_dismiss 41 = .ok (.ireturn, 1) := by decide +kernel
theorem dX7_dismiss_42 : decode cX7_dismiss 42 = .ok (.aload_n 0, 1) := by decide +kernel
theorem dX7_dismiss_43 : decode cX7_dismiss 43 = .ok (.getfield 19, 3) := by decide +kernel
theorem dX7_dismiss_46 : decode cX7_dismiss 46 = .ok (.aload_n 0, 1) := by decide +kernel
theorem dX7_dismiss_47 : decode cX7_dismiss 47 = .ok (.getfield 12, 3) := by decide +kernel
theorem dX7_dismiss_50 : decode cX7_dismiss 50 = .ok (.invokevirtual 97, 3) := by decide +kernel
theorem dX7_dismiss_53 : decode cX7_dismiss 53 = .ok (.aload_n 0, 1) := by decide +kernel
theorem dX7_dismiss_54 : decode cX7_dismiss 54 = .ok (.getfield 12, 3) := by decide +kernel
theorem dX7_dismiss_57 : decode cX7_dismiss 57 = .ok (.iload_n 1, 1) := by decide +kernel
theorem dX7_dismiss_58 : decode cX7_dismiss 58 = .ok (.iconst 4, 1) := by decide +kernel
theorem dX7_dismiss_59 : decode cX7_dismiss 59 = .ok (.iconst 3, 1) := by decide +kernel
theorem dX7_dismiss_60 : decode cX7_dismiss 60 = .ok (.invokevirtual 157, 3) := by decide +kernel
theorem dX7_dismiss_63 : decode cX7_dismiss 63 = .ok (.aload_n 0, 1) := by decide +kernel
theorem dX7_dismiss_64 : decode cX7_dismiss 64 = .ok (.getfield 12, 3) := by decide +kernel
theorem dX7_dismiss_67 : decode cX7_dismiss 67 = .ok (.iconst 4, 1) := by decide +kernel
theorem dX7_dismiss_68 : decode cX7_dismiss 68 = .ok (.iconst 0, 1) := by decide +kernel
theorem dX7_dismiss_69 : decode cX7_dismiss 69 = .ok (.iconst 0, 1) := by decide +kernel
theorem dX7_dismiss_70 : decode cX7_dismiss 70 = .ok (.aload_n 0, 1) := by decide +kernel
theorem dX7_dismiss_71 : decode cX7_dismiss 71 = .ok (.getfield 12, 3) := by decide +kernel
theorem dX7_dismiss_74 : decode cX7_dismiss 74 = .ok (.iload_n 1, 1) := by decide +kernel
theorem dX7_dismiss_75 : decode cX7_dismiss 75 = .ok (.iconst 0, 1) := by decide +kernel
theorem dX7_dismiss_76 : decode cX7_dismiss 76 = .ok (.invokevirtual 167, 3) := by decide +kernel
theorem dX7_dismiss_79 : decode cX7_dismiss 79 = .ok (.ldc 104, 2) := by decide +kernel
theorem dX7_dismiss_81 : decode cX7_dismiss 81 = .ok (.invokevirtual 105, 3) := by decide +kernel
theorem dX7_dismiss_84 : decode cX7_dismiss 84 = .ok (.ireturn, 1) := by decide +kernel
set_option maxRecDepth 20000 in
theorem ggX7_forge_X1_hasEntry : GoodIn wsX7_forge wsX1_hasEntry := goodIn_r _ [9, 10, 11, 12, 8, 13, 14, 15, 16, 17, 104] (by decide +kernel) (by decide +kernel)
set_option maxRecDepth 20000 in
theorem gX7_forge_X1_hasEntry : GoodIn wsX7_forge (wsV RX7 109 RX1 yX1_hasEntry wsX1_hasEntry) := goodIn_app (goodIn_of _ (by decide +kernel)) ggX7_forge_X1_hasEntry
set_option maxRecDepth 20000 in
theorem ggX7_forge_X1_ofEntry : GoodIn wsX7_forge wsX1_ofEntry := goodIn_r _ [21, 14, 104] (by decide +kernel) (by decide +kernel)
set_option maxRecDepth 20000 in
theorem gX7_forge_X1_ofEntry : GoodIn wsX7_forge (wsV RX7 171 RX1 yX1_ofEntry wsX1_ofEntry) := goodIn_app (goodIn_of _ (by decide +kernel)) ggX7_forge_X1_ofEntry
set_option maxRecDepth 20000 in
theorem ggX7_forge_X7_isCode : GoodIn wsX7_forge wsX7_isCode := goodIn_r _ [24, 25, 15, 16, 17] (by decide +kernel) (by decide +kernel)
set_option maxRecDepth 20000 in
theorem gX7_forge_X7_isCode : GoodIn wsX7_forge (va_wsS RX7 73 yX7_isCode wsX7_isCode) := goodIn_app (goodIn_of _ (by decide +kernel)) ggX7_forge_X7_isCode
set_option maxRecDepth 20000 in
theorem ggX7_forge_X7_isSum : GoodIn wsX7_forge wsX7_isSum := goodIn_r _ [28, 25, 15, 16, 17] (by decide +kernel) (by decide +kernel)
set_option maxRecDepth 20000 in
theorem gX7_forge_X7_isSum : GoodIn wsX7_forge (va_wsS RX7 62 yX7_isSum wsX7_isSum) := goodIn_app (goodIn_of _ (by decide +kernel)) ggX7_forge_X7_isSum
set_option maxRecDepth 20000 in
theorem ggX7_forge_X7_canForge : GoodIn wsX7_forge wsX7_canForge := goodIn_r _ [32, 1, 33, 18, 19, 20, 8, 21, 14, 34, 11, 12, 13, 35, 36, 37, 38, 39, 40, 41, 42, 43, 44, 45, 46, 47, 48, 49, 50, 51, 52, 53, 54, 55, 56, 57, 58, 59, 16, 60, 61, 62, 63, 64, 65, 66, 67, 68, 69, 70, 71, 72, 97, 98, 99, 100, 101, 102, 103, 104, 105] (by decide +kernel) (by decide +kernel)
set_option maxRecDepth 20000 in
theorem gX7_forge_X7_canForge : GoodIn wsX7_forge (wsV RX7 174 RX7 yX7_canForge wsX7_canForge) := goodIn_app (goodIn_of _ (by decide +kernel)) ggX7_forge_X7_canForge
set_option maxRecDepth 20000 in
theorem ggX7_forge_X0_remember : GoodIn wsX7_forge wsX0_remember := goodIn_r _ [77, 78, 79, 80, 81, 82, 83, 84, 85, 86, 87, 8, 88, 14, 89, 90, 91, 92, 15, 16, 17, 106, 107, 108, 104] (by decide +kernel) (by decide +kernel)
set_option maxRecDepth 20000 in
theorem gX7_forge_X0_remember : GoodIn wsX7_forge (wsV RX7 97 RX0 yX0_remember wsX0_remember) := goodIn_app (goodIn_of _ (by decide +kernel)) ggX7_forge_X0_remember
set_option maxRecDepth 20000 in
theorem ggX7_forge_X1_setOfEntry : GoodIn wsX7_forge wsX1_setOfEntry := goodIn_r _ [96, 14, 104] (by decide +kernel) (by decide +kernel)
set_option maxRecDepth 20000 in
theorem gX7_forge_X1_setOfEntry : GoodIn wsX7_forge (wsV RX7 177 RX1 yX1_setOfEntry wsX1_setOfEntry) := goodIn_app (goodIn_of _ (by decide +kernel)) ggX7_forge_X1_setOfEntry
theorem dX7_forge_0 : decode cX7_forge 0 = .ok (.iload_n 1, 1) := by decide +kernel
theorem dX7_forge_1 : decode cX7_forge 1 = .ok (.ifCond .eq 14, 3) := by decide +kernel
theorem dX7_forge_4 : decode cX7_forge 4 = .ok (.aload_n 0, 1) := by decide +kernel
theorem dX7_forge_5 : decode cX7_forge 5 = .ok (.getfield 12, 3) := by decide +kernel
theorem dX7_forge_8 : decode cX7_forge 8 = .ok (.iload_n 1, 1) := by decide +kernel
theorem dX7_forge_9 : decode cX7_forge 9 = .ok (.invokevirtual 109, 3) := by decide +kernel
theorem dX7_forge_12 : decode cX7_forge 12 = .ok (.ifCond .ne 6, 3) := by decide +kernel
theorem dX7_forge_15 : decode cX7_forge 15 = .ok (.ldc 65, 2) := by decide +kernel
theorem dX7_forge_17 : decode cX7_forge 17 = .ok (.ireturn, 1) := by decide +kernel
theorem dX7_forge_18 : decode cX7_forge 18 = .ok (.aload_n 0, 1) := by decide +kernel
theorem dX7_forge_19 : decode cX7_forge 19 = .ok (.getfield 12, 3) := by decide +kernel
theorem dX7_forge_22 : decode cX7_forge 22 = .ok (.iload_n 1, 1) := by decide +kernel
theorem dX7_forge_23 : decode cX7_forge 23 = .ok (.iconst 0, 1) := by decide +kernel
theorem dX7_forge_24 : decode cX7_forge 24 = .ok (.invokevirtual 171, 3) := by decide +kernel
theorem dX7_forge_27 : decode cX7_forge 27 = .ok (.iconst 4, 1) := by decide +kernel
theorem dX7_forge_28 : decode cX7_forge 28 = .ok (.if_icmp .ne 7, 3) := by decide +kernel
theorem dX7_forge_31 : decode cX7_forge 31 = .ok (.iconst 1, 1) := by decide +kernel
theorem dX7_forge_32 : decode cX7_forge 32 = .ok (.goto 4, 3) := by decide +kernel
theorem dX7_forge_35 : decode cX7_forge 35 = .ok (.iconst 0, 1) := by decide +kernel
theorem dX7_forge_36 : decode cX7_forge 36 = .ok (.istore_n 3, 1) := by decide +kernel
theorem dX7_forge_37 : decode cX7_forge 37 = .ok (.iload_n 3, 1) := by decide +kernel
theorem dX7_forge_38 : decode cX7_forge 38 = .ok (.ifCond .eq 13, 3) := by decide +kernel
theorem dX7_forge_41 : decode cX7_forge 41 = .ok (.iload_n 2, 1) := by decide +kernel
theorem dX7_forge_42 : decode cX7_forge 42 = .ok (.invokestatic 73, 3) := by decide +kernel
theorem dX7_forge_45 : decode cX7_forge 45 = .ok (.ifCond .ne 16, 3) := by decide +kernel
theorem dX7_forge_48 : decode cX7_forge 48 = .ok (.goto 10, 3) := by decide +kernel
theorem dX7_forge_51 : decode cX7_forge 51 = .ok (.iload_n 2, 1) := by decide +kernel
theorem dX7_forge_52 : decode cX7_forge 52 = .ok (.invokestatic 62, 3) := by decide +kernel
theorem dX7_forge_55 : decode cX7_forge 55 = .ok (.ifCond .ne 6, 3) := by decide +kernel
theorem dX7_forge_58 : decode cX7_forge 58 = .ok (.ldc 65, 2) := by decide +kernel
theorem dX7_forge_60 : decode cX7_forge 60 = .ok (.ireturn, 1) := by decide +kernel
theorem dX7_forge_61 : decode cX7_forge 61 = .ok (.aload_n 0, 1) := by decide +kernel
theorem dX7_forge_62 : decode cX7_forge 62 = .ok (.iload_n 1, 1) := by decide +kernel
theorem dX7_forge_63 : decode cX7_forge 63 = .ok (.iload_n 2, 1) := by decide +kernel
theorem dX7_forge_64 : decode cX7_forge 64 = .ok (.invokevirtual 174, 3) := by decide +kernel
theorem dX7_forge_67 : decode cX7_forge 67 = .ok (.ifCond .ne 6, 3) := by decide +kernel
theorem dX7_forge_70 : decode cX7_forge 70 = .ok (.ldc 80, 2) := by decide +kernel
theorem dX7_forge_72 : decode cX7_forge 72 = .ok (.ireturn, 1) := by decide +kernel
theorem dX7_forge_73 : decode cX7_forge 73 = .ok (.aload_n 0, 1) := by decide +kernel
theorem dX7_forge_74 : decode cX7_forge 74 = .ok (.getfield 19, 3) := by decide +kernel
theorem dX7_forge_77 : decode cX7_forge 77 = .ok (.aload_n 0, 1) := by decide +kernel
theorem dX7_forge_78 : decode cX7_forge 78 = .ok (.getfield 12, 3) := by decide +kernel
theorem dX7_forge_81 : decode cX7_forge 81 = .ok (.invokevirtual 97, 3) := by decide +kernel
theorem dX7_forge_84 : decode cX7_forge 84 = .ok (.aload_n 0, 1) := by decide +kernel
theorem dX7_forge_85 : decode cX7_forge 85 = .ok (.getfield 12, 3) := by decide +kernel
theorem dX7_forge_88 : decode cX7_forge 88 = .ok (.iload_n 1, 1) := by decide +kernel
theorem dX7_forge_89 : decode cX7_forge 89 = .ok (.iconst 3, 1) := by decide +kernel
theorem dX7_forge_90 : decode cX7_forge 90 = .ok (.invokevirtual 171, 3) := by decide +kernel
theorem dX7_forge_93 : decode cX7_forge 93 = .ok (.istore 4, 2) := by decide +kernel
theorem dX7_forge_95 : decode cX7_forge 95 = .ok (.aload_n 0, 1) := by decide +kernel
theorem dX7_forge_96 : decode cX7_forge 96 = .ok (.getfield 12, 3) := by decide +kernel
theorem dX7_forge_99 : decode cX7_forge 99 = .ok (.iload_n 1, 1) := by decide +kernel
theorem dX7_forge_100 : decode cX7_forge 100 = .ok (.iconst 3, 1) := by decide +kernel
theorem dX7_forge_101 : decode cX7_forge 101 = .ok (.iload_n 2, 1) := by decide +kernel
theorem dX7_forge_102 : decode cX7_forge 102 = .ok (.invokevirtual 177, 3) := by decide +kernel
theorem dX7_forge_105 : decode cX7_forge 105 = .ok (.iload 4, 2) := by decide +kernel
theorem dX7_forge_107 : decode cX7_forge 107 = .ok (.ireturn, 1) := by decide +kernel
set_option maxRecDepth 20000 in
theorem ggX7_canForge_X1_ofEntry : GoodIn wsX7_canForge wsX1_ofEntry := goodIn_r _ [7, 8, 59] (by decide +kernel) (by decide +kernel)
set_option maxRecDepth 20000 in
theorem gX7_canForge_X1_ofEntry : GoodIn wsX7_canForge (wsV RX7 171 RX1 yX1_ofEntry wsX1_ofEntry) := goodIn_app (goodIn_of _ (by decide +kernel)) ggX7_canForge_X1_ofEntry
set_option maxRecDepth 20000 in
theorem ggX7_canForge_X1_number : GoodIn wsX7_canForge wsX1_number := goodIn_r _ [12, 8, 59] (by decide +kernel) (by decide +kernel)
set_option maxRecDepth 20000 in
theorem gX7_canForge_X1_number : GoodIn wsX7_canForge (wsV RX7 81 RX1 yX1_number wsX1_number) := goodIn_app (goodIn_of _ (by decide +kernel)) ggX7_canForge_X1_number
set_option maxRecDepth 20000 in
theorem ggX7_canForge_X1_isOnPath : GoodIn wsX7_canForge wsX1_isOnPath := goodIn_r _ [16, 17, 4, 5, 6, 7, 8, 59] (by decide +kernel) (by decide +kernel)
set_option maxRecDepth 20000 in
theorem gX7_canForge_X1_isOnPath : GoodIn wsX7_canForge (wsV RX7 112 RX1 yX1_isOnPath wsX1_isOnPath) := goodIn_app (goodIn_of _ (by decide +kernel)) ggX7_canForge_X1_isOnPath
set_option maxRecDepth 20000 in
theorem ggX7_canForge_X5_fill : GoodIn wsX7_canForge wsX5_fill := goodIn_r _ [22, 23, 24, 25, 21, 26, 27, 28, 29, 30, 31, 32, 33, 34, 35, 36, 4, 5, 6, 7, 8, 37, 38, 39, 40, 41, 42, 43, 44, 45, 60, 59] (by decide +kernel) (by decide +kernel)
set_option maxRecDepth 20000 in
theorem gX7_canForge_X5_fill : GoodIn wsX7_canForge (wsV RX7 85 RX5 yX5_fill wsX5_fill) := goodIn_app (goodIn_of _ (by decide +kernel)) ggX7_canForge_X5_fill
set_option maxRecDepth 20000 in
theorem ggX7_canForge_X7_brings : GoodIn wsX7_canForge wsX7_brings := goodIn_r _ [45] (by decide +kernel) (by decide +kernel)
set_option maxRecDepth 20000 in
theorem gX7_canForge_X7_brings : GoodIn wsX7_canForge (va_wsS RX7 180 yX7_brings wsX7_brings) := goodIn_app (goodIn_of _ (by decide +kernel)) ggX7_canForge_X7_brings
set_option maxRecDepth 20000 in
theorem ggX7_canForge_X5_sum : GoodIn wsX7_canForge wsX5_sum := goodIn_r _ [50, 27, 60] (by decide +kernel) (by decide +kernel)
set_option maxRecDepth 20000 in
theorem gX7_canForge_X5_sum : GoodIn wsX7_canForge (wsV RX7 183 RX5 yX5_sum wsX5_sum) := goodIn_app (goodIn_of _ (by decide +kernel)) ggX7_canForge_X5_sum
set_option maxRecDepth 20000 in
theorem ggX7_canForge_X7_takes : GoodIn wsX7_canForge wsX7_takes := goodIn_r _ [39] (by decide +kernel) (by decide +kernel)
set_option maxRecDepth 20000 in
theorem gX7_canForge_X7_takes : GoodIn wsX7_canForge (va_wsS RX7 186 yX7_takes wsX7_takes) := goodIn_app (goodIn_of _ (by decide +kernel)) ggX7_canForge_X7_takes
theorem dX7_canForge_0 : decode cX7_canForge 0 = .ok (.aload_n 0, 1) := by decide +kernel
theorem dX7_canForge_1 : decode cX7_canForge 1 = .ok (.getfield 12, 3) := by decide +kernel
theorem dX7_canForge_4 : decode cX7_canForge 4 = .ok (.iload_n 1, 1) := by decide +kernel
theorem dX7_canForge_5 : decode cX7_canForge 5 = .ok (.iconst 0, 1) := by decide +kernel
theorem dX7_canForge_6 : decode cX7_canForge 6 = .ok (.invokevirtual 171, 3) := by decide +kernel
theorem dX7_canForge_9 : decode cX7_canForge 9 = .ok (.istore_n 3, 1) := by decide +kernel
theorem dX7_canForge_10 : decode cX7_canForge 10 = .ok (.iload_n 2, 1) := by decide +kernel
theorem dX7_canForge_11 : decode cX7_canForge 11 = .ok (.aload_n 0, 1) := by decide +kernel
theorem dX7_canForge_12 : decode cX7_canForge 12 = .ok (.getfield 12, 3) := by decide +kernel
theorem dX7_canForge_15 : decode cX7_canForge 15 = .ok (.iload_n 1, 1) := by decide +kernel
theorem dX7_canForge_16 : decode cX7_canForge 16 = .ok (.iconst 3, 1) := by decide +kernel
theorem dX7_canForge_17 : decode cX7_canForge 17 = .ok (.invokevirtual 171, 3) := by decide +kernel
theorem dX7_canForge_20 : decode cX7_canForge 20 = .ok (.isub, 1) := by decide +kernel
theorem dX7_canForge_21 : decode cX7_canForge 21 = .ok (.istore 4, 2) := by decide +kernel
theorem dX7_canForge_23 : decode cX7_canForge 23 = .ok (.iload_n 1, 1) := by decide +kernel
theorem dX7_canForge_24 : decode cX7_canForge 24 = .ok (.istore 5, 2) := by decide +kernel
theorem dX7_canForge_26 : decode cX7_canForge 26 = .ok (.iload 5, 2) := by decide +kernel
theorem dX7_canForge_28 : decode cX7_canForge 28 = .ok (.aload_n 0, 1) := by decide +kernel
theorem dX7_canForge_29 : decode cX7_canForge 29 = .ok (.getfield 12, 3) := by decide +kernel
theorem dX7_canForge_32 : decode cX7_canForge 32 = .ok (.iconst 0, 1) := by decide +kernel
theorem dX7_canForge_33 : decode cX7_canForge 33 = .ok (.invokevirtual 81, 3) := by decide +kernel
theorem dX7_canForge_36 : decode cX7_canForge 36 = .ok (.if_icmp .ge 97, 3) := by decide +kernel
theorem dX7_canForge_39 : decode cX7_canForge 39 = .ok (.aload_n 0, 1) := by decide +kernel
theorem dX7_canForge_40 : decode cX7_canForge 40 = .ok (.getfield 12, 3) := by decide +kernel
theorem dX7_canForge_43 : decode cX7_canForge 43 = .ok (.iload_n 1, 1) := by decide +kernel
theorem dX7_canForge_44 : decode cX7_canForge 44 = .ok (.iload 5, 2) := by decide +kernel
theorem dX7_canForge_46 : decode cX7_canForge 46 = .ok (.invokevirtual 112, 3) := by decide +kernel
theorem dX7_canForge_49 : decode cX7_canForge 49 = .ok (.ifCond .eq 78, 3) := by decide +kernel
theorem dX7_canForge_52 : decode cX7_canForge 52 = .ok (.aload_n 0, 1) := by decide +kernel
theorem dX7_canForge_53 : decode cX7_canForge 53 = .ok (.getfield 47, 3) := by decide +kernel
theorem dX7_canForge_56 : decode cX7_canForge 56 = .ok (.aload_n 0, 1) := by decide +kernel
theorem dX7_canForge_57 : decode cX7_canForge 57 = .ok (.getfield 12, 3) := by decide +kernel
theorem dX7_canForge_60 : decode cX7_canForge 60 = .ok (.iload 5, 2) := by decide +kernel
theorem dX7_canForge_62 : decode cX7_canForge 62 = .ok (.invokevirtual 85, 3) := by decide +kernel
theorem dX7_canForge_65 : decode cX7_canForge 65 = .ok (.iload_n 3, 1) := by decide +kernel
theorem dX7_canForge_66 : decode cX7_canForge 66 = .ok (.invokestatic 180, 3) := by decide +kernel
theorem dX7_canForge_69 : decode cX7_canForge 69 = .ok (.ifCond .eq 27, 3) := by decide +kernel
theorem dX7_canForge_72 : decode cX7_canForge 72 = .ok (.aload_n 0, 1) := by decide +kernel
theorem dX7_canForge_73 : decode cX7_canForge 73 = .ok (.getfield 47, 3) := by decide +kernel
theorem dX7_canForge_76 : decode cX7_canForge 76 = .ok (.aload_n 0, 1) := by decide +kernel
theorem dX7_canForge_77 : decode cX7_canForge 77 = .ok (.getfield 12, 3) := by decide +kernel
theorem dX7_canForge_80 : decode cX7_canForge 80 = .ok (.iload_n 1, 1) := by decide +kernel
theorem dX7_canForge_81 : decode cX7_canForge 81 = .ok (.iconst 2, 1) := by decide +kernel
theorem dX7_canForge_82 : decode cX7_canForge 82 = .ok (.invokevirtual 171, 3) := by decide +kernel
theorem dX7_canForge_85 : decode cX7_canForge 85 = .ok (.invokevirtual 183, 3) := by decide +kernel
theorem dX7_canForge_88 : decode cX7_canForge 88 = .ok (.iload 4, 2) := by decide +kernel
theorem dX7_canForge_90 : decode cX7_canForge 90 = .ok (.iadd, 1) := by decide +kernel
theorem dX7_canForge_91 : decode cX7_canForge 91 = .ok (.ifCond .ge 5, 3) := by decide +kernel
theorem dX7_canForge_94 : decode cX7_canForge 94 = .ok (.iconst 0, 1) := by decide +kernel
theorem dX7_canForge_95 : decode cX7_canForge 95 = .ok (.ireturn, 1) := by decide +kernel
theorem dX7_canForge_96 : decode cX7_canForge 96 = .ok (.iload_n 3, 1) := by decide +kernel
theorem dX7_canForge_97 : decode cX7_canForge 97 = .ok (.invokestatic 186, 3) := by decide +kernel
theorem dX7_canForge_100 : decode cX7_canForge 100 = .ok (.ifCond .eq 27, 3) := by decide +kernel
theorem dX7_canForge_103 : decode cX7_canForge 103 = .ok (.aload_n 0, 1) := by decide +kernel
theorem dX7_canForge_104 : decode cX7_canForge 104 = .ok (.getfield 47, 3) := by decide +kernel
theorem dX7_canForge_107 : decode cX7_canForge 107 = .ok (.aload_n 0, 1) := by decide +kernel
theorem dX7_canForge_108 : decode cX7_canForge 108 = .ok (.getfield 12, 3) := by decide +kernel
theorem dX7_canForge_111 : decode cX7_canForge 111 = .ok (.iload_n 1, 1) := by decide +kernel
theorem dX7_canForge_112 : decode cX7_canForge 112 = .ok (.iconst 1, 1) := by decide +kernel
theorem dX7_canForge_113 : decode cX7_canForge 113 = .ok (.invokevirtual 171, 3) := by decide +kernel
theorem dX7_canForge_116 : decode cX7_canForge 116 = .ok (.invokevirtual 183, 3) := by decide +kernel
theorem dX7_canForge_119 : decode cX7_canForge 119 = .ok (.iload 4, 2) := by decide +kernel
theorem dX7_canForge_121 : decode cX7_canForge 121 = .ok (.isub, 1) := by decide +kernel
theorem dX7_canForge_122 : decode cX7_canForge 122 = .ok (.ifCond .ge 5, 3) := by decide +kernel
theorem dX7_canForge_125 : decode cX7_canForge 125 = .ok (.iconst 0, 1) := by decide +kernel
theorem dX7_canForge_126 : decode cX7_canForge 126 = .ok (.ireturn, 1) := by decide +kernel
theorem dX7_canForge_127 : decode cX7_canForge 127 = .ok (.iinc 5 1, 3) := by decide +kernel
theorem dX7_canForge_130 : decode cX7_canForge 130 = .ok (.goto (-104), 3) := by decide +kernel
theorem dX7_canForge_133 : decode cX7_canForge 133 = .ok (.iconst 1, 1) := by decide +kernel
theorem dX7_canForge_134 : decode cX7_canForge 134 = .ok (.ireturn, 1) := by decide +kernel
set_option maxRecDepth 20000 in
theorem ggX7_relink_X1_hasEntry : GoodIn wsX7_relink wsX1_hasEntry := goodIn_r _ [8, 9, 10, 11, 7, 12, 13, 14, 15, 16, 66] (by decide +kernel) (by decide +kernel)
set_option maxRecDepth 20000 in
theorem gX7_relink_X1_hasEntry : GoodIn wsX7_relink (wsV RX7 109 RX1 yX1_hasEntry wsX1_hasEntry) := goodIn_app (goodIn_of _ (by decide +kernel)) ggX7_relink_X1_hasEntry
set_option maxRecDepth 20000 in
theorem ggX7_relink_X0_remember : GoodIn wsX7_relink wsX0_remember := goodIn_r _ [21, 22, 23, 24, 25, 26, 27, 28, 29, 30, 31, 7, 32, 13, 33, 34, 35, 36, 14, 15, 16, 67, 68, 69, 66] (by decide +kernel) (by decide +kernel)
set_option maxRecDepth 20000 in
theorem gX7_relink_X0_remember : GoodIn wsX7_relink (wsV RX7 97 RX0 yX0_remember wsX0_remember) := goodIn_app (goodIn_of _ (by decide +kernel)) ggX7_relink_X0_remember
set_option maxRecDepth 20000 in
theorem ggX7_relink_X1_number : GoodIn wsX7_relink wsX1_number := goodIn_r _ [12, 13, 66] (by decide +kernel) (by decide +kernel)
set_option maxRecDepth 20000 in
theorem gX7_relink_X1_number : GoodIn wsX7_relink (wsV RX7 81 RX1 yX1_number wsX1_number) := goodIn_app (goodIn_of _ (by decide +kernel)) ggX7_relink_X1_number
set_option maxRecDepth 20000 in
theorem ggX7_relink_X1_isOnPath : GoodIn wsX7_relink wsX1_isOnPath := goodIn_r _ [41, 42, 43, 44, 7, 45, 13, 66] (by decide +kernel) (by decide +kernel)
set_option maxRecDepth 20000 in
theorem gX7_relink_X1_isOnPath : GoodIn wsX7_relink (wsV RX7 112 RX1 yX1_isOnPath wsX1_isOnPath) := goodIn_app (goodIn_of _ (by decide +kernel)) ggX7_relink_X1_isOnPath
set_option maxRecDepth 20000 in
theorem ggX7_relink_X1_fits : GoodIn wsX7_relink wsX1_fits := goodIn_r _ [49, 42, 43, 44, 7, 45, 13, 50, 51, 52, 53, 66] (by decide +kernel) (by decide +kernel)
set_option maxRecDepth 20000 in
theorem gX7_relink_X1_fits : GoodIn wsX7_relink (wsV RX7 189 RX1 yX1_fits wsX1_fits) := goodIn_app (goodIn_of _ (by decide +kernel)) ggX7_relink_X1_fits
set_option maxRecDepth 20000 in
theorem ggX7_relink_X1_fittingLink : GoodIn wsX7_relink wsX1_fittingLink := goodIn_r _ [53, 42, 43, 44, 7, 45, 13, 66] (by decide +kernel) (by decide +kernel)
set_option maxRecDepth 20000 in
theorem gX7_relink_X1_fittingLink : GoodIn wsX7_relink (wsV RX7 192 RX1 yX1_fittingLink wsX1_fittingLink) := goodIn_app (goodIn_of _ (by decide +kernel)) ggX7_relink_X1_fittingLink
set_option maxRecDepth 20000 in
theorem ggX7_relink_X1_setOfEntry : GoodIn wsX7_relink wsX1_setOfEntry := goodIn_r _ [58, 13, 66] (by decide +kernel) (by decide +kernel)
set_option maxRecDepth 20000 in
theorem gX7_relink_X1_setOfEntry : GoodIn wsX7_relink (wsV RX7 177 RX1 yX1_setOfEntry wsX1_setOfEntry) := goodIn_app (goodIn_of _ (by decide +kernel)) ggX7_relink_X1_setOfEntry
theorem dX7_relink_0 : decode cX7_relink 0 = .ok (.aload_n 0, 1) := by decide +kernel
theorem dX7_relink_1 : decode cX7_relink 1 = .ok (.getfield 12, 3) := by decide +kernel
theorem dX7_relink_4 : decode cX7_relink 4 = .ok (.iload_n 1, 1) := by decide +kernel
theorem dX7_relink_5 : decode cX7_relink 5 = .ok (.invokevirtual 109, 3) := by decide +kernel
theorem dX7_relink_8 : decode cX7_relink 8 = .ok (.ifCond .ne 6, 3) := by decide +kernel
theorem dX7_relink_11 : decode cX7_relink 11 = .ok (.ldc 65, 2) := by decide +kernel
theorem dX7_relink_13 : decode cX7_relink 13 = .ok (.ireturn, 1) := by decide +kernel
theorem dX7_relink_14 : decode cX7_relink 14 = .ok (.aload_n 0, 1) := by decide +kernel
theorem dX7_relink_15 : decode cX7_relink 15 = .ok (.getfield 19, 3) := by decide +kernel
theorem dX7_relink_18 : decode cX7_relink 18 = .ok (.aload_n 0, 1) := by decide +kernel
theorem dX7_relink_19 : decode cX7_relink 19 = .ok (.getfield 12, 3) := by decide +kernel
theorem dX7_relink_22 : decode cX7_relink 22 = .ok (.invokevirtual 97, 3) := by decide +kernel
theorem dX7_relink_25 : decode cX7_relink 25 = .ok (.iconst 0, 1) := by decide +kernel
theorem dX7_relink_26 : decode cX7_relink 26 = .ok (.istore_n 2, 1) := by decide +kernel
theorem dX7_relink_27 : decode cX7_relink 27 = .ok (.iload_n 1, 1) := by decide +kernel
theorem dX7_relink_28 : decode cX7_relink 28 = .ok (.istore_n 3, 1) := by decide +kernel
theorem dX7_relink_29 : decode cX7_relink 29 = .ok (.iload_n 3, 1) := by decide +kernel
theorem dX7_relink_30 : decode cX7_relink 30 = .ok (.aload_n 0, 1) := by decide +kernel
theorem dX7_relink_31 : decode cX7_relink 31 = .ok (.getfield 12, 3) := by decide +kernel
theorem dX7_relink_34 : decode cX7_relink 34 = .ok (.iconst 0, 1) := by decide +kernel
theorem dX7_relink_35 : decode cX7_relink 35 = .ok (.invokevirtual 81, 3) := by decide +kernel
theorem dX7_relink_38 : decode cX7_relink 38 = .ok (.if_icmp .ge 52, 3) := by decide +kernel
theorem dX7_relink_41 : decode cX7_relink 41 = .ok (.aload_n 0, 1) := by decide +kernel
theorem dX7_relink_42 : decode cX7_relink 42 = .ok (.getfield 12, 3) := by decide +kernel
theorem dX7_relink_45 : decode cX7_relink 45 = .ok (.iload_n 1, 1) := by decide +kernel
theorem dX7_relink_46 : decode cX7_relink 46 = .ok (.iload_n 3, 1) := by decide +kernel
theorem dX7_relink_47 : decode cX7_relink 47 = .ok (.invokevirtual 112, 3) := by decide +kernel
theorem dX7_relink_50 : decode cX7_relink 50 = .ok (.ifCond .eq 34, 3) := by decide +kernel
theorem dX7_relink_53 : decode cX7_relink 53 = .ok (.aload_n 0, 1) := by decide +kernel
theorem dX7_relink_54 : decode cX7_relink 54 = .ok (.getfield 12, 3) := by decide +kernel
theorem dX7_relink_57 : decode cX7_relink 57 = .ok (.iload_n 3, 1) := by decide +kernel
theorem dX7_relink_58 : decode cX7_relink 58 = .ok (.invokevirtual 189, 3) := by decide +kernel
theorem dX7_relink_61 : decode cX7_relink 61 = .ok (.ifCond .ne 23, 3) := by decide +kernel
theorem dX7_relink_64 : decode cX7_relink 64 = .ok (.aload_n 0, 1) := by decide +kernel
theorem dX7_relink_65 : decode cX7_relink 65 = .ok (.getfield 12, 3) := by decide +kernel
theorem dX7_relink_68 : decode cX7_relink 68 = .ok (.iload_n 3, 1) := by decide +kernel
theorem dX7_relink_69 : decode cX7_relink 69 = .ok (.iconst 5, 1) := by decide +kernel
theorem dX7_relink_70 : decode cX7_relink 70 = .ok (.aload_n 0, 1) := by decide +kernel
theorem dX7_relink_71 : decode cX7_relink 71 = .ok (.getfield 12, 3) := by decide +kernel
theorem dX7_relink_74 : decode cX7_relink 74 = .ok (.iload_n 3, 1) := by decide +kernel
theorem dX7_relink_75 : decode cX7_relink 75 = .ok (.invokevirtual 192, 3) := by decide +kernel
theorem dX7_relink_78 : decode cX7_relink 78 = .ok (.invokevirtual 177, 3) := by decide +kernel
theorem dX7_relink_81 : decode cX7_relink 81 = .ok (.iinc 2 1, 3) := by decide +kernel
theorem dX7_relink_84 : decode cX7_relink 84 = .ok (.iinc 3 1, 3) := by decide +kernel
theorem dX7_relink_87 : decode cX7_relink 87 = .ok (.goto (-58), 3) := by decide +kernel
theorem dX7_relink_90 : decode cX7_relink 90 = .ok (.iload_n 2, 1) := by decide +kernel
theorem dX7_relink_91 : decode cX7_relink 91 = .ok (.ireturn, 1) := by decide +kernel
set_option maxRecDepth 20000 in
theorem ggX7_seal_X1_number : GoodIn wsX7_seal wsX1_number := goodIn_r _ [8, 9, 57] (by decide +kernel) (by decide +kernel)
set_option maxRecDepth 20000 in
theorem gX7_seal_X1_number : GoodIn wsX7_seal (wsV RX7 81 RX1 yX1_number wsX1_number) := goodIn_app (goodIn_of _ (by decide +kernel)) ggX7_seal_X1_number
set_option maxRecDepth 20000 in
theorem ggX7_seal_X0_remember : GoodIn wsX7_seal wsX0_remember := goodIn_r _ [14, 15, 16, 17, 18, 19, 20, 21, 22, 23, 24, 7, 25, 9, 26, 27, 28, 29, 30, 31, 32, 58, 59, 60, 57] (by decide +kernel) (by decide +kernel)
set_option maxRecDepth 20000 in
theorem gX7_seal_X0_remember : GoodIn wsX7_seal (wsV RX7 97 RX0 yX0_remember wsX0_remember) := goodIn_app (goodIn_of _ (by decide +kernel)) ggX7_seal_X0_remember
set_option maxRecDepth 20000 in
theorem ggX7_seal_X1_addSeal : GoodIn wsX7_seal wsX1_addSeal := goodIn_r _ [36, 37, 5, 6, 7, 8, 9, 38, 39, 40, 41, 42, 43, 44, 45, 46, 47, 48, 49, 57] (by decide +kernel) (by decide +kernel)
set_option maxRecDepth 20000 in
theorem gX7_seal_X1_addSeal : GoodIn wsX7_seal (wsV RX7 195 RX1 yX1_addSeal wsX1_addSeal) := goodIn_app (goodIn_of _ (by decide +kernel)) ggX7_seal_X1_addSeal
theorem dX7_seal_0 : decode cX7_seal 0 = .ok (.aload_n 0, 1) := by decide +kernel
theorem dX7_seal_1 : decode cX7_seal 1 = .ok (.getfield 12, 3) := by decide +kernel
theorem dX7_seal_4 : decode cX7_seal 4 = .ok (.iconst 4, 1) := by decide +kernel
theorem dX7_seal_5 : decode cX7_seal 5 = .ok (.invokevirtual 81, 3) := by decide +kernel
theorem dX7_seal_8 : decode cX7_seal 8 = .ok (.bipush 8, 2) := by decide +kernel
theorem dX7_seal_10 : decode cX7_seal 10 = .ok (.if_icmp .lt 6, 3) := by decide +kernel
theorem dX7_seal_13 : decode cX7_seal 13 = .ok (.ldc 96, 2) := by decide +kernel
theorem dX7_seal_15 : decode cX7_seal 15 = .ok (.ireturn, 1) := by decide +kernel
theorem dX7_seal_16 : decode cX7_seal 16 = .ok (.aload_n 0, 1) := by decide +kernel
theorem dX7_seal_17 : decode cX7_seal 17 = .ok (.getfield 19, 3) := by decide +kernel
theorem dX7_seal_20 : decode cX7_seal 20 = .ok (.aload_n 0, 1) := by decide +kernel
theorem dX7_seal_21 : decode cX7_seal 21 = .ok (.getfield 12, 3) := by decide +kernel
theorem dX7_seal_24 : decode cX7_seal 24 = .ok (.invokevirtual 97, 3) := by decide +kernel
theorem dX7_seal_27 : decode cX7_seal 27 = .ok (.aload_n 0, 1) := by decide +kernel
theorem dX7_seal_28 : decode cX7_seal 28 = .ok (.getfield 12, 3) := by decide +kernel
theorem dX7_seal_31 : decode cX7_seal 31 = .ok (.invokevirtual 195, 3) := by decide +kernel
theorem dX7_seal_34 : decode cX7_seal 34 = .ok (.ireturn, 1) := by decide +kernel
set_option maxRecDepth 20000 in
theorem ggX7_take_X7_isSlot : GoodIn wsX7_take wsX7_isSlot := goodIn_r _ [7, 8, 9, 6, 10] (by decide +kernel) (by decide +kernel)
set_option maxRecDepth 20000 in
theorem gX7_take_X7_isSlot : GoodIn wsX7_take (va_wsS RX7 198 yX7_isSlot wsX7_isSlot) := goodIn_app (goodIn_of _ (by decide +kernel)) ggX7_take_X7_isSlot
set_option maxRecDepth 20000 in
theorem ggX7_take_X0_remember : GoodIn wsX7_take wsX0_remember := goodIn_r _ [15, 16, 17, 18, 19, 20, 21, 22, 23, 24, 25, 26, 27, 28, 29, 30, 31, 32, 9, 6, 10, 51, 52, 53, 54] (by decide +kernel) (by decide +kernel)
set_option maxRecDepth 20000 in
theorem gX7_take_X0_remember : GoodIn wsX7_take (wsV RX7 97 RX0 yX0_remember wsX0_remember) := goodIn_app (goodIn_of _ (by decide +kernel)) ggX7_take_X0_remember
set_option maxRecDepth 20000 in
theorem ggX7_take_X1_keepIn : GoodIn wsX7_take wsX1_keepIn := goodIn_r _ [36, 28, 29, 30, 31, 32, 5, 6, 7, 8, 9, 10, 37, 38, 26, 39, 54] (by decide +kernel) (by decide +kernel)
set_option maxRecDepth 20000 in
theorem gX7_take_X1_keepIn : GoodIn wsX7_take (wsV RX7 201 RX1 yX1_keepIn wsX1_keepIn) := goodIn_app (goodIn_of _ (by decide +kernel)) ggX7_take_X1_keepIn
set_option maxRecDepth 20000 in
theorem ggX7_take_X1_number : GoodIn wsX7_take wsX1_number := goodIn_r _ [43, 28, 54] (by decide +kernel) (by decide +kernel)
set_option maxRecDepth 20000 in
theorem gX7_take_X1_number : GoodIn wsX7_take (wsV RX7 81 RX1 yX1_number wsX1_number) := goodIn_app (goodIn_of _ (by decide +kernel)) ggX7_take_X1_number
theorem dX7_take_0 : decode cX7_take 0 = .ok (.iload_n 1, 1) := by decide +kernel
theorem dX7_take_1 : decode cX7_take 1 = .ok (.invokestatic 198, 3) := by decide +kernel
theorem dX7_take_4 : decode cX7_take 4 = .ok (.ifCond .ne 6, 3) := by decide +kernel
theorem dX7_take_7 : decode cX7_take 7 = .ok (.ldc 65, 2) := by decide +kernel
theorem dX7_take_9 : decode cX7_take 9 = .ok (.ireturn, 1) := by decide +kernel
theorem dX7_take_10 : decode cX7_take 10 = .ok (.aload_n 0, 1) := by decide +kernel
theorem dX7_take_11 : decode cX7_take 11 = .ok (.getfield 19, 3) := by decide +kernel
theorem dX7_take_14 : decode cX7_take 14 = .ok (.aload_n 0, 1) := by decide +kernel
theorem dX7_take_15 : decode cX7_take 15 = .ok (.getfield 12, 3) := by decide +kernel
theorem dX7_take_18 : decode cX7_take 18 = .ok (.invokevirtual 97, 3) := by decide +kernel
theorem dX7_take_21 : decode cX7_take 21 = .ok (.aload_n 0, 1) := by decide +kernel
theorem dX7_take_22 : decode cX7_take 22 = .ok (.getfield 12, 3) := by decide +kernel
theorem dX7_take_25 : decode cX7_take 25 = .ok (.iload_n 1, 1) := by decide +kernel
theorem dX7_take_26 : decode cX7_take 26 = .ok (.invokevirtual 201, 3) := by decide +kernel
theorem dX7_take_29 : decode cX7_take 29 = .ok (.aload_n 0, 1) := by decide +kernel
theorem dX7_take_30 : decode cX7_take 30 = .ok (.getfield 12, 3) := by decide +kernel
theorem dX7_take_33 : decode cX7_take 33 = .ok (.iconst 0, 1) := by decide +kernel
theorem dX7_take_34 : decode cX7_take 34 = .ok (.invokevirtual 81, 3) := by decide +kernel
theorem dX7_take_37 : decode cX7_take 37 = .ok (.ireturn, 1) := by decide +kernel
set_option maxRecDepth 20000 in
theorem ggX7_restore_X7_isSlot : GoodIn wsX7_restore wsX7_isSlot := goodIn_r _ [8, 9, 10, 7, 11] (by decide +kernel) (by decide +kernel)
set_option maxRecDepth 20000 in
theorem gX7_restore_X7_isSlot : GoodIn wsX7_restore (va_wsS RX7 198 yX7_isSlot wsX7_isSlot) := goodIn_app (goodIn_of _ (by decide +kernel)) ggX7_restore_X7_isSlot
set_option maxRecDepth 20000 in
theorem ggX7_restore_X1_isEmpty : GoodIn wsX7_restore wsX1_isEmpty := goodIn_r _ [16, 17, 6, 7, 8, 9, 10, 11, 18, 19, 15, 20, 57] (by decide +kernel) (by decide +kernel)
set_option maxRecDepth 20000 in
theorem gX7_restore_X1_isEmpty : GoodIn wsX7_restore (wsV RX7 204 RX1 yX1_isEmpty wsX1_isEmpty) := goodIn_app (goodIn_of _ (by decide +kernel)) ggX7_restore_X1_isEmpty
set_option maxRecDepth 20000 in
theorem ggX7_restore_X0_remember : GoodIn wsX7_restore wsX0_remember := goodIn_r _ [25, 26, 27, 28, 29, 30, 31, 32, 33, 34, 35, 15, 36, 17, 37, 38, 39, 40, 10, 7, 11, 58, 59, 60, 57] (by decide +kernel) (by decide +kernel)
set_option maxRecDepth 20000 in
theorem gX7_restore_X0_remember : GoodIn wsX7_restore (wsV RX7 97 RX0 yX0_remember wsX0_remember) := goodIn_app (goodIn_of _ (by decide +kernel)) ggX7_restore_X0_remember
set_option maxRecDepth 20000 in
theorem ggX7_restore_X1_bringFrom : GoodIn wsX7_restore wsX1_bringFrom := goodIn_r _ [44, 17, 37, 38, 39, 40, 45, 13, 14, 15, 16, 6, 7, 8, 9, 10, 11, 18, 19, 20, 57] (by decide +kernel) (by decide +kernel)
set_option maxRecDepth 20000 in
theorem gX7_restore_X1_bringFrom : GoodIn wsX7_restore (wsV RX7 207 RX1 yX1_bringFrom wsX1_bringFrom) := goodIn_app (goodIn_of _ (by decide +kernel)) ggX7_restore_X1_bringFrom
set_option maxRecDepth 20000 in
theorem ggX7_restore_X1_number : GoodIn wsX7_restore wsX1_number := goodIn_r _ [49, 17, 57] (by decide +kernel) (by decide +kernel)
set_option maxRecDepth 20000 in
theorem gX7_restore_X1_number : GoodIn wsX7_restore (wsV RX7 81 RX1 yX1_number wsX1_number) := goodIn_app (goodIn_of _ (by decide +kernel)) ggX7_restore_X1_number
theorem dX7_restore_0 : decode cX7_restore 0 = .ok (.iload_n 1, 1) := by decide +kernel
theorem dX7_restore_1 : decode cX7_restore 1 = .ok (.invokestatic 198, 3) := by decide +kernel
theorem dX7_restore_4 : decode cX7_restore 4 = .ok (.ifCond .ne 6, 3) := by decide +kernel
theorem dX7_restore_7 : decode cX7_restore 7 = .ok (.ldc 65, 2) := by decide +kernel
theorem dX7_restore_9 : decode cX7_restore 9 = .ok (.ireturn, 1) := by decide +kernel
theorem dX7_restore_10 : decode cX7_restore 10 = .ok (.aload_n 0, 1) := by decide +kernel
theorem dX7_restore_11 : decode cX7_restore 11 = .ok (.getfield 12, 3) := by decide +kernel
theorem dX7_restore_14 : decode cX7_restore 14 = .ok (.iload_n 1, 1) := by decide +kernel
theorem dX7_restore_15 : decode cX7_restore 15 = .ok (.invokevirtual 204, 3) := by decide +kernel
theorem dX7_restore_18 : decode cX7_restore 18 = .ok (.ifCond .eq 6, 3) := by decide +kernel
theorem dX7_restore_21 : decode cX7_restore 21 = .ok (.ldc 80, 2) := by decide +kernel
theorem dX7_restore_23 : decode cX7_restore 23 = .ok (.ireturn, 1) := by decide +kernel
theorem dX7_restore_24 : decode cX7_restore 24 = .ok (.aload_n 0, 1) := by decide +kernel
theorem dX7_restore_25 : decode cX7_restore 25 = .ok (.getfield 19, 3) := by decide +kernel
theorem dX7_restore_28 : decode cX7_restore 28 = .ok (.aload_n 0, 1) := by decide +kernel
theorem dX7_restore_29 : decode cX7_restore 29 = .ok (.getfield 12, 3) := by decide +kernel
theorem dX7_restore_32 : decode cX7_restore 32 = .ok (.invokevirtual 97, 3) := by decide +kernel
theorem dX7_restore_35 : decode cX7_restore 35 = .ok (.aload_n 0, 1) := by decide +kernel
theorem dX7_restore_36 : decode cX7_restore 36 = .ok (.getfield 12, 3) := by decide +kernel
theorem dX7_restore_39 : decode cX7_restore 39 = .ok (.iload_n 1, 1) := by decide +kernel
theorem dX7_restore_40 : decode cX7_restore 40 = .ok (.invokevirtual 207, 3) := by decide +kernel
theorem dX7_restore_43 : decode cX7_restore 43 = .ok (.aload_n 0, 1) := by decide +kernel
theorem dX7_restore_44 : decode cX7_restore 44 = .ok (.getfield 12, 3) := by decide +kernel
theorem dX7_restore_47 : decode cX7_restore 47 = .ok (.iconst 0, 1) := by decide +kernel
theorem dX7_restore_48 : decode cX7_restore 48 = .ok (.invokevirtual 81, 3) := by decide +kernel
theorem dX7_restore_51 : decode cX7_restore 51 = .ok (.ireturn, 1) := by decide +kernel
set_option maxRecDepth 20000 in
theorem ggX7_undo_X0_states : GoodIn wsX7_undo wsX0_states := goodIn_r _ [8, 9, 36, 37, 38] (by decide +kernel) (by decide +kernel)
set_option maxRecDepth 20000 in
theorem gX7_undo_X0_states : GoodIn wsX7_undo (wsV RX7 210 RX0 yX0_states wsX0_states) := goodIn_app (goodIn_of _ (by decide +kernel)) ggX7_undo_X0_states
set_option maxRecDepth 20000 in
theorem ggX7_undo_X0_bringBack : GoodIn wsX7_undo wsX0_bringBack := goodIn_r _ [13, 9, 14, 15, 16, 17, 18, 19, 20, 21, 22, 23, 24, 25, 26, 27, 28, 36, 37, 38, 39] (by decide +kernel) (by decide +kernel)
set_option maxRecDepth 20000 in
theorem gX7_undo_X0_bringBack : GoodIn wsX7_undo (wsV RX7 213 RX0 yX0_bringBack wsX0_bringBack) := goodIn_app (goodIn_of _ (by decide +kernel)) ggX7_undo_X0_bringBack
theorem dX7_undo_0 : decode cX7_undo 0 = .ok (.aload_n 0, 1) := by decide +kernel
theorem dX7_undo_1 : decode cX7_undo 1 = .ok (.getfield 19, 3) := by decide +kernel
theorem dX7_undo_4 : decode cX7_undo 4 = .ok (.invokevirtual 210, 3) := by decide +kernel
theorem dX7_undo_7 : decode cX7_undo 7 = .ok (.iconst 1, 1) := by decide +kernel
theorem dX7_undo_8 : decode cX7_undo 8 = .ok (.if_icmp .ge 6, 3) := by decide +kernel
theorem dX7_undo_11 : decode cX7_undo 11 = .ok (.ldc 80, 2) := by decide +kernel
theorem dX7_undo_13 : decode cX7_undo 13 = .ok (.ireturn, 1) := by decide +kernel
theorem dX7_undo_14 : decode cX7_undo 14 = .ok (.aload_n 0, 1) := by decide +kernel
theorem dX7_undo_15 : decode cX7_undo 15 = .ok (.getfield 19, 3) := by decide +kernel
theorem dX7_undo_18 : decode cX7_undo 18 = .ok (.aload_n 0, 1) := by decide +kernel
theorem dX7_undo_19 : decode cX7_undo 19 = .ok (.getfield 12, 3) := by decide +kernel
theorem dX7_undo_22 : decode cX7_undo 22 = .ok (.invokevirtual 213, 3) := by decide +kernel
theorem dX7_undo_25 : decode cX7_undo 25 = .ok (.aload_n 0, 1) := by decide +kernel
theorem dX7_undo_26 : decode cX7_undo 26 = .ok (.getfield 19, 3) := by decide +kernel
theorem dX7_undo_29 : decode cX7_undo 29 = .ok (.invokevirtual 210, 3) := by decide +kernel
theorem dX7_undo_32 : decode cX7_undo 32 = .ok (.ireturn, 1) := by decide +kernel
set_option maxRecDepth 20000 in
theorem ggX7_count_X1_number : GoodIn wsX7_count wsX1_number := goodIn_r _ [9, 10, 113] (by decide +kernel) (by decide +kernel)
set_option maxRecDepth 20000 in
theorem gX7_count_X1_number : GoodIn wsX7_count (wsV RX7 81 RX1 yX1_number wsX1_number) := goodIn_app (goodIn_of _ (by decide +kernel)) ggX7_count_X1_number
set_option maxRecDepth 20000 in
theorem ggX7_count_X1_pathLength : GoodIn wsX7_count wsX1_pathLength := goodIn_r _ [14, 15, 16, 17, 8, 18, 10, 113] (by decide +kernel) (by decide +kernel)
set_option maxRecDepth 20000 in
theorem gX7_count_X1_pathLength : GoodIn wsX7_count (wsV RX7 116 RX1 yX1_pathLength wsX1_pathLength) := goodIn_app (goodIn_of _ (by decide +kernel)) ggX7_count_X1_pathLength
set_option maxRecDepth 20000 in
theorem ggX7_count_X1_waitingBranches : GoodIn wsX7_count wsX1_waitingBranches := goodIn_r _ [22, 23, 6, 7, 8, 9, 10, 24, 25, 26, 27, 28, 29, 30, 31, 113] (by decide +kernel) (by decide +kernel)
set_option maxRecDepth 20000 in
theorem gX7_count_X1_waitingBranches : GoodIn wsX7_count (wsV RX7 239 RX1 yX1_waitingBranches wsX1_waitingBranches) := goodIn_app (goodIn_of _ (by decide +kernel)) ggX7_count_X1_waitingBranches
set_option maxRecDepth 20000 in
theorem ggX7_count_X1_loudBranches : GoodIn wsX7_count wsX1_loudBranches := goodIn_r _ [35, 23, 6, 7, 8, 9, 10, 36, 37, 38, 39, 24, 25, 26, 27, 28, 29, 30, 31, 113] (by decide +kernel) (by decide +kernel)
set_option maxRecDepth 20000 in
theorem gX7_count_X1_loudBranches : GoodIn wsX7_count (wsV RX7 76 RX1 yX1_loudBranches wsX1_loudBranches) := goodIn_app (goodIn_of _ (by decide +kernel)) ggX7_count_X1_loudBranches
set_option maxRecDepth 20000 in
theorem ggX7_count_X1_brokenSeals : GoodIn wsX7_count wsX1_brokenSeals := goodIn_r _ [43, 23, 6, 7, 8, 9, 10, 44, 45, 46, 47, 48, 49, 50, 51, 15, 16, 17, 18, 113] (by decide +kernel) (by decide +kernel)
set_option maxRecDepth 20000 in
theorem gX7_count_X1_brokenSeals : GoodIn wsX7_count (wsV RX7 242 RX1 yX1_brokenSeals wsX1_brokenSeals) := goodIn_app (goodIn_of _ (by decide +kernel)) ggX7_count_X1_brokenSeals
set_option maxRecDepth 20000 in
theorem ggX7_count_X1_brokenLinks : GoodIn wsX7_count wsX1_brokenLinks := goodIn_r _ [55, 23, 6, 7, 8, 9, 10, 56, 57, 58, 59, 15, 16, 17, 18, 60, 61, 62, 63, 113] (by decide +kernel) (by decide +kernel)
set_option maxRecDepth 20000 in
theorem gX7_count_X1_brokenLinks : GoodIn wsX7_count (wsV RX7 245 RX1 yX1_brokenLinks wsX1_brokenLinks) := goodIn_app (goodIn_of _ (by decide +kernel)) ggX7_count_X1_brokenLinks
set_option maxRecDepth 20000 in
theorem ggX7_count_X1_firstBrokenLink : GoodIn wsX7_count wsX1_firstBrokenLink := goodIn_r _ [67, 68, 23, 6, 7, 8, 9, 10, 56, 57, 58, 59, 15, 16, 17, 18, 60, 61, 62, 63, 113] (by decide +kernel) (by decide +kernel)
set_option maxRecDepth 20000 in
theorem gX7_count_X1_firstBrokenLink : GoodIn wsX7_count (wsV RX7 248 RX1 yX1_firstBrokenLink wsX1_firstBrokenLink) := goodIn_app (goodIn_of _ (by decide +kernel)) ggX7_count_X1_firstBrokenLink
set_option maxRecDepth 20000 in
theorem ggX7_count_X1_leaves : GoodIn wsX7_count wsX1_leaves := goodIn_r _ [72, 23, 6, 7, 8, 9, 10, 73, 74, 75, 76, 15, 16, 17, 18, 113] (by decide +kernel) (by decide +kernel)
set_option maxRecDepth 20000 in
theorem gX7_count_X1_leaves : GoodIn wsX7_count (wsV RX7 251 RX1 yX1_leaves wsX1_leaves) := goodIn_app (goodIn_of _ (by decide +kernel)) ggX7_count_X1_leaves
set_option maxRecDepth 20000 in
theorem ggX7_count_X1_snapshots : GoodIn wsX7_count wsX1_snapshots := goodIn_r _ [80, 81, 82, 83, 8, 84, 10, 85, 86, 87, 88, 89, 90, 91, 92, 93, 113] (by decide +kernel) (by decide +kernel)
set_option maxRecDepth 20000 in
theorem gX7_count_X1_snapshots : GoodIn wsX7_count (wsV RX7 254 RX1 yX1_snapshots wsX1_snapshots) := goodIn_app (goodIn_of _ (by decide +kernel)) ggX7_count_X1_snapshots
set_option maxRecDepth 20000 in
theorem ggX7_count_X0_states : GoodIn wsX7_count wsX0_states := goodIn_r _ [98, 99, 114, 115, 116] (by decide +kernel) (by decide +kernel)
set_option maxRecDepth 20000 in
theorem gX7_count_X0_states : GoodIn wsX7_count (wsV RX7 210 RX0 yX0_states wsX0_states) := goodIn_app (goodIn_of _ (by decide +kernel)) ggX7_count_X0_states
set_option maxRecDepth 20000 in
theorem ggX7_count_X6_length : GoodIn wsX7_count wsX6_length := goodIn_r _ [104, 105, 117, 118] (by decide +kernel) (by decide +kernel)
set_option maxRecDepth 20000 in
theorem gX7_count_X6_length : GoodIn wsX7_count (wsV RX7 216 RX6 yX6_length wsX6_length) := goodIn_app (goodIn_of _ (by decide +kernel)) ggX7_count_X6_length
theorem dX7_count_0 : decode cX7_count 0 = .ok (.iload_n 1, 1) := by decide +kernel
theorem dX7_count_1 : decode cX7_count 1 = .ok (.tableswitch 208 0 14 #[75, 84, 93, 109, 118, 126, 134, 143, 152, 160, 168, 176, 184, 192, 200], 75) := by decide +kernel
theorem dX7_count_76 : decode cX7_count 76 = .ok (.aload_n 0, 1) := by decide +kernel
theorem dX7_count_77 : decode cX7_count 77 = .ok (.getfield 12, 3) := by decide +kernel
theorem dX7_count_80 : decode cX7_count 80 = .ok (.iconst 0, 1) := by decide +kernel
theorem dX7_count_81 : decode cX7_count 81 = .ok (.invokevirtual 81, 3) := by decide +kernel
theorem dX7_count_84 : decode cX7_count 84 = .ok (.ireturn, 1) := by decide +kernel
theorem dX7_count_85 : decode cX7_count 85 = .ok (.aload_n 0, 1) := by decide +kernel
theorem dX7_count_86 : decode cX7_count 86 = .ok (.getfield 12, 3) := by decide +kernel
theorem dX7_count_89 : decode cX7_count 89 = .ok (.iconst 1, 1) := by decide +kernel
theorem dX7_count_90 : decode cX7_count 90 = .ok (.invokevirtual 81, 3) := by decide +kernel
theorem dX7_count_93 : decode cX7_count 93 = .ok (.ireturn, 1) := by decide +kernel
theorem dX7_count_94 : decode cX7_count 94 = .ok (.aload_n 0, 1) := by decide +kernel
theorem dX7_count_95 : decode cX7_count 95 = .ok (.getfield 12, 3) := by decide +kernel
theorem dX7_count_98 : decode cX7_count 98 = .ok (.aload_n 0, 1) := by decide +kernel
theorem dX7_count_99 : decode cX7_count 99 = .ok (.getfield 12, 3) := by decide +kernel
theorem dX7_count_102 : decode cX7_count 102 = .ok (.iconst 1, 1) := by decide +kernel
theorem dX7_count_103 : decode cX7_count 103 = .ok (.invokevirtual 81, 3) := by decide +kernel
theorem dX7_count_106 : decode cX7_count 106 = .ok (.invokevirtual 116, 3) := by decide +kernel
theorem dX7_count_109 : decode cX7_count 109 = .ok (.ireturn, 1) := by decide +kernel
theorem dX7_count_110 : decode cX7_count 110 = .ok (.aload_n 0, 1) := by decide +kernel
theorem dX7_count_111 : decode cX7_count 111 = .ok (.getfield 12, 3) := by decide +kernel
theorem dX7_count_114 : decode cX7_count 114 = .ok (.iconst 3, 1) := by decide +kernel
theorem dX7_count_115 : decode cX7_count 115 = .ok (.invokevirtual 81, 3) := by decide +kernel
theorem dX7_count_118 : decode cX7_count 118 = .ok (.ireturn, 1) := by decide +kernel
theorem dX7_count_119 : decode cX7_count 119 = .ok (.aload_n 0, 1) := by decide +kernel
theorem dX7_count_120 : decode cX7_count 120 = .ok (.getfield 12, 3) := by decide +kernel
theorem dX7_count_123 : decode cX7_count 123 = .ok (.invokevirtual 239, 3) := by decide +kernel
theorem dX7_count_126 : decode cX7_count 126 = .ok (.ireturn, 1) := by decide +kernel
theorem dX7_count_127 : decode cX7_count 127 = .ok (.aload_n 0, 1) := by decide +kernel
theorem dX7_count_128 : decode cX7_count 128 = .ok (.getfield 12, 3) := by decide +kernel
theorem dX7_count_131 : decode cX7_count 131 = .ok (.invokevirtual 76, 3) := by decide +kernel
theorem dX7_count_134 : decode cX7_count 134 = .ok (.ireturn, 1) := by decide +kernel
theorem dX7_count_135 : decode cX7_count 135 = .ok (.aload_n 0, 1) := by decide +kernel
theorem dX7_count_136 : decode cX7_count 136 = .ok (.getfield 12, 3) := by decide +kernel
theorem dX7_count_139 : decode cX7_count 139 = .ok (.iconst 2, 1) := by decide +kernel
theorem dX7_count_140 : decode cX7_count 140 = .ok (.invokevirtual 81, 3) := by decide +kernel
theorem dX7_count_143 : decode cX7_count 143 = .ok (.ireturn, 1) := by decide +kernel
theorem dX7_count_144 : decode cX7_count 144 = .ok (.aload_n 0, 1) := by decide +kernel
theorem dX7_count_145 : decode cX7_count 145 = .ok (.getfield 12, 3) := by decide +kernel
theorem dX7_count_148 : decode cX7_count 148 = .ok (.iconst 4, 1) := by decide +kernel
theorem dX7_count_149 : decode cX7_count 149 = .ok (.invokevirtual 81, 3) := by decide +kernel
theorem dX7_count_152 : decode cX7_count 152 = .ok (.ireturn, 1) := by decide +kernel
theorem dX7_count_153 : decode cX7_count 153 = .ok (.aload_n 0, 1) := by decide +kernel
theorem dX7_count_154 : decode cX7_count 154 = .ok (.getfield 12, 3) := by decide +kernel
theorem dX7_count_157 : decode cX7_count 157 = .ok (.invokevirtual 242, 3) := by decide +kernel
theorem dX7_count_160 : decode cX7_count 160 = .ok (.ireturn, 1) := by decide +kernel
theorem dX7_count_161 : decode cX7_count 161 = .ok (.aload_n 0, 1) := by decide +kernel
theorem dX7_count_162 : decode cX7_count 162 = .ok (.getfield 12, 3) := by decide +kernel
theorem dX7_count_165 : decode cX7_count 165 = .ok (.invokevirtual 245, 3) := by decide +kernel
theorem dX7_count_168 : decode cX7_count 168 = .ok (.ireturn, 1) := by decide +kernel
theorem dX7_count_169 : decode cX7_count 169 = .ok (.aload_n 0, 1) := by decide +kernel
theorem dX7_count_170 : decode cX7_count 170 = .ok (.getfield 12, 3) := by decide +kernel
theorem dX7_count_173 : decode cX7_count 173 = .ok (.invokevirtual 248, 3) := by decide +kernel
theorem dX7_count_176 : decode cX7_count 176 = .ok (.ireturn, 1) := by decide +kernel
theorem dX7_count_177 : decode cX7_count 177 = .ok (.aload_n 0, 1) := by decide +kernel
theorem dX7_count_178 : decode cX7_count 178 = .ok (.getfield 12, 3) := by decide +kernel
theorem dX7_count_181 : decode cX7_count 181 = .ok (.invokevirtual 251, 3) := by decide +kernel
theorem dX7_count_184 : decode cX7_count 184 = .ok (.ireturn, 1) := by decide +kernel
theorem dX7_count_185 : decode cX7_count 185 = .ok (.aload_n 0, 1) := by decide +kernel
theorem dX7_count_186 : decode cX7_count 186 = .ok (.getfield 12, 3) := by decide +kernel
theorem dX7_count_189 : decode cX7_count 189 = .ok (.invokevirtual 254, 3) := by decide +kernel
theorem dX7_count_192 : decode cX7_count 192 = .ok (.ireturn, 1) := by decide +kernel
theorem dX7_count_193 : decode cX7_count 193 = .ok (.aload_n 0, 1) := by decide +kernel
theorem dX7_count_194 : decode cX7_count 194 = .ok (.getfield 19, 3) := by decide +kernel
theorem dX7_count_197 : decode cX7_count 197 = .ok (.invokevirtual 210, 3) := by decide +kernel
theorem dX7_count_200 : decode cX7_count 200 = .ok (.ireturn, 1) := by decide +kernel
theorem dX7_count_201 : decode cX7_count 201 = .ok (.aload_n 0, 1) := by decide +kernel
theorem dX7_count_202 : decode cX7_count 202 = .ok (.getfield 26, 3) := by decide +kernel
theorem dX7_count_205 : decode cX7_count 205 = .ok (.invokevirtual 216, 3) := by decide +kernel
theorem dX7_count_208 : decode cX7_count 208 = .ok (.ireturn, 1) := by decide +kernel
theorem dX7_count_209 : decode cX7_count 209 = .ok (.ldc 65, 2) := by decide +kernel
theorem dX7_count_211 : decode cX7_count 211 = .ok (.ireturn, 1) := by decide +kernel
set_option maxRecDepth 20000 in
theorem ggX7_entry_X1_hasEntry : GoodIn wsX7_entry wsX1_hasEntry := goodIn_r _ [7, 8, 9, 10, 6, 11, 12, 13, 14, 15, 85] (by decide +kernel) (by decide +kernel)
set_option maxRecDepth 20000 in
theorem gX7_entry_X1_hasEntry : GoodIn wsX7_entry (wsV RX7 109 RX1 yX1_hasEntry wsX1_hasEntry) := goodIn_app (goodIn_of _ (by decide +kernel)) ggX7_entry_X1_hasEntry
set_option maxRecDepth 20000 in
theorem ggX7_entry_X1_ofEntry : GoodIn wsX7_entry wsX1_ofEntry := goodIn_r _ [19, 12, 85] (by decide +kernel) (by decide +kernel)
set_option maxRecDepth 20000 in
theorem gX7_entry_X1_ofEntry : GoodIn wsX7_entry (wsV RX7 171 RX1 yX1_ofEntry wsX1_ofEntry) := goodIn_app (goodIn_of _ (by decide +kernel)) ggX7_entry_X1_ofEntry
set_option maxRecDepth 20000 in
theorem ggX7_entry_X1_fits : GoodIn wsX7_entry wsX1_fits := goodIn_r _ [23, 24, 17, 18, 6, 19, 12, 25, 26, 27, 28, 85] (by decide +kernel) (by decide +kernel)
set_option maxRecDepth 20000 in
theorem gX7_entry_X1_fits : GoodIn wsX7_entry (wsV RX7 189 RX1 yX1_fits wsX1_fits) := goodIn_app (goodIn_of _ (by decide +kernel)) ggX7_entry_X1_fits
set_option maxRecDepth 20000 in
theorem ggX7_entry_X1_number : GoodIn wsX7_entry wsX1_number := goodIn_r _ [11, 12, 85] (by decide +kernel) (by decide +kernel)
set_option maxRecDepth 20000 in
theorem gX7_entry_X1_number : GoodIn wsX7_entry (wsV RX7 81 RX1 yX1_number wsX1_number) := goodIn_app (goodIn_of _ (by decide +kernel)) ggX7_entry_X1_number
set_option maxRecDepth 20000 in
theorem ggX7_entry_X1_isOnPath : GoodIn wsX7_entry wsX1_isOnPath := goodIn_r _ [33, 24, 17, 18, 6, 19, 12, 85] (by decide +kernel) (by decide +kernel)
set_option maxRecDepth 20000 in
theorem gX7_entry_X1_isOnPath : GoodIn wsX7_entry (wsV RX7 112 RX1 yX1_isOnPath wsX1_isOnPath) := goodIn_app (goodIn_of _ (by decide +kernel)) ggX7_entry_X1_isOnPath
set_option maxRecDepth 20000 in
theorem ggX7_entry_X1_pathLength : GoodIn wsX7_entry wsX1_pathLength := goodIn_r _ [37, 24, 17, 18, 6, 19, 12, 85] (by decide +kernel) (by decide +kernel)
set_option maxRecDepth 20000 in
theorem gX7_entry_X1_pathLength : GoodIn wsX7_entry (wsV RX7 116 RX1 yX1_pathLength wsX1_pathLength) := goodIn_app (goodIn_of _ (by decide +kernel)) ggX7_entry_X1_pathLength
set_option maxRecDepth 20000 in
theorem ggX7_entry_X7_totalAt : GoodIn wsX7_entry wsX7_totalAt := goodIn_r _ [41, 42, 1, 43, 44, 45, 46, 47, 48, 49, 50, 51, 52, 53, 54, 55, 56, 57, 58, 59, 60, 61, 17, 18, 6, 19, 12, 62, 14, 63, 64, 65, 66, 67, 68, 69, 70, 71, 72, 73, 74, 75, 76, 77, 78, 79, 80, 81, 82, 83, 84, 86, 85] (by decide +kernel) (by decide +kernel)
set_option maxRecDepth 20000 in
theorem gX7_entry_X7_totalAt : GoodIn wsX7_entry (wsV RX7 257 RX7 yX7_totalAt wsX7_totalAt) := goodIn_app (goodIn_of _ (by decide +kernel)) ggX7_entry_X7_totalAt
theorem dX7_entry_0 : decode cX7_entry 0 = .ok (.aload_n 0, 1) := by decide +kernel
theorem dX7_entry_1 : decode cX7_entry 1 = .ok (.getfield 12, 3) := by decide +kernel
theorem dX7_entry_4 : decode cX7_entry 4 = .ok (.iload_n 1, 1) := by decide +kernel
theorem dX7_entry_5 : decode cX7_entry 5 = .ok (.invokevirtual 109, 3) := by decide +kernel
theorem dX7_entry_8 : decode cX7_entry 8 = .ok (.ifCond .ne 6, 3) := by decide +kernel
theorem dX7_entry_11 : decode cX7_entry 11 = .ok (.ldc 65, 2) := by decide +kernel
theorem dX7_entry_13 : decode cX7_entry 13 = .ok (.ireturn, 1) := by decide +kernel
theorem dX7_entry_14 : decode cX7_entry 14 = .ok (.iload_n 2, 1) := by decide +kernel
theorem dX7_entry_15 : decode cX7_entry 15 = .ok (.tableswitch 185 0 10 #[57, 67, 77, 87, 97, 107, 117, 134, 159, 170, 179], 57) := by decide +kernel
theorem dX7_entry_72 : decode cX7_entry 72 = .ok (.aload_n 0, 1) := by decide +kernel
theorem dX7_entry_73 : decode cX7_entry 73 = .ok (.getfield 12, 3) := by decide +kernel
theorem dX7_entry_76 : decode cX7_entry 76 = .ok (.iload_n 1, 1) := by decide +kernel
theorem dX7_entry_77 : decode cX7_entry 77 = .ok (.iconst 0, 1) := by decide +kernel
theorem dX7_entry_78 : decode cX7_entry 78 = .ok (.invokevirtual 171, 3) := by decide +kernel
theorem dX7_entry_81 : decode cX7_entry 81 = .ok (.ireturn, 1) := by decide +kernel
theorem dX7_entry_82 : decode cX7_entry 82 = .ok (.aload_n 0, 1) := by decide +kernel
theorem dX7_entry_83 : decode cX7_entry 83 = .ok (.getfield 12, 3) := by decide +kernel
theorem dX7_entry_86 : decode cX7_entry 86 = .ok (.iload_n 1, 1) := by decide +kernel
theorem dX7_entry_87 : decode cX7_entry 87 = .ok (.iconst 1, 1) := by decide +kernel
theorem dX7_entry_88 : decode cX7_entry 88 = .ok (.invokevirtual 171, 3) := by decide +kernel
theorem dX7_entry_91 : decode cX7_entry 91 = .ok (.ireturn, 1) := by decide +kernel
theorem dX7_entry_92 : decode cX7_entry 92 = .ok (.aload_n 0, 1) := by decide +kernel
theorem dX7_entry_93 : decode cX7_entry 93 = .ok (.getfield 12, 3) := by decide +kernel
theorem dX7_entry_96 : decode cX7_entry 96 = .ok (.iload_n 1, 1) := by decide +kernel
theorem dX7_entry_97 : decode cX7_entry 97 = .ok (.iconst 2, 1) := by decide +kernel
theorem dX7_entry_98 : decode cX7_entry 98 = .ok (.invokevirtual 171, 3) := by decide +kernel
theorem dX7_entry_101 : decode cX7_entry 101 = .ok (.ireturn, 1) := by decide +kernel
theorem dX7_entry_102 : decode cX7_entry 102 = .ok (.aload_n 0, 1) := by decide +kernel
theorem dX7_entry_103 : decode cX7_entry 103 = .ok (.getfield 12, 3) := by decide +kernel
theorem dX7_entry_106 : decode cX7_entry 106 = .ok (.iload_n 1, 1) := by decide +kernel
theorem dX7_entry_107 : decode cX7_entry 107 = .ok (.iconst 3, 1) := by decide +kernel
theorem dX7_entry_108 : decode cX7_entry 108 = .ok (.invokevirtual 171, 3) := by decide +kernel
theorem dX7_entry_111 : decode cX7_entry 111 = .ok (.ireturn, 1) := by decide +kernel
theorem dX7_entry_112 : decode cX7_entry 112 = .ok (.aload_n 0, 1) := by decide +kernel
theorem dX7_entry_113 : decode cX7_entry 113 = .ok (.getfield 12, 3) := by decide +kernel
theorem dX7_entry_116 : decode cX7_entry 116 = .ok (.iload_n 1, 1) := by decide +kernel
theorem dX7_entry_117 : decode cX7_entry 117 = .ok (.iconst 4, 1) := by decide +kernel
theorem dX7_entry_118 : decode cX7_entry 118 = .ok (.invokevirtual 171, 3) := by decide +kernel
theorem dX7_entry_121 : decode cX7_entry 121 = .ok (.ireturn, 1) := by decide +kernel
theorem dX7_entry_122 : decode cX7_entry 122 = .ok (.aload_n 0, 1) := by decide +kernel
theorem dX7_entry_123 : decode cX7_entry 123 = .ok (.getfield 12, 3) := by decide +kernel
theorem dX7_entry_126 : decode cX7_entry 126 = .ok (.iload_n 1, 1) := by decide +kernel
theorem dX7_entry_127 : decode cX7_entry 127 = .ok (.iconst 5, 1) := by decide +kernel
theorem dX7_entry_128 : decode cX7_entry 128 = .ok (.invokevirtual 171, 3) := by decide +kernel
theorem dX7_entry_131 : decode cX7_entry 131 = .ok (.ireturn, 1) := by decide +kernel
theorem dX7_entry_132 : decode cX7_entry 132 = .ok (.aload_n 0, 1) := by decide +kernel
theorem dX7_entry_133 : decode cX7_entry 133 = .ok (.getfield 12, 3) := by decide +kernel
theorem dX7_entry_136 : decode cX7_entry 136 = .ok (.iload_n 1, 1) := by decide +kernel
theorem dX7_entry_137 : decode cX7_entry 137 = .ok (.invokevirtual 189, 3) := by decide +kernel
theorem dX7_entry_140 : decode cX7_entry 140 = .ok (.ifCond .eq 7, 3) := by decide +kernel
theorem dX7_entry_143 : decode cX7_entry 143 = .ok (.iconst 1, 1) := by decide +kernel
theorem dX7_entry_144 : decode cX7_entry 144 = .ok (.goto 4, 3) := by decide +kernel
theorem dX7_entry_147 : decode cX7_entry 147 = .ok (.iconst 0, 1) := by decide +kernel
theorem dX7_entry_148 : decode cX7_entry 148 = .ok (.ireturn, 1) := by decide +kernel
theorem dX7_entry_149 : decode cX7_entry 149 = .ok (.aload_n 0, 1) := by decide +kernel
theorem dX7_entry_150 : decode cX7_entry 150 = .ok (.getfield 12, 3) := by decide +kernel
theorem dX7_entry_153 : decode cX7_entry 153 = .ok (.iload_n 1, 1) := by decide +kernel
theorem dX7_entry_154 : decode cX7_entry 154 = .ok (.aload_n 0, 1) := by decide +kernel
theorem dX7_entry_155 : decode cX7_entry 155 = .ok (.getfield 12, 3) := by decide +kernel
theorem dX7_entry_158 : decode cX7_entry 158 = .ok (.iconst 1, 1) := by decide +kernel
theorem dX7_entry_159 : decode cX7_entry 159 = .ok (.invokevirtual 81, 3) := by decide +kernel
theorem dX7_entry_162 : decode cX7_entry 162 = .ok (.invokevirtual 112, 3) := by decide +kernel
theorem dX7_entry_165 : decode cX7_entry 165 = .ok (.ifCond .eq 7, 3) := by decide +kernel
theorem dX7_entry_168 : decode cX7_entry 168 = .ok (.iconst 1, 1) := by decide +kernel
theorem dX7_entry_169 : decode cX7_entry 169 = .ok (.goto 4, 3) := by decide +kernel
theorem dX7_entry_172 : decode cX7_entry 172 = .ok (.iconst 0, 1) := by decide +kernel
theorem dX7_entry_173 : decode cX7_entry 173 = .ok (.ireturn, 1) := by decide +kernel
theorem dX7_entry_174 : decode cX7_entry 174 = .ok (.aload_n 0, 1) := by decide +kernel
theorem dX7_entry_175 : decode cX7_entry 175 = .ok (.getfield 12, 3) := by decide +kernel
theorem dX7_entry_178 : decode cX7_entry 178 = .ok (.iload_n 1, 1) := by decide +kernel
theorem dX7_entry_179 : decode cX7_entry 179 = .ok (.bipush 6, 2) := by decide +kernel
theorem dX7_entry_181 : decode cX7_entry 181 = .ok (.invokevirtual 171, 3) := by decide +kernel
theorem dX7_entry_184 : decode cX7_entry 184 = .ok (.ireturn, 1) := by decide +kernel
theorem dX7_entry_185 : decode cX7_entry 185 = .ok (.aload_n 0, 1) := by decide +kernel
theorem dX7_entry_186 : decode cX7_entry 186 = .ok (.getfield 12, 3) := by decide +kernel
theorem dX7_entry_189 : decode cX7_entry 189 = .ok (.iload_n 1, 1) := by decide +kernel
theorem dX7_entry_190 : decode cX7_entry 190 = .ok (.invokevirtual 116, 3) := by decide +kernel
theorem dX7_entry_193 : decode cX7_entry 193 = .ok (.ireturn, 1) := by decide +kernel
theorem dX7_entry_194 : decode cX7_entry 194 = .ok (.aload_n 0, 1) := by decide +kernel
theorem dX7_entry_195 : decode cX7_entry 195 = .ok (.iload_n 1, 1) := by decide +kernel
theorem dX7_entry_196 : decode cX7_entry 196 = .ok (.invokevirtual 257, 3) := by decide +kernel
theorem dX7_entry_199 : decode cX7_entry 199 = .ok (.ireturn, 1) := by decide +kernel
theorem dX7_entry_200 : decode cX7_entry 200 = .ok (.ldc 65, 2) := by decide +kernel
theorem dX7_entry_202 : decode cX7_entry 202 = .ok (.ireturn, 1) := by decide +kernel
set_option maxRecDepth 20000 in
theorem ggX7_totalAt_X5_fill : GoodIn wsX7_totalAt wsX5_fill := goodIn_r _ [7, 8, 9, 10, 6, 11, 12, 13, 14, 15, 16, 17, 18, 19, 20, 21, 22, 23, 24, 25, 26, 27, 28, 29, 30, 31, 32, 33, 34, 35, 51, 52] (by decide +kernel) (by decide +kernel)
set_option maxRecDepth 20000 in
theorem gX7_totalAt_X5_fill : GoodIn wsX7_totalAt (wsV RX7 85 RX5 yX5_fill wsX5_fill) := goodIn_app (goodIn_of _ (by decide +kernel)) ggX7_totalAt_X5_fill
set_option maxRecDepth 20000 in
theorem ggX7_totalAt_X5_total : GoodIn wsX7_totalAt wsX5_total := goodIn_r _ [39, 40, 41, 42, 6, 43, 12, 51] (by decide +kernel) (by decide +kernel)
set_option maxRecDepth 20000 in
theorem gX7_totalAt_X5_total : GoodIn wsX7_totalAt (wsV RX7 260 RX5 yX5_total wsX5_total) := goodIn_app (goodIn_of _ (by decide +kernel)) ggX7_totalAt_X5_total
theorem dX7_totalAt_0 : decode cX7_totalAt 0 = .ok (.aload_n 0, 1) := by decide +kernel
theorem dX7_totalAt_1 : decode cX7_totalAt 1 = .ok (.getfield 47, 3) := by decide +kernel
theorem dX7_totalAt_4 : decode cX7_totalAt 4 = .ok (.aload_n 0, 1) := by decide +kernel
theorem dX7_totalAt_5 : decode cX7_totalAt 5 = .ok (.getfield 12, 3) := by decide +kernel
theorem dX7_totalAt_8 : decode cX7_totalAt 8 = .ok (.iload_n 1, 1) := by decide +kernel
theorem dX7_totalAt_9 : decode cX7_totalAt 9 = .ok (.invokevirtual 85, 3) := by decide +kernel
theorem dX7_totalAt_12 : decode cX7_totalAt 12 = .ok (.aload_n 0, 1) := by decide +kernel
theorem dX7_totalAt_13 : decode cX7_totalAt 13 = .ok (.getfield 47, 3) := by decide +kernel
theorem dX7_totalAt_16 : decode cX7_totalAt 16 = .ok (.invokevirtual 260, 3) := by decide +kernel
theorem dX7_totalAt_19 : decode cX7_totalAt 19 = .ok (.ireturn, 1) := by decide +kernel
set_option maxRecDepth 20000 in
theorem ggX7_balance_X7_isAccount : GoodIn wsX7_balance wsX7_isAccount := goodIn_r _ [7, 8, 9, 6, 10] (by decide +kernel) (by decide +kernel)
set_option maxRecDepth 20000 in
theorem gX7_balance_X7_isAccount : GoodIn wsX7_balance (va_wsS RX7 58 yX7_isAccount wsX7_isAccount) := goodIn_app (goodIn_of _ (by decide +kernel)) ggX7_balance_X7_isAccount
set_option maxRecDepth 20000 in
theorem ggX7_balance_X1_hasEntry : GoodIn wsX7_balance wsX1_hasEntry := goodIn_r _ [15, 16, 17, 18, 14, 19, 20, 9, 6, 10, 62] (by decide +kernel) (by decide +kernel)
set_option maxRecDepth 20000 in
theorem gX7_balance_X1_hasEntry : GoodIn wsX7_balance (wsV RX7 109 RX1 yX1_hasEntry wsX1_hasEntry) := goodIn_app (goodIn_of _ (by decide +kernel)) ggX7_balance_X1_hasEntry
set_option maxRecDepth 20000 in
theorem ggX7_balance_X5_fill : GoodIn wsX7_balance wsX5_fill := goodIn_r _ [25, 26, 27, 28, 24, 29, 30, 31, 32, 33, 34, 35, 36, 37, 38, 39, 40, 41, 14, 42, 20, 43, 6, 44, 45, 46, 47, 48, 49, 50, 63, 62] (by decide +kernel) (by decide +kernel)
set_option maxRecDepth 20000 in
theorem gX7_balance_X5_fill : GoodIn wsX7_balance (wsV RX7 85 RX5 yX5_fill wsX5_fill) := goodIn_app (goodIn_of _ (by decide +kernel)) ggX7_balance_X5_fill
set_option maxRecDepth 20000 in
theorem ggX7_balance_X5_sum : GoodIn wsX7_balance wsX5_sum := goodIn_r _ [54, 30, 63] (by decide +kernel) (by decide +kernel)
set_option maxRecDepth 20000 in
theorem gX7_balance_X5_sum : GoodIn wsX7_balance (wsV RX7 183 RX5 yX5_sum wsX5_sum) := goodIn_app (goodIn_of _ (by decide +kernel)) ggX7_balance_X5_sum
theorem dX7_balance_0 : decode cX7_balance 0 = .ok (.iload_n 1, 1) := by decide +kernel
theorem dX7_balance_1 : decode cX7_balance 1 = .ok (.invokestatic 58, 3) := by decide +kernel
theorem dX7_balance_4 : decode cX7_balance 4 = .ok (.ifCond .eq 14, 3) := by decide +kernel
theorem dX7_balance_7 : decode cX7_balance 7 = .ok (.aload_n 0, 1) := by decide +kernel
theorem dX7_balance_8 : decode cX7_balance 8 = .ok (.getfield 12, 3) := by decide +kernel
theorem dX7_balance_11 : decode cX7_balance 11 = .ok (.iload_n 2, 1) := by decide +kernel
theorem dX7_balance_12 : decode cX7_balance 12 = .ok (.invokevirtual 109, 3) := by decide +kernel
theorem dX7_balance_15 : decode cX7_balance 15 = .ok (.ifCond .ne 6, 3) := by decide +kernel
theorem dX7_balance_18 : decode cX7_balance 18 = .ok (.ldc 65, 2) := by decide +kernel
theorem dX7_balance_20 : decode cX7_balance 20 = .ok (.ireturn, 1) := by decide +kernel
theorem dX7_balance_21 : decode cX7_balance 21 = .ok (.aload_n 0, 1) := by decide +kernel
theorem dX7_balance_22 : decode cX7_balance 22 = .ok (.getfield 47, 3) := by decide +kernel
theorem dX7_balance_25 : decode cX7_balance 25 = .ok (.aload_n 0, 1) := by decide +kernel
theorem dX7_balance_26 : decode cX7_balance 26 = .ok (.getfield 12, 3) := by decide +kernel
theorem dX7_balance_29 : decode cX7_balance 29 = .ok (.iload_n 2, 1) := by decide +kernel
theorem dX7_balance_30 : decode cX7_balance 30 = .ok (.invokevirtual 85, 3) := by decide +kernel
theorem dX7_balance_33 : decode cX7_balance 33 = .ok (.aload_n 0, 1) := by decide +kernel
theorem dX7_balance_34 : decode cX7_balance 34 = .ok (.getfield 47, 3) := by decide +kernel
theorem dX7_balance_37 : decode cX7_balance 37 = .ok (.iload_n 1, 1) := by decide +kernel
theorem dX7_balance_38 : decode cX7_balance 38 = .ok (.invokevirtual 183, 3) := by decide +kernel
theorem dX7_balance_41 : decode cX7_balance 41 = .ok (.ireturn, 1) := by decide +kernel
set_option maxRecDepth 20000 in
theorem ggX7_onChain_X7_traceChain : GoodIn wsX7_onChain wsX7_traceChain := goodIn_r _ [7, 8, 2, 9, 10, 11, 12, 13, 14, 15, 16, 17, 18, 19, 20, 21, 22, 23, 24, 25, 26, 27, 28, 29, 30, 31, 32, 33, 34, 35, 36, 37, 43, 44, 45, 46, 47, 48, 49, 50, 51, 52] (by decide +kernel) (by decide +kernel)
set_option maxRecDepth 20000 in
theorem gX7_onChain_X7_traceChain : GoodIn wsX7_onChain (wsV RX7 230 RX7 yX7_traceChain wsX7_traceChain) := goodIn_app (goodIn_of _ (by decide +kernel)) ggX7_onChain_X7_traceChain
set_option maxRecDepth 20000 in
theorem ggX7_onChain_X3_at : GoodIn wsX7_onChain wsX3_at := goodIn_r _ [41, 36, 28, 42, 51, 52] (by decide +kernel) (by decide +kernel)
set_option maxRecDepth 20000 in
theorem gX7_onChain_X3_at : GoodIn wsX7_onChain (wsV RX7 123 RX3 yX3_at wsX3_at) := goodIn_app (goodIn_of _ (by decide +kernel)) ggX7_onChain_X3_at
theorem dX7_onChain_0 : decode cX7_onChain 0 = .ok (.iload_n 1, 1) := by decide +kernel
theorem dX7_onChain_1 : decode cX7_onChain 1 = .ok (.ifCond .ge 6, 3) := by decide +kernel
theorem dX7_onChain_4 : decode cX7_onChain 4 = .ok (.ldc 65, 2) := by decide +kernel
theorem dX7_onChain_6 : decode cX7_onChain 6 = .ok (.ireturn, 1) := by decide +kernel
theorem dX7_onChain_7 : decode cX7_onChain 7 = .ok (.aload_n 0, 1) := by decide +kernel
theorem dX7_onChain_8 : decode cX7_onChain 8 = .ok (.invokevirtual 230, 3) := by decide +kernel
theorem dX7_onChain_11 : decode cX7_onChain 11 = .ok (.aload_n 0, 1) := by decide +kernel
theorem dX7_onChain_12 : decode cX7_onChain 12 = .ok (.getfield 54, 3) := by decide +kernel
theorem dX7_onChain_15 : decode cX7_onChain 15 = .ok (.iload_n 1, 1) := by decide +kernel
theorem dX7_onChain_16 : decode cX7_onChain 16 = .ok (.invokevirtual 123, 3) := by decide +kernel
theorem dX7_onChain_19 : decode cX7_onChain 19 = .ok (.ireturn, 1) := by decide +kernel
set_option maxRecDepth 20000 in
theorem ggX7_branch_X1_hasBranch : GoodIn wsX7_branch wsX1_hasBranch := goodIn_r _ [7, 8, 9, 10, 6, 11, 12, 13, 14, 15, 45] (by decide +kernel) (by decide +kernel)
set_option maxRecDepth 20000 in
theorem gX7_branch_X1_hasBranch : GoodIn wsX7_branch (wsV RX7 137 RX1 yX1_hasBranch wsX1_hasBranch) := goodIn_app (goodIn_of _ (by decide +kernel)) ggX7_branch_X1_hasBranch
set_option maxRecDepth 20000 in
theorem ggX7_branch_X1_ofBranch : GoodIn wsX7_branch wsX1_ofBranch := goodIn_r _ [19, 12, 45] (by decide +kernel) (by decide +kernel)
set_option maxRecDepth 20000 in
theorem gX7_branch_X1_ofBranch : GoodIn wsX7_branch (wsV RX7 167 RX1 yX1_ofBranch wsX1_ofBranch) := goodIn_app (goodIn_of _ (by decide +kernel)) ggX7_branch_X1_ofBranch
set_option maxRecDepth 20000 in
theorem ggX7_branch_X1_isLoud : GoodIn wsX7_branch wsX1_isLoud := goodIn_r _ [23, 24, 25, 26, 6, 27, 28, 17, 18, 19, 12, 8, 9, 10, 11, 45] (by decide +kernel) (by decide +kernel)
set_option maxRecDepth 20000 in
theorem gX7_branch_X1_isLoud : GoodIn wsX7_branch (wsV RX7 263 RX1 yX1_isLoud wsX1_isLoud) := goodIn_app (goodIn_of _ (by decide +kernel)) ggX7_branch_X1_isLoud
set_option maxRecDepth 20000 in
theorem ggX7_branch_X1_number : GoodIn wsX7_branch wsX1_number := goodIn_r _ [11, 12, 45] (by decide +kernel) (by decide +kernel)
set_option maxRecDepth 20000 in
theorem gX7_branch_X1_number : GoodIn wsX7_branch (wsV RX7 81 RX1 yX1_number wsX1_number) := goodIn_app (goodIn_of _ (by decide +kernel)) ggX7_branch_X1_number
set_option maxRecDepth 20000 in
theorem ggX7_branch_X1_lastShared : GoodIn wsX7_branch wsX1_lastShared := goodIn_r _ [33, 34, 35, 36, 6, 37, 12, 45] (by decide +kernel) (by decide +kernel)
set_option maxRecDepth 20000 in
theorem gX7_branch_X1_lastShared : GoodIn wsX7_branch (wsV RX7 266 RX1 yX1_lastShared wsX1_lastShared) := goodIn_app (goodIn_of _ (by decide +kernel)) ggX7_branch_X1_lastShared
theorem dX7_branch_0 : decode cX7_branch 0 = .ok (.aload_n 0, 1) := by decide +kernel
theorem dX7_branch_1 : decode cX7_branch 1 = .ok (.getfield 12, 3) := by decide +kernel
theorem dX7_branch_4 : decode cX7_branch 4 = .ok (.iload_n 1, 1) := by decide +kernel
theorem dX7_branch_5 : decode cX7_branch 5 = .ok (.invokevirtual 137, 3) := by decide +kernel
theorem dX7_branch_8 : decode cX7_branch 8 = .ok (.ifCond .ne 6, 3) := by decide +kernel
theorem dX7_branch_11 : decode cX7_branch 11 = .ok (.ldc 65, 2) := by decide +kernel
theorem dX7_branch_13 : decode cX7_branch 13 = .ok (.ireturn, 1) := by decide +kernel
theorem dX7_branch_14 : decode cX7_branch 14 = .ok (.iload_n 2, 1) := by decide +kernel
theorem dX7_branch_15 : decode cX7_branch 15 = .ok (.tableswitch 127 0 5 #[37, 47, 57, 67, 77, 102], 37) := by decide +kernel
theorem dX7_branch_52 : decode cX7_branch 52 = .ok (.aload_n 0, 1) := by decide +kernel
theorem dX7_branch_53 : decode cX7_branch 53 = .ok (.getfield 12, 3) := by decide +kernel
theorem dX7_branch_56 : decode cX7_branch 56 = .ok (.iload_n 1, 1) := by decide +kernel
theorem dX7_branch_57 : decode cX7_branch 57 = .ok (.iconst 0, 1) := by decide +kernel
theorem dX7_branch_58 : decode cX7_branch 58 = .ok (.invokevirtual 167, 3) := by decide +kernel
theorem dX7_branch_61 : decode cX7_branch 61 = .ok (.ireturn, 1) := by decide +kernel
theorem dX7_branch_62 : decode cX7_branch 62 = .ok (.aload_n 0, 1) := by decide +kernel
theorem dX7_branch_63 : decode cX7_branch 63 = .ok (.getfield 12, 3) := by decide +kernel
theorem dX7_branch_66 : decode cX7_branch 66 = .ok (.iload_n 1, 1) := by decide +kernel
theorem dX7_branch_67 : decode cX7_branch 67 = .ok (.iconst 1, 1) := by decide +kernel
theorem dX7_branch_68 : decode cX7_branch 68 = .ok (.invokevirtual 167, 3) := by decide +kernel
theorem dX7_branch_71 : decode cX7_branch 71 = .ok (.ireturn, 1) := by decide +kernel
theorem dX7_branch_72 : decode cX7_branch 72 = .ok (.aload_n 0, 1) := by decide +kernel
theorem dX7_branch_73 : decode cX7_branch 73 = .ok (.getfield 12, 3) := by decide +kernel
theorem dX7_branch_76 : decode cX7_branch 76 = .ok (.iload_n 1, 1) := by decide +kernel
theorem dX7_branch_77 : decode cX7_branch 77 = .ok (.iconst 2, 1) := by decide +kernel
theorem dX7_branch_78 : decode cX7_branch 78 = .ok (.invokevirtual 167, 3) := by decide +kernel
theorem dX7_branch_81 : decode cX7_branch 81 = .ok (.ireturn, 1) := by decide +kernel
theorem dX7_branch_82 : decode cX7_branch 82 = .ok (.aload_n 0, 1) := by decide +kernel
theorem dX7_branch_83 : decode cX7_branch 83 = .ok (.getfield 12, 3) := by decide +kernel
theorem dX7_branch_86 : decode cX7_branch 86 = .ok (.iload_n 1, 1) := by decide +kernel
theorem dX7_branch_87 : decode cX7_branch 87 = .ok (.iconst 3, 1) := by decide +kernel
theorem dX7_branch_88 : decode cX7_branch 88 = .ok (.invokevirtual 167, 3) := by decide +kernel
theorem dX7_branch_91 : decode cX7_branch 91 = .ok (.ireturn, 1) := by decide +kernel
theorem dX7_branch_92 : decode cX7_branch 92 = .ok (.aload_n 0, 1) := by decide +kernel
theorem dX7_branch_93 : decode cX7_branch 93 = .ok (.getfield 12, 3) := by decide +kernel
theorem dX7_branch_96 : decode cX7_branch 96 = .ok (.iload_n 1, 1) := by decide +kernel
theorem dX7_branch_97 : decode cX7_branch 97 = .ok (.invokevirtual 263, 3) := by decide +kernel
theorem dX7_branch_100 : decode cX7_branch 100 = .ok (.ifCond .eq 7, 3) := by decide +kernel
theorem dX7_branch_103 : decode cX7_branch 103 = .ok (.iconst 1, 1) := by decide +kernel
theorem dX7_branch_104 : decode cX7_branch 104 = .ok (.goto 12, 3) := by decide +kernel
theorem dX7_branch_107 : decode cX7_branch 107 = .ok (.aload_n 0, 1) := by decide +kernel
theorem dX7_branch_108 : decode cX7_branch 108 = .ok (.getfield 12, 3) := by decide +kernel
theorem dX7_branch_111 : decode cX7_branch 111 = .ok (.iload_n 1, 1) := by decide +kernel
theorem dX7_branch_112 : decode cX7_branch 112 = .ok (.iconst 4, 1) := by decide +kernel
theorem dX7_branch_113 : decode cX7_branch 113 = .ok (.invokevirtual 167, 3) := by decide +kernel
theorem dX7_branch_116 : decode cX7_branch 116 = .ok (.ireturn, 1) := by decide +kernel
theorem dX7_branch_117 : decode cX7_branch 117 = .ok (.aload_n 0, 1) := by decide +kernel
theorem dX7_branch_118 : decode cX7_branch 118 = .ok (.getfield 12, 3) := by decide +kernel
theorem dX7_branch_121 : decode cX7_branch 121 = .ok (.aload_n 0, 1) := by decide +kernel
theorem dX7_branch_122 : decode cX7_branch 122 = .ok (.getfield 12, 3) := by decide +kernel
theorem dX7_branch_125 : decode cX7_branch 125 = .ok (.iload_n 1, 1) := by decide +kernel
theorem dX7_branch_126 : decode cX7_branch 126 = .ok (.iconst 0, 1) := by decide +kernel
theorem dX7_branch_127 : decode cX7_branch 127 = .ok (.invokevirtual 167, 3) := by decide +kernel
theorem dX7_branch_130 : decode cX7_branch 130 = .ok (.aload_n 0, 1) := by decide +kernel
theorem dX7_branch_131 : decode cX7_branch 131 = .ok (.getfield 12, 3) := by decide +kernel
theorem dX7_branch_134 : decode cX7_branch 134 = .ok (.iconst 1, 1) := by decide +kernel
theorem dX7_branch_135 : decode cX7_branch 135 = .ok (.invokevirtual 81, 3) := by decide +kernel
theorem dX7_branch_138 : decode cX7_branch 138 = .ok (.invokevirtual 266, 3) := by decide +kernel
theorem dX7_branch_141 : decode cX7_branch 141 = .ok (.ireturn, 1) := by decide +kernel
theorem dX7_branch_142 : decode cX7_branch 142 = .ok (.ldc 65, 2) := by decide +kernel
theorem dX7_branch_144 : decode cX7_branch 144 = .ok (.ireturn, 1) := by decide +kernel
set_option maxRecDepth 20000 in
theorem ggX7_sealed_X1_hasSeal : GoodIn wsX7_sealed wsX1_hasSeal := goodIn_r _ [7, 8, 9, 10, 6, 11, 12, 13, 14, 15, 36] (by decide +kernel) (by decide +kernel)
set_option maxRecDepth 20000 in
theorem gX7_sealed_X1_hasSeal : GoodIn wsX7_sealed (wsV RX7 269 RX1 yX1_hasSeal wsX1_hasSeal) := goodIn_app (goodIn_of _ (by decide +kernel)) ggX7_sealed_X1_hasSeal
set_option maxRecDepth 20000 in
theorem ggX7_sealed_X1_ofSeal : GoodIn wsX7_sealed wsX1_ofSeal := goodIn_r _ [19, 12, 36] (by decide +kernel) (by decide +kernel)
set_option maxRecDepth 20000 in
theorem gX7_sealed_X1_ofSeal : GoodIn wsX7_sealed (wsV RX7 272 RX1 yX1_ofSeal wsX1_ofSeal) := goodIn_app (goodIn_of _ (by decide +kernel)) ggX7_sealed_X1_ofSeal
set_option maxRecDepth 20000 in
theorem ggX7_sealed_X1_sealFits : GoodIn wsX7_sealed wsX1_sealFits := goodIn_r _ [23, 24, 17, 18, 6, 19, 12, 25, 26, 27, 28, 36] (by decide +kernel) (by decide +kernel)
set_option maxRecDepth 20000 in
theorem gX7_sealed_X1_sealFits : GoodIn wsX7_sealed (wsV RX7 275 RX1 yX1_sealFits wsX1_sealFits) := goodIn_app (goodIn_of _ (by decide +kernel)) ggX7_sealed_X1_sealFits
theorem dX7_sealed_0 : decode cX7_sealed 0 = .ok (.aload_n 0, 1) := by decide +kernel
theorem dX7_sealed_1 : decode cX7_sealed 1 = .ok (.getfield 12, 3) := by decide +kernel
theorem dX7_sealed_4 : decode cX7_sealed 4 = .ok (.iload_n 1, 1) := by decide +kernel
theorem dX7_sealed_5 : decode cX7_sealed 5 = .ok (.invokevirtual 269, 3) := by decide +kernel
theorem dX7_sealed_8 : decode cX7_sealed 8 = .ok (.ifCond .ne 6, 3) := by decide +kernel
theorem dX7_sealed_11 : decode cX7_sealed 11 = .ok (.ldc 65, 2) := by decide +kernel
theorem dX7_sealed_13 : decode cX7_sealed 13 = .ok (.ireturn, 1) := by decide +kernel
theorem dX7_sealed_14 : decode cX7_sealed 14 = .ok (.iload_n 2, 1) := by decide +kernel
theorem dX7_sealed_15 : decode cX7_sealed 15 = .ok (.tableswitch 62 0 2 #[25, 35, 45], 25) := by decide +kernel
theorem dX7_sealed_40 : decode cX7_sealed 40 = .ok (.aload_n 0, 1) := by decide +kernel
theorem dX7_sealed_41 : decode cX7_sealed 41 = .ok (.getfield 12, 3) := by decide +kernel
theorem dX7_sealed_44 : decode cX7_sealed 44 = .ok (.iload_n 1, 1) := by decide +kernel
theorem dX7_sealed_45 : decode cX7_sealed 45 = .ok (.iconst 0, 1) := by decide +kernel
theorem dX7_sealed_46 : decode cX7_sealed 46 = .ok (.invokevirtual 272, 3) := by decide +kernel
theorem dX7_sealed_49 : decode cX7_sealed 49 = .ok (.ireturn, 1) := by decide +kernel
theorem dX7_sealed_50 : decode cX7_sealed 50 = .ok (.aload_n 0, 1) := by decide +kernel
theorem dX7_sealed_51 : decode cX7_sealed 51 = .ok (.getfield 12, 3) := by decide +kernel
theorem dX7_sealed_54 : decode cX7_sealed 54 = .ok (.iload_n 1, 1) := by decide +kernel
theorem dX7_sealed_55 : decode cX7_sealed 55 = .ok (.iconst 1, 1) := by decide +kernel
theorem dX7_sealed_56 : decode cX7_sealed 56 = .ok (.invokevirtual 272, 3) := by decide +kernel
theorem dX7_sealed_59 : decode cX7_sealed 59 = .ok (.ireturn, 1) := by decide +kernel
theorem dX7_sealed_60 : decode cX7_sealed 60 = .ok (.aload_n 0, 1) := by decide +kernel
theorem dX7_sealed_61 : decode cX7_sealed 61 = .ok (.getfield 12, 3) := by decide +kernel
theorem dX7_sealed_64 : decode cX7_sealed 64 = .ok (.iload_n 1, 1) := by decide +kernel
theorem dX7_sealed_65 : decode cX7_sealed 65 = .ok (.invokevirtual 275, 3) := by decide +kernel
theorem dX7_sealed_68 : decode cX7_sealed 68 = .ok (.ifCond .eq 7, 3) := by decide +kernel
theorem dX7_sealed_71 : decode cX7_sealed 71 = .ok (.iconst 1, 1) := by decide +kernel
theorem dX7_sealed_72 : decode cX7_sealed 72 = .ok (.goto 4, 3) := by decide +kernel
theorem dX7_sealed_75 : decode cX7_sealed 75 = .ok (.iconst 0, 1) := by decide +kernel
theorem dX7_sealed_76 : decode cX7_sealed 76 = .ok (.ireturn, 1) := by decide +kernel
theorem dX7_sealed_77 : decode cX7_sealed 77 = .ok (.ldc 65, 2) := by decide +kernel
theorem dX7_sealed_79 : decode cX7_sealed 79 = .ok (.ireturn, 1) := by decide +kernel
set_option maxRecDepth 20000 in
theorem ggX7_common_X1_hasEntry : GoodIn wsX7_common wsX1_hasEntry := goodIn_r _ [7, 8, 9, 10, 6, 11, 12, 13, 14, 15, 31] (by decide +kernel) (by decide +kernel)
set_option maxRecDepth 20000 in
theorem gX7_common_X1_hasEntry : GoodIn wsX7_common (wsV RX7 109 RX1 yX1_hasEntry wsX1_hasEntry) := goodIn_app (goodIn_of _ (by decide +kernel)) ggX7_common_X1_hasEntry
set_option maxRecDepth 20000 in
theorem ggX7_common_X1_lastShared : GoodIn wsX7_common wsX1_lastShared := goodIn_r _ [19, 20, 21, 22, 6, 23, 12, 31] (by decide +kernel) (by decide +kernel)
set_option maxRecDepth 20000 in
theorem gX7_common_X1_lastShared : GoodIn wsX7_common (wsV RX7 266 RX1 yX1_lastShared wsX1_lastShared) := goodIn_app (goodIn_of _ (by decide +kernel)) ggX7_common_X1_lastShared
theorem dX7_common_0 : decode cX7_common 0 = .ok (.aload_n 0, 1) := by decide +kernel
theorem dX7_common_1 : decode cX7_common 1 = .ok (.getfield 12, 3) := by decide +kernel
theorem dX7_common_4 : decode cX7_common 4 = .ok (.iload_n 1, 1) := by decide +kernel
theorem dX7_common_5 : decode cX7_common 5 = .ok (.invokevirtual 109, 3) := by decide +kernel
theorem dX7_common_8 : decode cX7_common 8 = .ok (.ifCond .eq 14, 3) := by decide +kernel
theorem dX7_common_11 : decode cX7_common 11 = .ok (.aload_n 0, 1) := by decide +kernel
theorem dX7_common_12 : decode cX7_common 12 = .ok (.getfield 12, 3) := by decide +kernel
theorem dX7_common_15 : decode cX7_common 15 = .ok (.iload_n 2, 1) := by decide +kernel
theorem dX7_common_16 : decode cX7_common 16 = .ok (.invokevirtual 109, 3) := by decide +kernel
theorem dX7_common_19 : decode cX7_common 19 = .ok (.ifCond .ne 6, 3) := by decide +kernel
theorem dX7_common_22 : decode cX7_common 22 = .ok (.ldc 65, 2) := by decide +kernel
theorem dX7_common_24 : decode cX7_common 24 = .ok (.ireturn, 1) := by decide +kernel
theorem dX7_common_25 : decode cX7_common 25 = .ok (.aload_n 0, 1) := by decide +kernel
theorem dX7_common_26 : decode cX7_common 26 = .ok (.getfield 12, 3) := by decide +kernel
theorem dX7_common_29 : decode cX7_common 29 = .ok (.iload_n 1, 1) := by decide +kernel
theorem dX7_common_30 : decode cX7_common 30 = .ok (.iload_n 2, 1) := by decide +kernel
theorem dX7_common_31 : decode cX7_common 31 = .ok (.invokevirtual 266, 3) := by decide +kernel
theorem dX7_common_34 : decode cX7_common 34 = .ok (.ireturn, 1) := by decide +kernel
set_option maxRecDepth 20000 in
theorem ggX7_traceChain_X1_number : GoodIn wsX7_traceChain wsX1_number := goodIn_r _ [7, 8, 39] (by decide +kernel) (by decide +kernel)
set_option maxRecDepth 20000 in
theorem gX7_traceChain_X1_number : GoodIn wsX7_traceChain (wsV RX7 81 RX1 yX1_number wsX1_number) := goodIn_app (goodIn_of _ (by decide +kernel)) ggX7_traceChain_X1_number
set_option maxRecDepth 20000 in
theorem ggX7_traceChain_X1_pathLength : GoodIn wsX7_traceChain wsX1_pathLength := goodIn_r _ [12, 13, 14, 15, 6, 16, 8, 39] (by decide +kernel) (by decide +kernel)
set_option maxRecDepth 20000 in
theorem gX7_traceChain_X1_pathLength : GoodIn wsX7_traceChain (wsV RX7 116 RX1 yX1_pathLength wsX1_pathLength) := goodIn_app (goodIn_of _ (by decide +kernel)) ggX7_traceChain_X1_pathLength
set_option maxRecDepth 20000 in
theorem ggX7_traceChain_X3_trace : GoodIn wsX7_traceChain wsX3_trace := goodIn_r _ [21, 22, 23, 24, 25, 26, 27, 28, 29, 30, 31, 14, 15, 6, 16, 8, 40, 41, 39] (by decide +kernel) (by decide +kernel)
set_option maxRecDepth 20000 in
theorem gX7_traceChain_X3_trace : GoodIn wsX7_traceChain (wsV RX7 119 RX3 yX3_trace wsX3_trace) := goodIn_app (goodIn_of _ (by decide +kernel)) ggX7_traceChain_X3_trace
theorem dX7_traceChain_0 : decode cX7_traceChain 0 = .ok (.aload_n 0, 1) := by decide +kernel
theorem dX7_traceChain_1 : decode cX7_traceChain 1 = .ok (.getfield 12, 3) := by decide +kernel
theorem dX7_traceChain_4 : decode cX7_traceChain 4 = .ok (.iconst 1, 1) := by decide +kernel
theorem dX7_traceChain_5 : decode cX7_traceChain 5 = .ok (.invokevirtual 81, 3) := by decide +kernel
theorem dX7_traceChain_8 : decode cX7_traceChain 8 = .ok (.istore_n 1, 1) := by decide +kernel
theorem dX7_traceChain_9 : decode cX7_traceChain 9 = .ok (.aload_n 0, 1) := by decide +kernel
theorem dX7_traceChain_10 : decode cX7_traceChain 10 = .ok (.getfield 54, 3) := by decide +kernel
theorem dX7_traceChain_13 : decode cX7_traceChain 13 = .ok (.aload_n 0, 1) := by decide +kernel
theorem dX7_traceChain_14 : decode cX7_traceChain 14 = .ok (.getfield 12, 3) := by decide +kernel
theorem dX7_traceChain_17 : decode cX7_traceChain 17 = .ok (.iload_n 1, 1) := by decide +kernel
theorem dX7_traceChain_18 : decode cX7_traceChain 18 = .ok (.aload_n 0, 1) := by decide +kernel
theorem dX7_traceChain_19 : decode cX7_traceChain 19 = .ok (.getfield 12, 3) := by decide +kernel
theorem dX7_traceChain_22 : decode cX7_traceChain 22 = .ok (.iload_n 1, 1) := by decide +kernel
theorem dX7_traceChain_23 : decode cX7_traceChain 23 = .ok (.invokevirtual 116, 3) := by decide +kernel
theorem dX7_traceChain_26 : decode cX7_traceChain 26 = .ok (.invokevirtual 119, 3) := by decide +kernel
theorem dX7_traceChain_29 : decode cX7_traceChain 29 = .ok (.return_, 1) := by decide +kernel
set_option maxRecDepth 20000 in
theorem ggX7_layOut_X3_traceBranch : GoodIn wsX7_layOut wsX3_traceBranch := goodIn_r _ [8, 9, 10, 11, 12, 13, 14, 15, 16, 17, 7, 18, 19, 20, 21, 22, 23, 24, 25, 26, 27, 28, 29, 30, 31, 71, 72, 73] (by decide +kernel) (by decide +kernel)
set_option maxRecDepth 20000 in
theorem gX7_layOut_X3_traceBranch : GoodIn wsX7_layOut (wsV RX7 288 RX3 yX3_traceBranch wsX3_traceBranch) := goodIn_app (goodIn_of _ (by decide +kernel)) ggX7_layOut_X3_traceBranch
set_option maxRecDepth 20000 in
theorem ggX7_layOut_X1_number : GoodIn wsX7_layOut wsX1_number := goodIn_r _ [35, 14, 71] (by decide +kernel) (by decide +kernel)
set_option maxRecDepth 20000 in
theorem gX7_layOut_X1_number : GoodIn wsX7_layOut (wsV RX7 81 RX1 yX1_number wsX1_number) := goodIn_app (goodIn_of _ (by decide +kernel)) ggX7_layOut_X1_number
set_option maxRecDepth 20000 in
theorem ggX7_layOut_X5_fill : GoodIn wsX7_layOut wsX5_fill := goodIn_r _ [40, 41, 42, 43, 39, 44, 45, 46, 47, 48, 49, 50, 51, 52, 53, 54, 29, 30, 12, 31, 14, 55, 56, 57, 58, 59, 60, 61, 62, 63, 74, 71] (by decide +kernel) (by decide +kernel)
set_option maxRecDepth 20000 in
theorem gX7_layOut_X5_fill : GoodIn wsX7_layOut (wsV RX7 85 RX5 yX5_fill wsX5_fill) := goodIn_app (goodIn_of _ (by decide +kernel)) ggX7_layOut_X5_fill
theorem dX7_layOut_0 : decode cX7_layOut 0 = .ok (.aload_n 0, 1) := by decide +kernel
theorem dX7_layOut_1 : decode cX7_layOut 1 = .ok (.getfield 54, 3) := by decide +kernel
theorem dX7_layOut_4 : decode cX7_layOut 4 = .ok (.aload_n 0, 1) := by decide +kernel
theorem dX7_layOut_5 : decode cX7_layOut 5 = .ok (.getfield 12, 3) := by decide +kernel
theorem dX7_layOut_8 : decode cX7_layOut 8 = .ok (.iload_n 1, 1) := by decide +kernel
theorem dX7_layOut_9 : decode cX7_layOut 9 = .ok (.invokevirtual 288, 3) := by decide +kernel
theorem dX7_layOut_12 : decode cX7_layOut 12 = .ok (.aload_n 0, 1) := by decide +kernel
theorem dX7_layOut_13 : decode cX7_layOut 13 = .ok (.getfield 47, 3) := by decide +kernel
theorem dX7_layOut_16 : decode cX7_layOut 16 = .ok (.aload_n 0, 1) := by decide +kernel
theorem dX7_layOut_17 : decode cX7_layOut 17 = .ok (.getfield 12, 3) := by decide +kernel
theorem dX7_layOut_20 : decode cX7_layOut 20 = .ok (.aload_n 0, 1) := by decide +kernel
theorem dX7_layOut_21 : decode cX7_layOut 21 = .ok (.getfield 12, 3) := by decide +kernel
theorem dX7_layOut_24 : decode cX7_layOut 24 = .ok (.iconst 1, 1) := by decide +kernel
theorem dX7_layOut_25 : decode cX7_layOut 25 = .ok (.invokevirtual 81, 3) := by decide +kernel
theorem dX7_layOut_28 : decode cX7_layOut 28 = .ok (.invokevirtual 85, 3) := by decide +kernel
theorem dX7_layOut_31 : decode cX7_layOut 31 = .ok (.return_, 1) := by decide +kernel
theorem dX7_isWithin_0 : decode cX7_isWithin 0 = .ok (.iload_n 0, 1) := by decide +kernel
theorem dX7_isWithin_1 : decode cX7_isWithin 1 = .ok (.iload_n 1, 1) := by decide +kernel
theorem dX7_isWithin_2 : decode cX7_isWithin 2 = .ok (.if_icmp .lt 12, 3) := by decide +kernel
theorem dX7_isWithin_5 : decode cX7_isWithin 5 = .ok (.iload_n 0, 1) := by decide +kernel
theorem dX7_isWithin_6 : decode cX7_isWithin 6 = .ok (.iload_n 2, 1) := by decide +kernel
theorem dX7_isWithin_7 : decode cX7_isWithin 7 = .ok (.if_icmp .gt 7, 3) := by decide +kernel
theorem dX7_isWithin_10 : decode cX7_isWithin 10 = .ok (.iconst 1, 1) := by decide +kernel
theorem dX7_isWithin_11 : decode cX7_isWithin 11 = .ok (.goto 4, 3) := by decide +kernel
theorem dX7_isWithin_14 : decode cX7_isWithin 14 = .ok (.iconst 0, 1) := by decide +kernel
theorem dX7_isWithin_15 : decode cX7_isWithin 15 = .ok (.ireturn, 1) := by decide +kernel
set_option maxRecDepth 20000 in
theorem ggX7_isAccount_X7_isWithin : GoodIn wsX7_isAccount wsX7_isWithin := goodIn_r _ [4] (by decide +kernel) (by decide +kernel)
set_option maxRecDepth 20000 in
theorem gX7_isAccount_X7_isWithin : GoodIn wsX7_isAccount (va_wsS RX7 134 yX7_isWithin wsX7_isWithin) := goodIn_app (goodIn_of _ (by decide +kernel)) ggX7_isAccount_X7_isWithin
theorem dX7_isAccount_0 : decode cX7_isAccount 0 = .ok (.iload_n 0, 1) := by decide +kernel
theorem dX7_isAccount_1 : decode cX7_isAccount 1 = .ok (.iconst 0, 1) := by decide +kernel
theorem dX7_isAccount_2 : decode cX7_isAccount 2 = .ok (.iconst 5, 1) := by decide +kernel
theorem dX7_isAccount_3 : decode cX7_isAccount 3 = .ok (.invokestatic 134, 3) := by decide +kernel
theorem dX7_isAccount_6 : decode cX7_isAccount 6 = .ok (.ireturn, 1) := by decide +kernel
set_option maxRecDepth 20000 in
theorem ggX7_isPayer_X7_isWithin : GoodIn wsX7_isPayer wsX7_isWithin := goodIn_r _ [4] (by decide +kernel) (by decide +kernel)
set_option maxRecDepth 20000 in
theorem gX7_isPayer_X7_isWithin : GoodIn wsX7_isPayer (va_wsS RX7 134 yX7_isWithin wsX7_isWithin) := goodIn_app (goodIn_of _ (by decide +kernel)) ggX7_isPayer_X7_isWithin
theorem dX7_isPayer_0 : decode cX7_isPayer 0 = .ok (.iload_n 0, 1) := by decide +kernel
theorem dX7_isPayer_1 : decode cX7_isPayer 1 = .ok (.iconst 1, 1) := by decide +kernel
theorem dX7_isPayer_2 : decode cX7_isPayer 2 = .ok (.iconst 5, 1) := by decide +kernel
theorem dX7_isPayer_3 : decode cX7_isPayer 3 = .ok (.invokestatic 134, 3) := by decide +kernel
theorem dX7_isPayer_6 : decode cX7_isPayer 6 = .ok (.ireturn, 1) := by decide +kernel
set_option maxRecDepth 20000 in
theorem ggX7_isSum_X7_isWithin : GoodIn wsX7_isSum wsX7_isWithin := goodIn_r _ [4] (by decide +kernel) (by decide +kernel)
set_option maxRecDepth 20000 in
theorem gX7_isSum_X7_isWithin : GoodIn wsX7_isSum (va_wsS RX7 134 yX7_isWithin wsX7_isWithin) := goodIn_app (goodIn_of _ (by decide +kernel)) ggX7_isSum_X7_isWithin
theorem dX7_isSum_0 : decode cX7_isSum 0 = .ok (.iload_n 0, 1) := by decide +kernel
theorem dX7_isSum_1 : decode cX7_isSum 1 = .ok (.iconst 1, 1) := by decide +kernel
theorem dX7_isSum_2 : decode cX7_isSum 2 = .ok (.sipush 999, 3) := by decide +kernel
theorem dX7_isSum_5 : decode cX7_isSum 5 = .ok (.invokestatic 134, 3) := by decide +kernel
theorem dX7_isSum_8 : decode cX7_isSum 8 = .ok (.ireturn, 1) := by decide +kernel
set_option maxRecDepth 20000 in
theorem ggX7_isCode_X7_isWithin : GoodIn wsX7_isCode wsX7_isWithin := goodIn_r _ [4] (by decide +kernel) (by decide +kernel)
set_option maxRecDepth 20000 in
theorem gX7_isCode_X7_isWithin : GoodIn wsX7_isCode (va_wsS RX7 134 yX7_isWithin wsX7_isWithin) := goodIn_app (goodIn_of _ (by decide +kernel)) ggX7_isCode_X7_isWithin
theorem dX7_isCode_0 : decode cX7_isCode 0 = .ok (.iload_n 0, 1) := by decide +kernel
theorem dX7_isCode_1 : decode cX7_isCode 1 = .ok (.iconst 0, 1) := by decide +kernel
theorem dX7_isCode_2 : decode cX7_isCode 2 = .ok (.sipush 999, 3) := by decide +kernel
theorem dX7_isCode_5 : decode cX7_isCode 5 = .ok (.invokestatic 134, 3) := by decide +kernel
theorem dX7_isCode_8 : decode cX7_isCode 8 = .ok (.ireturn, 1) := by decide +kernel
set_option maxRecDepth 20000 in
theorem ggX7_isSlot_X7_isWithin : GoodIn wsX7_isSlot wsX7_isWithin := goodIn_r _ [4] (by decide +kernel) (by decide +kernel)
set_option maxRecDepth 20000 in
theorem gX7_isSlot_X7_isWithin : GoodIn wsX7_isSlot (va_wsS RX7 134 yX7_isWithin wsX7_isWithin) := goodIn_app (goodIn_of _ (by decide +kernel)) ggX7_isSlot_X7_isWithin
theorem dX7_isSlot_0 : decode cX7_isSlot 0 = .ok (.iload_n 0, 1) := by decide +kernel
theorem dX7_isSlot_1 : decode cX7_isSlot 1 = .ok (.iconst 0, 1) := by decide +kernel
theorem dX7_isSlot_2 : decode cX7_isSlot 2 = .ok (.iconst 1, 1) := by decide +kernel
theorem dX7_isSlot_3 : decode cX7_isSlot 3 = .ok (.invokestatic 134, 3) := by decide +kernel
theorem dX7_isSlot_6 : decode cX7_isSlot 6 = .ok (.ireturn, 1) := by decide +kernel
theorem dX7_takes_0 : decode cX7_takes 0 = .ok (.iload_n 0, 1) := by decide +kernel
theorem dX7_takes_1 : decode cX7_takes 1 = .ok (.iconst 2, 1) := by decide +kernel
theorem dX7_takes_2 : decode cX7_takes 2 = .ok (.if_icmp .eq 8, 3) := by decide +kernel
theorem dX7_takes_5 : decode cX7_takes 5 = .ok (.iload_n 0, 1) := by decide +kernel
theorem dX7_takes_6 : decode cX7_takes 6 = .ok (.iconst 3, 1) := by decide +kernel
theorem dX7_takes_7 : decode cX7_takes 7 = .ok (.if_icmp .ne 7, 3) := by decide +kernel
theorem dX7_takes_10 : decode cX7_takes 10 = .ok (.iconst 1, 1) := by decide +kernel
theorem dX7_takes_11 : decode cX7_takes 11 = .ok (.goto 4, 3) := by decide +kernel
theorem dX7_takes_14 : decode cX7_takes 14 = .ok (.iconst 0, 1) := by decide +kernel
theorem dX7_takes_15 : decode cX7_takes 15 = .ok (.ireturn, 1) := by decide +kernel
theorem dX7_brings_0 : decode cX7_brings 0 = .ok (.iload_n 0, 1) := by decide +kernel
theorem dX7_brings_1 : decode cX7_brings 1 = .ok (.iconst 1, 1) := by decide +kernel
theorem dX7_brings_2 : decode cX7_brings 2 = .ok (.if_icmp .eq 13, 3) := by decide +kernel
theorem dX7_brings_5 : decode cX7_brings 5 = .ok (.iload_n 0, 1) := by decide +kernel
theorem dX7_brings_6 : decode cX7_brings 6 = .ok (.iconst 2, 1) := by decide +kernel
theorem dX7_brings_7 : decode cX7_brings 7 = .ok (.if_icmp .eq 8, 3) := by decide +kernel
theorem dX7_brings_10 : decode cX7_brings 10 = .ok (.iload_n 0, 1) := by decide +kernel
theorem dX7_brings_11 : decode cX7_brings 11 = .ok (.iconst 3, 1) := by decide +kernel
theorem dX7_brings_12 : decode cX7_brings 12 = .ok (.if_icmp .ne 7, 3) := by decide +kernel
theorem dX7_brings_15 : decode cX7_brings 15 = .ok (.iconst 1, 1) := by decide +kernel
theorem dX7_brings_16 : decode cX7_brings 16 = .ok (.goto 4, 3) := by decide +kernel
theorem dX7_brings_19 : decode cX7_brings 19 = .ok (.iconst 0, 1) := by decide +kernel
theorem dX7_brings_20 : decode cX7_brings 20 = .ok (.ireturn, 1) := by decide +kernel
