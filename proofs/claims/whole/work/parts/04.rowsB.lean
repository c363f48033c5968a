theorem dX5_init_0 : decode cX5_init 0 = .ok (.aload_n 0, 1) := by decide +kernel
theorem dX5_init_1 : decode cX5_init 1 = .ok (.invokespecial 3, 3) := by decide +kernel
theorem dX5_init_4 : decode cX5_init 4 = .ok (.aload_n 0, 1) := by decide +kernel
theorem dX5_init_5 : decode cX5_init 5 = .ok (.new 9, 3) := by decide +kernel
theorem dX5_init_8 : decode cX5_init 8 = .ok (.dup, 1) := by decide +kernel
theorem dX5_init_9 : decode cX5_init 9 = .ok (.invokespecial 11, 3) := by decide +kernel
theorem dX5_init_12 : decode cX5_init 12 = .ok (.putfield 12, 3) := by decide +kernel
theorem dX5_init_15 : decode cX5_init 15 = .ok (.aload_n 0, 1) := by decide +kernel
theorem dX5_init_16 : decode cX5_init 16 = .ok (.new 16, 3) := by decide +kernel
theorem dX5_init_19 : decode cX5_init 19 = .ok (.dup, 1) := by decide +kernel
theorem dX5_init_20 : decode cX5_init 20 = .ok (.invokespecial 18, 3) := by decide +kernel
theorem dX5_init_23 : decode cX5_init 23 = .ok (.putfield 19, 3) := by decide +kernel
theorem dX5_init_26 : decode cX5_init 26 = .ok (.aload_n 0, 1) := by decide +kernel
theorem dX5_init_27 : decode cX5_init 27 = .ok (.new 23, 3) := by decide +kernel
theorem dX5_init_30 : decode cX5_init 30 = .ok (.dup, 1) := by decide +kernel
theorem dX5_init_31 : decode cX5_init 31 = .ok (.invokespecial 25, 3) := by decide +kernel
theorem dX5_init_34 : decode cX5_init 34 = .ok (.putfield 26, 3) := by decide +kernel
theorem dX5_init_37 : decode cX5_init 37 = .ok (.aload_n 0, 1) := by decide +kernel
theorem dX5_init_38 : decode cX5_init 38 = .ok (.new 23, 3) := by decide +kernel
theorem dX5_init_41 : decode cX5_init 41 = .ok (.dup, 1) := by decide +kernel
theorem dX5_init_42 : decode cX5_init 42 = .ok (.invokespecial 25, 3) := by decide +kernel
theorem dX5_init_45 : decode cX5_init 45 = .ok (.putfield 30, 3) := by decide +kernel
theorem dX5_init_48 : decode cX5_init 48 = .ok (.aload_n 0, 1) := by decide +kernel
theorem dX5_init_49 : decode cX5_init 49 = .ok (.iconst 4, 1) := by decide +kernel
theorem dX5_init_50 : decode cX5_init 50 = .ok (.newarray .int, 2) := by decide +kernel
theorem dX5_init_52 : decode cX5_init 52 = .ok (.putfield 33, 3) := by decide +kernel
theorem dX5_init_55 : decode cX5_init 55 = .ok (.aload_n 0, 1) := by decide +kernel
theorem dX5_init_56 : decode cX5_init 56 = .ok (.iconst 3, 1) := by decide +kernel
theorem dX5_init_57 : decode cX5_init 57 = .ok (.anewarray 37, 3) := by decide +kernel
theorem dX5_init_60 : decode cX5_init 60 = .ok (.putfield 39, 3) := by decide +kernel
theorem dX5_init_63 : decode cX5_init 63 = .ok (.aload_n 0, 1) := by decide +kernel
theorem dX5_init_64 : decode cX5_init 64 = .ok (.getfield 26, 3) := by decide +kernel
theorem dX5_init_67 : decode cX5_init 67 = .ok (.iconst 4, 1) := by decide +kernel
theorem dX5_init_68 : decode cX5_init 68 = .ok (.bipush 8, 2) := by decide +kernel
theorem dX5_init_70 : decode cX5_init 70 = .ok (.iconst 1, 1) := by decide +kernel
theorem dX5_init_71 : decode cX5_init 71 = .ok (.iconst 0, 1) := by decide +kernel
theorem dX5_init_72 : decode cX5_init 72 = .ok (.invokevirtual 43, 3) := by decide +kernel
theorem dX5_init_75 : decode cX5_init 75 = .ok (.iconst 0, 1) := by decide +kernel
theorem dX5_init_76 : decode cX5_init 76 = .ok (.istore_n 1, 1) := by decide +kernel
theorem dX5_init_77 : decode cX5_init 77 = .ok (.iload_n 1, 1) := by decide +kernel
theorem dX5_init_78 : decode cX5_init 78 = .ok (.iconst 3, 1) := by decide +kernel
theorem dX5_init_79 : decode cX5_init 79 = .ok (.if_icmp .ge 22, 3) := by decide +kernel
theorem dX5_init_82 : decode cX5_init 82 = .ok (.aload_n 0, 1) := by decide +kernel
theorem dX5_init_83 : decode cX5_init 83 = .ok (.getfield 39, 3) := by decide +kernel
theorem dX5_init_86 : decode cX5_init 86 = .ok (.iload_n 1, 1) := by decide +kernel
theorem dX5_init_87 : decode cX5_init 87 = .ok (.new 37, 3) := by decide +kernel
theorem dX5_init_90 : decode cX5_init 90 = .ok (.dup, 1) := by decide +kernel
theorem dX5_init_91 : decode cX5_init 91 = .ok (.invokespecial 47, 3) := by decide +kernel
theorem dX5_init_94 : decode cX5_init 94 = .ok (.aastore, 1) := by decide +kernel
theorem dX5_init_95 : decode cX5_init 95 = .ok (.iinc 1 1, 3) := by decide +kernel
theorem dX5_init_98 : decode cX5_init 98 = .ok (.goto (-21), 3) := by decide +kernel
theorem dX5_init_101 : decode cX5_init 101 = .ok (.return_, 1) := by decide +kernel
set_option maxRecDepth 20000 in
theorem ggX5_put_X5_areTokens : GoodIn wsX5_put wsX5_areTokens := goodIn_r _ [6, 7] (by decide +kernel) (by decide +kernel)
set_option maxRecDepth 20000 in
theorem gX5_put_X5_areTokens : GoodIn wsX5_put (va_wsS RX5 52 yX5_areTokens wsX5_areTokens) := goodIn_app (goodIn_of _ (by decide +kernel)) ggX5_put_X5_areTokens
set_option maxRecDepth 20000 in
theorem ggX5_put_X5_rememberColumns : GoodIn wsX5_put wsX5_rememberColumns := goodIn_r _ [11, 1, 2, 12, 13, 14, 15, 129, 130, 131, 132, 133, 134, 135, 136, 137, 138, 139, 140, 141, 142, 143, 144, 145] (by decide +kernel) (by decide +kernel)
set_option maxRecDepth 20000 in
theorem gX5_put_X5_rememberColumns : GoodIn wsX5_put (wsV RX5 56 RX5 yX5_rememberColumns wsX5_rememberColumns) := goodIn_app (goodIn_of _ (by decide +kernel)) ggX5_put_X5_rememberColumns
set_option maxRecDepth 20000 in
theorem ggX5_put_X4_insert : GoodIn wsX5_put wsX4_insert := goodIn_r _ [20, 21, 22, 23, 24, 25, 26, 27, 28, 29, 30, 31, 32, 33, 34, 35, 136, 137, 140, 141, 142, 143, 144, 145] (by decide +kernel) (by decide +kernel)
set_option maxRecDepth 20000 in
theorem gX5_put_X4_insert : GoodIn wsX5_put (wsV RX5 59 RX4 yX4_insert wsX4_insert) := goodIn_app (goodIn_of _ (by decide +kernel)) ggX5_put_X4_insert
set_option maxRecDepth 20000 in
theorem ggX5_put_X5_readLines : GoodIn wsX5_put wsX5_readLines := goodIn_r _ [39, 40, 1, 13, 41, 42, 43, 44, 45, 46, 47, 48, 49, 50, 51, 52, 53, 54, 55, 56, 57, 58, 59, 60, 61, 62, 63, 64, 65, 66, 67, 68, 69, 70, 71, 72, 73, 74, 27, 75, 30, 31, 76, 77, 78, 79, 32, 80, 81, 82, 83, 84, 85, 86, 87, 88, 89, 90, 91, 92, 93, 94, 95, 96, 97, 98, 99, 100, 101, 102, 103, 104, 105, 106, 107, 108, 109, 110, 111, 112, 113, 114, 115, 116, 117, 118, 119, 120, 121, 122, 123, 124, 129, 130, 131, 132, 133, 134, 135, 146, 147, 148, 149, 150, 151, 152, 153, 154, 155, 156, 157, 158, 159, 136, 137, 140, 141, 142, 143, 144, 145, 138, 139] (by decide +kernel) (by decide +kernel)
set_option maxRecDepth 20000 in
theorem gX5_put_X5_readLines : GoodIn wsX5_put (wsV RX5 63 RX5 yX5_readLines wsX5_readLines) := goodIn_app (goodIn_of _ (by decide +kernel)) ggX5_put_X5_readLines
set_option maxRecDepth 20000 in
theorem ggX5_put_X5_movedBut : GoodIn wsX5_put wsX5_movedBut := goodIn_r _ [128, 1, 2, 12, 15, 13, 14, 129, 130, 131, 132, 133, 134, 135, 136, 137, 140, 141, 142, 143, 144, 145, 138, 139] (by decide +kernel) (by decide +kernel)
set_option maxRecDepth 20000 in
theorem gX5_put_X5_movedBut : GoodIn wsX5_put (wsV RX5 66 RX5 yX5_movedBut wsX5_movedBut) := goodIn_app (goodIn_of _ (by decide +kernel)) ggX5_put_X5_movedBut
theorem dX5_put_0 : decode cX5_put 0 = .ok (.iload_n 1, 1) := by decide +kernel
theorem dX5_put_1 : decode cX5_put 1 = .ok (.ifCond .lt 14, 3) := by decide +kernel
theorem dX5_put_4 : decode cX5_put 4 = .ok (.iload_n 1, 1) := by decide +kernel
theorem dX5_put_5 : decode cX5_put 5 = .ok (.aload_n 0, 1) := by decide +kernel
theorem dX5_put_6 : decode cX5_put 6 = .ok (.getfield 12, 3) := by decide +kernel
theorem dX5_put_9 : decode cX5_put 9 = .ok (.getfield 48, 3) := by decide +kernel
theorem dX5_put_12 : decode cX5_put 12 = .ok (.if_icmp .le 5, 3) := by decide +kernel
theorem dX5_put_15 : decode cX5_put 15 = .ok (.iconst (-1), 1) := by decide +kernel
theorem dX5_put_16 : decode cX5_put 16 = .ok (.ireturn, 1) := by decide +kernel
theorem dX5_put_17 : decode cX5_put 17 = .ok (.iload_n 2, 1) := by decide +kernel
theorem dX5_put_18 : decode cX5_put 18 = .ok (.invokestatic 52, 3) := by decide +kernel
theorem dX5_put_21 : decode cX5_put 21 = .ok (.ifCond .ne 6, 3) := by decide +kernel
theorem dX5_put_24 : decode cX5_put 24 = .ok (.bipush (-2), 2) := by decide +kernel
theorem dX5_put_26 : decode cX5_put 26 = .ok (.ireturn, 1) := by decide +kernel
theorem dX5_put_27 : decode cX5_put 27 = .ok (.aload_n 0, 1) := by decide +kernel
theorem dX5_put_28 : decode cX5_put 28 = .ok (.getfield 12, 3) := by decide +kernel
theorem dX5_put_31 : decode cX5_put 31 = .ok (.getfield 48, 3) := by decide +kernel
theorem dX5_put_34 : decode cX5_put 34 = .ok (.bipush 20, 2) := by decide +kernel
theorem dX5_put_36 : decode cX5_put 36 = .ok (.if_icmp .lt 6, 3) := by decide +kernel
theorem dX5_put_39 : decode cX5_put 39 = .ok (.bipush (-4), 2) := by decide +kernel
theorem dX5_put_41 : decode cX5_put 41 = .ok (.ireturn, 1) := by decide +kernel
theorem dX5_put_42 : decode cX5_put 42 = .ok (.aload_n 0, 1) := by decide +kernel
theorem dX5_put_43 : decode cX5_put 43 = .ok (.invokevirtual 56, 3) := by decide +kernel
theorem dX5_put_46 : decode cX5_put 46 = .ok (.aload_n 0, 1) := by decide +kernel
theorem dX5_put_47 : decode cX5_put 47 = .ok (.getfield 12, 3) := by decide +kernel
theorem dX5_put_50 : decode cX5_put 50 = .ok (.iload_n 1, 1) := by decide +kernel
theorem dX5_put_51 : decode cX5_put 51 = .ok (.iload_n 2, 1) := by decide +kernel
theorem dX5_put_52 : decode cX5_put 52 = .ok (.invokevirtual 59, 3) := by decide +kernel
theorem dX5_put_55 : decode cX5_put 55 = .ok (.aload_n 0, 1) := by decide +kernel
theorem dX5_put_56 : decode cX5_put 56 = .ok (.invokevirtual 63, 3) := by decide +kernel
theorem dX5_put_59 : decode cX5_put 59 = .ok (.aload_n 0, 1) := by decide +kernel
theorem dX5_put_60 : decode cX5_put 60 = .ok (.iload_n 1, 1) := by decide +kernel
theorem dX5_put_61 : decode cX5_put 61 = .ok (.invokevirtual 66, 3) := by decide +kernel
theorem dX5_put_64 : decode cX5_put 64 = .ok (.ireturn, 1) := by decide +kernel
set_option maxRecDepth 20000 in
theorem ggX5_change_X5_isLine : GoodIn wsX5_change wsX5_isLine := goodIn_r _ [7, 1, 8, 125, 126, 127, 128, 129, 130, 131, 132, 133] (by decide +kernel) (by decide +kernel)
set_option maxRecDepth 20000 in
theorem gX5_change_X5_isLine : GoodIn wsX5_change (wsV RX5 70 RX5 yX5_isLine wsX5_isLine) := goodIn_app (goodIn_of _ (by decide +kernel)) ggX5_change_X5_isLine
set_option maxRecDepth 20000 in
theorem ggX5_change_X5_areTokens : GoodIn wsX5_change wsX5_areTokens := goodIn_r _ [11, 12] (by decide +kernel) (by decide +kernel)
set_option maxRecDepth 20000 in
theorem gX5_change_X5_areTokens : GoodIn wsX5_change (va_wsS RX5 52 yX5_areTokens wsX5_areTokens) := goodIn_app (goodIn_of _ (by decide +kernel)) ggX5_change_X5_areTokens
set_option maxRecDepth 20000 in
theorem ggX5_change_X5_rememberColumns : GoodIn wsX5_change wsX5_rememberColumns := goodIn_r _ [16, 1, 8, 2, 17, 18, 19, 125, 126, 127, 128, 129, 130, 131, 132, 133, 134, 135, 136, 137, 138, 139, 140, 141] (by decide +kernel) (by decide +kernel)
set_option maxRecDepth 20000 in
theorem gX5_change_X5_rememberColumns : GoodIn wsX5_change (wsV RX5 56 RX5 yX5_rememberColumns wsX5_rememberColumns) := goodIn_app (goodIn_of _ (by decide +kernel)) ggX5_change_X5_rememberColumns
set_option maxRecDepth 20000 in
theorem ggX5_change_X1_read : GoodIn wsX5_change wsX1_read := goodIn_r _ [24, 25, 26, 27, 28, 29, 30, 23, 31, 136, 137, 138, 139, 140, 141] (by decide +kernel) (by decide +kernel)
set_option maxRecDepth 20000 in
theorem gX5_change_X1_read : GoodIn wsX5_change (wsV RX5 77 RX1 yX1_read wsX1_read) := goodIn_app (goodIn_of _ (by decide +kernel)) ggX5_change_X1_read
set_option maxRecDepth 20000 in
theorem ggX5_change_X5_readLines : GoodIn wsX5_change wsX5_readLines := goodIn_r _ [35, 36, 1, 17, 37, 38, 39, 40, 41, 42, 43, 44, 45, 46, 47, 48, 49, 50, 51, 52, 53, 54, 55, 56, 57, 58, 59, 60, 61, 62, 63, 64, 65, 66, 67, 68, 69, 70, 23, 71, 26, 27, 72, 73, 74, 75, 28, 76, 77, 78, 79, 80, 81, 82, 83, 84, 85, 86, 87, 88, 89, 90, 91, 92, 93, 94, 95, 96, 97, 98, 99, 100, 101, 102, 103, 104, 105, 106, 107, 108, 109, 110, 111, 112, 113, 114, 115, 116, 117, 118, 119, 120, 125, 126, 127, 128, 129, 130, 131, 142, 143, 144, 145, 146, 147, 148, 149, 150, 151, 152, 153, 154, 155, 132, 133, 136, 137, 138, 139, 140, 141, 134, 135] (by decide +kernel) (by decide +kernel)
set_option maxRecDepth 20000 in
theorem gX5_change_X5_readLines : GoodIn wsX5_change (wsV RX5 63 RX5 yX5_readLines wsX5_readLines) := goodIn_app (goodIn_of _ (by decide +kernel)) ggX5_change_X5_readLines
set_option maxRecDepth 20000 in
theorem ggX5_change_X5_movedBut : GoodIn wsX5_change wsX5_movedBut := goodIn_r _ [124, 1, 8, 2, 19, 17, 18, 125, 126, 127, 128, 129, 130, 131, 132, 133, 136, 137, 138, 139, 140, 141, 134, 135] (by decide +kernel) (by decide +kernel)
set_option maxRecDepth 20000 in
theorem gX5_change_X5_movedBut : GoodIn wsX5_change (wsV RX5 66 RX5 yX5_movedBut wsX5_movedBut) := goodIn_app (goodIn_of _ (by decide +kernel)) ggX5_change_X5_movedBut
theorem dX5_change_0 : decode cX5_change 0 = .ok (.aload_n 0, 1) := by decide +kernel
theorem dX5_change_1 : decode cX5_change 1 = .ok (.iload_n 1, 1) := by decide +kernel
theorem dX5_change_2 : decode cX5_change 2 = .ok (.invokevirtual 70, 3) := by decide +kernel
theorem dX5_change_5 : decode cX5_change 5 = .ok (.ifCond .ne 5, 3) := by decide +kernel
theorem dX5_change_8 : decode cX5_change 8 = .ok (.iconst (-1), 1) := by decide +kernel
theorem dX5_change_9 : decode cX5_change 9 = .ok (.ireturn, 1) := by decide +kernel
theorem dX5_change_10 : decode cX5_change 10 = .ok (.iload_n 2, 1) := by decide +kernel
theorem dX5_change_11 : decode cX5_change 11 = .ok (.invokestatic 52, 3) := by decide +kernel
theorem dX5_change_14 : decode cX5_change 14 = .ok (.ifCond .ne 6, 3) := by decide +kernel
theorem dX5_change_17 : decode cX5_change 17 = .ok (.bipush (-2), 2) := by decide +kernel
theorem dX5_change_19 : decode cX5_change 19 = .ok (.ireturn, 1) := by decide +kernel
theorem dX5_change_20 : decode cX5_change 20 = .ok (.aload_n 0, 1) := by decide +kernel
theorem dX5_change_21 : decode cX5_change 21 = .ok (.invokevirtual 56, 3) := by decide +kernel
theorem dX5_change_24 : decode cX5_change 24 = .ok (.aload_n 0, 1) := by decide +kernel
theorem dX5_change_25 : decode cX5_change 25 = .ok (.getfield 12, 3) := by decide +kernel
theorem dX5_change_28 : decode cX5_change 28 = .ok (.getfield 73, 3) := by decide +kernel
theorem dX5_change_31 : decode cX5_change 31 = .ok (.iload_n 1, 1) := by decide +kernel
theorem dX5_change_32 : decode cX5_change 32 = .ok (.aaload, 1) := by decide +kernel
theorem dX5_change_33 : decode cX5_change 33 = .ok (.iload_n 2, 1) := by decide +kernel
theorem dX5_change_34 : decode cX5_change 34 = .ok (.invokevirtual 77, 3) := by decide +kernel
theorem dX5_change_37 : decode cX5_change 37 = .ok (.aload_n 0, 1) := by decide +kernel
theorem dX5_change_38 : decode cX5_change 38 = .ok (.invokevirtual 63, 3) := by decide +kernel
theorem dX5_change_41 : decode cX5_change 41 = .ok (.aload_n 0, 1) := by decide +kernel
theorem dX5_change_42 : decode cX5_change 42 = .ok (.iload_n 1, 1) := by decide +kernel
theorem dX5_change_43 : decode cX5_change 43 = .ok (.invokevirtual 66, 3) := by decide +kernel
theorem dX5_change_46 : decode cX5_change 46 = .ok (.ireturn, 1) := by decide +kernel
set_option maxRecDepth 20000 in
theorem ggX5_take_X5_isLine : GoodIn wsX5_take wsX5_isLine := goodIn_r _ [6, 1, 7, 120, 121, 122, 123, 124, 125, 126, 127, 128] (by decide +kernel) (by decide +kernel)
set_option maxRecDepth 20000 in
theorem gX5_take_X5_isLine : GoodIn wsX5_take (wsV RX5 70 RX5 yX5_isLine wsX5_isLine) := goodIn_app (goodIn_of _ (by decide +kernel)) ggX5_take_X5_isLine
set_option maxRecDepth 20000 in
theorem ggX5_take_X5_rememberColumns : GoodIn wsX5_take wsX5_rememberColumns := goodIn_r _ [11, 1, 7, 12, 13, 14, 15, 120, 121, 122, 123, 124, 125, 126, 127, 128, 129, 130, 131, 132, 133, 134, 135, 136] (by decide +kernel) (by decide +kernel)
set_option maxRecDepth 20000 in
theorem gX5_take_X5_rememberColumns : GoodIn wsX5_take (wsV RX5 56 RX5 yX5_rememberColumns wsX5_rememberColumns) := goodIn_app (goodIn_of _ (by decide +kernel)) ggX5_take_X5_rememberColumns
set_option maxRecDepth 20000 in
theorem ggX5_take_X4_remove : GoodIn wsX5_take wsX4_remove := goodIn_r _ [20, 21, 22, 127, 128] (by decide +kernel) (by decide +kernel)
set_option maxRecDepth 20000 in
theorem gX5_take_X4_remove : GoodIn wsX5_take (wsV RX5 83 RX4 yX4_remove wsX4_remove) := goodIn_app (goodIn_of _ (by decide +kernel)) ggX5_take_X4_remove
set_option maxRecDepth 20000 in
theorem ggX5_take_X5_readLines : GoodIn wsX5_take wsX5_readLines := goodIn_r _ [26, 27, 1, 13, 28, 29, 30, 31, 32, 33, 34, 35, 36, 37, 38, 39, 40, 41, 42, 43, 44, 45, 46, 47, 48, 49, 50, 51, 52, 53, 54, 55, 56, 57, 58, 59, 60, 61, 62, 63, 64, 65, 66, 67, 68, 69, 70, 71, 72, 73, 74, 75, 76, 77, 78, 79, 80, 81, 82, 83, 84, 85, 86, 87, 88, 89, 90, 91, 92, 93, 94, 95, 96, 97, 98, 99, 100, 101, 102, 103, 104, 105, 106, 107, 108, 109, 110, 111, 112, 113, 114, 115, 120, 121, 122, 123, 124, 125, 126, 137, 138, 139, 140, 141, 142, 143, 144, 145, 146, 147, 148, 149, 150, 127, 128, 131, 132, 133, 134, 135, 136, 129, 130] (by decide +kernel) (by decide +kernel)
set_option maxRecDepth 20000 in
theorem gX5_take_X5_readLines : GoodIn wsX5_take (wsV RX5 63 RX5 yX5_readLines wsX5_readLines) := goodIn_app (goodIn_of _ (by decide +kernel)) ggX5_take_X5_readLines
set_option maxRecDepth 20000 in
theorem ggX5_take_X5_movedBut : GoodIn wsX5_take wsX5_movedBut := goodIn_r _ [119, 1, 7, 12, 15, 13, 14, 120, 121, 122, 123, 124, 125, 126, 127, 128, 131, 132, 133, 134, 135, 136, 129, 130] (by decide +kernel) (by decide +kernel)
set_option maxRecDepth 20000 in
theorem gX5_take_X5_movedBut : GoodIn wsX5_take (wsV RX5 66 RX5 yX5_movedBut wsX5_movedBut) := goodIn_app (goodIn_of _ (by decide +kernel)) ggX5_take_X5_movedBut
theorem dX5_take_0 : decode cX5_take 0 = .ok (.aload_n 0, 1) := by decide +kernel
theorem dX5_take_1 : decode cX5_take 1 = .ok (.iload_n 1, 1) := by decide +kernel
theorem dX5_take_2 : decode cX5_take 2 = .ok (.invokevirtual 70, 3) := by decide +kernel
theorem dX5_take_5 : decode cX5_take 5 = .ok (.ifCond .ne 5, 3) := by decide +kernel
theorem dX5_take_8 : decode cX5_take 8 = .ok (.iconst (-1), 1) := by decide +kernel
theorem dX5_take_9 : decode cX5_take 9 = .ok (.ireturn, 1) := by decide +kernel
theorem dX5_take_10 : decode cX5_take 10 = .ok (.aload_n 0, 1) := by decide +kernel
theorem dX5_take_11 : decode cX5_take 11 = .ok (.invokevirtual 56, 3) := by decide +kernel
theorem dX5_take_14 : decode cX5_take 14 = .ok (.aload_n 0, 1) := by decide +kernel
theorem dX5_take_15 : decode cX5_take 15 = .ok (.getfield 12, 3) := by decide +kernel
theorem dX5_take_18 : decode cX5_take 18 = .ok (.iload_n 1, 1) := by decide +kernel
theorem dX5_take_19 : decode cX5_take 19 = .ok (.invokevirtual 83, 3) := by decide +kernel
theorem dX5_take_22 : decode cX5_take 22 = .ok (.aload_n 0, 1) := by decide +kernel
theorem dX5_take_23 : decode cX5_take 23 = .ok (.invokevirtual 63, 3) := by decide +kernel
theorem dX5_take_26 : decode cX5_take 26 = .ok (.aload_n 0, 1) := by decide +kernel
theorem dX5_take_27 : decode cX5_take 27 = .ok (.bipush (-9), 2) := by decide +kernel
theorem dX5_take_29 : decode cX5_take 29 = .ok (.invokevirtual 66, 3) := by decide +kernel
theorem dX5_take_32 : decode cX5_take 32 = .ok (.ireturn, 1) := by decide +kernel
set_option maxRecDepth 20000 in
theorem ggX5_style_X5_isSetting : GoodIn wsX5_style wsX5_isSetting := goodIn_r _ [8, 9, 10] (by decide +kernel) (by decide +kernel)
set_option maxRecDepth 20000 in
theorem gX5_style_X5_isSetting : GoodIn wsX5_style (va_wsS RX5 86 yX5_isSetting wsX5_isSetting) := goodIn_app (goodIn_of _ (by decide +kernel)) ggX5_style_X5_isSetting
set_option maxRecDepth 20000 in
theorem ggX5_style_X0_lay : GoodIn wsX5_style wsX0_lay := goodIn_r _ [15, 16, 17, 18, 19, 20, 21, 22, 23, 14, 24, 25, 26, 27, 28, 29, 30, 31, 32, 33, 34, 35, 36, 37, 38, 39, 40, 41, 42, 43, 44, 45, 46, 47, 48, 49, 50, 51, 61, 62, 59, 60, 63, 64, 65, 66, 67, 68, 69, 70, 71, 72, 73, 74, 75, 76, 77, 78, 79, 80, 81, 82] (by decide +kernel) (by decide +kernel)
set_option maxRecDepth 20000 in
theorem gX5_style_X0_lay : GoodIn wsX5_style (wsV RX5 93 RX0 yX0_lay wsX0_lay) := goodIn_app (goodIn_of _ (by decide +kernel)) ggX5_style_X0_lay
theorem dX5_style_0 : decode cX5_style 0 = .ok (.iload_n 1, 1) := by decide +kernel
theorem dX5_style_1 : decode cX5_style 1 = .ok (.ifCond .lt 8, 3) := by decide +kernel
theorem dX5_style_4 : decode cX5_style 4 = .ok (.iload_n 1, 1) := by decide +kernel
theorem dX5_style_5 : decode cX5_style 5 = .ok (.iconst 4, 1) := by decide +kernel
theorem dX5_style_6 : decode cX5_style 6 = .ok (.if_icmp .lt 5, 3) := by decide +kernel
theorem dX5_style_9 : decode cX5_style 9 = .ok (.iconst (-1), 1) := by decide +kernel
theorem dX5_style_10 : decode cX5_style 10 = .ok (.ireturn, 1) := by decide +kernel
theorem dX5_style_11 : decode cX5_style 11 = .ok (.iload_n 1, 1) := by decide +kernel
theorem dX5_style_12 : decode cX5_style 12 = .ok (.iload_n 2, 1) := by decide +kernel
theorem dX5_style_13 : decode cX5_style 13 = .ok (.invokestatic 86, 3) := by decide +kernel
theorem dX5_style_16 : decode cX5_style 16 = .ok (.ifCond .ne 6, 3) := by decide +kernel
theorem dX5_style_19 : decode cX5_style 19 = .ok (.bipush (-2), 2) := by decide +kernel
theorem dX5_style_21 : decode cX5_style 21 = .ok (.ireturn, 1) := by decide +kernel
theorem dX5_style_22 : decode cX5_style 22 = .ok (.aload_n 0, 1) := by decide +kernel
theorem dX5_style_23 : decode cX5_style 23 = .ok (.getfield 26, 3) := by decide +kernel
theorem dX5_style_26 : decode cX5_style 26 = .ok (.getfield 90, 3) := by decide +kernel
theorem dX5_style_29 : decode cX5_style 29 = .ok (.iload_n 1, 1) := by decide +kernel
theorem dX5_style_30 : decode cX5_style 30 = .ok (.iaload, 1) := by decide +kernel
theorem dX5_style_31 : decode cX5_style 31 = .ok (.istore_n 3, 1) := by decide +kernel
theorem dX5_style_32 : decode cX5_style 32 = .ok (.aload_n 0, 1) := by decide +kernel
theorem dX5_style_33 : decode cX5_style 33 = .ok (.getfield 26, 3) := by decide +kernel
theorem dX5_style_36 : decode cX5_style 36 = .ok (.getfield 90, 3) := by decide +kernel
theorem dX5_style_39 : decode cX5_style 39 = .ok (.iload_n 1, 1) := by decide +kernel
theorem dX5_style_40 : decode cX5_style 40 = .ok (.iload_n 2, 1) := by decide +kernel
theorem dX5_style_41 : decode cX5_style 41 = .ok (.iastore, 1) := by decide +kernel
theorem dX5_style_42 : decode cX5_style 42 = .ok (.aload_n 0, 1) := by decide +kernel
theorem dX5_style_43 : decode cX5_style 43 = .ok (.getfield 26, 3) := by decide +kernel
theorem dX5_style_46 : decode cX5_style 46 = .ok (.aload_n 0, 1) := by decide +kernel
theorem dX5_style_47 : decode cX5_style 47 = .ok (.getfield 12, 3) := by decide +kernel
theorem dX5_style_50 : decode cX5_style 50 = .ok (.aload_n 0, 1) := by decide +kernel
theorem dX5_style_51 : decode cX5_style 51 = .ok (.getfield 19, 3) := by decide +kernel
theorem dX5_style_54 : decode cX5_style 54 = .ok (.invokevirtual 93, 3) := by decide +kernel
theorem dX5_style_57 : decode cX5_style 57 = .ok (.iload_n 3, 1) := by decide +kernel
theorem dX5_style_58 : decode cX5_style 58 = .ok (.ireturn, 1) := by decide +kernel
set_option maxRecDepth 20000 in
theorem ggX5_ofLine_X5_isLine : GoodIn wsX5_ofLine wsX5_isLine := goodIn_r _ [15, 1, 16, 24, 25, 26, 27, 28, 29, 30, 31, 32] (by decide +kernel) (by decide +kernel)
set_option maxRecDepth 20000 in
theorem gX5_ofLine_X5_isLine : GoodIn wsX5_ofLine (wsV RX5 70 RX5 yX5_isLine wsX5_isLine) := goodIn_app (goodIn_of _ (by decide +kernel)) ggX5_ofLine_X5_isLine
set_option maxRecDepth 20000 in
theorem ggX5_ofLine_X1_widthAhead : GoodIn wsX5_ofLine wsX1_widthAhead := goodIn_r _ [21, 22, 23, 33, 34, 35, 36, 37, 38] (by decide +kernel) (by decide +kernel)
set_option maxRecDepth 20000 in
theorem gX5_ofLine_X1_widthAhead : GoodIn wsX5_ofLine (wsV RX5 106 RX1 yX1_widthAhead wsX1_widthAhead) := goodIn_app (goodIn_of _ (by decide +kernel)) ggX5_ofLine_X1_widthAhead
theorem dX5_ofLine_0 : decode cX5_ofLine 0 = .ok (.aload_n 0, 1) := by decide +kernel
theorem dX5_ofLine_1 : decode cX5_ofLine 1 = .ok (.iload_n 1, 1) := by decide +kernel
theorem dX5_ofLine_2 : decode cX5_ofLine 2 = .ok (.invokevirtual 70, 3) := by decide +kernel
theorem dX5_ofLine_5 : decode cX5_ofLine 5 = .ok (.ifCond .ne 5, 3) := by decide +kernel
theorem dX5_ofLine_8 : decode cX5_ofLine 8 = .ok (.iconst (-1), 1) := by decide +kernel
theorem dX5_ofLine_9 : decode cX5_ofLine 9 = .ok (.ireturn, 1) := by decide +kernel
theorem dX5_ofLine_10 : decode cX5_ofLine 10 = .ok (.aload_n 0, 1) := by decide +kernel
theorem dX5_ofLine_11 : decode cX5_ofLine 11 = .ok (.getfield 12, 3) := by decide +kernel
theorem dX5_ofLine_14 : decode cX5_ofLine 14 = .ok (.getfield 73, 3) := by decide +kernel
theorem dX5_ofLine_17 : decode cX5_ofLine 17 = .ok (.iload_n 1, 1) := by decide +kernel
theorem dX5_ofLine_18 : decode cX5_ofLine 18 = .ok (.aaload, 1) := by decide +kernel
theorem dX5_ofLine_19 : decode cX5_ofLine 19 = .ok (.astore_n 3, 1) := by decide +kernel
theorem dX5_ofLine_20 : decode cX5_ofLine 20 = .ok (.iload_n 2, 1) := by decide +kernel
theorem dX5_ofLine_21 : decode cX5_ofLine 21 = .ok (.tableswitch 109 0 5 #[39, 44, 54, 84, 94, 104], 39) := by decide +kernel
theorem dX5_ofLine_60 : decode cX5_ofLine 60 = .ok (.aload_n 3, 1) := by decide +kernel
theorem dX5_ofLine_61 : decode cX5_ofLine 61 = .ok (.getfield 97, 3) := by decide +kernel
theorem dX5_ofLine_64 : decode cX5_ofLine 64 = .ok (.ireturn, 1) := by decide +kernel
theorem dX5_ofLine_65 : decode cX5_ofLine 65 = .ok (.aload_n 0, 1) := by decide +kernel
theorem dX5_ofLine_66 : decode cX5_ofLine 66 = .ok (.getfield 26, 3) := by decide +kernel
theorem dX5_ofLine_69 : decode cX5_ofLine 69 = .ok (.getfield 100, 3) := by decide +kernel
theorem dX5_ofLine_72 : decode cX5_ofLine 72 = .ok (.iload_n 1, 1) := by decide +kernel
theorem dX5_ofLine_73 : decode cX5_ofLine 73 = .ok (.iaload, 1) := by decide +kernel
theorem dX5_ofLine_74 : decode cX5_ofLine 74 = .ok (.ireturn, 1) := by decide +kernel
theorem dX5_ofLine_75 : decode cX5_ofLine 75 = .ok (.aload_n 3, 1) := by decide +kernel
theorem dX5_ofLine_76 : decode cX5_ofLine 76 = .ok (.getfield 103, 3) := by decide +kernel
theorem dX5_ofLine_79 : decode cX5_ofLine 79 = .ok (.ifCond .ne 7, 3) := by decide +kernel
theorem dX5_ofLine_82 : decode cX5_ofLine 82 = .ok (.iconst 0, 1) := by decide +kernel
theorem dX5_ofLine_83 : decode cX5_ofLine 83 = .ok (.goto 21, 3) := by decide +kernel
theorem dX5_ofLine_86 : decode cX5_ofLine 86 = .ok (.aload_n 0, 1) := by decide +kernel
theorem dX5_ofLine_87 : decode cX5_ofLine 87 = .ok (.getfield 26, 3) := by decide +kernel
theorem dX5_ofLine_90 : decode cX5_ofLine 90 = .ok (.getfield 100, 3) := by decide +kernel
theorem dX5_ofLine_93 : decode cX5_ofLine 93 = .ok (.iload_n 1, 1) := by decide +kernel
theorem dX5_ofLine_94 : decode cX5_ofLine 94 = .ok (.iaload, 1) := by decide +kernel
theorem dX5_ofLine_95 : decode cX5_ofLine 95 = .ok (.aload_n 3, 1) := by decide +kernel
theorem dX5_ofLine_96 : decode cX5_ofLine 96 = .ok (.aload_n 3, 1) := by decide +kernel
theorem dX5_ofLine_97 : decode cX5_ofLine 97 = .ok (.getfield 103, 3) := by decide +kernel
theorem dX5_ofLine_100 : decode cX5_ofLine 100 = .ok (.invokevirtual 106, 3) := by decide +kernel
theorem dX5_ofLine_103 : decode cX5_ofLine 103 = .ok (.iadd, 1) := by decide +kernel
theorem dX5_ofLine_104 : decode cX5_ofLine 104 = .ok (.ireturn, 1) := by decide +kernel
theorem dX5_ofLine_105 : decode cX5_ofLine 105 = .ok (.aload_n 0, 1) := by decide +kernel
theorem dX5_ofLine_106 : decode cX5_ofLine 106 = .ok (.getfield 19, 3) := by decide +kernel
theorem dX5_ofLine_109 : decode cX5_ofLine 109 = .ok (.getfield 109, 3) := by decide +kernel
theorem dX5_ofLine_112 : decode cX5_ofLine 112 = .ok (.iload_n 1, 1) := by decide +kernel
theorem dX5_ofLine_113 : decode cX5_ofLine 113 = .ok (.iaload, 1) := by decide +kernel
theorem dX5_ofLine_114 : decode cX5_ofLine 114 = .ok (.ireturn, 1) := by decide +kernel
theorem dX5_ofLine_115 : decode cX5_ofLine 115 = .ok (.aload_n 0, 1) := by decide +kernel
theorem dX5_ofLine_116 : decode cX5_ofLine 116 = .ok (.getfield 19, 3) := by decide +kernel
theorem dX5_ofLine_119 : decode cX5_ofLine 119 = .ok (.getfield 112, 3) := by decide +kernel
theorem dX5_ofLine_122 : decode cX5_ofLine 122 = .ok (.iload_n 1, 1) := by decide +kernel
theorem dX5_ofLine_123 : decode cX5_ofLine 123 = .ok (.iaload, 1) := by decide +kernel
theorem dX5_ofLine_124 : decode cX5_ofLine 124 = .ok (.ireturn, 1) := by decide +kernel
theorem dX5_ofLine_125 : decode cX5_ofLine 125 = .ok (.aload_n 3, 1) := by decide +kernel
theorem dX5_ofLine_126 : decode cX5_ofLine 126 = .ok (.getfield 115, 3) := by decide +kernel
theorem dX5_ofLine_129 : decode cX5_ofLine 129 = .ok (.ireturn, 1) := by decide +kernel
theorem dX5_ofLine_130 : decode cX5_ofLine 130 = .ok (.bipush (-2), 2) := by decide +kernel
theorem dX5_ofLine_132 : decode cX5_ofLine 132 = .ok (.ireturn, 1) := by decide +kernel
set_option maxRecDepth 20000 in
theorem ggX5_opener_X5_isOpener : GoodIn wsX5_opener wsX5_isOpener := goodIn_r _ [10, 1, 11, 35, 36, 37, 38, 39, 40, 41, 42, 43, 44, 45, 46, 47, 48, 49, 50, 51, 52, 53, 54, 55] (by decide +kernel) (by decide +kernel)
set_option maxRecDepth 20000 in
theorem gX5_opener_X5_isOpener : GoodIn wsX5_opener (wsV RX5 118 RX5 yX5_isOpener wsX5_isOpener) := goodIn_app (goodIn_of _ (by decide +kernel)) ggX5_opener_X5_isOpener
set_option maxRecDepth 20000 in
theorem ggX5_opener_X0_placeOf : GoodIn wsX5_opener wsX0_placeOf := goodIn_r _ [16, 17, 18, 19, 56, 57, 42, 43, 44, 45, 46, 47, 48, 49, 50, 51, 52, 53, 54, 55] (by decide +kernel) (by decide +kernel)
set_option maxRecDepth 20000 in
theorem gX5_opener_X0_placeOf : GoodIn wsX5_opener (wsV RX5 127 RX0 yX0_placeOf wsX0_placeOf) := goodIn_app (goodIn_of _ (by decide +kernel)) ggX5_opener_X0_placeOf
set_option maxRecDepth 20000 in
theorem ggX5_opener_X0_baseOf : GoodIn wsX5_opener wsX0_baseOf := goodIn_r _ [23, 17, 18, 56, 57, 42, 43, 44, 45, 46, 47, 48, 49, 50, 51, 52, 53, 54, 55] (by decide +kernel) (by decide +kernel)
set_option maxRecDepth 20000 in
theorem gX5_opener_X0_baseOf : GoodIn wsX5_opener (wsV RX5 131 RX0 yX0_baseOf wsX0_baseOf) := goodIn_app (goodIn_of _ (by decide +kernel)) ggX5_opener_X0_baseOf
set_option maxRecDepth 20000 in
theorem ggX5_opener_X0_kindOf : GoodIn wsX5_opener wsX0_kindOf := goodIn_r _ [27, 28, 29, 30, 31, 15, 32, 33, 34, 42, 43, 44, 45, 46, 47, 48, 49, 50, 51, 52, 53, 54, 55, 56, 57] (by decide +kernel) (by decide +kernel)
set_option maxRecDepth 20000 in
theorem gX5_opener_X0_kindOf : GoodIn wsX5_opener (wsV RX5 134 RX0 yX0_kindOf wsX0_kindOf) := goodIn_app (goodIn_of _ (by decide +kernel)) ggX5_opener_X0_kindOf
theorem dX5_opener_0 : decode cX5_opener 0 = .ok (.aload_n 0, 1) := by decide +kernel
theorem dX5_opener_1 : decode cX5_opener 1 = .ok (.iload_n 1, 1) := by decide +kernel
theorem dX5_opener_2 : decode cX5_opener 2 = .ok (.invokevirtual 118, 3) := by decide +kernel
theorem dX5_opener_5 : decode cX5_opener 5 = .ok (.ifCond .ne 5, 3) := by decide +kernel
theorem dX5_opener_8 : decode cX5_opener 8 = .ok (.iconst (-1), 1) := by decide +kernel
theorem dX5_opener_9 : decode cX5_opener 9 = .ok (.ireturn, 1) := by decide +kernel
theorem dX5_opener_10 : decode cX5_opener 10 = .ok (.iload_n 2, 1) := by decide +kernel
theorem dX5_opener_11 : decode cX5_opener 11 = .ok (.tableswitch 106 0 5 #[37, 47, 57, 70, 83, 96], 37) := by decide +kernel
theorem dX5_opener_48 : decode cX5_opener 48 = .ok (.aload_n 0, 1) := by decide +kernel
theorem dX5_opener_49 : decode cX5_opener 49 = .ok (.getfield 19, 3) := by decide +kernel
theorem dX5_opener_52 : decode cX5_opener 52 = .ok (.getfield 121, 3) := by decide +kernel
theorem dX5_opener_55 : decode cX5_opener 55 = .ok (.iload_n 1, 1) := by decide +kernel
theorem dX5_opener_56 : decode cX5_opener 56 = .ok (.iaload, 1) := by decide +kernel
theorem dX5_opener_57 : decode cX5_opener 57 = .ok (.ireturn, 1) := by decide +kernel
theorem dX5_opener_58 : decode cX5_opener 58 = .ok (.aload_n 0, 1) := by decide +kernel
theorem dX5_opener_59 : decode cX5_opener 59 = .ok (.getfield 19, 3) := by decide +kernel
theorem dX5_opener_62 : decode cX5_opener 62 = .ok (.getfield 124, 3) := by decide +kernel
theorem dX5_opener_65 : decode cX5_opener 65 = .ok (.iload_n 1, 1) := by decide +kernel
theorem dX5_opener_66 : decode cX5_opener 66 = .ok (.iaload, 1) := by decide +kernel
theorem dX5_opener_67 : decode cX5_opener 67 = .ok (.ireturn, 1) := by decide +kernel
theorem dX5_opener_68 : decode cX5_opener 68 = .ok (.aload_n 0, 1) := by decide +kernel
theorem dX5_opener_69 : decode cX5_opener 69 = .ok (.getfield 26, 3) := by decide +kernel
theorem dX5_opener_72 : decode cX5_opener 72 = .ok (.aload_n 0, 1) := by decide +kernel
theorem dX5_opener_73 : decode cX5_opener 73 = .ok (.getfield 19, 3) := by decide +kernel
theorem dX5_opener_76 : decode cX5_opener 76 = .ok (.iload_n 1, 1) := by decide +kernel
theorem dX5_opener_77 : decode cX5_opener 77 = .ok (.invokevirtual 127, 3) := by decide +kernel
theorem dX5_opener_80 : decode cX5_opener 80 = .ok (.ireturn, 1) := by decide +kernel
theorem dX5_opener_81 : decode cX5_opener 81 = .ok (.aload_n 0, 1) := by decide +kernel
theorem dX5_opener_82 : decode cX5_opener 82 = .ok (.getfield 26, 3) := by decide +kernel
theorem dX5_opener_85 : decode cX5_opener 85 = .ok (.aload_n 0, 1) := by decide +kernel
theorem dX5_opener_86 : decode cX5_opener 86 = .ok (.getfield 19, 3) := by decide +kernel
theorem dX5_opener_89 : decode cX5_opener 89 = .ok (.iload_n 1, 1) := by decide +kernel
theorem dX5_opener_90 : decode cX5_opener 90 = .ok (.invokevirtual 131, 3) := by decide +kernel
theorem dX5_opener_93 : decode cX5_opener 93 = .ok (.ireturn, 1) := by decide +kernel
theorem dX5_opener_94 : decode cX5_opener 94 = .ok (.aload_n 0, 1) := by decide +kernel
theorem dX5_opener_95 : decode cX5_opener 95 = .ok (.getfield 26, 3) := by decide +kernel
theorem dX5_opener_98 : decode cX5_opener 98 = .ok (.aload_n 0, 1) := by decide +kernel
theorem dX5_opener_99 : decode cX5_opener 99 = .ok (.getfield 19, 3) := by decide +kernel
theorem dX5_opener_102 : decode cX5_opener 102 = .ok (.iload_n 1, 1) := by decide +kernel
theorem dX5_opener_103 : decode cX5_opener 103 = .ok (.invokevirtual 134, 3) := by decide +kernel
theorem dX5_opener_106 : decode cX5_opener 106 = .ok (.ireturn, 1) := by decide +kernel
theorem dX5_opener_107 : decode cX5_opener 107 = .ok (.aload_n 0, 1) := by decide +kernel
theorem dX5_opener_108 : decode cX5_opener 108 = .ok (.getfield 19, 3) := by decide +kernel
theorem dX5_opener_111 : decode cX5_opener 111 = .ok (.getfield 137, 3) := by decide +kernel
theorem dX5_opener_114 : decode cX5_opener 114 = .ok (.iload_n 1, 1) := by decide +kernel
theorem dX5_opener_115 : decode cX5_opener 115 = .ok (.iaload, 1) := by decide +kernel
theorem dX5_opener_116 : decode cX5_opener 116 = .ok (.ireturn, 1) := by decide +kernel
theorem dX5_opener_117 : decode cX5_opener 117 = .ok (.bipush (-2), 2) := by decide +kernel
theorem dX5_opener_119 : decode cX5_opener 119 = .ok (.ireturn, 1) := by decide +kernel
set_option maxRecDepth 20000 in
theorem ggX5_unlike_X5_isLine : GoodIn wsX5_unlike wsX5_isLine := goodIn_r _ [9, 1, 2, 23, 24, 25, 26, 27, 28, 29, 30, 31] (by decide +kernel) (by decide +kernel)
set_option maxRecDepth 20000 in
theorem gX5_unlike_X5_isLine : GoodIn wsX5_unlike (wsV RX5 70 RX5 yX5_isLine wsX5_isLine) := goodIn_app (goodIn_of _ (by decide +kernel)) ggX5_unlike_X5_isLine
set_option maxRecDepth 20000 in
theorem ggX5_unlike_X1_counts : GoodIn wsX5_unlike wsX1_counts := goodIn_r _ [14, 15, 16, 32, 33, 34, 35, 36, 37] (by decide +kernel) (by decide +kernel)
set_option maxRecDepth 20000 in
theorem gX5_unlike_X1_counts : GoodIn wsX5_unlike (wsV RX5 140 RX1 yX1_counts wsX1_counts) := goodIn_app (goodIn_of _ (by decide +kernel)) ggX5_unlike_X1_counts
set_option maxRecDepth 20000 in
theorem ggX5_unlike_X5_isAsSeen : GoodIn wsX5_unlike wsX5_isAsSeen := goodIn_r _ [20, 1, 3, 21, 22, 10, 11, 12, 13, 14, 15, 16, 23, 24, 25, 26, 27, 28, 29, 30, 31, 32, 33, 34, 35, 36, 37, 38, 39] (by decide +kernel) (by decide +kernel)
set_option maxRecDepth 20000 in
theorem gX5_unlike_X5_isAsSeen : GoodIn wsX5_unlike (wsV RX5 144 RX5 yX5_isAsSeen wsX5_isAsSeen) := goodIn_app (goodIn_of _ (by decide +kernel)) ggX5_unlike_X5_isAsSeen
theorem dX5_unlike_0 : decode cX5_unlike 0 = .ok (.aload_n 0, 1) := by decide +kernel
theorem dX5_unlike_1 : decode cX5_unlike 1 = .ok (.iload_n 1, 1) := by decide +kernel
theorem dX5_unlike_2 : decode cX5_unlike 2 = .ok (.invokevirtual 70, 3) := by decide +kernel
theorem dX5_unlike_5 : decode cX5_unlike 5 = .ok (.ifCond .ne 5, 3) := by decide +kernel
theorem dX5_unlike_8 : decode cX5_unlike 8 = .ok (.iconst (-1), 1) := by decide +kernel
theorem dX5_unlike_9 : decode cX5_unlike 9 = .ok (.ireturn, 1) := by decide +kernel
theorem dX5_unlike_10 : decode cX5_unlike 10 = .ok (.iload_n 1, 1) := by decide +kernel
theorem dX5_unlike_11 : decode cX5_unlike 11 = .ok (.istore_n 2, 1) := by decide +kernel
theorem dX5_unlike_12 : decode cX5_unlike 12 = .ok (.iload_n 2, 1) := by decide +kernel
theorem dX5_unlike_13 : decode cX5_unlike 13 = .ok (.aload_n 0, 1) := by decide +kernel
theorem dX5_unlike_14 : decode cX5_unlike 14 = .ok (.getfield 12, 3) := by decide +kernel
theorem dX5_unlike_17 : decode cX5_unlike 17 = .ok (.getfield 48, 3) := by decide +kernel
theorem dX5_unlike_20 : decode cX5_unlike 20 = .ok (.if_icmp .ge 38, 3) := by decide +kernel
theorem dX5_unlike_23 : decode cX5_unlike 23 = .ok (.aload_n 0, 1) := by decide +kernel
theorem dX5_unlike_24 : decode cX5_unlike 24 = .ok (.getfield 12, 3) := by decide +kernel
theorem dX5_unlike_27 : decode cX5_unlike 27 = .ok (.getfield 73, 3) := by decide +kernel
theorem dX5_unlike_30 : decode cX5_unlike 30 = .ok (.iload_n 2, 1) := by decide +kernel
theorem dX5_unlike_31 : decode cX5_unlike 31 = .ok (.aaload, 1) := by decide +kernel
theorem dX5_unlike_32 : decode cX5_unlike 32 = .ok (.invokevirtual 140, 3) := by decide +kernel
theorem dX5_unlike_35 : decode cX5_unlike 35 = .ok (.ifCond .eq 17, 3) := by decide +kernel
theorem dX5_unlike_38 : decode cX5_unlike 38 = .ok (.aload_n 0, 1) := by decide +kernel
theorem dX5_unlike_39 : decode cX5_unlike 39 = .ok (.aload_n 0, 1) := by decide +kernel
theorem dX5_unlike_40 : decode cX5_unlike 40 = .ok (.getfield 26, 3) := by decide +kernel
theorem dX5_unlike_43 : decode cX5_unlike 43 = .ok (.iload_n 2, 1) := by decide +kernel
theorem dX5_unlike_44 : decode cX5_unlike 44 = .ok (.invokevirtual 144, 3) := by decide +kernel
theorem dX5_unlike_47 : decode cX5_unlike 47 = .ok (.ifCond .ne 5, 3) := by decide +kernel
theorem dX5_unlike_50 : decode cX5_unlike 50 = .ok (.iload_n 2, 1) := by decide +kernel
theorem dX5_unlike_51 : decode cX5_unlike 51 = .ok (.ireturn, 1) := by decide +kernel
theorem dX5_unlike_52 : decode cX5_unlike 52 = .ok (.iinc 2 1, 3) := by decide +kernel
theorem dX5_unlike_55 : decode cX5_unlike 55 = .ok (.goto (-43), 3) := by decide +kernel
theorem dX5_unlike_58 : decode cX5_unlike 58 = .ok (.bipush (-9), 2) := by decide +kernel
theorem dX5_unlike_60 : decode cX5_unlike 60 = .ok (.ireturn, 1) := by decide +kernel
set_option maxRecDepth 20000 in
theorem ggX5_see_X5_isLine : GoodIn wsX5_see wsX5_isLine := goodIn_r _ [8, 1, 9, 10, 11, 12, 13, 14, 15, 16, 17, 18] (by decide +kernel) (by decide +kernel)
set_option maxRecDepth 20000 in
theorem gX5_see_X5_isLine : GoodIn wsX5_see (wsV RX5 70 RX5 yX5_isLine wsX5_isLine) := goodIn_app (goodIn_of _ (by decide +kernel)) ggX5_see_X5_isLine
theorem dX5_see_0 : decode cX5_see 0 = .ok (.aload_n 0, 1) := by decide +kernel
theorem dX5_see_1 : decode cX5_see 1 = .ok (.iload_n 1, 1) := by decide +kernel
theorem dX5_see_2 : decode cX5_see 2 = .ok (.invokevirtual 70, 3) := by decide +kernel
theorem dX5_see_5 : decode cX5_see 5 = .ok (.ifCond .ne 5, 3) := by decide +kernel
theorem dX5_see_8 : decode cX5_see 8 = .ok (.iconst (-1), 1) := by decide +kernel
theorem dX5_see_9 : decode cX5_see 9 = .ok (.ireturn, 1) := by decide +kernel
theorem dX5_see_10 : decode cX5_see 10 = .ok (.iload_n 2, 1) := by decide +kernel
theorem dX5_see_11 : decode cX5_see 11 = .ok (.bipush (-9), 2) := by decide +kernel
theorem dX5_see_13 : decode cX5_see 13 = .ok (.if_icmp .eq 17, 3) := by decide +kernel
theorem dX5_see_16 : decode cX5_see 16 = .ok (.iload_n 2, 1) := by decide +kernel
theorem dX5_see_17 : decode cX5_see 17 = .ok (.ifCond .lt 10, 3) := by decide +kernel
theorem dX5_see_20 : decode cX5_see 20 = .ok (.iload_n 2, 1) := by decide +kernel
theorem dX5_see_21 : decode cX5_see 21 = .ok (.sipush 200, 3) := by decide +kernel
theorem dX5_see_24 : decode cX5_see 24 = .ok (.if_icmp .le 6, 3) := by decide +kernel
theorem dX5_see_27 : decode cX5_see 27 = .ok (.bipush (-2), 2) := by decide +kernel
theorem dX5_see_29 : decode cX5_see 29 = .ok (.ireturn, 1) := by decide +kernel
theorem dX5_see_30 : decode cX5_see 30 = .ok (.aload_n 0, 1) := by decide +kernel
theorem dX5_see_31 : decode cX5_see 31 = .ok (.getfield 12, 3) := by decide +kernel
theorem dX5_see_34 : decode cX5_see 34 = .ok (.getfield 73, 3) := by decide +kernel
theorem dX5_see_37 : decode cX5_see 37 = .ok (.iload_n 1, 1) := by decide +kernel
theorem dX5_see_38 : decode cX5_see 38 = .ok (.aaload, 1) := by decide +kernel
theorem dX5_see_39 : decode cX5_see 39 = .ok (.astore_n 3, 1) := by decide +kernel
theorem dX5_see_40 : decode cX5_see 40 = .ok (.aload_n 3, 1) := by decide +kernel
theorem dX5_see_41 : decode cX5_see 41 = .ok (.getfield 115, 3) := by decide +kernel
theorem dX5_see_44 : decode cX5_see 44 = .ok (.istore 4, 2) := by decide +kernel
theorem dX5_see_46 : decode cX5_see 46 = .ok (.aload_n 3, 1) := by decide +kernel
theorem dX5_see_47 : decode cX5_see 47 = .ok (.iload_n 2, 1) := by decide +kernel
theorem dX5_see_48 : decode cX5_see 48 = .ok (.putfield 115, 3) := by decide +kernel
theorem dX5_see_51 : decode cX5_see 51 = .ok (.iload 4, 2) := by decide +kernel
theorem dX5_see_53 : decode cX5_see 53 = .ok (.ireturn, 1) := by decide +kernel
set_option maxRecDepth 20000 in
theorem ggX5_fits_X5_isStyle : GoodIn wsX5_fits wsX5_isStyle := goodIn_r _ [7, 8, 9, 6, 10, 11, 12] (by decide +kernel) (by decide +kernel)
set_option maxRecDepth 20000 in
theorem gX5_fits_X5_isStyle : GoodIn wsX5_fits (va_wsS RX5 148 yX5_isStyle wsX5_isStyle) := goodIn_app (goodIn_of _ (by decide +kernel)) ggX5_fits_X5_isStyle
set_option maxRecDepth 20000 in
theorem ggX5_fits_X5_layTried : GoodIn wsX5_fits wsX5_layTried := goodIn_r _ [16, 3, 1, 17, 18, 19, 20, 21, 22, 23, 24, 25, 26, 27, 28, 29, 30, 31, 32, 33, 34, 35, 36, 37, 38, 39, 40, 41, 42, 43, 44, 45, 46, 47, 48, 49, 50, 51, 52, 53, 54, 55, 56, 57, 58, 59, 60, 61, 62, 77, 78, 79, 80, 81, 82, 83, 86, 87, 84, 85, 88, 89, 90, 91, 92, 93, 94, 95, 96, 97, 98, 99, 100, 101, 102, 103, 104, 105, 106, 107] (by decide +kernel) (by decide +kernel)
set_option maxRecDepth 20000 in
theorem gX5_fits_X5_layTried : GoodIn wsX5_fits (wsV RX5 152 RX5 yX5_layTried wsX5_layTried) := goodIn_app (goodIn_of _ (by decide +kernel)) ggX5_fits_X5_layTried
set_option maxRecDepth 20000 in
theorem ggX5_fits_X5_isAsSeen : GoodIn wsX5_fits wsX5_isAsSeen := goodIn_r _ [66, 1, 67, 68, 69, 70, 71, 72, 73, 74, 75, 76, 77, 78, 79, 80, 81, 82, 83, 84, 85, 88, 89, 90, 91, 92, 93, 86, 87] (by decide +kernel) (by decide +kernel)
set_option maxRecDepth 20000 in
theorem gX5_fits_X5_isAsSeen : GoodIn wsX5_fits (wsV RX5 144 RX5 yX5_isAsSeen wsX5_isAsSeen) := goodIn_app (goodIn_of _ (by decide +kernel)) ggX5_fits_X5_isAsSeen
theorem dX5_fits_0 : decode cX5_fits 0 = .ok (.iload_n 1, 1) := by decide +kernel
theorem dX5_fits_1 : decode cX5_fits 1 = .ok (.iload_n 2, 1) := by decide +kernel
theorem dX5_fits_2 : decode cX5_fits 2 = .ok (.iload_n 3, 1) := by decide +kernel
theorem dX5_fits_3 : decode cX5_fits 3 = .ok (.iload 4, 2) := by decide +kernel
theorem dX5_fits_5 : decode cX5_fits 5 = .ok (.invokestatic 148, 3) := by decide +kernel
theorem dX5_fits_8 : decode cX5_fits 8 = .ok (.ifCond .ne 6, 3) := by decide +kernel
theorem dX5_fits_11 : decode cX5_fits 11 = .ok (.bipush (-2), 2) := by decide +kernel
theorem dX5_fits_13 : decode cX5_fits 13 = .ok (.ireturn, 1) := by decide +kernel
theorem dX5_fits_14 : decode cX5_fits 14 = .ok (.aload_n 0, 1) := by decide +kernel
theorem dX5_fits_15 : decode cX5_fits 15 = .ok (.iload_n 1, 1) := by decide +kernel
theorem dX5_fits_16 : decode cX5_fits 16 = .ok (.iload_n 2, 1) := by decide +kernel
theorem dX5_fits_17 : decode cX5_fits 17 = .ok (.iload_n 3, 1) := by decide +kernel
theorem dX5_fits_18 : decode cX5_fits 18 = .ok (.iload 4, 2) := by decide +kernel
theorem dX5_fits_20 : decode cX5_fits 20 = .ok (.invokevirtual 152, 3) := by decide +kernel
theorem dX5_fits_23 : decode cX5_fits 23 = .ok (.iconst 0, 1) := by decide +kernel
theorem dX5_fits_24 : decode cX5_fits 24 = .ok (.istore 5, 2) := by decide +kernel
theorem dX5_fits_26 : decode cX5_fits 26 = .ok (.iconst 0, 1) := by decide +kernel
theorem dX5_fits_27 : decode cX5_fits 27 = .ok (.istore 6, 2) := by decide +kernel
theorem dX5_fits_29 : decode cX5_fits 29 = .ok (.iload 6, 2) := by decide +kernel
theorem dX5_fits_31 : decode cX5_fits 31 = .ok (.aload_n 0, 1) := by decide +kernel
theorem dX5_fits_32 : decode cX5_fits 32 = .ok (.getfield 12, 3) := by decide +kernel
theorem dX5_fits_35 : decode cX5_fits 35 = .ok (.getfield 48, 3) := by decide +kernel
theorem dX5_fits_38 : decode cX5_fits 38 = .ok (.if_icmp .ge 25, 3) := by decide +kernel
theorem dX5_fits_41 : decode cX5_fits 41 = .ok (.aload_n 0, 1) := by decide +kernel
theorem dX5_fits_42 : decode cX5_fits 42 = .ok (.aload_n 0, 1) := by decide +kernel
theorem dX5_fits_43 : decode cX5_fits 43 = .ok (.getfield 30, 3) := by decide +kernel
theorem dX5_fits_46 : decode cX5_fits 46 = .ok (.iload 6, 2) := by decide +kernel
theorem dX5_fits_48 : decode cX5_fits 48 = .ok (.invokevirtual 144, 3) := by decide +kernel
theorem dX5_fits_51 : decode cX5_fits 51 = .ok (.ifCond .eq 6, 3) := by decide +kernel
theorem dX5_fits_54 : decode cX5_fits 54 = .ok (.iinc 5 1, 3) := by decide +kernel
theorem dX5_fits_57 : decode cX5_fits 57 = .ok (.iinc 6 1, 3) := by decide +kernel
theorem dX5_fits_60 : decode cX5_fits 60 = .ok (.goto (-31), 3) := by decide +kernel
theorem dX5_fits_63 : decode cX5_fits 63 = .ok (.iload 5, 2) := by decide +kernel
theorem dX5_fits_65 : decode cX5_fits 65 = .ok (.ireturn, 1) := by decide +kernel
set_option maxRecDepth 20000 in
theorem ggX5_score_X5_isStyle : GoodIn wsX5_score wsX5_isStyle := goodIn_r _ [4, 5, 6, 3, 7, 8, 9] (by decide +kernel) (by decide +kernel)
set_option maxRecDepth 20000 in
theorem gX5_score_X5_isStyle : GoodIn wsX5_score (va_wsS RX5 148 yX5_isStyle wsX5_isStyle) := goodIn_app (goodIn_of _ (by decide +kernel)) ggX5_score_X5_isStyle
set_option maxRecDepth 20000 in
theorem ggX5_score_X5_layTried : GoodIn wsX5_score wsX5_layTried := goodIn_r _ [13, 14, 15, 16, 17, 18, 19, 20, 21, 22, 23, 24, 25, 26, 27, 28, 29, 30, 31, 32, 33, 34, 35, 36, 37, 38, 39, 40, 41, 42, 43, 44, 45, 46, 47, 48, 49, 50, 51, 52, 53, 54, 55, 56, 57, 58, 59, 60, 61, 89, 90, 91, 92, 93, 94, 95, 96, 97, 98, 99, 100, 101, 102, 103, 104, 105, 106, 107, 108, 109, 110, 111, 112, 113, 114, 115, 116, 117, 118, 119] (by decide +kernel) (by decide +kernel)
set_option maxRecDepth 20000 in
theorem gX5_score_X5_layTried : GoodIn wsX5_score (wsV RX5 152 RX5 yX5_layTried wsX5_layTried) := goodIn_app (goodIn_of _ (by decide +kernel)) ggX5_score_X5_layTried
set_option maxRecDepth 20000 in
theorem ggX5_score_X5_partsOfTried : GoodIn wsX5_score wsX5_partsOfTried := goodIn_r _ [65, 15, 66, 14, 16, 67, 68, 69, 70, 71, 72, 73, 74, 3, 75, 76, 77, 78, 79, 80, 81, 82, 83, 84, 85, 89, 90, 91, 92, 93, 94, 95, 98, 99, 106, 107, 108, 109, 110, 111, 112, 113, 114, 115, 116, 117, 118, 119, 100, 101, 102, 103, 104, 105, 96, 97] (by decide +kernel) (by decide +kernel)
set_option maxRecDepth 20000 in
theorem gX5_score_X5_partsOfTried : GoodIn wsX5_score (wsV RX5 155 RX5 yX5_partsOfTried wsX5_partsOfTried) := goodIn_app (goodIn_of _ (by decide +kernel)) ggX5_score_X5_partsOfTried
set_option maxRecDepth 20000 in
theorem ggX5_score_X5_floatBits : GoodIn wsX5_score wsX5_floatBits := goodIn_r _ [88] (by decide +kernel) (by decide +kernel)
set_option maxRecDepth 20000 in
theorem gX5_score_X5_floatBits : GoodIn wsX5_score (va_wsS RX5 159 yX5_floatBits wsX5_floatBits) := goodIn_app (goodIn_of _ (by decide +kernel)) ggX5_score_X5_floatBits
theorem dX5_score_0 : decode cX5_score 0 = .ok (.iload_n 1, 1) := by decide +kernel
theorem dX5_score_1 : decode cX5_score 1 = .ok (.iload_n 2, 1) := by decide +kernel
theorem dX5_score_2 : decode cX5_score 2 = .ok (.iload_n 3, 1) := by decide +kernel
theorem dX5_score_3 : decode cX5_score 3 = .ok (.iload 4, 2) := by decide +kernel
theorem dX5_score_5 : decode cX5_score 5 = .ok (.invokestatic 148, 3) := by decide +kernel
theorem dX5_score_8 : decode cX5_score 8 = .ok (.ifCond .eq 14, 3) := by decide +kernel
theorem dX5_score_11 : decode cX5_score 11 = .ok (.iload 5, 2) := by decide +kernel
theorem dX5_score_13 : decode cX5_score 13 = .ok (.ifCond .lt 9, 3) := by decide +kernel
theorem dX5_score_16 : decode cX5_score 16 = .ok (.iload 5, 2) := by decide +kernel
theorem dX5_score_18 : decode cX5_score 18 = .ok (.iconst 1, 1) := by decide +kernel
theorem dX5_score_19 : decode cX5_score 19 = .ok (.if_icmp .le 6, 3) := by decide +kernel
theorem dX5_score_22 : decode cX5_score 22 = .ok (.bipush (-2), 2) := by decide +kernel
theorem dX5_score_24 : decode cX5_score 24 = .ok (.ireturn, 1) := by decide +kernel
theorem dX5_score_25 : decode cX5_score 25 = .ok (.aload_n 0, 1) := by decide +kernel
theorem dX5_score_26 : decode cX5_score 26 = .ok (.iload_n 1, 1) := by decide +kernel
theorem dX5_score_27 : decode cX5_score 27 = .ok (.iload_n 2, 1) := by decide +kernel
theorem dX5_score_28 : decode cX5_score 28 = .ok (.iload_n 3, 1) := by decide +kernel
theorem dX5_score_29 : decode cX5_score 29 = .ok (.iload 4, 2) := by decide +kernel
theorem dX5_score_31 : decode cX5_score 31 = .ok (.invokevirtual 152, 3) := by decide +kernel
theorem dX5_score_34 : decode cX5_score 34 = .ok (.aload_n 0, 1) := by decide +kernel
theorem dX5_score_35 : decode cX5_score 35 = .ok (.invokevirtual 155, 3) := by decide +kernel
theorem dX5_score_38 : decode cX5_score 38 = .ok (.istore 6, 2) := by decide +kernel
theorem dX5_score_40 : decode cX5_score 40 = .ok (.iload 5, 2) := by decide +kernel
theorem dX5_score_42 : decode cX5_score 42 = .ok (.ifCond .ne 11, 3) := by decide +kernel
theorem dX5_score_45 : decode cX5_score 45 = .ok (.iload 6, 2) := by decide +kernel
theorem dX5_score_47 : decode cX5_score 47 = .ok (.invokestatic 159, 3) := by decide +kernel
theorem dX5_score_50 : decode cX5_score 50 = .ok (.goto 13, 3) := by decide +kernel
theorem dX5_score_53 : decode cX5_score 53 = .ok (.iload 6, 2) := by decide +kernel
theorem dX5_score_55 : decode cX5_score 55 = .ok (.sipush 1000, 3) := by decide +kernel
theorem dX5_score_58 : decode cX5_score 58 = .ok (.imul, 1) := by decide +kernel
theorem dX5_score_59 : decode cX5_score 59 = .ok (.sipush 4096, 3) := by decide +kernel
theorem dX5_score_62 : decode cX5_score 62 = .ok (.idiv, 1) := by decide +kernel
theorem dX5_score_63 : decode cX5_score 63 = .ok (.ireturn, 1) := by decide +kernel
set_option maxRecDepth 20000 in
theorem ggX5_guess_X5_hasSeenTokens : GoodIn wsX5_guess wsX5_hasSeenTokens := goodIn_r _ [7, 8, 9, 10, 11, 12, 13, 14, 15, 16, 17, 98, 99, 100, 101, 102, 103, 104, 105, 106, 107, 108, 109, 110, 111, 112] (by decide +kernel) (by decide +kernel)
set_option maxRecDepth 20000 in
theorem gX5_guess_X5_hasSeenTokens : GoodIn wsX5_guess (wsV RX5 162 RX5 yX5_hasSeenTokens wsX5_hasSeenTokens) := goodIn_app (goodIn_of _ (by decide +kernel)) ggX5_guess_X5_hasSeenTokens
set_option maxRecDepth 20000 in
theorem ggX5_guess_X5_findGuess : GoodIn wsX5_guess wsX5_findGuess := goodIn_r _ [21, 2, 22, 23, 24, 25, 26, 6, 27, 28, 8, 29, 30, 31, 32, 33, 34, 35, 36, 37, 38, 39, 40, 41, 42, 43, 44, 45, 46, 47, 48, 49, 50, 51, 52, 53, 54, 55, 56, 57, 58, 59, 60, 61, 62, 63, 64, 65, 66, 67, 68, 69, 70, 71, 72, 73, 74, 75, 76, 77, 78, 1, 79, 80, 81, 82, 83, 9, 84, 85, 86, 87, 88, 89, 90, 91, 92, 10, 93, 94, 11, 12, 13, 14, 15, 16, 17, 98, 99, 100, 101, 102, 103, 104, 113, 114, 105, 106, 107, 108, 109, 110, 111, 112, 115, 116, 117, 118, 119, 120, 121, 122, 123, 124, 125, 126, 127, 128] (by decide +kernel) (by decide +kernel)
set_option maxRecDepth 20000 in
theorem gX5_guess_X5_findGuess : GoodIn wsX5_guess (wsV RX5 165 RX5 yX5_findGuess wsX5_findGuess) := goodIn_app (goodIn_of _ (by decide +kernel)) ggX5_guess_X5_findGuess
set_option maxRecDepth 20000 in
theorem ggX5_guess_X5_floatBits : GoodIn wsX5_guess wsX5_floatBits := goodIn_r _ [97] (by decide +kernel) (by decide +kernel)
set_option maxRecDepth 20000 in
theorem gX5_guess_X5_floatBits : GoodIn wsX5_guess (va_wsS RX5 159 yX5_floatBits wsX5_floatBits) := goodIn_app (goodIn_of _ (by decide +kernel)) ggX5_guess_X5_floatBits
theorem dX5_guess_0 : decode cX5_guess 0 = .ok (.iload_n 1, 1) := by decide +kernel
theorem dX5_guess_1 : decode cX5_guess 1 = .ok (.ifCond .lt 8, 3) := by decide +kernel
theorem dX5_guess_4 : decode cX5_guess 4 = .ok (.iload_n 1, 1) := by decide +kernel
theorem dX5_guess_5 : decode cX5_guess 5 = .ok (.iconst 4, 1) := by decide +kernel
theorem dX5_guess_6 : decode cX5_guess 6 = .ok (.if_icmp .le 6, 3) := by decide +kernel
theorem dX5_guess_9 : decode cX5_guess 9 = .ok (.bipush (-2), 2) := by decide +kernel
theorem dX5_guess_11 : decode cX5_guess 11 = .ok (.ireturn, 1) := by decide +kernel
theorem dX5_guess_12 : decode cX5_guess 12 = .ok (.aload_n 0, 1) := by decide +kernel
theorem dX5_guess_13 : decode cX5_guess 13 = .ok (.invokevirtual 162, 3) := by decide +kernel
theorem dX5_guess_16 : decode cX5_guess 16 = .ok (.ifCond .ne 6, 3) := by decide +kernel
theorem dX5_guess_19 : decode cX5_guess 19 = .ok (.bipush (-3), 2) := by decide +kernel
theorem dX5_guess_21 : decode cX5_guess 21 = .ok (.ireturn, 1) := by decide +kernel
theorem dX5_guess_22 : decode cX5_guess 22 = .ok (.aload_n 0, 1) := by decide +kernel
theorem dX5_guess_23 : decode cX5_guess 23 = .ok (.invokevirtual 165, 3) := by decide +kernel
theorem dX5_guess_26 : decode cX5_guess 26 = .ok (.iload_n 1, 1) := by decide +kernel
theorem dX5_guess_27 : decode cX5_guess 27 = .ok (.iconst 4, 1) := by decide +kernel
theorem dX5_guess_28 : decode cX5_guess 28 = .ok (.if_icmp .ge 12, 3) := by decide +kernel
theorem dX5_guess_31 : decode cX5_guess 31 = .ok (.aload_n 0, 1) := by decide +kernel
theorem dX5_guess_32 : decode cX5_guess 32 = .ok (.getfield 33, 3) := by decide +kernel
theorem dX5_guess_35 : decode cX5_guess 35 = .ok (.iload_n 1, 1) := by decide +kernel
theorem dX5_guess_36 : decode cX5_guess 36 = .ok (.iaload, 1) := by decide +kernel
theorem dX5_guess_37 : decode cX5_guess 37 = .ok (.goto 10, 3) := by decide +kernel
theorem dX5_guess_40 : decode cX5_guess 40 = .ok (.aload_n 0, 1) := by decide +kernel
theorem dX5_guess_41 : decode cX5_guess 41 = .ok (.getfield 168, 3) := by decide +kernel
theorem dX5_guess_44 : decode cX5_guess 44 = .ok (.invokestatic 159, 3) := by decide +kernel
theorem dX5_guess_47 : decode cX5_guess 47 = .ok (.ireturn, 1) := by decide +kernel
set_option maxRecDepth 20000 in
theorem ggX5_follow_X5_hasSeenTokens : GoodIn wsX5_follow wsX5_hasSeenTokens := goodIn_r _ [9, 3, 10, 11, 12, 13, 14, 15, 16, 17, 18, 105, 106, 107, 108, 109, 110, 111, 112, 113, 114, 115, 116, 117, 118, 119] (by decide +kernel) (by decide +kernel)
set_option maxRecDepth 20000 in
theorem gX5_follow_X5_hasSeenTokens : GoodIn wsX5_follow (wsV RX5 162 RX5 yX5_hasSeenTokens wsX5_hasSeenTokens) := goodIn_app (goodIn_of _ (by decide +kernel)) ggX5_follow_X5_hasSeenTokens
set_option maxRecDepth 20000 in
theorem ggX5_follow_X5_findGuess : GoodIn wsX5_follow wsX5_findGuess := goodIn_r _ [22, 23, 24, 25, 26, 27, 28, 8, 29, 30, 3, 4, 31, 32, 33, 34, 35, 36, 37, 38, 39, 40, 41, 42, 43, 44, 45, 46, 47, 48, 49, 50, 51, 52, 53, 54, 55, 56, 57, 58, 59, 60, 61, 62, 63, 64, 65, 66, 67, 68, 69, 70, 71, 72, 73, 74, 75, 76, 77, 78, 79, 2, 80, 81, 82, 83, 84, 10, 85, 86, 87, 88, 89, 90, 91, 92, 93, 11, 94, 95, 12, 13, 14, 15, 16, 17, 18, 105, 106, 107, 108, 109, 110, 111, 120, 121, 112, 113, 114, 115, 116, 117, 118, 119, 122, 123, 124, 125, 126, 127, 128, 129, 130, 131, 132, 133, 134, 135] (by decide +kernel) (by decide +kernel)
set_option maxRecDepth 20000 in
theorem gX5_follow_X5_findGuess : GoodIn wsX5_follow (wsV RX5 165 RX5 yX5_findGuess wsX5_findGuess) := goodIn_app (goodIn_of _ (by decide +kernel)) ggX5_follow_X5_findGuess
set_option maxRecDepth 20000 in
theorem ggX5_follow_X5_rememberColumns : GoodIn wsX5_follow wsX5_rememberColumns := goodIn_r _ [99, 3, 10, 11, 1, 95, 100, 105, 106, 107, 108, 109, 110, 111, 112, 113, 120, 121, 114, 115, 116, 117, 118, 119] (by decide +kernel) (by decide +kernel)
set_option maxRecDepth 20000 in
theorem gX5_follow_X5_rememberColumns : GoodIn wsX5_follow (wsV RX5 56 RX5 yX5_rememberColumns wsX5_rememberColumns) := goodIn_app (goodIn_of _ (by decide +kernel)) ggX5_follow_X5_rememberColumns
set_option maxRecDepth 20000 in
theorem ggX5_follow_X0_choose : GoodIn wsX5_follow wsX0_choose := goodIn_r _ [35, 36, 120, 121] (by decide +kernel) (by decide +kernel)
set_option maxRecDepth 20000 in
theorem gX5_follow_X0_choose : GoodIn wsX5_follow (wsV RX5 43 RX0 yX0_choose wsX0_choose) := goodIn_app (goodIn_of _ (by decide +kernel)) ggX5_follow_X0_choose
set_option maxRecDepth 20000 in
theorem ggX5_follow_X0_lay : GoodIn wsX5_follow wsX0_lay := goodIn_r _ [40, 41, 42, 43, 44, 45, 46, 47, 48, 34, 49, 50, 51, 52, 36, 53, 54, 55, 56, 57, 58, 59, 60, 61, 62, 63, 64, 65, 66, 67, 68, 69, 70, 71, 72, 73, 74, 75, 112, 113, 120, 121, 114, 115, 116, 117, 118, 119, 122, 123, 124, 125, 126, 127, 128, 129, 130, 131, 132, 133, 134, 135] (by decide +kernel) (by decide +kernel)
set_option maxRecDepth 20000 in
theorem gX5_follow_X0_lay : GoodIn wsX5_follow (wsV RX5 93 RX0 yX0_lay wsX0_lay) := goodIn_app (goodIn_of _ (by decide +kernel)) ggX5_follow_X0_lay
set_option maxRecDepth 20000 in
theorem ggX5_follow_X5_movedBut : GoodIn wsX5_follow wsX5_movedBut := goodIn_r _ [104, 3, 10, 11, 100, 1, 95, 105, 106, 107, 108, 109, 110, 111, 112, 113, 114, 115, 116, 117, 118, 119, 120, 121] (by decide +kernel) (by decide +kernel)
set_option maxRecDepth 20000 in
theorem gX5_follow_X5_movedBut : GoodIn wsX5_follow (wsV RX5 66 RX5 yX5_movedBut wsX5_movedBut) := goodIn_app (goodIn_of _ (by decide +kernel)) ggX5_follow_X5_movedBut
theorem dX5_follow_0 : decode cX5_follow 0 = .ok (.aload_n 0, 1) := by decide +kernel
theorem dX5_follow_1 : decode cX5_follow 1 = .ok (.invokevirtual 162, 3) := by decide +kernel
theorem dX5_follow_4 : decode cX5_follow 4 = .ok (.ifCond .ne 6, 3) := by decide +kernel
theorem dX5_follow_7 : decode cX5_follow 7 = .ok (.bipush (-3), 2) := by decide +kernel
theorem dX5_follow_9 : decode cX5_follow 9 = .ok (.ireturn, 1) := by decide +kernel
theorem dX5_follow_10 : decode cX5_follow 10 = .ok (.aload_n 0, 1) := by decide +kernel
theorem dX5_follow_11 : decode cX5_follow 11 = .ok (.invokevirtual 165, 3) := by decide +kernel
theorem dX5_follow_14 : decode cX5_follow 14 = .ok (.aload_n 0, 1) := by decide +kernel
theorem dX5_follow_15 : decode cX5_follow 15 = .ok (.invokevirtual 56, 3) := by decide +kernel
theorem dX5_follow_18 : decode cX5_follow 18 = .ok (.aload_n 0, 1) := by decide +kernel
theorem dX5_follow_19 : decode cX5_follow 19 = .ok (.getfield 26, 3) := by decide +kernel
theorem dX5_follow_22 : decode cX5_follow 22 = .ok (.aload_n 0, 1) := by decide +kernel
theorem dX5_follow_23 : decode cX5_follow 23 = .ok (.getfield 33, 3) := by decide +kernel
theorem dX5_follow_26 : decode cX5_follow 26 = .ok (.iconst 0, 1) := by decide +kernel
theorem dX5_follow_27 : decode cX5_follow 27 = .ok (.iaload, 1) := by decide +kernel
theorem dX5_follow_28 : decode cX5_follow 28 = .ok (.aload_n 0, 1) := by decide +kernel
theorem dX5_follow_29 : decode cX5_follow 29 = .ok (.getfield 33, 3) := by decide +kernel
theorem dX5_follow_32 : decode cX5_follow 32 = .ok (.iconst 1, 1) := by decide +kernel
theorem dX5_follow_33 : decode cX5_follow 33 = .ok (.iaload, 1) := by decide +kernel
theorem dX5_follow_34 : decode cX5_follow 34 = .ok (.aload_n 0, 1) := by decide +kernel
theorem dX5_follow_35 : decode cX5_follow 35 = .ok (.getfield 33, 3) := by decide +kernel
theorem dX5_follow_38 : decode cX5_follow 38 = .ok (.iconst 2, 1) := by decide +kernel
theorem dX5_follow_39 : decode cX5_follow 39 = .ok (.iaload, 1) := by decide +kernel
theorem dX5_follow_40 : decode cX5_follow 40 = .ok (.aload_n 0, 1) := by decide +kernel
theorem dX5_follow_41 : decode cX5_follow 41 = .ok (.getfield 33, 3) := by decide +kernel
theorem dX5_follow_44 : decode cX5_follow 44 = .ok (.iconst 3, 1) := by decide +kernel
theorem dX5_follow_45 : decode cX5_follow 45 = .ok (.iaload, 1) := by decide +kernel
theorem dX5_follow_46 : decode cX5_follow 46 = .ok (.invokevirtual 43, 3) := by decide +kernel
theorem dX5_follow_49 : decode cX5_follow 49 = .ok (.aload_n 0, 1) := by decide +kernel
theorem dX5_follow_50 : decode cX5_follow 50 = .ok (.getfield 26, 3) := by decide +kernel
theorem dX5_follow_53 : decode cX5_follow 53 = .ok (.aload_n 0, 1) := by decide +kernel
theorem dX5_follow_54 : decode cX5_follow 54 = .ok (.getfield 12, 3) := by decide +kernel
theorem dX5_follow_57 : decode cX5_follow 57 = .ok (.aload_n 0, 1) := by decide +kernel
theorem dX5_follow_58 : decode cX5_follow 58 = .ok (.getfield 19, 3) := by decide +kernel
theorem dX5_follow_61 : decode cX5_follow 61 = .ok (.invokevirtual 93, 3) := by decide +kernel
theorem dX5_follow_64 : decode cX5_follow 64 = .ok (.aload_n 0, 1) := by decide +kernel
theorem dX5_follow_65 : decode cX5_follow 65 = .ok (.bipush (-9), 2) := by decide +kernel
theorem dX5_follow_67 : decode cX5_follow 67 = .ok (.invokevirtual 66, 3) := by decide +kernel
theorem dX5_follow_70 : decode cX5_follow 70 = .ok (.ireturn, 1) := by decide +kernel
set_option maxRecDepth 20000 in
theorem ggX5_pocket_X5_isPocket : GoodIn wsX5_pocket wsX5_isPocket := goodIn_r _ [5] (by decide +kernel) (by decide +kernel)
set_option maxRecDepth 20000 in
theorem gX5_pocket_X5_isPocket : GoodIn wsX5_pocket (va_wsS RX5 171 yX5_isPocket wsX5_isPocket) := goodIn_app (goodIn_of _ (by decide +kernel)) ggX5_pocket_X5_isPocket
set_option maxRecDepth 20000 in
theorem ggX5_pocket_X3_renew : GoodIn wsX5_pocket wsX3_renew := goodIn_r _ [10, 11, 12, 13, 14, 15, 9, 16, 17, 18, 19, 27, 28, 29, 30, 31] (by decide +kernel) (by decide +kernel)
set_option maxRecDepth 20000 in
theorem gX5_pocket_X3_renew : GoodIn wsX5_pocket (wsV RX5 174 RX3 yX3_renew wsX3_renew) := goodIn_app (goodIn_of _ (by decide +kernel)) ggX5_pocket_X3_renew
theorem dX5_pocket_0 : decode cX5_pocket 0 = .ok (.iload_n 1, 1) := by decide +kernel
theorem dX5_pocket_1 : decode cX5_pocket 1 = .ok (.invokestatic 171, 3) := by decide +kernel
theorem dX5_pocket_4 : decode cX5_pocket 4 = .ok (.ifCond .ne 5, 3) := by decide +kernel
theorem dX5_pocket_7 : decode cX5_pocket 7 = .ok (.iconst (-1), 1) := by decide +kernel
theorem dX5_pocket_8 : decode cX5_pocket 8 = .ok (.ireturn, 1) := by decide +kernel
theorem dX5_pocket_9 : decode cX5_pocket 9 = .ok (.iload_n 2, 1) := by decide +kernel
theorem dX5_pocket_10 : decode cX5_pocket 10 = .ok (.ifCond .lt 19, 3) := by decide +kernel
theorem dX5_pocket_13 : decode cX5_pocket 13 = .ok (.iload_n 2, 1) := by decide +kernel
theorem dX5_pocket_14 : decode cX5_pocket 14 = .ok (.iconst 3, 1) := by decide +kernel
theorem dX5_pocket_15 : decode cX5_pocket 15 = .ok (.if_icmp .gt 14, 3) := by decide +kernel
theorem dX5_pocket_18 : decode cX5_pocket 18 = .ok (.iload_n 3, 1) := by decide +kernel
theorem dX5_pocket_19 : decode cX5_pocket 19 = .ok (.iconst 1, 1) := by decide +kernel
theorem dX5_pocket_20 : decode cX5_pocket 20 = .ok (.if_icmp .lt 9, 3) := by decide +kernel
theorem dX5_pocket_23 : decode cX5_pocket 23 = .ok (.iload_n 3, 1) := by decide +kernel
theorem dX5_pocket_24 : decode cX5_pocket 24 = .ok (.bipush 6, 2) := by decide +kernel
theorem dX5_pocket_26 : decode cX5_pocket 26 = .ok (.if_icmp .le 6, 3) := by decide +kernel
theorem dX5_pocket_29 : decode cX5_pocket 29 = .ok (.bipush (-2), 2) := by decide +kernel
theorem dX5_pocket_31 : decode cX5_pocket 31 = .ok (.ireturn, 1) := by decide +kernel
theorem dX5_pocket_32 : decode cX5_pocket 32 = .ok (.aload_n 0, 1) := by decide +kernel
theorem dX5_pocket_33 : decode cX5_pocket 33 = .ok (.getfield 39, 3) := by decide +kernel
theorem dX5_pocket_36 : decode cX5_pocket 36 = .ok (.iload_n 1, 1) := by decide +kernel
theorem dX5_pocket_37 : decode cX5_pocket 37 = .ok (.aaload, 1) := by decide +kernel
theorem dX5_pocket_38 : decode cX5_pocket 38 = .ok (.iload_n 2, 1) := by decide +kernel
theorem dX5_pocket_39 : decode cX5_pocket 39 = .ok (.iload_n 3, 1) := by decide +kernel
theorem dX5_pocket_40 : decode cX5_pocket 40 = .ok (.invokevirtual 174, 3) := by decide +kernel
theorem dX5_pocket_43 : decode cX5_pocket 43 = .ok (.iconst 1, 1) := by decide +kernel
theorem dX5_pocket_44 : decode cX5_pocket 44 = .ok (.ireturn, 1) := by decide +kernel
set_option maxRecDepth 20000 in
theorem ggX5_store_X5_isPocket : GoodIn wsX5_store wsX5_isPocket := goodIn_r _ [9] (by decide +kernel) (by decide +kernel)
set_option maxRecDepth 20000 in
theorem gX5_store_X5_isPocket : GoodIn wsX5_store (va_wsS RX5 171 yX5_isPocket wsX5_isPocket) := goodIn_app (goodIn_of _ (by decide +kernel)) ggX5_store_X5_isPocket
set_option maxRecDepth 20000 in
theorem ggX5_store_X5_isOpener : GoodIn wsX5_store wsX5_isOpener := goodIn_r _ [13, 4, 14, 52, 53, 54, 55, 56, 57, 58, 64, 65, 66, 67, 68, 69, 70, 71, 72, 73, 74, 75, 76, 77] (by decide +kernel) (by decide +kernel)
set_option maxRecDepth 20000 in
theorem gX5_store_X5_isOpener : GoodIn wsX5_store (wsV RX5 118 RX5 yX5_isOpener wsX5_isOpener) := goodIn_app (goodIn_of _ (by decide +kernel)) ggX5_store_X5_isOpener
set_option maxRecDepth 20000 in
theorem ggX5_store_X3_hasCell : GoodIn wsX5_store wsX3_hasCell := goodIn_r _ [19, 20, 59, 60, 61, 62, 63] (by decide +kernel) (by decide +kernel)
set_option maxRecDepth 20000 in
theorem gX5_store_X3_hasCell : GoodIn wsX5_store (wsV RX5 178 RX3 yX3_hasCell wsX3_hasCell) := goodIn_app (goodIn_of _ (by decide +kernel)) ggX5_store_X3_hasCell
set_option maxRecDepth 20000 in
theorem ggX5_store_X0_kindOf : GoodIn wsX5_store wsX0_kindOf := goodIn_r _ [25, 26, 27, 28, 29, 24, 30, 31, 32, 64, 65, 66, 67, 68, 69, 70, 71, 72, 73, 74, 75, 76, 77, 78, 79] (by decide +kernel) (by decide +kernel)
set_option maxRecDepth 20000 in
theorem gX5_store_X0_kindOf : GoodIn wsX5_store (wsV RX5 134 RX0 yX0_kindOf wsX0_kindOf) := goodIn_app (goodIn_of _ (by decide +kernel)) ggX5_store_X0_kindOf
set_option maxRecDepth 20000 in
theorem ggX5_store_X3_takes : GoodIn wsX5_store wsX3_takes := goodIn_r _ [36, 37, 59, 60, 61, 62, 63] (by decide +kernel) (by decide +kernel)
set_option maxRecDepth 20000 in
theorem gX5_store_X3_takes : GoodIn wsX5_store (wsV RX5 181 RX3 yX3_takes wsX3_takes) := goodIn_app (goodIn_of _ (by decide +kernel)) ggX5_store_X3_takes
set_option maxRecDepth 20000 in
theorem ggX5_store_X0_placeOf : GoodIn wsX5_store wsX0_placeOf := goodIn_r _ [41, 42, 43, 44, 78, 79, 64, 65, 66, 67, 68, 69, 70, 71, 72, 73, 74, 75, 76, 77] (by decide +kernel) (by decide +kernel)
set_option maxRecDepth 20000 in
theorem gX5_store_X0_placeOf : GoodIn wsX5_store (wsV RX5 127 RX0 yX0_placeOf wsX0_placeOf) := goodIn_app (goodIn_of _ (by decide +kernel)) ggX5_store_X0_placeOf
set_option maxRecDepth 20000 in
theorem ggX5_store_X3_fill : GoodIn wsX5_store wsX3_fill := goodIn_r _ [48, 49, 50, 51, 59, 60, 61, 62, 63] (by decide +kernel) (by decide +kernel)
set_option maxRecDepth 20000 in
theorem gX5_store_X3_fill : GoodIn wsX5_store (wsV RX5 184 RX3 yX3_fill wsX3_fill) := goodIn_app (goodIn_of _ (by decide +kernel)) ggX5_store_X3_fill
theorem dX5_store_0 : decode cX5_store 0 = .ok (.iload_n 1, 1) := by decide +kernel
theorem dX5_store_1 : decode cX5_store 1 = .ok (.invokestatic 171, 3) := by decide +kernel
theorem dX5_store_4 : decode cX5_store 4 = .ok (.ifCond .eq 11, 3) := by decide +kernel
theorem dX5_store_7 : decode cX5_store 7 = .ok (.aload_n 0, 1) := by decide +kernel
theorem dX5_store_8 : decode cX5_store 8 = .ok (.iload_n 3, 1) := by decide +kernel
theorem dX5_store_9 : decode cX5_store 9 = .ok (.invokevirtual 118, 3) := by decide +kernel
theorem dX5_store_12 : decode cX5_store 12 = .ok (.ifCond .ne 5, 3) := by decide +kernel
theorem dX5_store_15 : decode cX5_store 15 = .ok (.iconst (-1), 1) := by decide +kernel
theorem dX5_store_16 : decode cX5_store 16 = .ok (.ireturn, 1) := by decide +kernel
theorem dX5_store_17 : decode cX5_store 17 = .ok (.aload_n 0, 1) := by decide +kernel
theorem dX5_store_18 : decode cX5_store 18 = .ok (.getfield 39, 3) := by decide +kernel
theorem dX5_store_21 : decode cX5_store 21 = .ok (.iload_n 1, 1) := by decide +kernel
theorem dX5_store_22 : decode cX5_store 22 = .ok (.aaload, 1) := by decide +kernel
theorem dX5_store_23 : decode cX5_store 23 = .ok (.astore 4, 2) := by decide +kernel
theorem dX5_store_25 : decode cX5_store 25 = .ok (.aload 4, 2) := by decide +kernel
theorem dX5_store_27 : decode cX5_store 27 = .ok (.getfield 177, 3) := by decide +kernel
theorem dX5_store_30 : decode cX5_store 30 = .ok (.ifCond .ne 6, 3) := by decide +kernel
theorem dX5_store_33 : decode cX5_store 33 = .ok (.bipush (-3), 2) := by decide +kernel
theorem dX5_store_35 : decode cX5_store 35 = .ok (.ireturn, 1) := by decide +kernel
theorem dX5_store_36 : decode cX5_store 36 = .ok (.aload 4, 2) := by decide +kernel
theorem dX5_store_38 : decode cX5_store 38 = .ok (.iload_n 2, 1) := by decide +kernel
theorem dX5_store_39 : decode cX5_store 39 = .ok (.invokevirtual 178, 3) := by decide +kernel
theorem dX5_store_42 : decode cX5_store 42 = .ok (.ifCond .ne 6, 3) := by decide +kernel
theorem dX5_store_45 : decode cX5_store 45 = .ok (.bipush (-13), 2) := by decide +kernel
theorem dX5_store_47 : decode cX5_store 47 = .ok (.ireturn, 1) := by decide +kernel
theorem dX5_store_48 : decode cX5_store 48 = .ok (.aload_n 0, 1) := by decide +kernel
theorem dX5_store_49 : decode cX5_store 49 = .ok (.getfield 26, 3) := by decide +kernel
theorem dX5_store_52 : decode cX5_store 52 = .ok (.aload_n 0, 1) := by decide +kernel
theorem dX5_store_53 : decode cX5_store 53 = .ok (.getfield 19, 3) := by decide +kernel
theorem dX5_store_56 : decode cX5_store 56 = .ok (.iload_n 3, 1) := by decide +kernel
theorem dX5_store_57 : decode cX5_store 57 = .ok (.invokevirtual 134, 3) := by decide +kernel
theorem dX5_store_60 : decode cX5_store 60 = .ok (.istore 5, 2) := by decide +kernel
theorem dX5_store_62 : decode cX5_store 62 = .ok (.aload 4, 2) := by decide +kernel
theorem dX5_store_64 : decode cX5_store 64 = .ok (.iload 5, 2) := by decide +kernel
theorem dX5_store_66 : decode cX5_store 66 = .ok (.invokevirtual 181, 3) := by decide +kernel
theorem dX5_store_69 : decode cX5_store 69 = .ok (.ifCond .ne 6, 3) := by decide +kernel
theorem dX5_store_72 : decode cX5_store 72 = .ok (.bipush (-11), 2) := by decide +kernel
theorem dX5_store_74 : decode cX5_store 74 = .ok (.ireturn, 1) := by decide +kernel
theorem dX5_store_75 : decode cX5_store 75 = .ok (.aload 4, 2) := by decide +kernel
theorem dX5_store_77 : decode cX5_store 77 = .ok (.iload_n 2, 1) := by decide +kernel
theorem dX5_store_78 : decode cX5_store 78 = .ok (.aload_n 0, 1) := by decide +kernel
theorem dX5_store_79 : decode cX5_store 79 = .ok (.getfield 19, 3) := by decide +kernel
theorem dX5_store_82 : decode cX5_store 82 = .ok (.getfield 121, 3) := by decide +kernel
theorem dX5_store_85 : decode cX5_store 85 = .ok (.iload_n 3, 1) := by decide +kernel
theorem dX5_store_86 : decode cX5_store 86 = .ok (.iaload, 1) := by decide +kernel
theorem dX5_store_87 : decode cX5_store 87 = .ok (.aload_n 0, 1) := by decide +kernel
theorem dX5_store_88 : decode cX5_store 88 = .ok (.getfield 26, 3) := by decide +kernel
theorem dX5_store_91 : decode cX5_store 91 = .ok (.aload_n 0, 1) := by decide +kernel
theorem dX5_store_92 : decode cX5_store 92 = .ok (.getfield 19, 3) := by decide +kernel
theorem dX5_store_95 : decode cX5_store 95 = .ok (.iload_n 3, 1) := by decide +kernel
theorem dX5_store_96 : decode cX5_store 96 = .ok (.invokevirtual 127, 3) := by decide +kernel
theorem dX5_store_99 : decode cX5_store 99 = .ok (.iload 5, 2) := by decide +kernel
theorem dX5_store_101 : decode cX5_store 101 = .ok (.invokevirtual 184, 3) := by decide +kernel
theorem dX5_store_104 : decode cX5_store 104 = .ok (.iconst 1, 1) := by decide +kernel
theorem dX5_store_105 : decode cX5_store 105 = .ok (.ireturn, 1) := by decide +kernel
set_option maxRecDepth 20000 in
theorem ggX5_copy_X5_isPocket : GoodIn wsX5_copy wsX5_isPocket := goodIn_r _ [6] (by decide +kernel) (by decide +kernel)
set_option maxRecDepth 20000 in
theorem gX5_copy_X5_isPocket : GoodIn wsX5_copy (va_wsS RX5 171 yX5_isPocket wsX5_isPocket) := goodIn_app (goodIn_of _ (by decide +kernel)) ggX5_copy_X5_isPocket
set_option maxRecDepth 20000 in
theorem ggX5_copy_X3_becomeLike : GoodIn wsX5_copy wsX3_becomeLike := goodIn_r _ [11, 12, 13, 14, 15, 16, 17, 18, 19, 10, 20, 28, 29, 30, 31, 32] (by decide +kernel) (by decide +kernel)
set_option maxRecDepth 20000 in
theorem gX5_copy_X3_becomeLike : GoodIn wsX5_copy (wsV RX5 187 RX3 yX3_becomeLike wsX3_becomeLike) := goodIn_app (goodIn_of _ (by decide +kernel)) ggX5_copy_X3_becomeLike
theorem dX5_copy_0 : decode cX5_copy 0 = .ok (.iload_n 1, 1) := by decide +kernel
theorem dX5_copy_1 : decode cX5_copy 1 = .ok (.invokestatic 171, 3) := by decide +kernel
theorem dX5_copy_4 : decode cX5_copy 4 = .ok (.ifCond .eq 10, 3) := by decide +kernel
theorem dX5_copy_7 : decode cX5_copy 7 = .ok (.iload_n 2, 1) := by decide +kernel
theorem dX5_copy_8 : decode cX5_copy 8 = .ok (.invokestatic 171, 3) := by decide +kernel
theorem dX5_copy_11 : decode cX5_copy 11 = .ok (.ifCond .ne 5, 3) := by decide +kernel
theorem dX5_copy_14 : decode cX5_copy 14 = .ok (.iconst (-1), 1) := by decide +kernel
theorem dX5_copy_15 : decode cX5_copy 15 = .ok (.ireturn, 1) := by decide +kernel
theorem dX5_copy_16 : decode cX5_copy 16 = .ok (.aload_n 0, 1) := by decide +kernel
theorem dX5_copy_17 : decode cX5_copy 17 = .ok (.getfield 39, 3) := by decide +kernel
theorem dX5_copy_20 : decode cX5_copy 20 = .ok (.iload_n 1, 1) := by decide +kernel
theorem dX5_copy_21 : decode cX5_copy 21 = .ok (.aaload, 1) := by decide +kernel
theorem dX5_copy_22 : decode cX5_copy 22 = .ok (.getfield 177, 3) := by decide +kernel
theorem dX5_copy_25 : decode cX5_copy 25 = .ok (.ifCond .ne 6, 3) := by decide +kernel
theorem dX5_copy_28 : decode cX5_copy 28 = .ok (.bipush (-3), 2) := by decide +kernel
theorem dX5_copy_30 : decode cX5_copy 30 = .ok (.ireturn, 1) := by decide +kernel
theorem dX5_copy_31 : decode cX5_copy 31 = .ok (.aload_n 0, 1) := by decide +kernel
theorem dX5_copy_32 : decode cX5_copy 32 = .ok (.getfield 39, 3) := by decide +kernel
theorem dX5_copy_35 : decode cX5_copy 35 = .ok (.iload_n 2, 1) := by decide +kernel
theorem dX5_copy_36 : decode cX5_copy 36 = .ok (.aaload, 1) := by decide +kernel
theorem dX5_copy_37 : decode cX5_copy 37 = .ok (.aload_n 0, 1) := by decide +kernel
theorem dX5_copy_38 : decode cX5_copy 38 = .ok (.getfield 39, 3) := by decide +kernel
theorem dX5_copy_41 : decode cX5_copy 41 = .ok (.iload_n 1, 1) := by decide +kernel
theorem dX5_copy_42 : decode cX5_copy 42 = .ok (.aaload, 1) := by decide +kernel
theorem dX5_copy_43 : decode cX5_copy 43 = .ok (.invokevirtual 187, 3) := by decide +kernel
theorem dX5_copy_46 : decode cX5_copy 46 = .ok (.iconst 1, 1) := by decide +kernel
theorem dX5_copy_47 : decode cX5_copy 47 = .ok (.ireturn, 1) := by decide +kernel
set_option maxRecDepth 20000 in
theorem ggX5_ofPocket_X5_isPocket : GoodIn wsX5_ofPocket wsX5_isPocket := goodIn_r _ [6] (by decide +kernel) (by decide +kernel)
set_option maxRecDepth 20000 in
theorem gX5_ofPocket_X5_isPocket : GoodIn wsX5_ofPocket (va_wsS RX5 171 yX5_isPocket wsX5_isPocket) := goodIn_app (goodIn_of _ (by decide +kernel)) ggX5_ofPocket_X5_isPocket
set_option maxRecDepth 20000 in
theorem ggX5_ofPocket_X3_hasCell : GoodIn wsX5_ofPocket wsX3_hasCell := goodIn_r _ [11, 12, 27, 28, 29, 30, 31] (by decide +kernel) (by decide +kernel)
set_option maxRecDepth 20000 in
theorem gX5_ofPocket_X3_hasCell : GoodIn wsX5_ofPocket (wsV RX5 178 RX3 yX3_hasCell wsX3_hasCell) := goodIn_app (goodIn_of _ (by decide +kernel)) ggX5_ofPocket_X3_hasCell
set_option maxRecDepth 20000 in
theorem ggX5_ofPocket_X3_tell : GoodIn wsX5_ofPocket wsX3_tell := goodIn_r _ [16, 17, 18, 19, 27, 28, 29, 30, 31] (by decide +kernel) (by decide +kernel)
set_option maxRecDepth 20000 in
theorem gX5_ofPocket_X3_tell : GoodIn wsX5_ofPocket (wsV RX5 191 RX3 yX3_tell wsX3_tell) := goodIn_app (goodIn_of _ (by decide +kernel)) ggX5_ofPocket_X3_tell
theorem dX5_ofPocket_0 : decode cX5_ofPocket 0 = .ok (.iload_n 1, 1) := by decide +kernel
theorem dX5_ofPocket_1 : decode cX5_ofPocket 1 = .ok (.invokestatic 171, 3) := by decide +kernel
theorem dX5_ofPocket_4 : decode cX5_ofPocket 4 = .ok (.ifCond .ne 5, 3) := by decide +kernel
theorem dX5_ofPocket_7 : decode cX5_ofPocket 7 = .ok (.iconst (-1), 1) := by decide +kernel
theorem dX5_ofPocket_8 : decode cX5_ofPocket 8 = .ok (.ireturn, 1) := by decide +kernel
theorem dX5_ofPocket_9 : decode cX5_ofPocket 9 = .ok (.iload_n 3, 1) := by decide +kernel
theorem dX5_ofPocket_10 : decode cX5_ofPocket 10 = .ok (.ifCond .lt 8, 3) := by decide +kernel
theorem dX5_ofPocket_13 : decode cX5_ofPocket 13 = .ok (.iload_n 3, 1) := by decide +kernel
theorem dX5_ofPocket_14 : decode cX5_ofPocket 14 = .ok (.iconst 2, 1) := by decide +kernel
theorem dX5_ofPocket_15 : decode cX5_ofPocket 15 = .ok (.if_icmp .le 6, 3) := by decide +kernel
theorem dX5_ofPocket_18 : decode cX5_ofPocket 18 = .ok (.bipush (-2), 2) := by decide +kernel
theorem dX5_ofPocket_20 : decode cX5_ofPocket 20 = .ok (.ireturn, 1) := by decide +kernel
theorem dX5_ofPocket_21 : decode cX5_ofPocket 21 = .ok (.aload_n 0, 1) := by decide +kernel
theorem dX5_ofPocket_22 : decode cX5_ofPocket 22 = .ok (.getfield 39, 3) := by decide +kernel
theorem dX5_ofPocket_25 : decode cX5_ofPocket 25 = .ok (.iload_n 1, 1) := by decide +kernel
theorem dX5_ofPocket_26 : decode cX5_ofPocket 26 = .ok (.aaload, 1) := by decide +kernel
theorem dX5_ofPocket_27 : decode cX5_ofPocket 27 = .ok (.astore 4, 2) := by decide +kernel
theorem dX5_ofPocket_29 : decode cX5_ofPocket 29 = .ok (.aload 4, 2) := by decide +kernel
theorem dX5_ofPocket_31 : decode cX5_ofPocket 31 = .ok (.getfield 177, 3) := by decide +kernel
theorem dX5_ofPocket_34 : decode cX5_ofPocket 34 = .ok (.ifCond .ne 6, 3) := by decide +kernel
theorem dX5_ofPocket_37 : decode cX5_ofPocket 37 = .ok (.bipush (-3), 2) := by decide +kernel
theorem dX5_ofPocket_39 : decode cX5_ofPocket 39 = .ok (.ireturn, 1) := by decide +kernel
theorem dX5_ofPocket_40 : decode cX5_ofPocket 40 = .ok (.aload 4, 2) := by decide +kernel
theorem dX5_ofPocket_42 : decode cX5_ofPocket 42 = .ok (.iload_n 2, 1) := by decide +kernel
theorem dX5_ofPocket_43 : decode cX5_ofPocket 43 = .ok (.invokevirtual 178, 3) := by decide +kernel
theorem dX5_ofPocket_46 : decode cX5_ofPocket 46 = .ok (.ifCond .ne 6, 3) := by decide +kernel
theorem dX5_ofPocket_49 : decode cX5_ofPocket 49 = .ok (.bipush (-13), 2) := by decide +kernel
theorem dX5_ofPocket_51 : decode cX5_ofPocket 51 = .ok (.ireturn, 1) := by decide +kernel
theorem dX5_ofPocket_52 : decode cX5_ofPocket 52 = .ok (.aload 4, 2) := by decide +kernel
theorem dX5_ofPocket_54 : decode cX5_ofPocket 54 = .ok (.iload_n 2, 1) := by decide +kernel
theorem dX5_ofPocket_55 : decode cX5_ofPocket 55 = .ok (.iload_n 3, 1) := by decide +kernel
theorem dX5_ofPocket_56 : decode cX5_ofPocket 56 = .ok (.invokevirtual 191, 3) := by decide +kernel
theorem dX5_ofPocket_59 : decode cX5_ofPocket 59 = .ok (.ireturn, 1) := by decide +kernel
set_option maxRecDepth 20000 in
theorem ggX5_many_X2_withoutPartner : GoodIn wsX5_many wsX2_withoutPartner := goodIn_r _ [9, 10, 11, 38, 39, 40, 41, 42, 43, 44, 45, 46, 47, 48, 49, 50, 51] (by decide +kernel) (by decide +kernel)
set_option maxRecDepth 20000 in
theorem gX5_many_X2_withoutPartner : GoodIn wsX5_many (wsV RX5 198 RX2 yX2_withoutPartner wsX2_withoutPartner) := goodIn_app (goodIn_of _ (by decide +kernel)) ggX5_many_X2_withoutPartner
set_option maxRecDepth 20000 in
theorem ggX5_many_X5_allStrays : GoodIn wsX5_many wsX5_allStrays := goodIn_r _ [16, 1, 2, 3, 17, 29, 30, 31, 32, 33, 34, 35, 36, 37, 38, 39, 40, 41, 42, 43, 44, 45, 46, 47, 48, 49, 50, 51] (by decide +kernel) (by decide +kernel)
set_option maxRecDepth 20000 in
theorem gX5_many_X5_allStrays : GoodIn wsX5_many (wsV RX5 201 RX5 yX5_allStrays wsX5_allStrays) := goodIn_app (goodIn_of _ (by decide +kernel)) ggX5_many_X5_allStrays
set_option maxRecDepth 20000 in
theorem ggX5_many_X5_seenLines : GoodIn wsX5_many wsX5_seenLines := goodIn_r _ [21, 1, 2, 22, 23, 29, 30, 31, 32, 33, 34, 35, 36, 37, 52, 53, 54, 55, 56, 57] (by decide +kernel) (by decide +kernel)
set_option maxRecDepth 20000 in
theorem gX5_many_X5_seenLines : GoodIn wsX5_many (wsV RX5 204 RX5 yX5_seenLines wsX5_seenLines) := goodIn_app (goodIn_of _ (by decide +kernel)) ggX5_many_X5_seenLines
set_option maxRecDepth 20000 in
theorem ggX5_many_X5_allTokens : GoodIn wsX5_many wsX5_allTokens := goodIn_r _ [27, 1, 2, 22, 28, 29, 30, 31, 32, 33, 34, 35, 36, 37, 52, 53, 54, 55, 56, 57] (by decide +kernel) (by decide +kernel)
set_option maxRecDepth 20000 in
theorem gX5_many_X5_allTokens : GoodIn wsX5_many (wsV RX5 207 RX5 yX5_allTokens wsX5_allTokens) := goodIn_app (goodIn_of _ (by decide +kernel)) ggX5_many_X5_allTokens
theorem dX5_many_0 : decode cX5_many 0 = .ok (.iload_n 1, 1) := by decide +kernel
theorem dX5_many_1 : decode cX5_many 1 = .ok (.tableswitch 78 0 5 #[39, 47, 55, 63, 68, 73], 39) := by decide +kernel
theorem dX5_many_40 : decode cX5_many 40 = .ok (.aload_n 0, 1) := by decide +kernel
theorem dX5_many_41 : decode cX5_many 41 = .ok (.getfield 12, 3) := by decide +kernel
theorem dX5_many_44 : decode cX5_many 44 = .ok (.getfield 48, 3) := by decide +kernel
theorem dX5_many_47 : decode cX5_many 47 = .ok (.ireturn, 1) := by decide +kernel
theorem dX5_many_48 : decode cX5_many 48 = .ok (.aload_n 0, 1) := by decide +kernel
theorem dX5_many_49 : decode cX5_many 49 = .ok (.getfield 19, 3) := by decide +kernel
theorem dX5_many_52 : decode cX5_many 52 = .ok (.getfield 195, 3) := by decide +kernel
theorem dX5_many_55 : decode cX5_many 55 = .ok (.ireturn, 1) := by decide +kernel
theorem dX5_many_56 : decode cX5_many 56 = .ok (.aload_n 0, 1) := by decide +kernel
theorem dX5_many_57 : decode cX5_many 57 = .ok (.getfield 19, 3) := by decide +kernel
theorem dX5_many_60 : decode cX5_many 60 = .ok (.invokevirtual 198, 3) := by decide +kernel
theorem dX5_many_63 : decode cX5_many 63 = .ok (.ireturn, 1) := by decide +kernel
theorem dX5_many_64 : decode cX5_many 64 = .ok (.aload_n 0, 1) := by decide +kernel
theorem dX5_many_65 : decode cX5_many 65 = .ok (.invokevirtual 201, 3) := by decide +kernel
theorem dX5_many_68 : decode cX5_many 68 = .ok (.ireturn, 1) := by decide +kernel
theorem dX5_many_69 : decode cX5_many 69 = .ok (.aload_n 0, 1) := by decide +kernel
theorem dX5_many_70 : decode cX5_many 70 = .ok (.invokevirtual 204, 3) := by decide +kernel
theorem dX5_many_73 : decode cX5_many 73 = .ok (.ireturn, 1) := by decide +kernel
theorem dX5_many_74 : decode cX5_many 74 = .ok (.aload_n 0, 1) := by decide +kernel
theorem dX5_many_75 : decode cX5_many 75 = .ok (.invokevirtual 207, 3) := by decide +kernel
theorem dX5_many_78 : decode cX5_many 78 = .ok (.ireturn, 1) := by decide +kernel
theorem dX5_many_79 : decode cX5_many 79 = .ok (.bipush (-2), 2) := by decide +kernel
theorem dX5_many_81 : decode cX5_many 81 = .ok (.ireturn, 1) := by decide +kernel
theorem dX5_isLine_0 : decode cX5_isLine 0 = .ok (.iload_n 1, 1) := by decide +kernel
theorem dX5_isLine_1 : decode cX5_isLine 1 = .ok (.ifCond .lt 18, 3) := by decide +kernel
theorem dX5_isLine_4 : decode cX5_isLine 4 = .ok (.iload_n 1, 1) := by decide +kernel
theorem dX5_isLine_5 : decode cX5_isLine 5 = .ok (.aload_n 0, 1) := by decide +kernel
theorem dX5_isLine_6 : decode cX5_isLine 6 = .ok (.getfield 12, 3) := by decide +kernel
theorem dX5_isLine_9 : decode cX5_isLine 9 = .ok (.getfield 48, 3) := by decide +kernel
theorem dX5_isLine_12 : decode cX5_isLine 12 = .ok (.if_icmp .ge 7, 3) := by decide +kernel
theorem dX5_isLine_15 : decode cX5_isLine 15 = .ok (.iconst 1, 1) := by decide +kernel
theorem dX5_isLine_16 : decode cX5_isLine 16 = .ok (.goto 4, 3) := by decide +kernel
theorem dX5_isLine_19 : decode cX5_isLine 19 = .ok (.iconst 0, 1) := by decide +kernel
theorem dX5_isLine_20 : decode cX5_isLine 20 = .ok (.ireturn, 1) := by decide +kernel
theorem dX5_isOpener_0 : decode cX5_isOpener 0 = .ok (.iload_n 1, 1) := by decide +kernel
theorem dX5_isOpener_1 : decode cX5_isOpener 1 = .ok (.ifCond .lt 18, 3) := by decide +kernel
theorem dX5_isOpener_4 : decode cX5_isOpener 4 = .ok (.iload_n 1, 1) := by decide +kernel
theorem dX5_isOpener_5 : decode cX5_isOpener 5 = .ok (.aload_n 0, 1) := by decide +kernel
theorem dX5_isOpener_6 : decode cX5_isOpener 6 = .ok (.getfield 19, 3) := by decide +kernel
theorem dX5_isOpener_9 : decode cX5_isOpener 9 = .ok (.getfield 195, 3) := by decide +kernel
theorem dX5_isOpener_12 : decode cX5_isOpener 12 = .ok (.if_icmp .ge 7, 3) := by decide +kernel
theorem dX5_isOpener_15 : decode cX5_isOpener 15 = .ok (.iconst 1, 1) := by decide +kernel
theorem dX5_isOpener_16 : decode cX5_isOpener 16 = .ok (.goto 4, 3) := by decide +kernel
theorem dX5_isOpener_19 : decode cX5_isOpener 19 = .ok (.iconst 0, 1) := by decide +kernel
theorem dX5_isOpener_20 : decode cX5_isOpener 20 = .ok (.ireturn, 1) := by decide +kernel
theorem dX5_isPocket_0 : decode cX5_isPocket 0 = .ok (.iload_n 0, 1) := by decide +kernel
theorem dX5_isPocket_1 : decode cX5_isPocket 1 = .ok (.ifCond .lt 12, 3) := by decide +kernel
theorem dX5_isPocket_4 : decode cX5_isPocket 4 = .ok (.iload_n 0, 1) := by decide +kernel
theorem dX5_isPocket_5 : decode cX5_isPocket 5 = .ok (.iconst 3, 1) := by decide +kernel
theorem dX5_isPocket_6 : decode cX5_isPocket 6 = .ok (.if_icmp .ge 7, 3) := by decide +kernel
theorem dX5_isPocket_9 : decode cX5_isPocket 9 = .ok (.iconst 1, 1) := by decide +kernel
theorem dX5_isPocket_10 : decode cX5_isPocket 10 = .ok (.goto 4, 3) := by decide +kernel
theorem dX5_isPocket_13 : decode cX5_isPocket 13 = .ok (.iconst 0, 1) := by decide +kernel
theorem dX5_isPocket_14 : decode cX5_isPocket 14 = .ok (.ireturn, 1) := by decide +kernel
theorem dX5_areTokens_0 : decode cX5_areTokens 0 = .ok (.iload_n 0, 1) := by decide +kernel
theorem dX5_areTokens_1 : decode cX5_areTokens 1 = .ok (.ifCond .lt 9, 3) := by decide +kernel
theorem dX5_areTokens_4 : decode cX5_areTokens 4 = .ok (.iload_n 0, 1) := by decide +kernel
theorem dX5_areTokens_5 : decode cX5_areTokens 5 = .ok (.ldc 210, 2) := by decide +kernel
theorem dX5_areTokens_7 : decode cX5_areTokens 7 = .ok (.if_icmp .le 5, 3) := by decide +kernel
theorem dX5_areTokens_10 : decode cX5_areTokens 10 = .ok (.iconst 0, 1) := by decide +kernel
theorem dX5_areTokens_11 : decode cX5_areTokens 11 = .ok (.ireturn, 1) := by decide +kernel
theorem dX5_areTokens_12 : decode cX5_areTokens 12 = .ok (.iload_n 0, 1) := by decide +kernel
theorem dX5_areTokens_13 : decode cX5_areTokens 13 = .ok (.istore_n 1, 1) := by decide +kernel
theorem dX5_areTokens_14 : decode cX5_areTokens 14 = .ok (.iconst 0, 1) := by decide +kernel
theorem dX5_areTokens_15 : decode cX5_areTokens 15 = .ok (.istore_n 2, 1) := by decide +kernel
theorem dX5_areTokens_16 : decode cX5_areTokens 16 = .ok (.iload_n 2, 1) := by decide +kernel
theorem dX5_areTokens_17 : decode cX5_areTokens 17 = .ok (.bipush 9, 2) := by decide +kernel
theorem dX5_areTokens_19 : decode cX5_areTokens 19 = .ok (.if_icmp .ge 27, 3) := by decide +kernel
theorem dX5_areTokens_22 : decode cX5_areTokens 22 = .ok (.iload_n 1, 1) := by decide +kernel
theorem dX5_areTokens_23 : decode cX5_areTokens 23 = .ok (.ifCond .le 23, 3) := by decide +kernel
theorem dX5_areTokens_26 : decode cX5_areTokens 26 = .ok (.iload_n 1, 1) := by decide +kernel
theorem dX5_areTokens_27 : decode cX5_areTokens 27 = .ok (.bipush 10, 2) := by decide +kernel
theorem dX5_areTokens_29 : decode cX5_areTokens 29 = .ok (.irem, 1) := by decide +kernel
theorem dX5_areTokens_30 : decode cX5_areTokens 30 = .ok (.ifCond .ne 5, 3) := by decide +kernel
theorem dX5_areTokens_33 : decode cX5_areTokens 33 = .ok (.iconst 0, 1) := by decide +kernel
theorem dX5_areTokens_34 : decode cX5_areTokens 34 = .ok (.ireturn, 1) := by decide +kernel
theorem dX5_areTokens_35 : decode cX5_areTokens 35 = .ok (.iload_n 1, 1) := by decide +kernel
theorem dX5_areTokens_36 : decode cX5_areTokens 36 = .ok (.bipush 10, 2) := by decide +kernel
theorem dX5_areTokens_38 : decode cX5_areTokens 38 = .ok (.idiv, 1) := by decide +kernel
theorem dX5_areTokens_39 : decode cX5_areTokens 39 = .ok (.istore_n 1, 1) := by decide +kernel
theorem dX5_areTokens_40 : decode cX5_areTokens 40 = .ok (.iinc 2 1, 3) := by decide +kernel
theorem dX5_areTokens_43 : decode cX5_areTokens 43 = .ok (.goto (-27), 3) := by decide +kernel
theorem dX5_areTokens_46 : decode cX5_areTokens 46 = .ok (.iconst 1, 1) := by decide +kernel
theorem dX5_areTokens_47 : decode cX5_areTokens 47 = .ok (.ireturn, 1) := by decide +kernel
theorem dX5_isSetting_0 : decode cX5_isSetting 0 = .ok (.iload_n 1, 1) := by decide +kernel
theorem dX5_isSetting_1 : decode cX5_isSetting 1 = .ok (.getstatic 211, 3) := by decide +kernel
theorem dX5_isSetting_4 : decode cX5_isSetting 4 = .ok (.iload_n 0, 1) := by decide +kernel
theorem dX5_isSetting_5 : decode cX5_isSetting 5 = .ok (.iaload, 1) := by decide +kernel
theorem dX5_isSetting_6 : decode cX5_isSetting 6 = .ok (.if_icmp .lt 16, 3) := by decide +kernel
theorem dX5_isSetting_9 : decode cX5_isSetting 9 = .ok (.iload_n 1, 1) := by decide +kernel
theorem dX5_isSetting_10 : decode cX5_isSetting 10 = .ok (.getstatic 214, 3) := by decide +kernel
theorem dX5_isSetting_13 : decode cX5_isSetting 13 = .ok (.iload_n 0, 1) := by decide +kernel
theorem dX5_isSetting_14 : decode cX5_isSetting 14 = .ok (.iaload, 1) := by decide +kernel
theorem dX5_isSetting_15 : decode cX5_isSetting 15 = .ok (.if_icmp .gt 7, 3) := by decide +kernel
theorem dX5_isSetting_18 : decode cX5_isSetting 18 = .ok (.iconst 1, 1) := by decide +kernel
theorem dX5_isSetting_19 : decode cX5_isSetting 19 = .ok (.goto 4, 3) := by decide +kernel
theorem dX5_isSetting_22 : decode cX5_isSetting 22 = .ok (.iconst 0, 1) := by decide +kernel
theorem dX5_isSetting_23 : decode cX5_isSetting 23 = .ok (.ireturn, 1) := by decide +kernel
set_option maxRecDepth 20000 in
theorem ggX5_isStyle_X5_isSetting : GoodIn wsX5_isStyle wsX5_isSetting := goodIn_r _ [4, 5, 6] (by decide +kernel) (by decide +kernel)
set_option maxRecDepth 20000 in
theorem gX5_isStyle_X5_isSetting : GoodIn wsX5_isStyle (va_wsS RX5 86 yX5_isSetting wsX5_isSetting) := goodIn_app (goodIn_of _ (by decide +kernel)) ggX5_isStyle_X5_isSetting
theorem dX5_isStyle_0 : decode cX5_isStyle 0 = .ok (.iconst 0, 1) := by decide +kernel
theorem dX5_isStyle_1 : decode cX5_isStyle 1 = .ok (.iload_n 0, 1) := by decide +kernel
theorem dX5_isStyle_2 : decode cX5_isStyle 2 = .ok (.invokestatic 86, 3) := by decide +kernel
theorem dX5_isStyle_5 : decode cX5_isStyle 5 = .ok (.ifCond .eq 31, 3) := by decide +kernel
theorem dX5_isStyle_8 : decode cX5_isStyle 8 = .ok (.iconst 1, 1) := by decide +kernel
theorem dX5_isStyle_9 : decode cX5_isStyle 9 = .ok (.iload_n 1, 1) := by decide +kernel
theorem dX5_isStyle_10 : decode cX5_isStyle 10 = .ok (.invokestatic 86, 3) := by decide +kernel
theorem dX5_isStyle_13 : decode cX5_isStyle 13 = .ok (.ifCond .eq 23, 3) := by decide +kernel
theorem dX5_isStyle_16 : decode cX5_isStyle 16 = .ok (.iconst 2, 1) := by decide +kernel
theorem dX5_isStyle_17 : decode cX5_isStyle 17 = .ok (.iload_n 2, 1) := by decide +kernel
theorem dX5_isStyle_18 : decode cX5_isStyle 18 = .ok (.invokestatic 86, 3) := by decide +kernel
theorem dX5_isStyle_21 : decode cX5_isStyle 21 = .ok (.ifCond .eq 15, 3) := by decide +kernel
theorem dX5_isStyle_24 : decode cX5_isStyle 24 = .ok (.iconst 3, 1) := by decide +kernel
theorem dX5_isStyle_25 : decode cX5_isStyle 25 = .ok (.iload_n 3, 1) := by decide +kernel
theorem dX5_isStyle_26 : decode cX5_isStyle 26 = .ok (.invokestatic 86, 3) := by decide +kernel
theorem dX5_isStyle_29 : decode cX5_isStyle 29 = .ok (.ifCond .eq 7, 3) := by decide +kernel
theorem dX5_isStyle_32 : decode cX5_isStyle 32 = .ok (.iconst 1, 1) := by decide +kernel
theorem dX5_isStyle_33 : decode cX5_isStyle 33 = .ok (.goto 4, 3) := by decide +kernel
theorem dX5_isStyle_36 : decode cX5_isStyle 36 = .ok (.iconst 0, 1) := by decide +kernel
theorem dX5_isStyle_37 : decode cX5_isStyle 37 = .ok (.ireturn, 1) := by decide +kernel
set_option maxRecDepth 20000 in
theorem ggX5_readLines_X2_read : GoodIn wsX5_readLines wsX2_read := goodIn_r _ [8, 9, 10, 11, 12, 13, 14, 15, 16, 17, 18, 19, 20, 21, 7, 22, 23, 24, 25, 26, 27, 28, 29, 30, 31, 32, 33, 34, 35, 36, 37, 38, 39, 40, 41, 42, 43, 44, 45, 46, 47, 48, 49, 50, 99, 100, 101, 102, 103, 104, 105, 106, 107, 108, 109, 110, 111, 112, 113, 114, 115, 116, 117, 118, 119, 120] (by decide +kernel) (by decide +kernel)
set_option maxRecDepth 20000 in
theorem gX5_readLines_X2_read : GoodIn wsX5_readLines (wsV RX5 217 RX2 yX2_read wsX2_read) := goodIn_app (goodIn_of _ (by decide +kernel)) ggX5_readLines_X2_read
set_option maxRecDepth 20000 in
theorem ggX5_readLines_X0_lay : GoodIn wsX5_readLines wsX0_lay := goodIn_r _ [55, 56, 57, 58, 59, 60, 61, 62, 63, 54, 64, 65, 66, 67, 68, 69, 70, 71, 72, 73, 74, 75, 76, 77, 78, 79, 80, 81, 82, 83, 84, 85, 86, 87, 88, 89, 90, 91, 113, 114, 121, 122, 115, 116, 117, 118, 119, 120, 99, 100, 101, 102, 103, 104, 105, 106, 107, 108, 109, 110, 111, 112] (by decide +kernel) (by decide +kernel)
set_option maxRecDepth 20000 in
theorem gX5_readLines_X0_lay : GoodIn wsX5_readLines (wsV RX5 93 RX0 yX0_lay wsX0_lay) := goodIn_app (goodIn_of _ (by decide +kernel)) ggX5_readLines_X0_lay
theorem dX5_readLines_0 : decode cX5_readLines 0 = .ok (.aload_n 0, 1) := by decide +kernel
theorem dX5_readLines_1 : decode cX5_readLines 1 = .ok (.getfield 19, 3) := by decide +kernel
theorem dX5_readLines_4 : decode cX5_readLines 4 = .ok (.aload_n 0, 1) := by decide +kernel
theorem dX5_readLines_5 : decode cX5_readLines 5 = .ok (.getfield 12, 3) := by decide +kernel
theorem dX5_readLines_8 : decode cX5_readLines 8 = .ok (.invokevirtual 217, 3) := by decide +kernel
theorem dX5_readLines_11 : decode cX5_readLines 11 = .ok (.aload_n 0, 1) := by decide +kernel
theorem dX5_readLines_12 : decode cX5_readLines 12 = .ok (.getfield 26, 3) := by decide +kernel
theorem dX5_readLines_15 : decode cX5_readLines 15 = .ok (.aload_n 0, 1) := by decide +kernel
theorem dX5_readLines_16 : decode cX5_readLines 16 = .ok (.getfield 12, 3) := by decide +kernel
theorem dX5_readLines_19 : decode cX5_readLines 19 = .ok (.aload_n 0, 1) := by decide +kernel
theorem dX5_readLines_20 : decode cX5_readLines 20 = .ok (.getfield 19, 3) := by decide +kernel
theorem dX5_readLines_23 : decode cX5_readLines 23 = .ok (.invokevirtual 93, 3) := by decide +kernel
theorem dX5_readLines_26 : decode cX5_readLines 26 = .ok (.return_, 1) := by decide +kernel
theorem dX5_rememberColumns_0 : decode cX5_rememberColumns 0 = .ok (.iconst 0, 1) := by decide +kernel
theorem dX5_rememberColumns_1 : decode cX5_rememberColumns 1 = .ok (.istore_n 1, 1) := by decide +kernel
theorem dX5_rememberColumns_2 : decode cX5_rememberColumns 2 = .ok (.iload_n 1, 1) := by decide +kernel
theorem dX5_rememberColumns_3 : decode cX5_rememberColumns 3 = .ok (.aload_n 0, 1) := by decide +kernel
theorem dX5_rememberColumns_4 : decode cX5_rememberColumns 4 = .ok (.getfield 12, 3) := by decide +kernel
theorem dX5_rememberColumns_7 : decode cX5_rememberColumns 7 = .ok (.getfield 48, 3) := by decide +kernel
theorem dX5_rememberColumns_10 : decode cX5_rememberColumns 10 = .ok (.if_icmp .ge 30, 3) := by decide +kernel
theorem dX5_rememberColumns_13 : decode cX5_rememberColumns 13 = .ok (.aload_n 0, 1) := by decide +kernel
theorem dX5_rememberColumns_14 : decode cX5_rememberColumns 14 = .ok (.getfield 12, 3) := by decide +kernel
theorem dX5_rememberColumns_17 : decode cX5_rememberColumns 17 = .ok (.getfield 73, 3) := by decide +kernel
theorem dX5_rememberColumns_20 : decode cX5_rememberColumns 20 = .ok (.iload_n 1, 1) := by decide +kernel
theorem dX5_rememberColumns_21 : decode cX5_rememberColumns 21 = .ok (.aaload, 1) := by decide +kernel
theorem dX5_rememberColumns_22 : decode cX5_rememberColumns 22 = .ok (.aload_n 0, 1) := by decide +kernel
theorem dX5_rememberColumns_23 : decode cX5_rememberColumns 23 = .ok (.getfield 26, 3) := by decide +kernel
theorem dX5_rememberColumns_26 : decode cX5_rememberColumns 26 = .ok (.getfield 100, 3) := by decide +kernel
theorem dX5_rememberColumns_29 : decode cX5_rememberColumns 29 = .ok (.iload_n 1, 1) := by decide +kernel
theorem dX5_rememberColumns_30 : decode cX5_rememberColumns 30 = .ok (.iaload, 1) := by decide +kernel
theorem dX5_rememberColumns_31 : decode cX5_rememberColumns 31 = .ok (.putfield 220, 3) := by decide +kernel
theorem dX5_rememberColumns_34 : decode cX5_rememberColumns 34 = .ok (.iinc 1 1, 3) := by decide +kernel
theorem dX5_rememberColumns_37 : decode cX5_rememberColumns 37 = .ok (.goto (-35), 3) := by decide +kernel
theorem dX5_rememberColumns_40 : decode cX5_rememberColumns 40 = .ok (.return_, 1) := by decide +kernel
theorem dX5_movedBut_0 : decode cX5_movedBut 0 = .ok (.iconst 0, 1) := by decide +kernel
theorem dX5_movedBut_1 : decode cX5_movedBut 1 = .ok (.istore_n 2, 1) := by decide +kernel
theorem dX5_movedBut_2 : decode cX5_movedBut 2 = .ok (.iconst 0, 1) := by decide +kernel
theorem dX5_movedBut_3 : decode cX5_movedBut 3 = .ok (.istore_n 3, 1) := by decide +kernel
theorem dX5_movedBut_4 : decode cX5_movedBut 4 = .ok (.iload_n 3, 1) := by decide +kernel
theorem dX5_movedBut_5 : decode cX5_movedBut 5 = .ok (.aload_n 0, 1) := by decide +kernel
theorem dX5_movedBut_6 : decode cX5_movedBut 6 = .ok (.getfield 12, 3) := by decide +kernel
theorem dX5_movedBut_9 : decode cX5_movedBut 9 = .ok (.getfield 48, 3) := by decide +kernel
theorem dX5_movedBut_12 : decode cX5_movedBut 12 = .ok (.if_icmp .ge 41, 3) := by decide +kernel
theorem dX5_movedBut_15 : decode cX5_movedBut 15 = .ok (.iload_n 3, 1) := by decide +kernel
theorem dX5_movedBut_16 : decode cX5_movedBut 16 = .ok (.iload_n 1, 1) := by decide +kernel
theorem dX5_movedBut_17 : decode cX5_movedBut 17 = .ok (.if_icmp .eq 30, 3) := by decide +kernel
theorem dX5_movedBut_20 : decode cX5_movedBut 20 = .ok (.aload_n 0, 1) := by decide +kernel
theorem dX5_movedBut_21 : decode cX5_movedBut 21 = .ok (.getfield 12, 3) := by decide +kernel
theorem dX5_movedBut_24 : decode cX5_movedBut 24 = .ok (.getfield 73, 3) := by decide +kernel
theorem dX5_movedBut_27 : decode cX5_movedBut 27 = .ok (.iload_n 3, 1) := by decide +kernel
theorem dX5_movedBut_28 : decode cX5_movedBut 28 = .ok (.aaload, 1) := by decide +kernel
theorem dX5_movedBut_29 : decode cX5_movedBut 29 = .ok (.getfield 220, 3) := by decide +kernel
theorem dX5_movedBut_32 : decode cX5_movedBut 32 = .ok (.aload_n 0, 1) := by decide +kernel
theorem dX5_movedBut_33 : decode cX5_movedBut 33 = .ok (.getfield 26, 3) := by decide +kernel
theorem dX5_movedBut_36 : decode cX5_movedBut 36 = .ok (.getfield 100, 3) := by decide +kernel
theorem dX5_movedBut_39 : decode cX5_movedBut 39 = .ok (.iload_n 3, 1) := by decide +kernel
theorem dX5_movedBut_40 : decode cX5_movedBut 40 = .ok (.iaload, 1) := by decide +kernel
theorem dX5_movedBut_41 : decode cX5_movedBut 41 = .ok (.if_icmp .eq 6, 3) := by decide +kernel
theorem dX5_movedBut_44 : decode cX5_movedBut 44 = .ok (.iinc 2 1, 3) := by decide +kernel
theorem dX5_movedBut_47 : decode cX5_movedBut 47 = .ok (.iinc 3 1, 3) := by decide +kernel
theorem dX5_movedBut_50 : decode cX5_movedBut 50 = .ok (.goto (-46), 3) := by decide +kernel
theorem dX5_movedBut_53 : decode cX5_movedBut 53 = .ok (.iload_n 2, 1) := by decide +kernel
theorem dX5_movedBut_54 : decode cX5_movedBut 54 = .ok (.ireturn, 1) := by decide +kernel
set_option maxRecDepth 20000 in
theorem ggX5_isAsSeen_X1_counts : GoodIn wsX5_isAsSeen wsX1_counts := goodIn_r _ [9, 10, 11, 21, 22, 23, 24, 25, 26] (by decide +kernel) (by decide +kernel)
set_option maxRecDepth 20000 in
theorem gX5_isAsSeen_X1_counts : GoodIn wsX5_isAsSeen (wsV RX5 140 RX1 yX1_counts wsX1_counts) := goodIn_app (goodIn_of _ (by decide +kernel)) ggX5_isAsSeen_X1_counts
theorem dX5_isAsSeen_0 : decode cX5_isAsSeen 0 = .ok (.aload_n 0, 1) := by decide +kernel
theorem dX5_isAsSeen_1 : decode cX5_isAsSeen 1 = .ok (.getfield 12, 3) := by decide +kernel
theorem dX5_isAsSeen_4 : decode cX5_isAsSeen 4 = .ok (.getfield 73, 3) := by decide +kernel
theorem dX5_isAsSeen_7 : decode cX5_isAsSeen 7 = .ok (.iload_n 2, 1) := by decide +kernel
theorem dX5_isAsSeen_8 : decode cX5_isAsSeen 8 = .ok (.aaload, 1) := by decide +kernel
theorem dX5_isAsSeen_9 : decode cX5_isAsSeen 9 = .ok (.astore_n 3, 1) := by decide +kernel
theorem dX5_isAsSeen_10 : decode cX5_isAsSeen 10 = .ok (.aload_n 3, 1) := by decide +kernel
theorem dX5_isAsSeen_11 : decode cX5_isAsSeen 11 = .ok (.invokevirtual 140, 3) := by decide +kernel
theorem dX5_isAsSeen_14 : decode cX5_isAsSeen 14 = .ok (.ifCond .eq 20, 3) := by decide +kernel
theorem dX5_isAsSeen_17 : decode cX5_isAsSeen 17 = .ok (.aload_n 3, 1) := by decide +kernel
theorem dX5_isAsSeen_18 : decode cX5_isAsSeen 18 = .ok (.getfield 115, 3) := by decide +kernel
theorem dX5_isAsSeen_21 : decode cX5_isAsSeen 21 = .ok (.aload_n 1, 1) := by decide +kernel
theorem dX5_isAsSeen_22 : decode cX5_isAsSeen 22 = .ok (.getfield 100, 3) := by decide +kernel
theorem dX5_isAsSeen_25 : decode cX5_isAsSeen 25 = .ok (.iload_n 2, 1) := by decide +kernel
theorem dX5_isAsSeen_26 : decode cX5_isAsSeen 26 = .ok (.iaload, 1) := by decide +kernel
theorem dX5_isAsSeen_27 : decode cX5_isAsSeen 27 = .ok (.if_icmp .ne 7, 3) := by decide +kernel
theorem dX5_isAsSeen_30 : decode cX5_isAsSeen 30 = .ok (.iconst 1, 1) := by decide +kernel
theorem dX5_isAsSeen_31 : decode cX5_isAsSeen 31 = .ok (.goto 4, 3) := by decide +kernel
theorem dX5_isAsSeen_34 : decode cX5_isAsSeen 34 = .ok (.iconst 0, 1) := by decide +kernel
theorem dX5_isAsSeen_35 : decode cX5_isAsSeen 35 = .ok (.ireturn, 1) := by decide +kernel
set_option maxRecDepth 20000 in
theorem ggX5_hasSeenTokens_X1_counts : GoodIn wsX5_hasSeenTokens wsX1_counts := goodIn_r _ [8, 9, 10, 20, 21, 22, 23, 24, 25] (by decide +kernel) (by decide +kernel)
set_option maxRecDepth 20000 in
theorem gX5_hasSeenTokens_X1_counts : GoodIn wsX5_hasSeenTokens (wsV RX5 140 RX1 yX1_counts wsX1_counts) := goodIn_app (goodIn_of _ (by decide +kernel)) ggX5_hasSeenTokens_X1_counts
theorem dX5_hasSeenTokens_0 : decode cX5_hasSeenTokens 0 = .ok (.iconst 0, 1) := by decide +kernel
theorem dX5_hasSeenTokens_1 : decode cX5_hasSeenTokens 1 = .ok (.istore_n 1, 1) := by decide +kernel
theorem dX5_hasSeenTokens_2 : decode cX5_hasSeenTokens 2 = .ok (.iload_n 1, 1) := by decide +kernel
theorem dX5_hasSeenTokens_3 : decode cX5_hasSeenTokens 3 = .ok (.aload_n 0, 1) := by decide +kernel
theorem dX5_hasSeenTokens_4 : decode cX5_hasSeenTokens 4 = .ok (.getfield 12, 3) := by decide +kernel
theorem dX5_hasSeenTokens_7 : decode cX5_hasSeenTokens 7 = .ok (.getfield 48, 3) := by decide +kernel
theorem dX5_hasSeenTokens_10 : decode cX5_hasSeenTokens 10 = .ok (.if_icmp .ge 26, 3) := by decide +kernel
theorem dX5_hasSeenTokens_13 : decode cX5_hasSeenTokens 13 = .ok (.aload_n 0, 1) := by decide +kernel
theorem dX5_hasSeenTokens_14 : decode cX5_hasSeenTokens 14 = .ok (.getfield 12, 3) := by decide +kernel
theorem dX5_hasSeenTokens_17 : decode cX5_hasSeenTokens 17 = .ok (.getfield 73, 3) := by decide +kernel
theorem dX5_hasSeenTokens_20 : decode cX5_hasSeenTokens 20 = .ok (.iload_n 1, 1) := by decide +kernel
theorem dX5_hasSeenTokens_21 : decode cX5_hasSeenTokens 21 = .ok (.aaload, 1) := by decide +kernel
theorem dX5_hasSeenTokens_22 : decode cX5_hasSeenTokens 22 = .ok (.invokevirtual 140, 3) := by decide +kernel
theorem dX5_hasSeenTokens_25 : decode cX5_hasSeenTokens 25 = .ok (.ifCond .eq 5, 3) := by decide +kernel
theorem dX5_hasSeenTokens_28 : decode cX5_hasSeenTokens 28 = .ok (.iconst 1, 1) := by decide +kernel
theorem dX5_hasSeenTokens_29 : decode cX5_hasSeenTokens 29 = .ok (.ireturn, 1) := by decide +kernel
theorem dX5_hasSeenTokens_30 : decode cX5_hasSeenTokens 30 = .ok (.iinc 1 1, 3) := by decide +kernel
theorem dX5_hasSeenTokens_33 : decode cX5_hasSeenTokens 33 = .ok (.goto (-31), 3) := by decide +kernel
theorem dX5_hasSeenTokens_36 : decode cX5_hasSeenTokens 36 = .ok (.iconst 0, 1) := by decide +kernel
theorem dX5_hasSeenTokens_37 : decode cX5_hasSeenTokens 37 = .ok (.ireturn, 1) := by decide +kernel
set_option maxRecDepth 20000 in
theorem ggX5_layTried_X0_choose : GoodIn wsX5_layTried wsX0_choose := goodIn_r _ [8, 9, 56, 57] (by decide +kernel) (by decide +kernel)
set_option maxRecDepth 20000 in
theorem gX5_layTried_X0_choose : GoodIn wsX5_layTried (wsV RX5 43 RX0 yX0_choose wsX0_choose) := goodIn_app (goodIn_of _ (by decide +kernel)) ggX5_layTried_X0_choose
set_option maxRecDepth 20000 in
theorem ggX5_layTried_X0_lay : GoodIn wsX5_layTried wsX0_lay := goodIn_r _ [13, 14, 15, 16, 17, 18, 19, 20, 21, 7, 22, 23, 24, 25, 9, 26, 27, 28, 29, 30, 31, 32, 33, 34, 35, 36, 37, 38, 39, 40, 41, 42, 43, 44, 45, 46, 47, 48, 58, 59, 56, 57, 60, 61, 62, 63, 64, 65, 66, 67, 68, 69, 70, 71, 72, 73, 74, 75, 76, 77, 78, 79] (by decide +kernel) (by decide +kernel)
set_option maxRecDepth 20000 in
theorem gX5_layTried_X0_lay : GoodIn wsX5_layTried (wsV RX5 93 RX0 yX0_lay wsX0_lay) := goodIn_app (goodIn_of _ (by decide +kernel)) ggX5_layTried_X0_lay
theorem dX5_layTried_0 : decode cX5_layTried 0 = .ok (.aload_n 0, 1) := by decide +kernel
theorem dX5_layTried_1 : decode cX5_layTried 1 = .ok (.getfield 30, 3) := by decide +kernel
theorem dX5_layTried_4 : decode cX5_layTried 4 = .ok (.iload_n 1, 1) := by decide +kernel
theorem dX5_layTried_5 : decode cX5_layTried 5 = .ok (.iload_n 2, 1) := by decide +kernel
theorem dX5_layTried_6 : decode cX5_layTried 6 = .ok (.iload_n 3, 1) := by decide +kernel
theorem dX5_layTried_7 : decode cX5_layTried 7 = .ok (.iload 4, 2) := by decide +kernel
theorem dX5_layTried_9 : decode cX5_layTried 9 = .ok (.invokevirtual 43, 3) := by decide +kernel
theorem dX5_layTried_12 : decode cX5_layTried 12 = .ok (.aload_n 0, 1) := by decide +kernel
theorem dX5_layTried_13 : decode cX5_layTried 13 = .ok (.getfield 30, 3) := by decide +kernel
theorem dX5_layTried_16 : decode cX5_layTried 16 = .ok (.aload_n 0, 1) := by decide +kernel
theorem dX5_layTried_17 : decode cX5_layTried 17 = .ok (.getfield 12, 3) := by decide +kernel
theorem dX5_layTried_20 : decode cX5_layTried 20 = .ok (.aload_n 0, 1) := by decide +kernel
theorem dX5_layTried_21 : decode cX5_layTried 21 = .ok (.getfield 19, 3) := by decide +kernel
theorem dX5_layTried_24 : decode cX5_layTried 24 = .ok (.invokevirtual 93, 3) := by decide +kernel
theorem dX5_layTried_27 : decode cX5_layTried 27 = .ok (.return_, 1) := by decide +kernel
set_option maxRecDepth 20000 in
theorem ggX5_partsOfTried_X5_isAsSeen : GoodIn wsX5_partsOfTried wsX5_isAsSeen := goodIn_r _ [14, 1, 15, 16, 17, 18, 19, 20, 21, 22, 23, 24, 25, 26, 27, 28, 29, 30, 31, 32, 33, 48, 49, 50, 51, 52, 53, 54, 55] (by decide +kernel) (by decide +kernel)
set_option maxRecDepth 20000 in
theorem gX5_partsOfTried_X5_isAsSeen : GoodIn wsX5_partsOfTried (wsV RX5 144 RX5 yX5_isAsSeen wsX5_isAsSeen) := goodIn_app (goodIn_of _ (by decide +kernel)) ggX5_partsOfTried_X5_isAsSeen
theorem dX5_partsOfTried_0 : decode cX5_partsOfTried 0 = .ok (.iconst 0, 1) := by decide +kernel
theorem dX5_partsOfTried_1 : decode cX5_partsOfTried 1 = .ok (.istore_n 1, 1) := by decide +kernel
theorem dX5_partsOfTried_2 : decode cX5_partsOfTried 2 = .ok (.iconst 0, 1) := by decide +kernel
theorem dX5_partsOfTried_3 : decode cX5_partsOfTried 3 = .ok (.istore_n 2, 1) := by decide +kernel
theorem dX5_partsOfTried_4 : decode cX5_partsOfTried 4 = .ok (.iload_n 2, 1) := by decide +kernel
theorem dX5_partsOfTried_5 : decode cX5_partsOfTried 5 = .ok (.aload_n 0, 1) := by decide +kernel
theorem dX5_partsOfTried_6 : decode cX5_partsOfTried 6 = .ok (.getfield 12, 3) := by decide +kernel
theorem dX5_partsOfTried_9 : decode cX5_partsOfTried 9 = .ok (.getfield 48, 3) := by decide +kernel
theorem dX5_partsOfTried_12 : decode cX5_partsOfTried 12 = .ok (.if_icmp .ge 42, 3) := by decide +kernel
theorem dX5_partsOfTried_15 : decode cX5_partsOfTried 15 = .ok (.aload_n 0, 1) := by decide +kernel
theorem dX5_partsOfTried_16 : decode cX5_partsOfTried 16 = .ok (.aload_n 0, 1) := by decide +kernel
theorem dX5_partsOfTried_17 : decode cX5_partsOfTried 17 = .ok (.getfield 30, 3) := by decide +kernel
theorem dX5_partsOfTried_20 : decode cX5_partsOfTried 20 = .ok (.iload_n 2, 1) := by decide +kernel
theorem dX5_partsOfTried_21 : decode cX5_partsOfTried 21 = .ok (.invokevirtual 144, 3) := by decide +kernel
theorem dX5_partsOfTried_24 : decode cX5_partsOfTried 24 = .ok (.ifCond .eq 24, 3) := by decide +kernel
theorem dX5_partsOfTried_27 : decode cX5_partsOfTried 27 = .ok (.iload_n 1, 1) := by decide +kernel
theorem dX5_partsOfTried_28 : decode cX5_partsOfTried 28 = .ok (.sipush 4096, 3) := by decide +kernel
theorem dX5_partsOfTried_31 : decode cX5_partsOfTried 31 = .ok (.aload_n 0, 1) := by decide +kernel
theorem dX5_partsOfTried_32 : decode cX5_partsOfTried 32 = .ok (.getfield 19, 3) := by decide +kernel
theorem dX5_partsOfTried_35 : decode cX5_partsOfTried 35 = .ok (.getfield 109, 3) := by decide +kernel
theorem dX5_partsOfTried_38 : decode cX5_partsOfTried 38 = .ok (.iload_n 2, 1) := by decide +kernel
theorem dX5_partsOfTried_39 : decode cX5_partsOfTried 39 = .ok (.iaload, 1) := by decide +kernel
theorem dX5_partsOfTried_40 : decode cX5_partsOfTried 40 = .ok (.bipush 12, 2) := by decide +kernel
theorem dX5_partsOfTried_42 : decode cX5_partsOfTried 42 = .ok (.invokestatic 223, 3) := by decide +kernel
theorem dX5_partsOfTried_45 : decode cX5_partsOfTried 45 = .ok (.ishr, 1) := by decide +kernel
theorem dX5_partsOfTried_46 : decode cX5_partsOfTried 46 = .ok (.iadd, 1) := by decide +kernel
theorem dX5_partsOfTried_47 : decode cX5_partsOfTried 47 = .ok (.istore_n 1, 1) := by decide +kernel
theorem dX5_partsOfTried_48 : decode cX5_partsOfTried 48 = .ok (.iinc 2 1, 3) := by decide +kernel
theorem dX5_partsOfTried_51 : decode cX5_partsOfTried 51 = .ok (.goto (-47), 3) := by decide +kernel
theorem dX5_partsOfTried_54 : decode cX5_partsOfTried 54 = .ok (.iload_n 1, 1) := by decide +kernel
theorem dX5_partsOfTried_55 : decode cX5_partsOfTried 55 = .ok (.ireturn, 1) := by decide +kernel
set_option maxRecDepth 20000 in
theorem ggX5_findGuess_X5_layTried : GoodIn wsX5_findGuess wsX5_layTried := goodIn_r _ [8, 9, 10, 11, 12, 13, 14, 15, 16, 17, 18, 19, 20, 21, 22, 23, 24, 25, 26, 27, 28, 29, 30, 31, 32, 33, 34, 35, 36, 37, 38, 39, 40, 41, 42, 43, 44, 45, 46, 47, 48, 49, 50, 51, 52, 53, 54, 55, 56, 87, 88, 89, 90, 91, 92, 93, 94, 95, 96, 97, 98, 99, 100, 101, 102, 103, 104, 105, 106, 107, 108, 109, 110, 111, 112, 113, 114, 115, 116, 117] (by decide +kernel) (by decide +kernel)
set_option maxRecDepth 20000 in
theorem gX5_findGuess_X5_layTried : GoodIn wsX5_findGuess (wsV RX5 152 RX5 yX5_layTried wsX5_layTried) := goodIn_app (goodIn_of _ (by decide +kernel)) ggX5_findGuess_X5_layTried
set_option maxRecDepth 20000 in
theorem ggX5_findGuess_X5_keepIfBetter : GoodIn wsX5_findGuess wsX5_keepIfBetter := goodIn_r _ [60, 1, 61, 9, 62, 63, 64, 65, 7, 66, 10, 67, 11, 68, 69, 70, 71, 72, 73, 74, 75, 76, 77, 78, 79, 80, 81, 82, 83, 84, 85, 86, 87, 88, 89, 90, 91, 92, 93, 94, 95, 96, 97, 104, 105, 106, 107, 108, 109, 110, 111, 112, 113, 114, 115, 116, 117, 98, 99, 100, 101, 102, 103] (by decide +kernel) (by decide +kernel)
set_option maxRecDepth 20000 in
theorem gX5_findGuess_X5_keepIfBetter : GoodIn wsX5_findGuess (wsV RX5 228 RX5 yX5_keepIfBetter wsX5_keepIfBetter) := goodIn_app (goodIn_of _ (by decide +kernel)) ggX5_findGuess_X5_keepIfBetter
theorem dX5_findGuess_0 : decode cX5_findGuess 0 = .ok (.aload_n 0, 1) := by decide +kernel
theorem dX5_findGuess_1 : decode cX5_findGuess 1 = .ok (.iconst (-1), 1) := by decide +kernel
theorem dX5_findGuess_2 : decode cX5_findGuess 2 = .ok (.putfield 168, 3) := by decide +kernel
theorem dX5_findGuess_5 : decode cX5_findGuess 5 = .ok (.getstatic 211, 3) := by decide +kernel
theorem dX5_findGuess_8 : decode cX5_findGuess 8 = .ok (.iconst 0, 1) := by decide +kernel
theorem dX5_findGuess_9 : decode cX5_findGuess 9 = .ok (.iaload, 1) := by decide +kernel
theorem dX5_findGuess_10 : decode cX5_findGuess 10 = .ok (.istore_n 1, 1) := by decide +kernel
theorem dX5_findGuess_11 : decode cX5_findGuess 11 = .ok (.iload_n 1, 1) := by decide +kernel
theorem dX5_findGuess_12 : decode cX5_findGuess 12 = .ok (.getstatic 214, 3) := by decide +kernel
theorem dX5_findGuess_15 : decode cX5_findGuess 15 = .ok (.iconst 0, 1) := by decide +kernel
theorem dX5_findGuess_16 : decode cX5_findGuess 16 = .ok (.iaload, 1) := by decide +kernel
theorem dX5_findGuess_17 : decode cX5_findGuess 17 = .ok (.if_icmp .gt 87, 3) := by decide +kernel
theorem dX5_findGuess_20 : decode cX5_findGuess 20 = .ok (.getstatic 211, 3) := by decide +kernel
theorem dX5_findGuess_23 : decode cX5_findGuess 23 = .ok (.iconst 1, 1) := by decide +kernel
theorem dX5_findGuess_24 : decode cX5_findGuess 24 = .ok (.iaload, 1) := by decide +kernel
theorem dX5_findGuess_25 : decode cX5_findGuess 25 = .ok (.istore_n 2, 1) := by decide +kernel
theorem dX5_findGuess_26 : decode cX5_findGuess 26 = .ok (.iload_n 2, 1) := by decide +kernel
theorem dX5_findGuess_27 : decode cX5_findGuess 27 = .ok (.getstatic 214, 3) := by decide +kernel
theorem dX5_findGuess_30 : decode cX5_findGuess 30 = .ok (.iconst 1, 1) := by decide +kernel
theorem dX5_findGuess_31 : decode cX5_findGuess 31 = .ok (.iaload, 1) := by decide +kernel
theorem dX5_findGuess_32 : decode cX5_findGuess 32 = .ok (.if_icmp .gt 66, 3) := by decide +kernel
theorem dX5_findGuess_35 : decode cX5_findGuess 35 = .ok (.getstatic 211, 3) := by decide +kernel
theorem dX5_findGuess_38 : decode cX5_findGuess 38 = .ok (.iconst 2, 1) := by decide +kernel
theorem dX5_findGuess_39 : decode cX5_findGuess 39 = .ok (.iaload, 1) := by decide +kernel
theorem dX5_findGuess_40 : decode cX5_findGuess 40 = .ok (.istore_n 3, 1) := by decide +kernel
theorem dX5_findGuess_41 : decode cX5_findGuess 41 = .ok (.iload_n 3, 1) := by decide +kernel
theorem dX5_findGuess_42 : decode cX5_findGuess 42 = .ok (.getstatic 214, 3) := by decide +kernel
theorem dX5_findGuess_45 : decode cX5_findGuess 45 = .ok (.iconst 2, 1) := by decide +kernel
theorem dX5_findGuess_46 : decode cX5_findGuess 46 = .ok (.iaload, 1) := by decide +kernel
theorem dX5_findGuess_47 : decode cX5_findGuess 47 = .ok (.if_icmp .gt 45, 3) := by decide +kernel
theorem dX5_findGuess_50 : decode cX5_findGuess 50 = .ok (.getstatic 211, 3) := by decide +kernel
theorem dX5_findGuess_53 : decode cX5_findGuess 53 = .ok (.iconst 3, 1) := by decide +kernel
theorem dX5_findGuess_54 : decode cX5_findGuess 54 = .ok (.iaload, 1) := by decide +kernel
theorem dX5_findGuess_55 : decode cX5_findGuess 55 = .ok (.istore 4, 2) := by decide +kernel
theorem dX5_findGuess_57 : decode cX5_findGuess 57 = .ok (.iload 4, 2) := by decide +kernel
theorem dX5_findGuess_59 : decode cX5_findGuess 59 = .ok (.getstatic 214, 3) := by decide +kernel
theorem dX5_findGuess_62 : decode cX5_findGuess 62 = .ok (.iconst 3, 1) := by decide +kernel
theorem dX5_findGuess_63 : decode cX5_findGuess 63 = .ok (.iaload, 1) := by decide +kernel
theorem dX5_findGuess_64 : decode cX5_findGuess 64 = .ok (.if_icmp .gt 22, 3) := by decide +kernel
theorem dX5_findGuess_67 : decode cX5_findGuess 67 = .ok (.aload_n 0, 1) := by decide +kernel
theorem dX5_findGuess_68 : decode cX5_findGuess 68 = .ok (.iload_n 1, 1) := by decide +kernel
theorem dX5_findGuess_69 : decode cX5_findGuess 69 = .ok (.iload_n 2, 1) := by decide +kernel
theorem dX5_findGuess_70 : decode cX5_findGuess 70 = .ok (.iload_n 3, 1) := by decide +kernel
theorem dX5_findGuess_71 : decode cX5_findGuess 71 = .ok (.iload 4, 2) := by decide +kernel
theorem dX5_findGuess_73 : decode cX5_findGuess 73 = .ok (.invokevirtual 152, 3) := by decide +kernel
theorem dX5_findGuess_76 : decode cX5_findGuess 76 = .ok (.aload_n 0, 1) := by decide +kernel
theorem dX5_findGuess_77 : decode cX5_findGuess 77 = .ok (.invokevirtual 228, 3) := by decide +kernel
theorem dX5_findGuess_80 : decode cX5_findGuess 80 = .ok (.iinc 4 1, 3) := by decide +kernel
theorem dX5_findGuess_83 : decode cX5_findGuess 83 = .ok (.goto (-26), 3) := by decide +kernel
theorem dX5_findGuess_86 : decode cX5_findGuess 86 = .ok (.iinc 3 1, 3) := by decide +kernel
theorem dX5_findGuess_89 : decode cX5_findGuess 89 = .ok (.goto (-48), 3) := by decide +kernel
theorem dX5_findGuess_92 : decode cX5_findGuess 92 = .ok (.iinc 2 1, 3) := by decide +kernel
theorem dX5_findGuess_95 : decode cX5_findGuess 95 = .ok (.goto (-69), 3) := by decide +kernel
theorem dX5_findGuess_98 : decode cX5_findGuess 98 = .ok (.iinc 1 1, 3) := by decide +kernel
theorem dX5_findGuess_101 : decode cX5_findGuess 101 = .ok (.goto (-90), 3) := by decide +kernel
theorem dX5_findGuess_104 : decode cX5_findGuess 104 = .ok (.return_, 1) := by decide +kernel
set_option maxRecDepth 20000 in
theorem ggX5_keepIfBetter_X5_partsOfTried : GoodIn wsX5_keepIfBetter wsX5_partsOfTried := goodIn_r _ [9, 10, 11, 3, 12, 13, 14, 15, 16, 17, 18, 19, 20, 8, 21, 22, 23, 24, 25, 26, 27, 28, 29, 30, 31, 32, 33, 34, 35, 36, 37, 38, 41, 42, 43, 44, 45, 46, 47, 48, 49, 50, 51, 52, 53, 54, 55, 56, 57, 58, 59, 60, 61, 62, 39, 40] (by decide +kernel) (by decide +kernel)
set_option maxRecDepth 20000 in
theorem gX5_keepIfBetter_X5_partsOfTried : GoodIn wsX5_keepIfBetter (wsV RX5 155 RX5 yX5_partsOfTried wsX5_partsOfTried) := goodIn_app (goodIn_of _ (by decide +kernel)) ggX5_keepIfBetter_X5_partsOfTried
theorem dX5_keepIfBetter_0 : decode cX5_keepIfBetter 0 = .ok (.aload_n 0, 1) := by decide +kernel
theorem dX5_keepIfBetter_1 : decode cX5_keepIfBetter 1 = .ok (.invokevirtual 155, 3) := by decide +kernel
theorem dX5_keepIfBetter_4 : decode cX5_keepIfBetter 4 = .ok (.istore_n 1, 1) := by decide +kernel
theorem dX5_keepIfBetter_5 : decode cX5_keepIfBetter 5 = .ok (.iload_n 1, 1) := by decide +kernel
theorem dX5_keepIfBetter_6 : decode cX5_keepIfBetter 6 = .ok (.aload_n 0, 1) := by decide +kernel
theorem dX5_keepIfBetter_7 : decode cX5_keepIfBetter 7 = .ok (.getfield 168, 3) := by decide +kernel
theorem dX5_keepIfBetter_10 : decode cX5_keepIfBetter 10 = .ok (.if_icmp .le 36, 3) := by decide +kernel
theorem dX5_keepIfBetter_13 : decode cX5_keepIfBetter 13 = .ok (.aload_n 0, 1) := by decide +kernel
theorem dX5_keepIfBetter_14 : decode cX5_keepIfBetter 14 = .ok (.iload_n 1, 1) := by decide +kernel
theorem dX5_keepIfBetter_15 : decode cX5_keepIfBetter 15 = .ok (.putfield 168, 3) := by decide +kernel
theorem dX5_keepIfBetter_18 : decode cX5_keepIfBetter 18 = .ok (.iconst 0, 1) := by decide +kernel
theorem dX5_keepIfBetter_19 : decode cX5_keepIfBetter 19 = .ok (.istore_n 2, 1) := by decide +kernel
theorem dX5_keepIfBetter_20 : decode cX5_keepIfBetter 20 = .ok (.iload_n 2, 1) := by decide +kernel
theorem dX5_keepIfBetter_21 : decode cX5_keepIfBetter 21 = .ok (.iconst 4, 1) := by decide +kernel
theorem dX5_keepIfBetter_22 : decode cX5_keepIfBetter 22 = .ok (.if_icmp .ge 24, 3) := by decide +kernel
theorem dX5_keepIfBetter_25 : decode cX5_keepIfBetter 25 = .ok (.aload_n 0, 1) := by decide +kernel
theorem dX5_keepIfBetter_26 : decode cX5_keepIfBetter 26 = .ok (.getfield 33, 3) := by decide +kernel
theorem dX5_keepIfBetter_29 : decode cX5_keepIfBetter 29 = .ok (.iload_n 2, 1) := by decide +kernel
theorem dX5_keepIfBetter_30 : decode cX5_keepIfBetter 30 = .ok (.aload_n 0, 1) := by decide +kernel
theorem dX5_keepIfBetter_31 : decode cX5_keepIfBetter 31 = .ok (.getfield 30, 3) := by decide +kernel
theorem dX5_keepIfBetter_34 : decode cX5_keepIfBetter 34 = .ok (.getfield 90, 3) := by decide +kernel
theorem dX5_keepIfBetter_37 : decode cX5_keepIfBetter 37 = .ok (.iload_n 2, 1) := by decide +kernel
theorem dX5_keepIfBetter_38 : decode cX5_keepIfBetter 38 = .ok (.iaload, 1) := by decide +kernel
theorem dX5_keepIfBetter_39 : decode cX5_keepIfBetter 39 = .ok (.iastore, 1) := by decide +kernel
theorem dX5_keepIfBetter_40 : decode cX5_keepIfBetter 40 = .ok (.iinc 2 1, 3) := by decide +kernel
theorem dX5_keepIfBetter_43 : decode cX5_keepIfBetter 43 = .ok (.goto (-23), 3) := by decide +kernel
theorem dX5_keepIfBetter_46 : decode cX5_keepIfBetter 46 = .ok (.return_, 1) := by decide +kernel
theorem dX5_floatBits_0 : decode cX5_floatBits 0 = .ok (.iload_n 0, 1) := by decide +kernel
theorem dX5_floatBits_1 : decode cX5_floatBits 1 = .ok (.ifCond .gt 5, 3) := by decide +kernel
theorem dX5_floatBits_4 : decode cX5_floatBits 4 = .ok (.iconst 0, 1) := by decide +kernel
theorem dX5_floatBits_5 : decode cX5_floatBits 5 = .ok (.ireturn, 1) := by decide +kernel
theorem dX5_floatBits_6 : decode cX5_floatBits 6 = .ok (.iconst 0, 1) := by decide +kernel
theorem dX5_floatBits_7 : decode cX5_floatBits 7 = .ok (.istore_n 1, 1) := by decide +kernel
theorem dX5_floatBits_8 : decode cX5_floatBits 8 = .ok (.iconst 1, 1) := by decide +kernel
theorem dX5_floatBits_9 : decode cX5_floatBits 9 = .ok (.istore_n 2, 1) := by decide +kernel
theorem dX5_floatBits_10 : decode cX5_floatBits 10 = .ok (.iload_n 2, 1) := by decide +kernel
theorem dX5_floatBits_11 : decode cX5_floatBits 11 = .ok (.bipush 23, 2) := by decide +kernel
theorem dX5_floatBits_13 : decode cX5_floatBits 13 = .ok (.if_icmp .gt 17, 3) := by decide +kernel
theorem dX5_floatBits_16 : decode cX5_floatBits 16 = .ok (.iload_n 0, 1) := by decide +kernel
theorem dX5_floatBits_17 : decode cX5_floatBits 17 = .ok (.iload_n 2, 1) := by decide +kernel
theorem dX5_floatBits_18 : decode cX5_floatBits 18 = .ok (.ishr, 1) := by decide +kernel
theorem dX5_floatBits_19 : decode cX5_floatBits 19 = .ok (.ifCond .eq 5, 3) := by decide +kernel
theorem dX5_floatBits_22 : decode cX5_floatBits 22 = .ok (.iload_n 2, 1) := by decide +kernel
theorem dX5_floatBits_23 : decode cX5_floatBits 23 = .ok (.istore_n 1, 1) := by decide +kernel
theorem dX5_floatBits_24 : decode cX5_floatBits 24 = .ok (.iinc 2 1, 3) := by decide +kernel
theorem dX5_floatBits_27 : decode cX5_floatBits 27 = .ok (.goto (-17), 3) := by decide +kernel
theorem dX5_floatBits_30 : decode cX5_floatBits 30 = .ok (.iload_n 1, 1) := by decide +kernel
theorem dX5_floatBits_31 : decode cX5_floatBits 31 = .ok (.bipush 12, 2) := by decide +kernel
theorem dX5_floatBits_33 : decode cX5_floatBits 33 = .ok (.isub, 1) := by decide +kernel
theorem dX5_floatBits_34 : decode cX5_floatBits 34 = .ok (.bipush 127, 2) := by decide +kernel
theorem dX5_floatBits_36 : decode cX5_floatBits 36 = .ok (.iadd, 1) := by decide +kernel
theorem dX5_floatBits_37 : decode cX5_floatBits 37 = .ok (.istore_n 2, 1) := by decide +kernel
theorem dX5_floatBits_38 : decode cX5_floatBits 38 = .ok (.iload_n 0, 1) := by decide +kernel
theorem dX5_floatBits_39 : decode cX5_floatBits 39 = .ok (.iconst 1, 1) := by decide +kernel
theorem dX5_floatBits_40 : decode cX5_floatBits 40 = .ok (.iload_n 1, 1) := by decide +kernel
theorem dX5_floatBits_41 : decode cX5_floatBits 41 = .ok (.ishl, 1) := by decide +kernel
theorem dX5_floatBits_42 : decode cX5_floatBits 42 = .ok (.isub, 1) := by decide +kernel
theorem dX5_floatBits_43 : decode cX5_floatBits 43 = .ok (.bipush 23, 2) := by decide +kernel
theorem dX5_floatBits_45 : decode cX5_floatBits 45 = .ok (.iload_n 1, 1) := by decide +kernel
theorem dX5_floatBits_46 : decode cX5_floatBits 46 = .ok (.isub, 1) := by decide +kernel
theorem dX5_floatBits_47 : decode cX5_floatBits 47 = .ok (.ishl, 1) := by decide +kernel
theorem dX5_floatBits_48 : decode cX5_floatBits 48 = .ok (.istore_n 3, 1) := by decide +kernel
theorem dX5_floatBits_49 : decode cX5_floatBits 49 = .ok (.iload_n 2, 1) := by decide +kernel
theorem dX5_floatBits_50 : decode cX5_floatBits 50 = .ok (.bipush 23, 2) := by decide +kernel
theorem dX5_floatBits_52 : decode cX5_floatBits 52 = .ok (.ishl, 1) := by decide +kernel
theorem dX5_floatBits_53 : decode cX5_floatBits 53 = .ok (.iload_n 3, 1) := by decide +kernel
theorem dX5_floatBits_54 : decode cX5_floatBits 54 = .ok (.ior, 1) := by decide +kernel
theorem dX5_floatBits_55 : decode cX5_floatBits 55 = .ok (.ireturn, 1) := by decide +kernel
theorem dX5_allStrays_0 : decode cX5_allStrays 0 = .ok (.iconst 0, 1) := by decide +kernel
theorem dX5_allStrays_1 : decode cX5_allStrays 1 = .ok (.istore_n 1, 1) := by decide +kernel
theorem dX5_allStrays_2 : decode cX5_allStrays 2 = .ok (.iconst 0, 1) := by decide +kernel
theorem dX5_allStrays_3 : decode cX5_allStrays 3 = .ok (.istore_n 2, 1) := by decide +kernel
theorem dX5_allStrays_4 : decode cX5_allStrays 4 = .ok (.iload_n 2, 1) := by decide +kernel
theorem dX5_allStrays_5 : decode cX5_allStrays 5 = .ok (.aload_n 0, 1) := by decide +kernel
theorem dX5_allStrays_6 : decode cX5_allStrays 6 = .ok (.getfield 12, 3) := by decide +kernel
theorem dX5_allStrays_9 : decode cX5_allStrays 9 = .ok (.getfield 48, 3) := by decide +kernel
theorem dX5_allStrays_12 : decode cX5_allStrays 12 = .ok (.if_icmp .ge 21, 3) := by decide +kernel
theorem dX5_allStrays_15 : decode cX5_allStrays 15 = .ok (.iload_n 1, 1) := by decide +kernel
theorem dX5_allStrays_16 : decode cX5_allStrays 16 = .ok (.aload_n 0, 1) := by decide +kernel
theorem dX5_allStrays_17 : decode cX5_allStrays 17 = .ok (.getfield 19, 3) := by decide +kernel
theorem dX5_allStrays_20 : decode cX5_allStrays 20 = .ok (.getfield 112, 3) := by decide +kernel
theorem dX5_allStrays_23 : decode cX5_allStrays 23 = .ok (.iload_n 2, 1) := by decide +kernel
theorem dX5_allStrays_24 : decode cX5_allStrays 24 = .ok (.iaload, 1) := by decide +kernel
theorem dX5_allStrays_25 : decode cX5_allStrays 25 = .ok (.iadd, 1) := by decide +kernel
theorem dX5_allStrays_26 : decode cX5_allStrays 26 = .ok (.istore_n 1, 1) := by decide +kernel
theorem dX5_allStrays_27 : decode cX5_allStrays 27 = .ok (.iinc 2 1, 3) := by decide +kernel
theorem dX5_allStrays_30 : decode cX5_allStrays 30 = .ok (.goto (-26), 3) := by decide +kernel
theorem dX5_allStrays_33 : decode cX5_allStrays 33 = .ok (.iload_n 1, 1) := by decide +kernel
theorem dX5_allStrays_34 : decode cX5_allStrays 34 = .ok (.ireturn, 1) := by decide +kernel
theorem dX5_seenLines_0 : decode cX5_seenLines 0 = .ok (.iconst 0, 1) := by decide +kernel
theorem dX5_seenLines_1 : decode cX5_seenLines 1 = .ok (.istore_n 1, 1) := by decide +kernel
theorem dX5_seenLines_2 : decode cX5_seenLines 2 = .ok (.iconst 0, 1) := by decide +kernel
theorem dX5_seenLines_3 : decode cX5_seenLines 3 = .ok (.istore_n 2, 1) := by decide +kernel
theorem dX5_seenLines_4 : decode cX5_seenLines 4 = .ok (.iload_n 2, 1) := by decide +kernel
theorem dX5_seenLines_5 : decode cX5_seenLines 5 = .ok (.aload_n 0, 1) := by decide +kernel
theorem dX5_seenLines_6 : decode cX5_seenLines 6 = .ok (.getfield 12, 3) := by decide +kernel
theorem dX5_seenLines_9 : decode cX5_seenLines 9 = .ok (.getfield 48, 3) := by decide +kernel
theorem dX5_seenLines_12 : decode cX5_seenLines 12 = .ok (.if_icmp .ge 29, 3) := by decide +kernel
theorem dX5_seenLines_15 : decode cX5_seenLines 15 = .ok (.aload_n 0, 1) := by decide +kernel
theorem dX5_seenLines_16 : decode cX5_seenLines 16 = .ok (.getfield 12, 3) := by decide +kernel
theorem dX5_seenLines_19 : decode cX5_seenLines 19 = .ok (.getfield 73, 3) := by decide +kernel
theorem dX5_seenLines_22 : decode cX5_seenLines 22 = .ok (.iload_n 2, 1) := by decide +kernel
theorem dX5_seenLines_23 : decode cX5_seenLines 23 = .ok (.aaload, 1) := by decide +kernel
theorem dX5_seenLines_24 : decode cX5_seenLines 24 = .ok (.getfield 115, 3) := by decide +kernel
theorem dX5_seenLines_27 : decode cX5_seenLines 27 = .ok (.bipush (-9), 2) := by decide +kernel
theorem dX5_seenLines_29 : decode cX5_seenLines 29 = .ok (.if_icmp .eq 6, 3) := by decide +kernel
theorem dX5_seenLines_32 : decode cX5_seenLines 32 = .ok (.iinc 1 1, 3) := by decide +kernel
theorem dX5_seenLines_35 : decode cX5_seenLines 35 = .ok (.iinc 2 1, 3) := by decide +kernel
theorem dX5_seenLines_38 : decode cX5_seenLines 38 = .ok (.goto (-34), 3) := by decide +kernel
theorem dX5_seenLines_41 : decode cX5_seenLines 41 = .ok (.iload_n 1, 1) := by decide +kernel
theorem dX5_seenLines_42 : decode cX5_seenLines 42 = .ok (.ireturn, 1) := by decide +kernel
theorem dX5_allTokens_0 : decode cX5_allTokens 0 = .ok (.iconst 0, 1) := by decide +kernel
theorem dX5_allTokens_1 : decode cX5_allTokens 1 = .ok (.istore_n 1, 1) := by decide +kernel
theorem dX5_allTokens_2 : decode cX5_allTokens 2 = .ok (.iconst 0, 1) := by decide +kernel
theorem dX5_allTokens_3 : decode cX5_allTokens 3 = .ok (.istore_n 2, 1) := by decide +kernel
theorem dX5_allTokens_4 : decode cX5_allTokens 4 = .ok (.iload_n 2, 1) := by decide +kernel
theorem dX5_allTokens_5 : decode cX5_allTokens 5 = .ok (.aload_n 0, 1) := by decide +kernel
theorem dX5_allTokens_6 : decode cX5_allTokens 6 = .ok (.getfield 12, 3) := by decide +kernel
theorem dX5_allTokens_9 : decode cX5_allTokens 9 = .ok (.getfield 48, 3) := by decide +kernel
theorem dX5_allTokens_12 : decode cX5_allTokens 12 = .ok (.if_icmp .ge 24, 3) := by decide +kernel
theorem dX5_allTokens_15 : decode cX5_allTokens 15 = .ok (.iload_n 1, 1) := by decide +kernel
theorem dX5_allTokens_16 : decode cX5_allTokens 16 = .ok (.aload_n 0, 1) := by decide +kernel
theorem dX5_allTokens_17 : decode cX5_allTokens 17 = .ok (.getfield 12, 3) := by decide +kernel
theorem dX5_allTokens_20 : decode cX5_allTokens 20 = .ok (.getfield 73, 3) := by decide +kernel
theorem dX5_allTokens_23 : decode cX5_allTokens 23 = .ok (.iload_n 2, 1) := by decide +kernel
theorem dX5_allTokens_24 : decode cX5_allTokens 24 = .ok (.aaload, 1) := by decide +kernel
theorem dX5_allTokens_25 : decode cX5_allTokens 25 = .ok (.getfield 103, 3) := by decide +kernel
theorem dX5_allTokens_28 : decode cX5_allTokens 28 = .ok (.iadd, 1) := by decide +kernel
theorem dX5_allTokens_29 : decode cX5_allTokens 29 = .ok (.istore_n 1, 1) := by decide +kernel
theorem dX5_allTokens_30 : decode cX5_allTokens 30 = .ok (.iinc 2 1, 3) := by decide +kernel
theorem dX5_allTokens_33 : decode cX5_allTokens 33 = .ok (.goto (-29), 3) := by decide +kernel
theorem dX5_allTokens_36 : decode cX5_allTokens 36 = .ok (.iload_n 1, 1) := by decide +kernel
theorem dX5_allTokens_37 : decode cX5_allTokens 37 = .ok (.ireturn, 1) := by decide +kernel
