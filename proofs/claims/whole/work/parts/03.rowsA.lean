theorem dX0_init_0 : decode cX0_init 0 = .ok (.aload_n 0, 1) := by decide +kernel
theorem dX0_init_1 : decode cX0_init 1 = .ok (.invokespecial 3, 3) := by decide +kernel
theorem dX0_init_4 : decode cX0_init 4 = .ok (.aload_n 0, 1) := by decide +kernel
theorem dX0_init_5 : decode cX0_init 5 = .ok (.iconst 4, 1) := by decide +kernel
theorem dX0_init_6 : decode cX0_init 6 = .ok (.newarray .int, 2) := by decide +kernel
theorem dX0_init_8 : decode cX0_init 8 = .ok (.putfield 9, 3) := by decide +kernel
theorem dX0_init_11 : decode cX0_init 11 = .ok (.aload_n 0, 1) := by decide +kernel
theorem dX0_init_12 : decode cX0_init 12 = .ok (.bipush 20, 2) := by decide +kernel
theorem dX0_init_14 : decode cX0_init 14 = .ok (.newarray .int, 2) := by decide +kernel
theorem dX0_init_16 : decode cX0_init 16 = .ok (.putfield 15, 3) := by decide +kernel
theorem dX0_init_19 : decode cX0_init 19 = .ok (.return_, 1) := by decide +kernel
theorem dX0_choose_0 : decode cX0_choose 0 = .ok (.aload_n 0, 1) := by decide +kernel
theorem dX0_choose_1 : decode cX0_choose 1 = .ok (.getfield 9, 3) := by decide +kernel
theorem dX0_choose_4 : decode cX0_choose 4 = .ok (.iconst 0, 1) := by decide +kernel
theorem dX0_choose_5 : decode cX0_choose 5 = .ok (.iload_n 1, 1) := by decide +kernel
theorem dX0_choose_6 : decode cX0_choose 6 = .ok (.iastore, 1) := by decide +kernel
theorem dX0_choose_7 : decode cX0_choose 7 = .ok (.aload_n 0, 1) := by decide +kernel
theorem dX0_choose_8 : decode cX0_choose 8 = .ok (.getfield 9, 3) := by decide +kernel
theorem dX0_choose_11 : decode cX0_choose 11 = .ok (.iconst 1, 1) := by decide +kernel
theorem dX0_choose_12 : decode cX0_choose 12 = .ok (.iload_n 2, 1) := by decide +kernel
theorem dX0_choose_13 : decode cX0_choose 13 = .ok (.iastore, 1) := by decide +kernel
theorem dX0_choose_14 : decode cX0_choose 14 = .ok (.aload_n 0, 1) := by decide +kernel
theorem dX0_choose_15 : decode cX0_choose 15 = .ok (.getfield 9, 3) := by decide +kernel
theorem dX0_choose_18 : decode cX0_choose 18 = .ok (.iconst 2, 1) := by decide +kernel
theorem dX0_choose_19 : decode cX0_choose 19 = .ok (.iload_n 3, 1) := by decide +kernel
theorem dX0_choose_20 : decode cX0_choose 20 = .ok (.iastore, 1) := by decide +kernel
theorem dX0_choose_21 : decode cX0_choose 21 = .ok (.aload_n 0, 1) := by decide +kernel
theorem dX0_choose_22 : decode cX0_choose 22 = .ok (.getfield 9, 3) := by decide +kernel
theorem dX0_choose_25 : decode cX0_choose 25 = .ok (.iconst 3, 1) := by decide +kernel
theorem dX0_choose_26 : decode cX0_choose 26 = .ok (.iload 4, 2) := by decide +kernel
theorem dX0_choose_28 : decode cX0_choose 28 = .ok (.iastore, 1) := by decide +kernel
theorem dX0_choose_29 : decode cX0_choose 29 = .ok (.return_, 1) := by decide +kernel
set_option maxRecDepth 20000 in
theorem ggX0_lay_X0_columnBehind : GoodIn wsX0_lay wsX0_columnBehind := goodIn_r _ [10, 11, 12, 13, 14, 15, 16, 17, 9, 18, 19, 20, 21, 22, 23, 24, 25, 26, 27, 28, 29, 30, 31, 3, 32, 33, 34, 35, 36, 37, 48, 49, 50, 51, 52, 53, 54, 55, 56, 57, 58, 59, 60, 61, 40, 41] (by decide +kernel) (by decide +kernel)
set_option maxRecDepth 20000 in
theorem gX0_lay_X0_columnBehind : GoodIn wsX0_lay (wsV RX0 36 RX0 yX0_columnBehind wsX0_columnBehind) := goodIn_app (goodIn_of _ (by decide +kernel)) ggX0_lay_X0_columnBehind
theorem dX0_lay_0 : decode cX0_lay 0 = .ok (.iconst 0, 1) := by decide +kernel
theorem dX0_lay_1 : decode cX0_lay 1 = .ok (.istore_n 3, 1) := by decide +kernel
theorem dX0_lay_2 : decode cX0_lay 2 = .ok (.iload_n 3, 1) := by decide +kernel
theorem dX0_lay_3 : decode cX0_lay 3 = .ok (.aload_n 1, 1) := by decide +kernel
theorem dX0_lay_4 : decode cX0_lay 4 = .ok (.getfield 18, 3) := by decide +kernel
theorem dX0_lay_7 : decode cX0_lay 7 = .ok (.if_icmp .ge 48, 3) := by decide +kernel
theorem dX0_lay_10 : decode cX0_lay 10 = .ok (.aload_n 1, 1) := by decide +kernel
theorem dX0_lay_11 : decode cX0_lay 11 = .ok (.getfield 24, 3) := by decide +kernel
theorem dX0_lay_14 : decode cX0_lay 14 = .ok (.iload_n 3, 1) := by decide +kernel
theorem dX0_lay_15 : decode cX0_lay 15 = .ok (.aaload, 1) := by decide +kernel
theorem dX0_lay_16 : decode cX0_lay 16 = .ok (.astore 4, 2) := by decide +kernel
theorem dX0_lay_18 : decode cX0_lay 18 = .ok (.aload_n 0, 1) := by decide +kernel
theorem dX0_lay_19 : decode cX0_lay 19 = .ok (.getfield 15, 3) := by decide +kernel
theorem dX0_lay_22 : decode cX0_lay 22 = .ok (.iload_n 3, 1) := by decide +kernel
theorem dX0_lay_23 : decode cX0_lay 23 = .ok (.aload 4, 2) := by decide +kernel
theorem dX0_lay_25 : decode cX0_lay 25 = .ok (.getfield 28, 3) := by decide +kernel
theorem dX0_lay_28 : decode cX0_lay 28 = .ok (.ifCond .ne 7, 3) := by decide +kernel
theorem dX0_lay_31 : decode cX0_lay 31 = .ok (.iconst 0, 1) := by decide +kernel
theorem dX0_lay_32 : decode cX0_lay 32 = .ok (.goto 16, 3) := by decide +kernel
theorem dX0_lay_35 : decode cX0_lay 35 = .ok (.aload_n 0, 1) := by decide +kernel
theorem dX0_lay_36 : decode cX0_lay 36 = .ok (.aload_n 2, 1) := by decide +kernel
theorem dX0_lay_37 : decode cX0_lay 37 = .ok (.iload_n 3, 1) := by decide +kernel
theorem dX0_lay_38 : decode cX0_lay 38 = .ok (.aload 4, 2) := by decide +kernel
theorem dX0_lay_40 : decode cX0_lay 40 = .ok (.getfield 33, 3) := by decide +kernel
theorem dX0_lay_43 : decode cX0_lay 43 = .ok (.iconst 0, 1) := by decide +kernel
theorem dX0_lay_44 : decode cX0_lay 44 = .ok (.iaload, 1) := by decide +kernel
theorem dX0_lay_45 : decode cX0_lay 45 = .ok (.invokevirtual 36, 3) := by decide +kernel
theorem dX0_lay_48 : decode cX0_lay 48 = .ok (.iastore, 1) := by decide +kernel
theorem dX0_lay_49 : decode cX0_lay 49 = .ok (.iinc 3 1, 3) := by decide +kernel
theorem dX0_lay_52 : decode cX0_lay 52 = .ok (.goto (-50), 3) := by decide +kernel
theorem dX0_lay_55 : decode cX0_lay 55 = .ok (.return_, 1) := by decide +kernel
set_option maxRecDepth 20000 in
theorem ggX0_columnBehind_X0_goingOn : GoodIn wsX0_columnBehind wsX0_goingOn := goodIn_r _ [9, 4, 44, 45] (by decide +kernel) (by decide +kernel)
set_option maxRecDepth 20000 in
theorem gX0_columnBehind_X0_goingOn : GoodIn wsX0_columnBehind (wsV RX0 48 RX0 yX0_goingOn wsX0_goingOn) := goodIn_app (goodIn_of _ (by decide +kernel)) ggX0_columnBehind_X0_goingOn
set_option maxRecDepth 20000 in
theorem ggX0_columnBehind_X0_columnInBracket : GoodIn wsX0_columnBehind wsX0_columnInBracket := goodIn_r _ [13, 4, 14, 15, 16, 8, 17, 3, 18, 19, 20, 21, 22, 23, 24, 25, 26, 27, 28, 29, 44, 45, 30, 31, 32, 33, 34, 35, 36, 37, 38, 39, 40, 41, 42, 43] (by decide +kernel) (by decide +kernel)
set_option maxRecDepth 20000 in
theorem gX0_columnBehind_X0_columnInBracket : GoodIn wsX0_columnBehind (wsV RX0 55 RX0 yX0_columnInBracket wsX0_columnInBracket) := goodIn_app (goodIn_of _ (by decide +kernel)) ggX0_columnBehind_X0_columnInBracket
set_option maxRecDepth 20000 in
theorem ggX0_columnBehind_X0_baseOf : GoodIn wsX0_columnBehind wsX0_baseOf := goodIn_r _ [29, 23, 24, 44, 45, 30, 31, 32, 33, 34, 35, 36, 37, 38, 39, 40, 41, 42, 43] (by decide +kernel) (by decide +kernel)
set_option maxRecDepth 20000 in
theorem gX0_columnBehind_X0_baseOf : GoodIn wsX0_columnBehind (wsV RX0 58 RX0 yX0_baseOf wsX0_baseOf) := goodIn_app (goodIn_of _ (by decide +kernel)) ggX0_columnBehind_X0_baseOf
theorem dX0_columnBehind_0 : decode cX0_columnBehind 0 = .ok (.aload_n 1, 1) := by decide +kernel
theorem dX0_columnBehind_1 : decode cX0_columnBehind 1 = .ok (.getfield 40, 3) := by decide +kernel
theorem dX0_columnBehind_4 : decode cX0_columnBehind 4 = .ok (.iload_n 2, 1) := by decide +kernel
theorem dX0_columnBehind_5 : decode cX0_columnBehind 5 = .ok (.iaload, 1) := by decide +kernel
theorem dX0_columnBehind_6 : decode cX0_columnBehind 6 = .ok (.istore 4, 2) := by decide +kernel
theorem dX0_columnBehind_8 : decode cX0_columnBehind 8 = .ok (.iload 4, 2) := by decide +kernel
theorem dX0_columnBehind_10 : decode cX0_columnBehind 10 = .ok (.bipush (-9), 2) := by decide +kernel
theorem dX0_columnBehind_12 : decode cX0_columnBehind 12 = .ok (.if_icmp .ne 15, 3) := by decide +kernel
theorem dX0_columnBehind_15 : decode cX0_columnBehind 15 = .ok (.aload_n 0, 1) := by decide +kernel
theorem dX0_columnBehind_16 : decode cX0_columnBehind 16 = .ok (.iconst 0, 1) := by decide +kernel
theorem dX0_columnBehind_17 : decode cX0_columnBehind 17 = .ok (.aload_n 1, 1) := by decide +kernel
theorem dX0_columnBehind_18 : decode cX0_columnBehind 18 = .ok (.getfield 45, 3) := by decide +kernel
theorem dX0_columnBehind_21 : decode cX0_columnBehind 21 = .ok (.iload_n 2, 1) := by decide +kernel
theorem dX0_columnBehind_22 : decode cX0_columnBehind 22 = .ok (.iaload, 1) := by decide +kernel
theorem dX0_columnBehind_23 : decode cX0_columnBehind 23 = .ok (.invokevirtual 48, 3) := by decide +kernel
theorem dX0_columnBehind_26 : decode cX0_columnBehind 26 = .ok (.ireturn, 1) := by decide +kernel
theorem dX0_columnBehind_27 : decode cX0_columnBehind 27 = .ok (.aload_n 1, 1) := by decide +kernel
theorem dX0_columnBehind_28 : decode cX0_columnBehind 28 = .ok (.getfield 52, 3) := by decide +kernel
theorem dX0_columnBehind_31 : decode cX0_columnBehind 31 = .ok (.iload 4, 2) := by decide +kernel
theorem dX0_columnBehind_33 : decode cX0_columnBehind 33 = .ok (.iaload, 1) := by decide +kernel
theorem dX0_columnBehind_34 : decode cX0_columnBehind 34 = .ok (.iconst 4, 1) := by decide +kernel
theorem dX0_columnBehind_35 : decode cX0_columnBehind 35 = .ok (.if_icmp .ne 12, 3) := by decide +kernel
theorem dX0_columnBehind_38 : decode cX0_columnBehind 38 = .ok (.aload_n 0, 1) := by decide +kernel
theorem dX0_columnBehind_39 : decode cX0_columnBehind 39 = .ok (.aload_n 1, 1) := by decide +kernel
theorem dX0_columnBehind_40 : decode cX0_columnBehind 40 = .ok (.iload 4, 2) := by decide +kernel
theorem dX0_columnBehind_42 : decode cX0_columnBehind 42 = .ok (.iload_n 3, 1) := by decide +kernel
theorem dX0_columnBehind_43 : decode cX0_columnBehind 43 = .ok (.invokevirtual 55, 3) := by decide +kernel
theorem dX0_columnBehind_46 : decode cX0_columnBehind 46 = .ok (.ireturn, 1) := by decide +kernel
theorem dX0_columnBehind_47 : decode cX0_columnBehind 47 = .ok (.aload_n 0, 1) := by decide +kernel
theorem dX0_columnBehind_48 : decode cX0_columnBehind 48 = .ok (.aload_n 1, 1) := by decide +kernel
theorem dX0_columnBehind_49 : decode cX0_columnBehind 49 = .ok (.iload 4, 2) := by decide +kernel
theorem dX0_columnBehind_51 : decode cX0_columnBehind 51 = .ok (.invokevirtual 58, 3) := by decide +kernel
theorem dX0_columnBehind_54 : decode cX0_columnBehind 54 = .ok (.istore 5, 2) := by decide +kernel
theorem dX0_columnBehind_56 : decode cX0_columnBehind 56 = .ok (.iload_n 3, 1) := by decide +kernel
theorem dX0_columnBehind_57 : decode cX0_columnBehind 57 = .ok (.iconst 3, 1) := by decide +kernel
theorem dX0_columnBehind_58 : decode cX0_columnBehind 58 = .ok (.if_icmp .ne 28, 3) := by decide +kernel
theorem dX0_columnBehind_61 : decode cX0_columnBehind 61 = .ok (.aload_n 0, 1) := by decide +kernel
theorem dX0_columnBehind_62 : decode cX0_columnBehind 62 = .ok (.getfield 9, 3) := by decide +kernel
theorem dX0_columnBehind_65 : decode cX0_columnBehind 65 = .ok (.iconst 3, 1) := by decide +kernel
theorem dX0_columnBehind_66 : decode cX0_columnBehind 66 = .ok (.iaload, 1) := by decide +kernel
theorem dX0_columnBehind_67 : decode cX0_columnBehind 67 = .ok (.iconst 1, 1) := by decide +kernel
theorem dX0_columnBehind_68 : decode cX0_columnBehind 68 = .ok (.if_icmp .ne 15, 3) := by decide +kernel
theorem dX0_columnBehind_71 : decode cX0_columnBehind 71 = .ok (.iload 5, 2) := by decide +kernel
theorem dX0_columnBehind_73 : decode cX0_columnBehind 73 = .ok (.aload_n 0, 1) := by decide +kernel
theorem dX0_columnBehind_74 : decode cX0_columnBehind 74 = .ok (.getfield 9, 3) := by decide +kernel
theorem dX0_columnBehind_77 : decode cX0_columnBehind 77 = .ok (.iconst 0, 1) := by decide +kernel
theorem dX0_columnBehind_78 : decode cX0_columnBehind 78 = .ok (.iaload, 1) := by decide +kernel
theorem dX0_columnBehind_79 : decode cX0_columnBehind 79 = .ok (.iadd, 1) := by decide +kernel
theorem dX0_columnBehind_80 : decode cX0_columnBehind 80 = .ok (.goto 5, 3) := by decide +kernel
theorem dX0_columnBehind_83 : decode cX0_columnBehind 83 = .ok (.iload 5, 2) := by decide +kernel
theorem dX0_columnBehind_85 : decode cX0_columnBehind 85 = .ok (.ireturn, 1) := by decide +kernel
theorem dX0_columnBehind_86 : decode cX0_columnBehind 86 = .ok (.aload_n 0, 1) := by decide +kernel
theorem dX0_columnBehind_87 : decode cX0_columnBehind 87 = .ok (.iload 5, 2) := by decide +kernel
theorem dX0_columnBehind_89 : decode cX0_columnBehind 89 = .ok (.aload_n 0, 1) := by decide +kernel
theorem dX0_columnBehind_90 : decode cX0_columnBehind 90 = .ok (.getfield 9, 3) := by decide +kernel
theorem dX0_columnBehind_93 : decode cX0_columnBehind 93 = .ok (.iconst 0, 1) := by decide +kernel
theorem dX0_columnBehind_94 : decode cX0_columnBehind 94 = .ok (.iaload, 1) := by decide +kernel
theorem dX0_columnBehind_95 : decode cX0_columnBehind 95 = .ok (.iadd, 1) := by decide +kernel
theorem dX0_columnBehind_96 : decode cX0_columnBehind 96 = .ok (.aload_n 1, 1) := by decide +kernel
theorem dX0_columnBehind_97 : decode cX0_columnBehind 97 = .ok (.getfield 45, 3) := by decide +kernel
theorem dX0_columnBehind_100 : decode cX0_columnBehind 100 = .ok (.iload_n 2, 1) := by decide +kernel
theorem dX0_columnBehind_101 : decode cX0_columnBehind 101 = .ok (.iaload, 1) := by decide +kernel
theorem dX0_columnBehind_102 : decode cX0_columnBehind 102 = .ok (.invokevirtual 48, 3) := by decide +kernel
theorem dX0_columnBehind_105 : decode cX0_columnBehind 105 = .ok (.ireturn, 1) := by decide +kernel
set_option maxRecDepth 20000 in
theorem ggX0_columnInBracket_X0_isAligned : GoodIn wsX0_columnInBracket wsX0_isAligned := goodIn_r _ [6, 7, 1, 8, 22, 23, 24, 25, 26, 27, 28, 29, 30, 31, 32, 33, 34, 35, 20, 21] (by decide +kernel) (by decide +kernel)
set_option maxRecDepth 20000 in
theorem gX0_columnInBracket_X0_isAligned : GoodIn wsX0_columnInBracket (wsV RX0 62 RX0 yX0_isAligned wsX0_isAligned) := goodIn_app (goodIn_of _ (by decide +kernel)) ggX0_columnInBracket_X0_isAligned
set_option maxRecDepth 20000 in
theorem ggX0_columnInBracket_X0_placeOf : GoodIn wsX0_columnInBracket wsX0_placeOf := goodIn_r _ [12, 13, 14, 15, 20, 21, 22, 23, 24, 25, 26, 27, 28, 29, 30, 31, 32, 33, 34, 35] (by decide +kernel) (by decide +kernel)
set_option maxRecDepth 20000 in
theorem gX0_columnInBracket_X0_placeOf : GoodIn wsX0_columnInBracket (wsV RX0 66 RX0 yX0_placeOf wsX0_placeOf) := goodIn_app (goodIn_of _ (by decide +kernel)) ggX0_columnInBracket_X0_placeOf
set_option maxRecDepth 20000 in
theorem ggX0_columnInBracket_X0_baseOf : GoodIn wsX0_columnInBracket wsX0_baseOf := goodIn_r _ [19, 13, 14, 20, 21, 22, 23, 24, 25, 26, 27, 28, 29, 30, 31, 32, 33, 34, 35] (by decide +kernel) (by decide +kernel)
set_option maxRecDepth 20000 in
theorem gX0_columnInBracket_X0_baseOf : GoodIn wsX0_columnInBracket (wsV RX0 58 RX0 yX0_baseOf wsX0_baseOf) := goodIn_app (goodIn_of _ (by decide +kernel)) ggX0_columnInBracket_X0_baseOf
theorem dX0_columnInBracket_0 : decode cX0_columnInBracket 0 = .ok (.iload_n 3, 1) := by decide +kernel
theorem dX0_columnInBracket_1 : decode cX0_columnInBracket 1 = .ok (.iconst 5, 1) := by decide +kernel
theorem dX0_columnInBracket_2 : decode cX0_columnInBracket 2 = .ok (.if_icmp .ne 7, 3) := by decide +kernel
theorem dX0_columnInBracket_5 : decode cX0_columnInBracket 5 = .ok (.iconst 1, 1) := by decide +kernel
theorem dX0_columnInBracket_6 : decode cX0_columnInBracket 6 = .ok (.goto 4, 3) := by decide +kernel
theorem dX0_columnInBracket_9 : decode cX0_columnInBracket 9 = .ok (.iconst 0, 1) := by decide +kernel
theorem dX0_columnInBracket_10 : decode cX0_columnInBracket 10 = .ok (.istore 4, 2) := by decide +kernel
theorem dX0_columnInBracket_12 : decode cX0_columnInBracket 12 = .ok (.aload_n 0, 1) := by decide +kernel
theorem dX0_columnInBracket_13 : decode cX0_columnInBracket 13 = .ok (.aload_n 1, 1) := by decide +kernel
theorem dX0_columnInBracket_14 : decode cX0_columnInBracket 14 = .ok (.iload_n 2, 1) := by decide +kernel
theorem dX0_columnInBracket_15 : decode cX0_columnInBracket 15 = .ok (.invokevirtual 62, 3) := by decide +kernel
theorem dX0_columnInBracket_18 : decode cX0_columnInBracket 18 = .ok (.ifCond .eq 26, 3) := by decide +kernel
theorem dX0_columnInBracket_21 : decode cX0_columnInBracket 21 = .ok (.aload_n 0, 1) := by decide +kernel
theorem dX0_columnInBracket_22 : decode cX0_columnInBracket 22 = .ok (.aload_n 1, 1) := by decide +kernel
theorem dX0_columnInBracket_23 : decode cX0_columnInBracket 23 = .ok (.iload_n 2, 1) := by decide +kernel
theorem dX0_columnInBracket_24 : decode cX0_columnInBracket 24 = .ok (.invokevirtual 66, 3) := by decide +kernel
theorem dX0_columnInBracket_27 : decode cX0_columnInBracket 27 = .ok (.istore 5, 2) := by decide +kernel
theorem dX0_columnInBracket_29 : decode cX0_columnInBracket 29 = .ok (.iload 4, 2) := by decide +kernel
theorem dX0_columnInBracket_31 : decode cX0_columnInBracket 31 = .ok (.ifCond .eq 8, 3) := by decide +kernel
theorem dX0_columnInBracket_34 : decode cX0_columnInBracket 34 = .ok (.iload 5, 2) := by decide +kernel
theorem dX0_columnInBracket_36 : decode cX0_columnInBracket 36 = .ok (.goto 7, 3) := by decide +kernel
theorem dX0_columnInBracket_39 : decode cX0_columnInBracket 39 = .ok (.iload 5, 2) := by decide +kernel
theorem dX0_columnInBracket_41 : decode cX0_columnInBracket 41 = .ok (.iconst 1, 1) := by decide +kernel
theorem dX0_columnInBracket_42 : decode cX0_columnInBracket 42 = .ok (.iadd, 1) := by decide +kernel
theorem dX0_columnInBracket_43 : decode cX0_columnInBracket 43 = .ok (.ireturn, 1) := by decide +kernel
theorem dX0_columnInBracket_44 : decode cX0_columnInBracket 44 = .ok (.aload_n 0, 1) := by decide +kernel
theorem dX0_columnInBracket_45 : decode cX0_columnInBracket 45 = .ok (.aload_n 1, 1) := by decide +kernel
theorem dX0_columnInBracket_46 : decode cX0_columnInBracket 46 = .ok (.iload_n 2, 1) := by decide +kernel
theorem dX0_columnInBracket_47 : decode cX0_columnInBracket 47 = .ok (.invokevirtual 58, 3) := by decide +kernel
theorem dX0_columnInBracket_50 : decode cX0_columnInBracket 50 = .ok (.istore 5, 2) := by decide +kernel
theorem dX0_columnInBracket_52 : decode cX0_columnInBracket 52 = .ok (.iload 4, 2) := by decide +kernel
theorem dX0_columnInBracket_54 : decode cX0_columnInBracket 54 = .ok (.ifCond .eq 8, 3) := by decide +kernel
theorem dX0_columnInBracket_57 : decode cX0_columnInBracket 57 = .ok (.iload 5, 2) := by decide +kernel
theorem dX0_columnInBracket_59 : decode cX0_columnInBracket 59 = .ok (.goto 12, 3) := by decide +kernel
theorem dX0_columnInBracket_62 : decode cX0_columnInBracket 62 = .ok (.iload 5, 2) := by decide +kernel
theorem dX0_columnInBracket_64 : decode cX0_columnInBracket 64 = .ok (.aload_n 0, 1) := by decide +kernel
theorem dX0_columnInBracket_65 : decode cX0_columnInBracket 65 = .ok (.getfield 9, 3) := by decide +kernel
theorem dX0_columnInBracket_68 : decode cX0_columnInBracket 68 = .ok (.iconst 1, 1) := by decide +kernel
theorem dX0_columnInBracket_69 : decode cX0_columnInBracket 69 = .ok (.iaload, 1) := by decide +kernel
theorem dX0_columnInBracket_70 : decode cX0_columnInBracket 70 = .ok (.iadd, 1) := by decide +kernel
theorem dX0_columnInBracket_71 : decode cX0_columnInBracket 71 = .ok (.ireturn, 1) := by decide +kernel
theorem dX0_goingOn_0 : decode cX0_goingOn 0 = .ok (.iload_n 2, 1) := by decide +kernel
theorem dX0_goingOn_1 : decode cX0_goingOn 1 = .ok (.iconst 1, 1) := by decide +kernel
theorem dX0_goingOn_2 : decode cX0_goingOn 2 = .ok (.if_icmp .eq 14, 3) := by decide +kernel
theorem dX0_goingOn_5 : decode cX0_goingOn 5 = .ok (.iload_n 2, 1) := by decide +kernel
theorem dX0_goingOn_6 : decode cX0_goingOn 6 = .ok (.iconst 5, 1) := by decide +kernel
theorem dX0_goingOn_7 : decode cX0_goingOn 7 = .ok (.if_icmp .eq 9, 3) := by decide +kernel
theorem dX0_goingOn_10 : decode cX0_goingOn 10 = .ok (.iload_n 2, 1) := by decide +kernel
theorem dX0_goingOn_11 : decode cX0_goingOn 11 = .ok (.bipush 6, 2) := by decide +kernel
theorem dX0_goingOn_13 : decode cX0_goingOn 13 = .ok (.if_icmp .ne 12, 3) := by decide +kernel
theorem dX0_goingOn_16 : decode cX0_goingOn 16 = .ok (.iload_n 1, 1) := by decide +kernel
theorem dX0_goingOn_17 : decode cX0_goingOn 17 = .ok (.aload_n 0, 1) := by decide +kernel
theorem dX0_goingOn_18 : decode cX0_goingOn 18 = .ok (.getfield 9, 3) := by decide +kernel
theorem dX0_goingOn_21 : decode cX0_goingOn 21 = .ok (.iconst 1, 1) := by decide +kernel
theorem dX0_goingOn_22 : decode cX0_goingOn 22 = .ok (.iaload, 1) := by decide +kernel
theorem dX0_goingOn_23 : decode cX0_goingOn 23 = .ok (.iadd, 1) := by decide +kernel
theorem dX0_goingOn_24 : decode cX0_goingOn 24 = .ok (.ireturn, 1) := by decide +kernel
theorem dX0_goingOn_25 : decode cX0_goingOn 25 = .ok (.iload_n 2, 1) := by decide +kernel
theorem dX0_goingOn_26 : decode cX0_goingOn 26 = .ok (.bipush 7, 2) := by decide +kernel
theorem dX0_goingOn_28 : decode cX0_goingOn 28 = .ok (.if_icmp .ne 14, 3) := by decide +kernel
theorem dX0_goingOn_31 : decode cX0_goingOn 31 = .ok (.iload_n 1, 1) := by decide +kernel
theorem dX0_goingOn_32 : decode cX0_goingOn 32 = .ok (.aload_n 0, 1) := by decide +kernel
theorem dX0_goingOn_33 : decode cX0_goingOn 33 = .ok (.getfield 9, 3) := by decide +kernel
theorem dX0_goingOn_36 : decode cX0_goingOn 36 = .ok (.iconst 0, 1) := by decide +kernel
theorem dX0_goingOn_37 : decode cX0_goingOn 37 = .ok (.iaload, 1) := by decide +kernel
theorem dX0_goingOn_38 : decode cX0_goingOn 38 = .ok (.iadd, 1) := by decide +kernel
theorem dX0_goingOn_39 : decode cX0_goingOn 39 = .ok (.goto 4, 3) := by decide +kernel
theorem dX0_goingOn_42 : decode cX0_goingOn 42 = .ok (.iload_n 1, 1) := by decide +kernel
theorem dX0_goingOn_43 : decode cX0_goingOn 43 = .ok (.ireturn, 1) := by decide +kernel
theorem dX0_isAligned_0 : decode cX0_isAligned 0 = .ok (.aload_n 1, 1) := by decide +kernel
theorem dX0_isAligned_1 : decode cX0_isAligned 1 = .ok (.getfield 52, 3) := by decide +kernel
theorem dX0_isAligned_4 : decode cX0_isAligned 4 = .ok (.iload_n 2, 1) := by decide +kernel
theorem dX0_isAligned_5 : decode cX0_isAligned 5 = .ok (.iaload, 1) := by decide +kernel
theorem dX0_isAligned_6 : decode cX0_isAligned 6 = .ok (.iconst 4, 1) := by decide +kernel
theorem dX0_isAligned_7 : decode cX0_isAligned 7 = .ok (.if_icmp .ne 26, 3) := by decide +kernel
theorem dX0_isAligned_10 : decode cX0_isAligned 10 = .ok (.aload_n 0, 1) := by decide +kernel
theorem dX0_isAligned_11 : decode cX0_isAligned 11 = .ok (.getfield 9, 3) := by decide +kernel
theorem dX0_isAligned_14 : decode cX0_isAligned 14 = .ok (.iconst 2, 1) := by decide +kernel
theorem dX0_isAligned_15 : decode cX0_isAligned 15 = .ok (.iaload, 1) := by decide +kernel
theorem dX0_isAligned_16 : decode cX0_isAligned 16 = .ok (.iconst 1, 1) := by decide +kernel
theorem dX0_isAligned_17 : decode cX0_isAligned 17 = .ok (.if_icmp .ne 16, 3) := by decide +kernel
theorem dX0_isAligned_20 : decode cX0_isAligned 20 = .ok (.aload_n 1, 1) := by decide +kernel
theorem dX0_isAligned_21 : decode cX0_isAligned 21 = .ok (.getfield 69, 3) := by decide +kernel
theorem dX0_isAligned_24 : decode cX0_isAligned 24 = .ok (.iload_n 2, 1) := by decide +kernel
theorem dX0_isAligned_25 : decode cX0_isAligned 25 = .ok (.baload, 1) := by decide +kernel
theorem dX0_isAligned_26 : decode cX0_isAligned 26 = .ok (.ifCond .eq 7, 3) := by decide +kernel
theorem dX0_isAligned_29 : decode cX0_isAligned 29 = .ok (.iconst 1, 1) := by decide +kernel
theorem dX0_isAligned_30 : decode cX0_isAligned 30 = .ok (.goto 4, 3) := by decide +kernel
theorem dX0_isAligned_33 : decode cX0_isAligned 33 = .ok (.iconst 0, 1) := by decide +kernel
theorem dX0_isAligned_34 : decode cX0_isAligned 34 = .ok (.ireturn, 1) := by decide +kernel
theorem dX0_baseOf_0 : decode cX0_baseOf 0 = .ok (.aload_n 0, 1) := by decide +kernel
theorem dX0_baseOf_1 : decode cX0_baseOf 1 = .ok (.getfield 15, 3) := by decide +kernel
theorem dX0_baseOf_4 : decode cX0_baseOf 4 = .ok (.aload_n 1, 1) := by decide +kernel
theorem dX0_baseOf_5 : decode cX0_baseOf 5 = .ok (.getfield 73, 3) := by decide +kernel
theorem dX0_baseOf_8 : decode cX0_baseOf 8 = .ok (.iload_n 2, 1) := by decide +kernel
theorem dX0_baseOf_9 : decode cX0_baseOf 9 = .ok (.iaload, 1) := by decide +kernel
theorem dX0_baseOf_10 : decode cX0_baseOf 10 = .ok (.iaload, 1) := by decide +kernel
theorem dX0_baseOf_11 : decode cX0_baseOf 11 = .ok (.ireturn, 1) := by decide +kernel
theorem dX0_placeOf_0 : decode cX0_placeOf 0 = .ok (.aload_n 0, 1) := by decide +kernel
theorem dX0_placeOf_1 : decode cX0_placeOf 1 = .ok (.getfield 15, 3) := by decide +kernel
theorem dX0_placeOf_4 : decode cX0_placeOf 4 = .ok (.aload_n 1, 1) := by decide +kernel
theorem dX0_placeOf_5 : decode cX0_placeOf 5 = .ok (.getfield 73, 3) := by decide +kernel
theorem dX0_placeOf_8 : decode cX0_placeOf 8 = .ok (.iload_n 2, 1) := by decide +kernel
theorem dX0_placeOf_9 : decode cX0_placeOf 9 = .ok (.iaload, 1) := by decide +kernel
theorem dX0_placeOf_10 : decode cX0_placeOf 10 = .ok (.iaload, 1) := by decide +kernel
theorem dX0_placeOf_11 : decode cX0_placeOf 11 = .ok (.aload_n 1, 1) := by decide +kernel
theorem dX0_placeOf_12 : decode cX0_placeOf 12 = .ok (.getfield 76, 3) := by decide +kernel
theorem dX0_placeOf_15 : decode cX0_placeOf 15 = .ok (.iload_n 2, 1) := by decide +kernel
theorem dX0_placeOf_16 : decode cX0_placeOf 16 = .ok (.iaload, 1) := by decide +kernel
theorem dX0_placeOf_17 : decode cX0_placeOf 17 = .ok (.iadd, 1) := by decide +kernel
theorem dX0_placeOf_18 : decode cX0_placeOf 18 = .ok (.ireturn, 1) := by decide +kernel
set_option maxRecDepth 20000 in
theorem ggX0_kindOf_X0_isAligned : GoodIn wsX0_kindOf wsX0_isAligned := goodIn_r _ [6, 1, 7, 8, 9, 10, 11, 12, 13, 14, 15, 16, 17, 18, 19, 20, 21, 22, 23, 24] (by decide +kernel) (by decide +kernel)
set_option maxRecDepth 20000 in
theorem gX0_kindOf_X0_isAligned : GoodIn wsX0_kindOf (wsV RX0 62 RX0 yX0_isAligned wsX0_isAligned) := goodIn_app (goodIn_of _ (by decide +kernel)) ggX0_kindOf_X0_isAligned
theorem dX0_kindOf_0 : decode cX0_kindOf 0 = .ok (.aload_n 1, 1) := by decide +kernel
theorem dX0_kindOf_1 : decode cX0_kindOf 1 = .ok (.getfield 52, 3) := by decide +kernel
theorem dX0_kindOf_4 : decode cX0_kindOf 4 = .ok (.iload_n 2, 1) := by decide +kernel
theorem dX0_kindOf_5 : decode cX0_kindOf 5 = .ok (.iaload, 1) := by decide +kernel
theorem dX0_kindOf_6 : decode cX0_kindOf 6 = .ok (.iconst 2, 1) := by decide +kernel
theorem dX0_kindOf_7 : decode cX0_kindOf 7 = .ok (.if_icmp .ne 5, 3) := by decide +kernel
theorem dX0_kindOf_10 : decode cX0_kindOf 10 = .ok (.iconst 1, 1) := by decide +kernel
theorem dX0_kindOf_11 : decode cX0_kindOf 11 = .ok (.ireturn, 1) := by decide +kernel
theorem dX0_kindOf_12 : decode cX0_kindOf 12 = .ok (.aload_n 0, 1) := by decide +kernel
theorem dX0_kindOf_13 : decode cX0_kindOf 13 = .ok (.aload_n 1, 1) := by decide +kernel
theorem dX0_kindOf_14 : decode cX0_kindOf 14 = .ok (.iload_n 2, 1) := by decide +kernel
theorem dX0_kindOf_15 : decode cX0_kindOf 15 = .ok (.invokevirtual 62, 3) := by decide +kernel
theorem dX0_kindOf_18 : decode cX0_kindOf 18 = .ok (.ifCond .eq 7, 3) := by decide +kernel
theorem dX0_kindOf_21 : decode cX0_kindOf 21 = .ok (.iconst 3, 1) := by decide +kernel
theorem dX0_kindOf_22 : decode cX0_kindOf 22 = .ok (.goto 4, 3) := by decide +kernel
theorem dX0_kindOf_25 : decode cX0_kindOf 25 = .ok (.iconst 2, 1) := by decide +kernel
theorem dX0_kindOf_26 : decode cX0_kindOf 26 = .ok (.ireturn, 1) := by decide +kernel
theorem dX1_init_0 : decode cX1_init 0 = .ok (.aload_n 0, 1) := by decide +kernel
theorem dX1_init_1 : decode cX1_init 1 = .ok (.invokespecial 3, 3) := by decide +kernel
theorem dX1_init_4 : decode cX1_init 4 = .ok (.aload_n 0, 1) := by decide +kernel
theorem dX1_init_5 : decode cX1_init 5 = .ok (.bipush 9, 2) := by decide +kernel
theorem dX1_init_7 : decode cX1_init 7 = .ok (.newarray .int, 2) := by decide +kernel
theorem dX1_init_9 : decode cX1_init 9 = .ok (.putfield 9, 3) := by decide +kernel
theorem dX1_init_12 : decode cX1_init 12 = .ok (.aload_n 0, 1) := by decide +kernel
theorem dX1_init_13 : decode cX1_init 13 = .ok (.bipush (-9), 2) := by decide +kernel
theorem dX1_init_15 : decode cX1_init 15 = .ok (.putfield 15, 3) := by decide +kernel
theorem dX1_init_18 : decode cX1_init 18 = .ok (.return_, 1) := by decide +kernel
set_option maxRecDepth 20000 in
theorem ggX1_read_X1_digitsOf : GoodIn wsX1_read wsX1_digitsOf := goodIn_r _ [8] (by decide +kernel) (by decide +kernel)
set_option maxRecDepth 20000 in
theorem gX1_read_X1_digitsOf : GoodIn wsX1_read (va_wsS RX1 22 yX1_digitsOf wsX1_digitsOf) := goodIn_app (goodIn_of _ (by decide +kernel)) ggX1_read_X1_digitsOf
theorem dX1_read_0 : decode cX1_read 0 = .ok (.aload_n 0, 1) := by decide +kernel
theorem dX1_read_1 : decode cX1_read 1 = .ok (.iload_n 1, 1) := by decide +kernel
theorem dX1_read_2 : decode cX1_read 2 = .ok (.putfield 19, 3) := by decide +kernel
theorem dX1_read_5 : decode cX1_read 5 = .ok (.aload_n 0, 1) := by decide +kernel
theorem dX1_read_6 : decode cX1_read 6 = .ok (.iload_n 1, 1) := by decide +kernel
theorem dX1_read_7 : decode cX1_read 7 = .ok (.invokestatic 22, 3) := by decide +kernel
theorem dX1_read_10 : decode cX1_read 10 = .ok (.putfield 26, 3) := by decide +kernel
theorem dX1_read_13 : decode cX1_read 13 = .ok (.iload_n 1, 1) := by decide +kernel
theorem dX1_read_14 : decode cX1_read 14 = .ok (.istore_n 2, 1) := by decide +kernel
theorem dX1_read_15 : decode cX1_read 15 = .ok (.aload_n 0, 1) := by decide +kernel
theorem dX1_read_16 : decode cX1_read 16 = .ok (.getfield 26, 3) := by decide +kernel
theorem dX1_read_19 : decode cX1_read 19 = .ok (.iconst 1, 1) := by decide +kernel
theorem dX1_read_20 : decode cX1_read 20 = .ok (.isub, 1) := by decide +kernel
theorem dX1_read_21 : decode cX1_read 21 = .ok (.istore_n 3, 1) := by decide +kernel
theorem dX1_read_22 : decode cX1_read 22 = .ok (.iload_n 3, 1) := by decide +kernel
theorem dX1_read_23 : decode cX1_read 23 = .ok (.ifCond .lt 24, 3) := by decide +kernel
theorem dX1_read_26 : decode cX1_read 26 = .ok (.aload_n 0, 1) := by decide +kernel
theorem dX1_read_27 : decode cX1_read 27 = .ok (.getfield 9, 3) := by decide +kernel
theorem dX1_read_30 : decode cX1_read 30 = .ok (.iload_n 3, 1) := by decide +kernel
theorem dX1_read_31 : decode cX1_read 31 = .ok (.iload_n 2, 1) := by decide +kernel
theorem dX1_read_32 : decode cX1_read 32 = .ok (.bipush 10, 2) := by decide +kernel
theorem dX1_read_34 : decode cX1_read 34 = .ok (.irem, 1) := by decide +kernel
theorem dX1_read_35 : decode cX1_read 35 = .ok (.iastore, 1) := by decide +kernel
theorem dX1_read_36 : decode cX1_read 36 = .ok (.iload_n 2, 1) := by decide +kernel
theorem dX1_read_37 : decode cX1_read 37 = .ok (.bipush 10, 2) := by decide +kernel
theorem dX1_read_39 : decode cX1_read 39 = .ok (.idiv, 1) := by decide +kernel
theorem dX1_read_40 : decode cX1_read 40 = .ok (.istore_n 2, 1) := by decide +kernel
theorem dX1_read_41 : decode cX1_read 41 = .ok (.iinc 3 (-1), 3) := by decide +kernel
theorem dX1_read_44 : decode cX1_read 44 = .ok (.goto (-22), 3) := by decide +kernel
theorem dX1_read_47 : decode cX1_read 47 = .ok (.aload_n 0, 1) := by decide +kernel
theorem dX1_read_48 : decode cX1_read 48 = .ok (.aload_n 0, 1) := by decide +kernel
theorem dX1_read_49 : decode cX1_read 49 = .ok (.getfield 26, 3) := by decide +kernel
theorem dX1_read_52 : decode cX1_read 52 = .ok (.putfield 29, 3) := by decide +kernel
theorem dX1_read_55 : decode cX1_read 55 = .ok (.aload_n 0, 1) := by decide +kernel
theorem dX1_read_56 : decode cX1_read 56 = .ok (.getfield 26, 3) := by decide +kernel
theorem dX1_read_59 : decode cX1_read 59 = .ok (.iconst 1, 1) := by decide +kernel
theorem dX1_read_60 : decode cX1_read 60 = .ok (.isub, 1) := by decide +kernel
theorem dX1_read_61 : decode cX1_read 61 = .ok (.istore_n 3, 1) := by decide +kernel
theorem dX1_read_62 : decode cX1_read 62 = .ok (.iload_n 3, 1) := by decide +kernel
theorem dX1_read_63 : decode cX1_read 63 = .ok (.ifCond .lt 27, 3) := by decide +kernel
theorem dX1_read_66 : decode cX1_read 66 = .ok (.aload_n 0, 1) := by decide +kernel
theorem dX1_read_67 : decode cX1_read 67 = .ok (.getfield 9, 3) := by decide +kernel
theorem dX1_read_70 : decode cX1_read 70 = .ok (.iload_n 3, 1) := by decide +kernel
theorem dX1_read_71 : decode cX1_read 71 = .ok (.iaload, 1) := by decide +kernel
theorem dX1_read_72 : decode cX1_read 72 = .ok (.bipush 9, 2) := by decide +kernel
theorem dX1_read_74 : decode cX1_read 74 = .ok (.if_icmp .ne 10, 3) := by decide +kernel
theorem dX1_read_77 : decode cX1_read 77 = .ok (.aload_n 0, 1) := by decide +kernel
theorem dX1_read_78 : decode cX1_read 78 = .ok (.iload_n 3, 1) := by decide +kernel
theorem dX1_read_79 : decode cX1_read 79 = .ok (.iconst 1, 1) := by decide +kernel
theorem dX1_read_80 : decode cX1_read 80 = .ok (.iadd, 1) := by decide +kernel
theorem dX1_read_81 : decode cX1_read 81 = .ok (.putfield 29, 3) := by decide +kernel
theorem dX1_read_84 : decode cX1_read 84 = .ok (.iinc 3 (-1), 3) := by decide +kernel
theorem dX1_read_87 : decode cX1_read 87 = .ok (.goto (-25), 3) := by decide +kernel
theorem dX1_read_90 : decode cX1_read 90 = .ok (.return_, 1) := by decide +kernel
theorem dX1_digitsOf_0 : decode cX1_digitsOf 0 = .ok (.iconst 0, 1) := by decide +kernel
theorem dX1_digitsOf_1 : decode cX1_digitsOf 1 = .ok (.istore_n 1, 1) := by decide +kernel
theorem dX1_digitsOf_2 : decode cX1_digitsOf 2 = .ok (.iload_n 0, 1) := by decide +kernel
theorem dX1_digitsOf_3 : decode cX1_digitsOf 3 = .ok (.istore_n 2, 1) := by decide +kernel
theorem dX1_digitsOf_4 : decode cX1_digitsOf 4 = .ok (.iconst 0, 1) := by decide +kernel
theorem dX1_digitsOf_5 : decode cX1_digitsOf 5 = .ok (.istore_n 3, 1) := by decide +kernel
theorem dX1_digitsOf_6 : decode cX1_digitsOf 6 = .ok (.iload_n 3, 1) := by decide +kernel
theorem dX1_digitsOf_7 : decode cX1_digitsOf 7 = .ok (.bipush 9, 2) := by decide +kernel
theorem dX1_digitsOf_9 : decode cX1_digitsOf 9 = .ok (.if_icmp .ge 21, 3) := by decide +kernel
theorem dX1_digitsOf_12 : decode cX1_digitsOf 12 = .ok (.iload_n 2, 1) := by decide +kernel
theorem dX1_digitsOf_13 : decode cX1_digitsOf 13 = .ok (.ifCond .le 17, 3) := by decide +kernel
theorem dX1_digitsOf_16 : decode cX1_digitsOf 16 = .ok (.iinc 1 1, 3) := by decide +kernel
theorem dX1_digitsOf_19 : decode cX1_digitsOf 19 = .ok (.iload_n 2, 1) := by decide +kernel
theorem dX1_digitsOf_20 : decode cX1_digitsOf 20 = .ok (.bipush 10, 2) := by decide +kernel
theorem dX1_digitsOf_22 : decode cX1_digitsOf 22 = .ok (.idiv, 1) := by decide +kernel
theorem dX1_digitsOf_23 : decode cX1_digitsOf 23 = .ok (.istore_n 2, 1) := by decide +kernel
theorem dX1_digitsOf_24 : decode cX1_digitsOf 24 = .ok (.iinc 3 1, 3) := by decide +kernel
theorem dX1_digitsOf_27 : decode cX1_digitsOf 27 = .ok (.goto (-21), 3) := by decide +kernel
theorem dX1_digitsOf_30 : decode cX1_digitsOf 30 = .ok (.iload_n 1, 1) := by decide +kernel
theorem dX1_digitsOf_31 : decode cX1_digitsOf 31 = .ok (.ireturn, 1) := by decide +kernel
theorem dX1_widthAhead_0 : decode cX1_widthAhead 0 = .ok (.iconst 0, 1) := by decide +kernel
theorem dX1_widthAhead_1 : decode cX1_widthAhead 1 = .ok (.istore_n 2, 1) := by decide +kernel
theorem dX1_widthAhead_2 : decode cX1_widthAhead 2 = .ok (.iconst 0, 1) := by decide +kernel
theorem dX1_widthAhead_3 : decode cX1_widthAhead 3 = .ok (.istore_n 3, 1) := by decide +kernel
theorem dX1_widthAhead_4 : decode cX1_widthAhead 4 = .ok (.iload_n 3, 1) := by decide +kernel
theorem dX1_widthAhead_5 : decode cX1_widthAhead 5 = .ok (.iload_n 1, 1) := by decide +kernel
theorem dX1_widthAhead_6 : decode cX1_widthAhead 6 = .ok (.if_icmp .ge 30, 3) := by decide +kernel
theorem dX1_widthAhead_9 : decode cX1_widthAhead 9 = .ok (.iload_n 3, 1) := by decide +kernel
theorem dX1_widthAhead_10 : decode cX1_widthAhead 10 = .ok (.aload_n 0, 1) := by decide +kernel
theorem dX1_widthAhead_11 : decode cX1_widthAhead 11 = .ok (.getfield 26, 3) := by decide +kernel
theorem dX1_widthAhead_14 : decode cX1_widthAhead 14 = .ok (.if_icmp .ge 22, 3) := by decide +kernel
theorem dX1_widthAhead_17 : decode cX1_widthAhead 17 = .ok (.iload_n 2, 1) := by decide +kernel
theorem dX1_widthAhead_18 : decode cX1_widthAhead 18 = .ok (.getstatic 32, 3) := by decide +kernel
theorem dX1_widthAhead_21 : decode cX1_widthAhead 21 = .ok (.aload_n 0, 1) := by decide +kernel
theorem dX1_widthAhead_22 : decode cX1_widthAhead 22 = .ok (.getfield 9, 3) := by decide +kernel
theorem dX1_widthAhead_25 : decode cX1_widthAhead 25 = .ok (.iload_n 3, 1) := by decide +kernel
theorem dX1_widthAhead_26 : decode cX1_widthAhead 26 = .ok (.iaload, 1) := by decide +kernel
theorem dX1_widthAhead_27 : decode cX1_widthAhead 27 = .ok (.iaload, 1) := by decide +kernel
theorem dX1_widthAhead_28 : decode cX1_widthAhead 28 = .ok (.iadd, 1) := by decide +kernel
theorem dX1_widthAhead_29 : decode cX1_widthAhead 29 = .ok (.istore_n 2, 1) := by decide +kernel
theorem dX1_widthAhead_30 : decode cX1_widthAhead 30 = .ok (.iinc 3 1, 3) := by decide +kernel
theorem dX1_widthAhead_33 : decode cX1_widthAhead 33 = .ok (.goto (-29), 3) := by decide +kernel
theorem dX1_widthAhead_36 : decode cX1_widthAhead 36 = .ok (.iload_n 2, 1) := by decide +kernel
theorem dX1_widthAhead_37 : decode cX1_widthAhead 37 = .ok (.ireturn, 1) := by decide +kernel
theorem dX1_isFollowed_0 : decode cX1_isFollowed 0 = .ok (.iload_n 1, 1) := by decide +kernel
theorem dX1_isFollowed_1 : decode cX1_isFollowed 1 = .ok (.iconst 1, 1) := by decide +kernel
theorem dX1_isFollowed_2 : decode cX1_isFollowed 2 = .ok (.iadd, 1) := by decide +kernel
theorem dX1_isFollowed_3 : decode cX1_isFollowed 3 = .ok (.istore_n 2, 1) := by decide +kernel
theorem dX1_isFollowed_4 : decode cX1_isFollowed 4 = .ok (.iload_n 2, 1) := by decide +kernel
theorem dX1_isFollowed_5 : decode cX1_isFollowed 5 = .ok (.aload_n 0, 1) := by decide +kernel
theorem dX1_isFollowed_6 : decode cX1_isFollowed 6 = .ok (.getfield 29, 3) := by decide +kernel
theorem dX1_isFollowed_9 : decode cX1_isFollowed 9 = .ok (.if_icmp .ge 18, 3) := by decide +kernel
theorem dX1_isFollowed_12 : decode cX1_isFollowed 12 = .ok (.aload_n 0, 1) := by decide +kernel
theorem dX1_isFollowed_13 : decode cX1_isFollowed 13 = .ok (.getfield 9, 3) := by decide +kernel
theorem dX1_isFollowed_16 : decode cX1_isFollowed 16 = .ok (.iload_n 2, 1) := by decide +kernel
theorem dX1_isFollowed_17 : decode cX1_isFollowed 17 = .ok (.iaload, 1) := by decide +kernel
theorem dX1_isFollowed_18 : decode cX1_isFollowed 18 = .ok (.bipush 9, 2) := by decide +kernel
theorem dX1_isFollowed_20 : decode cX1_isFollowed 20 = .ok (.if_icmp .eq 7, 3) := by decide +kernel
theorem dX1_isFollowed_23 : decode cX1_isFollowed 23 = .ok (.iconst 1, 1) := by decide +kernel
theorem dX1_isFollowed_24 : decode cX1_isFollowed 24 = .ok (.goto 4, 3) := by decide +kernel
theorem dX1_isFollowed_27 : decode cX1_isFollowed 27 = .ok (.iconst 0, 1) := by decide +kernel
theorem dX1_isFollowed_28 : decode cX1_isFollowed 28 = .ok (.ireturn, 1) := by decide +kernel
theorem dX1_counts_0 : decode cX1_counts 0 = .ok (.aload_n 0, 1) := by decide +kernel
theorem dX1_counts_1 : decode cX1_counts 1 = .ok (.getfield 15, 3) := by decide +kernel
theorem dX1_counts_4 : decode cX1_counts 4 = .ok (.bipush (-9), 2) := by decide +kernel
theorem dX1_counts_6 : decode cX1_counts 6 = .ok (.if_icmp .eq 14, 3) := by decide +kernel
theorem dX1_counts_9 : decode cX1_counts 9 = .ok (.aload_n 0, 1) := by decide +kernel
theorem dX1_counts_10 : decode cX1_counts 10 = .ok (.getfield 26, 3) := by decide +kernel
theorem dX1_counts_13 : decode cX1_counts 13 = .ok (.ifCond .le 7, 3) := by decide +kernel
theorem dX1_counts_16 : decode cX1_counts 16 = .ok (.iconst 1, 1) := by decide +kernel
theorem dX1_counts_17 : decode cX1_counts 17 = .ok (.goto 4, 3) := by decide +kernel
theorem dX1_counts_20 : decode cX1_counts 20 = .ok (.iconst 0, 1) := by decide +kernel
theorem dX1_counts_21 : decode cX1_counts 21 = .ok (.ireturn, 1) := by decide +kernel
theorem dX2_init_0 : decode cX2_init 0 = .ok (.aload_n 0, 1) := by decide +kernel
theorem dX2_init_1 : decode cX2_init 1 = .ok (.invokespecial 3, 3) := by decide +kernel
theorem dX2_init_4 : decode cX2_init 4 = .ok (.aload_n 0, 1) := by decide +kernel
theorem dX2_init_5 : decode cX2_init 5 = .ok (.bipush 20, 2) := by decide +kernel
theorem dX2_init_7 : decode cX2_init 7 = .ok (.newarray .int, 2) := by decide +kernel
theorem dX2_init_9 : decode cX2_init 9 = .ok (.putfield 9, 3) := by decide +kernel
theorem dX2_init_12 : decode cX2_init 12 = .ok (.aload_n 0, 1) := by decide +kernel
theorem dX2_init_13 : decode cX2_init 13 = .ok (.bipush 20, 2) := by decide +kernel
theorem dX2_init_15 : decode cX2_init 15 = .ok (.newarray .int, 2) := by decide +kernel
theorem dX2_init_17 : decode cX2_init 17 = .ok (.putfield 15, 3) := by decide +kernel
theorem dX2_init_20 : decode cX2_init 20 = .ok (.aload_n 0, 1) := by decide +kernel
theorem dX2_init_21 : decode cX2_init 21 = .ok (.bipush 20, 2) := by decide +kernel
theorem dX2_init_23 : decode cX2_init 23 = .ok (.newarray .int, 2) := by decide +kernel
theorem dX2_init_25 : decode cX2_init 25 = .ok (.putfield 18, 3) := by decide +kernel
theorem dX2_init_28 : decode cX2_init 28 = .ok (.aload_n 0, 1) := by decide +kernel
theorem dX2_init_29 : decode cX2_init 29 = .ok (.bipush 20, 2) := by decide +kernel
theorem dX2_init_31 : decode cX2_init 31 = .ok (.newarray .int, 2) := by decide +kernel
theorem dX2_init_33 : decode cX2_init 33 = .ok (.putfield 21, 3) := by decide +kernel
theorem dX2_init_36 : decode cX2_init 36 = .ok (.aload_n 0, 1) := by decide +kernel
theorem dX2_init_37 : decode cX2_init 37 = .ok (.sipush 180, 3) := by decide +kernel
theorem dX2_init_40 : decode cX2_init 40 = .ok (.newarray .int, 2) := by decide +kernel
theorem dX2_init_42 : decode cX2_init 42 = .ok (.putfield 24, 3) := by decide +kernel
theorem dX2_init_45 : decode cX2_init 45 = .ok (.aload_n 0, 1) := by decide +kernel
theorem dX2_init_46 : decode cX2_init 46 = .ok (.sipush 180, 3) := by decide +kernel
theorem dX2_init_49 : decode cX2_init 49 = .ok (.newarray .int, 2) := by decide +kernel
theorem dX2_init_51 : decode cX2_init 51 = .ok (.putfield 27, 3) := by decide +kernel
theorem dX2_init_54 : decode cX2_init 54 = .ok (.aload_n 0, 1) := by decide +kernel
theorem dX2_init_55 : decode cX2_init 55 = .ok (.sipush 180, 3) := by decide +kernel
theorem dX2_init_58 : decode cX2_init 58 = .ok (.newarray .int, 2) := by decide +kernel
theorem dX2_init_60 : decode cX2_init 60 = .ok (.putfield 30, 3) := by decide +kernel
theorem dX2_init_63 : decode cX2_init 63 = .ok (.aload_n 0, 1) := by decide +kernel
theorem dX2_init_64 : decode cX2_init 64 = .ok (.sipush 180, 3) := by decide +kernel
theorem dX2_init_67 : decode cX2_init 67 = .ok (.newarray .int, 2) := by decide +kernel
theorem dX2_init_69 : decode cX2_init 69 = .ok (.putfield 33, 3) := by decide +kernel
theorem dX2_init_72 : decode cX2_init 72 = .ok (.aload_n 0, 1) := by decide +kernel
theorem dX2_init_73 : decode cX2_init 73 = .ok (.sipush 180, 3) := by decide +kernel
theorem dX2_init_76 : decode cX2_init 76 = .ok (.newarray .boolean, 2) := by decide +kernel
theorem dX2_init_78 : decode cX2_init 78 = .ok (.putfield 36, 3) := by decide +kernel
theorem dX2_init_81 : decode cX2_init 81 = .ok (.aload_n 0, 1) := by decide +kernel
theorem dX2_init_82 : decode cX2_init 82 = .ok (.sipush 180, 3) := by decide +kernel
theorem dX2_init_85 : decode cX2_init 85 = .ok (.newarray .int, 2) := by decide +kernel
theorem dX2_init_87 : decode cX2_init 87 = .ok (.putfield 40, 3) := by decide +kernel
theorem dX2_init_90 : decode cX2_init 90 = .ok (.aload_n 0, 1) := by decide +kernel
theorem dX2_init_91 : decode cX2_init 91 = .ok (.sipush 180, 3) := by decide +kernel
theorem dX2_init_94 : decode cX2_init 94 = .ok (.newarray .int, 2) := by decide +kernel
theorem dX2_init_96 : decode cX2_init 96 = .ok (.putfield 43, 3) := by decide +kernel
theorem dX2_init_99 : decode cX2_init 99 = .ok (.return_, 1) := by decide +kernel
set_option maxRecDepth 20000 in
theorem ggX2_read_X2_readLine : GoodIn wsX2_read wsX2_readLine := goodIn_r _ [15, 16, 17, 3, 18, 19, 20, 14, 21, 1, 2, 22, 23, 24, 25, 26, 27, 6, 28, 29, 30, 31, 32, 33, 34, 35, 36, 37, 38, 39, 40, 41, 42, 43, 9, 60, 61, 62, 63, 64, 65, 44, 45, 46, 47, 48, 49, 50, 51, 52, 53, 54, 55, 56, 57] (by decide +kernel) (by decide +kernel)
set_option maxRecDepth 20000 in
theorem gX2_read_X2_readLine : GoodIn wsX2_read (wsV RX2 65 RX2 yX2_readLine wsX2_readLine) := goodIn_app (goodIn_of _ (by decide +kernel)) ggX2_read_X2_readLine
theorem dX2_read_0 : decode cX2_read 0 = .ok (.aload_n 0, 1) := by decide +kernel
theorem dX2_read_1 : decode cX2_read 1 = .ok (.iconst 0, 1) := by decide +kernel
theorem dX2_read_2 : decode cX2_read 2 = .ok (.putfield 46, 3) := by decide +kernel
theorem dX2_read_5 : decode cX2_read 5 = .ok (.aload_n 0, 1) := by decide +kernel
theorem dX2_read_6 : decode cX2_read 6 = .ok (.iconst 0, 1) := by decide +kernel
theorem dX2_read_7 : decode cX2_read 7 = .ok (.putfield 50, 3) := by decide +kernel
theorem dX2_read_10 : decode cX2_read 10 = .ok (.aload_n 0, 1) := by decide +kernel
theorem dX2_read_11 : decode cX2_read 11 = .ok (.iconst 0, 1) := by decide +kernel
theorem dX2_read_12 : decode cX2_read 12 = .ok (.putfield 53, 3) := by decide +kernel
theorem dX2_read_15 : decode cX2_read 15 = .ok (.iconst 0, 1) := by decide +kernel
theorem dX2_read_16 : decode cX2_read 16 = .ok (.istore_n 2, 1) := by decide +kernel
theorem dX2_read_17 : decode cX2_read 17 = .ok (.iload_n 2, 1) := by decide +kernel
theorem dX2_read_18 : decode cX2_read 18 = .ok (.aload_n 1, 1) := by decide +kernel
theorem dX2_read_19 : decode cX2_read 19 = .ok (.getfield 56, 3) := by decide +kernel
theorem dX2_read_22 : decode cX2_read 22 = .ok (.if_icmp .ge 76, 3) := by decide +kernel
theorem dX2_read_25 : decode cX2_read 25 = .ok (.aload_n 0, 1) := by decide +kernel
theorem dX2_read_26 : decode cX2_read 26 = .ok (.getfield 9, 3) := by decide +kernel
theorem dX2_read_29 : decode cX2_read 29 = .ok (.iload_n 2, 1) := by decide +kernel
theorem dX2_read_30 : decode cX2_read 30 = .ok (.aload_n 0, 1) := by decide +kernel
theorem dX2_read_31 : decode cX2_read 31 = .ok (.getfield 50, 3) := by decide +kernel
theorem dX2_read_34 : decode cX2_read 34 = .ok (.ifCond .le 17, 3) := by decide +kernel
theorem dX2_read_37 : decode cX2_read 37 = .ok (.aload_n 0, 1) := by decide +kernel
theorem dX2_read_38 : decode cX2_read 38 = .ok (.getfield 43, 3) := by decide +kernel
theorem dX2_read_41 : decode cX2_read 41 = .ok (.aload_n 0, 1) := by decide +kernel
theorem dX2_read_42 : decode cX2_read 42 = .ok (.getfield 50, 3) := by decide +kernel
theorem dX2_read_45 : decode cX2_read 45 = .ok (.iconst 1, 1) := by decide +kernel
theorem dX2_read_46 : decode cX2_read 46 = .ok (.isub, 1) := by decide +kernel
theorem dX2_read_47 : decode cX2_read 47 = .ok (.iaload, 1) := by decide +kernel
theorem dX2_read_48 : decode cX2_read 48 = .ok (.goto 5, 3) := by decide +kernel
theorem dX2_read_51 : decode cX2_read 51 = .ok (.bipush (-9), 2) := by decide +kernel
theorem dX2_read_53 : decode cX2_read 53 = .ok (.iastore, 1) := by decide +kernel
theorem dX2_read_54 : decode cX2_read 54 = .ok (.aload_n 0, 1) := by decide +kernel
theorem dX2_read_55 : decode cX2_read 55 = .ok (.getfield 15, 3) := by decide +kernel
theorem dX2_read_58 : decode cX2_read 58 = .ok (.iload_n 2, 1) := by decide +kernel
theorem dX2_read_59 : decode cX2_read 59 = .ok (.aload_n 0, 1) := by decide +kernel
theorem dX2_read_60 : decode cX2_read 60 = .ok (.getfield 50, 3) := by decide +kernel
theorem dX2_read_63 : decode cX2_read 63 = .ok (.iastore, 1) := by decide +kernel
theorem dX2_read_64 : decode cX2_read 64 = .ok (.aload_n 0, 1) := by decide +kernel
theorem dX2_read_65 : decode cX2_read 65 = .ok (.getfield 18, 3) := by decide +kernel
theorem dX2_read_68 : decode cX2_read 68 = .ok (.iload_n 2, 1) := by decide +kernel
theorem dX2_read_69 : decode cX2_read 69 = .ok (.aload_n 0, 1) := by decide +kernel
theorem dX2_read_70 : decode cX2_read 70 = .ok (.getfield 53, 3) := by decide +kernel
theorem dX2_read_73 : decode cX2_read 73 = .ok (.iastore, 1) := by decide +kernel
theorem dX2_read_74 : decode cX2_read 74 = .ok (.aload_n 0, 1) := by decide +kernel
theorem dX2_read_75 : decode cX2_read 75 = .ok (.getfield 21, 3) := by decide +kernel
theorem dX2_read_78 : decode cX2_read 78 = .ok (.iload_n 2, 1) := by decide +kernel
theorem dX2_read_79 : decode cX2_read 79 = .ok (.iconst 0, 1) := by decide +kernel
theorem dX2_read_80 : decode cX2_read 80 = .ok (.iastore, 1) := by decide +kernel
theorem dX2_read_81 : decode cX2_read 81 = .ok (.aload_n 0, 1) := by decide +kernel
theorem dX2_read_82 : decode cX2_read 82 = .ok (.aload_n 1, 1) := by decide +kernel
theorem dX2_read_83 : decode cX2_read 83 = .ok (.getfield 61, 3) := by decide +kernel
theorem dX2_read_86 : decode cX2_read 86 = .ok (.iload_n 2, 1) := by decide +kernel
theorem dX2_read_87 : decode cX2_read 87 = .ok (.aaload, 1) := by decide +kernel
theorem dX2_read_88 : decode cX2_read 88 = .ok (.iload_n 2, 1) := by decide +kernel
theorem dX2_read_89 : decode cX2_read 89 = .ok (.invokevirtual 65, 3) := by decide +kernel
theorem dX2_read_92 : decode cX2_read 92 = .ok (.iinc 2 1, 3) := by decide +kernel
theorem dX2_read_95 : decode cX2_read 95 = .ok (.goto (-78), 3) := by decide +kernel
theorem dX2_read_98 : decode cX2_read 98 = .ok (.return_, 1) := by decide +kernel
set_option maxRecDepth 20000 in
theorem ggX2_readLine_X2_openOne : GoodIn wsX2_readLine wsX2_openOne := goodIn_r _ [8, 9, 10, 11, 2, 12, 13, 14, 15, 16, 17, 18, 19, 20, 21, 22, 23, 24, 25, 26, 27, 28, 29, 41, 42, 43, 44, 45, 46, 47, 48, 49, 50, 51, 52, 53, 54, 35, 36, 37, 38, 39, 40] (by decide +kernel) (by decide +kernel)
set_option maxRecDepth 20000 in
theorem gX2_readLine_X2_openOne : GoodIn wsX2_readLine (wsV RX2 77 RX2 yX2_openOne wsX2_openOne) := goodIn_app (goodIn_of _ (by decide +kernel)) ggX2_readLine_X2_openOne
set_option maxRecDepth 20000 in
theorem ggX2_readLine_X2_closeOne : GoodIn wsX2_readLine wsX2_closeOne := goodIn_r _ [33, 10, 11, 17, 16, 34, 41, 42, 43, 44, 45, 46, 47, 48, 49, 50, 51, 52, 53, 54] (by decide +kernel) (by decide +kernel)
set_option maxRecDepth 20000 in
theorem gX2_readLine_X2_closeOne : GoodIn wsX2_readLine (wsV RX2 81 RX2 yX2_closeOne wsX2_closeOne) := goodIn_app (goodIn_of _ (by decide +kernel)) ggX2_readLine_X2_closeOne
theorem dX2_readLine_0 : decode cX2_readLine 0 = .ok (.iconst 0, 1) := by decide +kernel
theorem dX2_readLine_1 : decode cX2_readLine 1 = .ok (.istore_n 3, 1) := by decide +kernel
theorem dX2_readLine_2 : decode cX2_readLine 2 = .ok (.iload_n 3, 1) := by decide +kernel
theorem dX2_readLine_3 : decode cX2_readLine 3 = .ok (.aload_n 1, 1) := by decide +kernel
theorem dX2_readLine_4 : decode cX2_readLine 4 = .ok (.getfield 69, 3) := by decide +kernel
theorem dX2_readLine_7 : decode cX2_readLine 7 = .ok (.if_icmp .ge 79, 3) := by decide +kernel
theorem dX2_readLine_10 : decode cX2_readLine 10 = .ok (.aload_n 1, 1) := by decide +kernel
theorem dX2_readLine_11 : decode cX2_readLine 11 = .ok (.getfield 74, 3) := by decide +kernel
theorem dX2_readLine_14 : decode cX2_readLine 14 = .ok (.iload_n 3, 1) := by decide +kernel
theorem dX2_readLine_15 : decode cX2_readLine 15 = .ok (.iaload, 1) := by decide +kernel
theorem dX2_readLine_16 : decode cX2_readLine 16 = .ok (.istore 4, 2) := by decide +kernel
theorem dX2_readLine_18 : decode cX2_readLine 18 = .ok (.iload 4, 2) := by decide +kernel
theorem dX2_readLine_20 : decode cX2_readLine 20 = .ok (.iconst 2, 1) := by decide +kernel
theorem dX2_readLine_21 : decode cX2_readLine 21 = .ok (.if_icmp .eq 9, 3) := by decide +kernel
theorem dX2_readLine_24 : decode cX2_readLine 24 = .ok (.iload 4, 2) := by decide +kernel
theorem dX2_readLine_26 : decode cX2_readLine 26 = .ok (.iconst 4, 1) := by decide +kernel
theorem dX2_readLine_27 : decode cX2_readLine 27 = .ok (.if_icmp .ne 13, 3) := by decide +kernel
theorem dX2_readLine_30 : decode cX2_readLine 30 = .ok (.aload_n 0, 1) := by decide +kernel
theorem dX2_readLine_31 : decode cX2_readLine 31 = .ok (.aload_n 1, 1) := by decide +kernel
theorem dX2_readLine_32 : decode cX2_readLine 32 = .ok (.iload_n 2, 1) := by decide +kernel
theorem dX2_readLine_33 : decode cX2_readLine 33 = .ok (.iload_n 3, 1) := by decide +kernel
theorem dX2_readLine_34 : decode cX2_readLine 34 = .ok (.invokevirtual 77, 3) := by decide +kernel
theorem dX2_readLine_37 : decode cX2_readLine 37 = .ok (.goto 30, 3) := by decide +kernel
theorem dX2_readLine_40 : decode cX2_readLine 40 = .ok (.iload 4, 2) := by decide +kernel
theorem dX2_readLine_42 : decode cX2_readLine 42 = .ok (.iconst 3, 1) := by decide +kernel
theorem dX2_readLine_43 : decode cX2_readLine 43 = .ok (.if_icmp .ne 12, 3) := by decide +kernel
theorem dX2_readLine_46 : decode cX2_readLine 46 = .ok (.aload_n 0, 1) := by decide +kernel
theorem dX2_readLine_47 : decode cX2_readLine 47 = .ok (.iconst 2, 1) := by decide +kernel
theorem dX2_readLine_48 : decode cX2_readLine 48 = .ok (.iload_n 2, 1) := by decide +kernel
theorem dX2_readLine_49 : decode cX2_readLine 49 = .ok (.invokevirtual 81, 3) := by decide +kernel
theorem dX2_readLine_52 : decode cX2_readLine 52 = .ok (.goto 15, 3) := by decide +kernel
theorem dX2_readLine_55 : decode cX2_readLine 55 = .ok (.iload 4, 2) := by decide +kernel
theorem dX2_readLine_57 : decode cX2_readLine 57 = .ok (.iconst 5, 1) := by decide +kernel
theorem dX2_readLine_58 : decode cX2_readLine 58 = .ok (.if_icmp .ne 9, 3) := by decide +kernel
theorem dX2_readLine_61 : decode cX2_readLine 61 = .ok (.aload_n 0, 1) := by decide +kernel
theorem dX2_readLine_62 : decode cX2_readLine 62 = .ok (.iconst 4, 1) := by decide +kernel
theorem dX2_readLine_63 : decode cX2_readLine 63 = .ok (.iload_n 2, 1) := by decide +kernel
theorem dX2_readLine_64 : decode cX2_readLine 64 = .ok (.invokevirtual 81, 3) := by decide +kernel
theorem dX2_readLine_67 : decode cX2_readLine 67 = .ok (.iload 4, 2) := by decide +kernel
theorem dX2_readLine_69 : decode cX2_readLine 69 = .ok (.bipush 9, 2) := by decide +kernel
theorem dX2_readLine_71 : decode cX2_readLine 71 = .ok (.if_icmp .eq 9, 3) := by decide +kernel
theorem dX2_readLine_74 : decode cX2_readLine 74 = .ok (.aload_n 0, 1) := by decide +kernel
theorem dX2_readLine_75 : decode cX2_readLine 75 = .ok (.iload 4, 2) := by decide +kernel
theorem dX2_readLine_77 : decode cX2_readLine 77 = .ok (.putfield 53, 3) := by decide +kernel
theorem dX2_readLine_80 : decode cX2_readLine 80 = .ok (.iinc 3 1, 3) := by decide +kernel
theorem dX2_readLine_83 : decode cX2_readLine 83 = .ok (.goto (-81), 3) := by decide +kernel
theorem dX2_readLine_86 : decode cX2_readLine 86 = .ok (.return_, 1) := by decide +kernel
set_option maxRecDepth 20000 in
theorem ggX2_openOne_X1_widthAhead : GoodIn wsX2_openOne wsX1_widthAhead := goodIn_r _ [15, 16, 17, 37, 38, 39, 40, 41, 42] (by decide +kernel) (by decide +kernel)
set_option maxRecDepth 20000 in
theorem gX2_openOne_X1_widthAhead : GoodIn wsX2_openOne (wsV RX2 85 RX1 yX1_widthAhead wsX1_widthAhead) := goodIn_app (goodIn_of _ (by decide +kernel)) ggX2_openOne_X1_widthAhead
set_option maxRecDepth 20000 in
theorem ggX2_openOne_X1_isFollowed : GoodIn wsX2_openOne wsX1_isFollowed := goodIn_r _ [21, 22, 17, 37, 38, 39, 40, 41, 42] (by decide +kernel) (by decide +kernel)
set_option maxRecDepth 20000 in
theorem gX2_openOne_X1_isFollowed : GoodIn wsX2_openOne (wsV RX2 89 RX1 yX1_isFollowed wsX1_isFollowed) := goodIn_app (goodIn_of _ (by decide +kernel)) ggX2_openOne_X1_isFollowed
theorem dX2_openOne_0 : decode cX2_openOne 0 = .ok (.aload_n 0, 1) := by decide +kernel
theorem dX2_openOne_1 : decode cX2_openOne 1 = .ok (.getfield 46, 3) := by decide +kernel
theorem dX2_openOne_4 : decode cX2_openOne 4 = .ok (.sipush 180, 3) := by decide +kernel
theorem dX2_openOne_7 : decode cX2_openOne 7 = .ok (.if_icmp .ge 13, 3) := by decide +kernel
theorem dX2_openOne_10 : decode cX2_openOne 10 = .ok (.aload_n 0, 1) := by decide +kernel
theorem dX2_openOne_11 : decode cX2_openOne 11 = .ok (.getfield 50, 3) := by decide +kernel
theorem dX2_openOne_14 : decode cX2_openOne 14 = .ok (.sipush 180, 3) := by decide +kernel
theorem dX2_openOne_17 : decode cX2_openOne 17 = .ok (.if_icmp .lt 4, 3) := by decide +kernel
theorem dX2_openOne_20 : decode cX2_openOne 20 = .ok (.return_, 1) := by decide +kernel
theorem dX2_openOne_21 : decode cX2_openOne 21 = .ok (.aload_n 0, 1) := by decide +kernel
theorem dX2_openOne_22 : decode cX2_openOne 22 = .ok (.getfield 24, 3) := by decide +kernel
theorem dX2_openOne_25 : decode cX2_openOne 25 = .ok (.aload_n 0, 1) := by decide +kernel
theorem dX2_openOne_26 : decode cX2_openOne 26 = .ok (.getfield 46, 3) := by decide +kernel
theorem dX2_openOne_29 : decode cX2_openOne 29 = .ok (.aload_n 1, 1) := by decide +kernel
theorem dX2_openOne_30 : decode cX2_openOne 30 = .ok (.getfield 74, 3) := by decide +kernel
theorem dX2_openOne_33 : decode cX2_openOne 33 = .ok (.iload_n 3, 1) := by decide +kernel
theorem dX2_openOne_34 : decode cX2_openOne 34 = .ok (.iaload, 1) := by decide +kernel
theorem dX2_openOne_35 : decode cX2_openOne 35 = .ok (.iastore, 1) := by decide +kernel
theorem dX2_openOne_36 : decode cX2_openOne 36 = .ok (.aload_n 0, 1) := by decide +kernel
theorem dX2_openOne_37 : decode cX2_openOne 37 = .ok (.getfield 27, 3) := by decide +kernel
theorem dX2_openOne_40 : decode cX2_openOne 40 = .ok (.aload_n 0, 1) := by decide +kernel
theorem dX2_openOne_41 : decode cX2_openOne 41 = .ok (.getfield 46, 3) := by decide +kernel
theorem dX2_openOne_44 : decode cX2_openOne 44 = .ok (.iload_n 2, 1) := by decide +kernel
theorem dX2_openOne_45 : decode cX2_openOne 45 = .ok (.iastore, 1) := by decide +kernel
theorem dX2_openOne_46 : decode cX2_openOne 46 = .ok (.aload_n 0, 1) := by decide +kernel
theorem dX2_openOne_47 : decode cX2_openOne 47 = .ok (.getfield 30, 3) := by decide +kernel
theorem dX2_openOne_50 : decode cX2_openOne 50 = .ok (.aload_n 0, 1) := by decide +kernel
theorem dX2_openOne_51 : decode cX2_openOne 51 = .ok (.getfield 46, 3) := by decide +kernel
theorem dX2_openOne_54 : decode cX2_openOne 54 = .ok (.iload_n 3, 1) := by decide +kernel
theorem dX2_openOne_55 : decode cX2_openOne 55 = .ok (.iastore, 1) := by decide +kernel
theorem dX2_openOne_56 : decode cX2_openOne 56 = .ok (.aload_n 0, 1) := by decide +kernel
theorem dX2_openOne_57 : decode cX2_openOne 57 = .ok (.getfield 33, 3) := by decide +kernel
theorem dX2_openOne_60 : decode cX2_openOne 60 = .ok (.aload_n 0, 1) := by decide +kernel
theorem dX2_openOne_61 : decode cX2_openOne 61 = .ok (.getfield 46, 3) := by decide +kernel
theorem dX2_openOne_64 : decode cX2_openOne 64 = .ok (.aload_n 1, 1) := by decide +kernel
theorem dX2_openOne_65 : decode cX2_openOne 65 = .ok (.iload_n 3, 1) := by decide +kernel
theorem dX2_openOne_66 : decode cX2_openOne 66 = .ok (.invokevirtual 85, 3) := by decide +kernel
theorem dX2_openOne_69 : decode cX2_openOne 69 = .ok (.iastore, 1) := by decide +kernel
theorem dX2_openOne_70 : decode cX2_openOne 70 = .ok (.aload_n 0, 1) := by decide +kernel
theorem dX2_openOne_71 : decode cX2_openOne 71 = .ok (.getfield 36, 3) := by decide +kernel
theorem dX2_openOne_74 : decode cX2_openOne 74 = .ok (.aload_n 0, 1) := by decide +kernel
theorem dX2_openOne_75 : decode cX2_openOne 75 = .ok (.getfield 46, 3) := by decide +kernel
theorem dX2_openOne_78 : decode cX2_openOne 78 = .ok (.aload_n 1, 1) := by decide +kernel
theorem dX2_openOne_79 : decode cX2_openOne 79 = .ok (.iload_n 3, 1) := by decide +kernel
theorem dX2_openOne_80 : decode cX2_openOne 80 = .ok (.invokevirtual 89, 3) := by decide +kernel
theorem dX2_openOne_83 : decode cX2_openOne 83 = .ok (.bastore, 1) := by decide +kernel
theorem dX2_openOne_84 : decode cX2_openOne 84 = .ok (.aload_n 0, 1) := by decide +kernel
theorem dX2_openOne_85 : decode cX2_openOne 85 = .ok (.getfield 40, 3) := by decide +kernel
theorem dX2_openOne_88 : decode cX2_openOne 88 = .ok (.aload_n 0, 1) := by decide +kernel
theorem dX2_openOne_89 : decode cX2_openOne 89 = .ok (.getfield 46, 3) := by decide +kernel
theorem dX2_openOne_92 : decode cX2_openOne 92 = .ok (.bipush (-9), 2) := by decide +kernel
theorem dX2_openOne_94 : decode cX2_openOne 94 = .ok (.iastore, 1) := by decide +kernel
theorem dX2_openOne_95 : decode cX2_openOne 95 = .ok (.aload_n 0, 1) := by decide +kernel
theorem dX2_openOne_96 : decode cX2_openOne 96 = .ok (.getfield 43, 3) := by decide +kernel
theorem dX2_openOne_99 : decode cX2_openOne 99 = .ok (.aload_n 0, 1) := by decide +kernel
theorem dX2_openOne_100 : decode cX2_openOne 100 = .ok (.getfield 50, 3) := by decide +kernel
theorem dX2_openOne_103 : decode cX2_openOne 103 = .ok (.aload_n 0, 1) := by decide +kernel
theorem dX2_openOne_104 : decode cX2_openOne 104 = .ok (.getfield 46, 3) := by decide +kernel
theorem dX2_openOne_107 : decode cX2_openOne 107 = .ok (.iastore, 1) := by decide +kernel
theorem dX2_openOne_108 : decode cX2_openOne 108 = .ok (.aload_n 0, 1) := by decide +kernel
theorem dX2_openOne_109 : decode cX2_openOne 109 = .ok (.dup, 1) := by decide +kernel
theorem dX2_openOne_110 : decode cX2_openOne 110 = .ok (.getfield 50, 3) := by decide +kernel
theorem dX2_openOne_113 : decode cX2_openOne 113 = .ok (.iconst 1, 1) := by decide +kernel
theorem dX2_openOne_114 : decode cX2_openOne 114 = .ok (.iadd, 1) := by decide +kernel
theorem dX2_openOne_115 : decode cX2_openOne 115 = .ok (.putfield 50, 3) := by decide +kernel
theorem dX2_openOne_118 : decode cX2_openOne 118 = .ok (.aload_n 0, 1) := by decide +kernel
theorem dX2_openOne_119 : decode cX2_openOne 119 = .ok (.dup, 1) := by decide +kernel
theorem dX2_openOne_120 : decode cX2_openOne 120 = .ok (.getfield 46, 3) := by decide +kernel
theorem dX2_openOne_123 : decode cX2_openOne 123 = .ok (.iconst 1, 1) := by decide +kernel
theorem dX2_openOne_124 : decode cX2_openOne 124 = .ok (.iadd, 1) := by decide +kernel
theorem dX2_openOne_125 : decode cX2_openOne 125 = .ok (.putfield 46, 3) := by decide +kernel
theorem dX2_openOne_128 : decode cX2_openOne 128 = .ok (.return_, 1) := by decide +kernel
theorem dX2_closeOne_0 : decode cX2_closeOne 0 = .ok (.aload_n 0, 1) := by decide +kernel
theorem dX2_closeOne_1 : decode cX2_closeOne 1 = .ok (.getfield 50, 3) := by decide +kernel
theorem dX2_closeOne_4 : decode cX2_closeOne 4 = .ok (.ifCond .le 51, 3) := by decide +kernel
theorem dX2_closeOne_7 : decode cX2_closeOne 7 = .ok (.aload_n 0, 1) := by decide +kernel
theorem dX2_closeOne_8 : decode cX2_closeOne 8 = .ok (.getfield 24, 3) := by decide +kernel
theorem dX2_closeOne_11 : decode cX2_closeOne 11 = .ok (.aload_n 0, 1) := by decide +kernel
theorem dX2_closeOne_12 : decode cX2_closeOne 12 = .ok (.getfield 43, 3) := by decide +kernel
theorem dX2_closeOne_15 : decode cX2_closeOne 15 = .ok (.aload_n 0, 1) := by decide +kernel
theorem dX2_closeOne_16 : decode cX2_closeOne 16 = .ok (.getfield 50, 3) := by decide +kernel
theorem dX2_closeOne_19 : decode cX2_closeOne 19 = .ok (.iconst 1, 1) := by decide +kernel
theorem dX2_closeOne_20 : decode cX2_closeOne 20 = .ok (.isub, 1) := by decide +kernel
theorem dX2_closeOne_21 : decode cX2_closeOne 21 = .ok (.iaload, 1) := by decide +kernel
theorem dX2_closeOne_22 : decode cX2_closeOne 22 = .ok (.iaload, 1) := by decide +kernel
theorem dX2_closeOne_23 : decode cX2_closeOne 23 = .ok (.iload_n 1, 1) := by decide +kernel
theorem dX2_closeOne_24 : decode cX2_closeOne 24 = .ok (.if_icmp .ne 31, 3) := by decide +kernel
theorem dX2_closeOne_27 : decode cX2_closeOne 27 = .ok (.aload_n 0, 1) := by decide +kernel
theorem dX2_closeOne_28 : decode cX2_closeOne 28 = .ok (.dup, 1) := by decide +kernel
theorem dX2_closeOne_29 : decode cX2_closeOne 29 = .ok (.getfield 50, 3) := by decide +kernel
theorem dX2_closeOne_32 : decode cX2_closeOne 32 = .ok (.iconst 1, 1) := by decide +kernel
theorem dX2_closeOne_33 : decode cX2_closeOne 33 = .ok (.isub, 1) := by decide +kernel
theorem dX2_closeOne_34 : decode cX2_closeOne 34 = .ok (.putfield 50, 3) := by decide +kernel
theorem dX2_closeOne_37 : decode cX2_closeOne 37 = .ok (.aload_n 0, 1) := by decide +kernel
theorem dX2_closeOne_38 : decode cX2_closeOne 38 = .ok (.getfield 40, 3) := by decide +kernel
theorem dX2_closeOne_41 : decode cX2_closeOne 41 = .ok (.aload_n 0, 1) := by decide +kernel
theorem dX2_closeOne_42 : decode cX2_closeOne 42 = .ok (.getfield 43, 3) := by decide +kernel
theorem dX2_closeOne_45 : decode cX2_closeOne 45 = .ok (.aload_n 0, 1) := by decide +kernel
theorem dX2_closeOne_46 : decode cX2_closeOne 46 = .ok (.getfield 50, 3) := by decide +kernel
theorem dX2_closeOne_49 : decode cX2_closeOne 49 = .ok (.iaload, 1) := by decide +kernel
theorem dX2_closeOne_50 : decode cX2_closeOne 50 = .ok (.iload_n 2, 1) := by decide +kernel
theorem dX2_closeOne_51 : decode cX2_closeOne 51 = .ok (.iastore, 1) := by decide +kernel
theorem dX2_closeOne_52 : decode cX2_closeOne 52 = .ok (.goto 13, 3) := by decide +kernel
theorem dX2_closeOne_55 : decode cX2_closeOne 55 = .ok (.aload_n 0, 1) := by decide +kernel
theorem dX2_closeOne_56 : decode cX2_closeOne 56 = .ok (.getfield 21, 3) := by decide +kernel
theorem dX2_closeOne_59 : decode cX2_closeOne 59 = .ok (.iload_n 2, 1) := by decide +kernel
theorem dX2_closeOne_60 : decode cX2_closeOne 60 = .ok (.dup2, 1) := by decide +kernel
theorem dX2_closeOne_61 : decode cX2_closeOne 61 = .ok (.iaload, 1) := by decide +kernel
theorem dX2_closeOne_62 : decode cX2_closeOne 62 = .ok (.iconst 1, 1) := by decide +kernel
theorem dX2_closeOne_63 : decode cX2_closeOne 63 = .ok (.iadd, 1) := by decide +kernel
theorem dX2_closeOne_64 : decode cX2_closeOne 64 = .ok (.iastore, 1) := by decide +kernel
theorem dX2_closeOne_65 : decode cX2_closeOne 65 = .ok (.return_, 1) := by decide +kernel
theorem dX2_withoutPartner_0 : decode cX2_withoutPartner 0 = .ok (.iconst 0, 1) := by decide +kernel
theorem dX2_withoutPartner_1 : decode cX2_withoutPartner 1 = .ok (.istore_n 1, 1) := by decide +kernel
theorem dX2_withoutPartner_2 : decode cX2_withoutPartner 2 = .ok (.iconst 0, 1) := by decide +kernel
theorem dX2_withoutPartner_3 : decode cX2_withoutPartner 3 = .ok (.istore_n 2, 1) := by decide +kernel
theorem dX2_withoutPartner_4 : decode cX2_withoutPartner 4 = .ok (.iload_n 2, 1) := by decide +kernel
theorem dX2_withoutPartner_5 : decode cX2_withoutPartner 5 = .ok (.aload_n 0, 1) := by decide +kernel
theorem dX2_withoutPartner_6 : decode cX2_withoutPartner 6 = .ok (.getfield 46, 3) := by decide +kernel
theorem dX2_withoutPartner_9 : decode cX2_withoutPartner 9 = .ok (.if_icmp .ge 23, 3) := by decide +kernel
theorem dX2_withoutPartner_12 : decode cX2_withoutPartner 12 = .ok (.aload_n 0, 1) := by decide +kernel
theorem dX2_withoutPartner_13 : decode cX2_withoutPartner 13 = .ok (.getfield 40, 3) := by decide +kernel
theorem dX2_withoutPartner_16 : decode cX2_withoutPartner 16 = .ok (.iload_n 2, 1) := by decide +kernel
theorem dX2_withoutPartner_17 : decode cX2_withoutPartner 17 = .ok (.iaload, 1) := by decide +kernel
theorem dX2_withoutPartner_18 : decode cX2_withoutPartner 18 = .ok (.bipush (-9), 2) := by decide +kernel
theorem dX2_withoutPartner_20 : decode cX2_withoutPartner 20 = .ok (.if_icmp .ne 6, 3) := by decide +kernel
theorem dX2_withoutPartner_23 : decode cX2_withoutPartner 23 = .ok (.iinc 1 1, 3) := by decide +kernel
theorem dX2_withoutPartner_26 : decode cX2_withoutPartner 26 = .ok (.iinc 2 1, 3) := by decide +kernel
theorem dX2_withoutPartner_29 : decode cX2_withoutPartner 29 = .ok (.goto (-25), 3) := by decide +kernel
theorem dX2_withoutPartner_32 : decode cX2_withoutPartner 32 = .ok (.iload_n 1, 1) := by decide +kernel
theorem dX2_withoutPartner_33 : decode cX2_withoutPartner 33 = .ok (.ireturn, 1) := by decide +kernel
theorem dX3_init_0 : decode cX3_init 0 = .ok (.aload_n 0, 1) := by decide +kernel
theorem dX3_init_1 : decode cX3_init 1 = .ok (.invokespecial 3, 3) := by decide +kernel
theorem dX3_init_4 : decode cX3_init 4 = .ok (.aload_n 0, 1) := by decide +kernel
theorem dX3_init_5 : decode cX3_init 5 = .ok (.bipush 6, 2) := by decide +kernel
theorem dX3_init_7 : decode cX3_init 7 = .ok (.newarray .int, 2) := by decide +kernel
theorem dX3_init_9 : decode cX3_init 9 = .ok (.putfield 9, 3) := by decide +kernel
theorem dX3_init_12 : decode cX3_init 12 = .ok (.aload_n 0, 1) := by decide +kernel
theorem dX3_init_13 : decode cX3_init 13 = .ok (.bipush 6, 2) := by decide +kernel
theorem dX3_init_15 : decode cX3_init 15 = .ok (.newarray .int, 2) := by decide +kernel
theorem dX3_init_17 : decode cX3_init 17 = .ok (.putfield 15, 3) := by decide +kernel
theorem dX3_init_20 : decode cX3_init 20 = .ok (.aload_n 0, 1) := by decide +kernel
theorem dX3_init_21 : decode cX3_init 21 = .ok (.bipush 6, 2) := by decide +kernel
theorem dX3_init_23 : decode cX3_init 23 = .ok (.newarray .int, 2) := by decide +kernel
theorem dX3_init_25 : decode cX3_init 25 = .ok (.putfield 18, 3) := by decide +kernel
theorem dX3_init_28 : decode cX3_init 28 = .ok (.return_, 1) := by decide +kernel
set_option maxRecDepth 20000 in
theorem ggX3_renew_X3_fill : GoodIn wsX3_renew wsX3_fill := goodIn_r _ [7, 8, 9, 10, 11, 12, 13, 14, 15] (by decide +kernel) (by decide +kernel)
set_option maxRecDepth 20000 in
theorem gX3_renew_X3_fill : GoodIn wsX3_renew (wsV RX3 28 RX3 yX3_fill wsX3_fill) := goodIn_app (goodIn_of _ (by decide +kernel)) ggX3_renew_X3_fill
theorem dX3_renew_0 : decode cX3_renew 0 = .ok (.aload_n 0, 1) := by decide +kernel
theorem dX3_renew_1 : decode cX3_renew 1 = .ok (.iload_n 1, 1) := by decide +kernel
theorem dX3_renew_2 : decode cX3_renew 2 = .ok (.putfield 21, 3) := by decide +kernel
theorem dX3_renew_5 : decode cX3_renew 5 = .ok (.aload_n 0, 1) := by decide +kernel
theorem dX3_renew_6 : decode cX3_renew 6 = .ok (.iload_n 2, 1) := by decide +kernel
theorem dX3_renew_7 : decode cX3_renew 7 = .ok (.putfield 25, 3) := by decide +kernel
theorem dX3_renew_10 : decode cX3_renew 10 = .ok (.iconst 0, 1) := by decide +kernel
theorem dX3_renew_11 : decode cX3_renew 11 = .ok (.istore_n 3, 1) := by decide +kernel
theorem dX3_renew_12 : decode cX3_renew 12 = .ok (.iload_n 3, 1) := by decide +kernel
theorem dX3_renew_13 : decode cX3_renew 13 = .ok (.bipush 6, 2) := by decide +kernel
theorem dX3_renew_15 : decode cX3_renew 15 = .ok (.if_icmp .ge 20, 3) := by decide +kernel
theorem dX3_renew_18 : decode cX3_renew 18 = .ok (.aload_n 0, 1) := by decide +kernel
theorem dX3_renew_19 : decode cX3_renew 19 = .ok (.iload_n 3, 1) := by decide +kernel
theorem dX3_renew_20 : decode cX3_renew 20 = .ok (.bipush (-9), 2) := by decide +kernel
theorem dX3_renew_22 : decode cX3_renew 22 = .ok (.bipush (-9), 2) := by decide +kernel
theorem dX3_renew_24 : decode cX3_renew 24 = .ok (.bipush (-9), 2) := by decide +kernel
theorem dX3_renew_26 : decode cX3_renew 26 = .ok (.invokevirtual 28, 3) := by decide +kernel
theorem dX3_renew_29 : decode cX3_renew 29 = .ok (.iinc 3 1, 3) := by decide +kernel
theorem dX3_renew_32 : decode cX3_renew 32 = .ok (.goto (-20), 3) := by decide +kernel
theorem dX3_renew_35 : decode cX3_renew 35 = .ok (.return_, 1) := by decide +kernel
theorem dX3_hasCell_0 : decode cX3_hasCell 0 = .ok (.iload_n 1, 1) := by decide +kernel
theorem dX3_hasCell_1 : decode cX3_hasCell 1 = .ok (.ifCond .lt 15, 3) := by decide +kernel
theorem dX3_hasCell_4 : decode cX3_hasCell 4 = .ok (.iload_n 1, 1) := by decide +kernel
theorem dX3_hasCell_5 : decode cX3_hasCell 5 = .ok (.aload_n 0, 1) := by decide +kernel
theorem dX3_hasCell_6 : decode cX3_hasCell 6 = .ok (.getfield 25, 3) := by decide +kernel
theorem dX3_hasCell_9 : decode cX3_hasCell 9 = .ok (.if_icmp .ge 7, 3) := by decide +kernel
theorem dX3_hasCell_12 : decode cX3_hasCell 12 = .ok (.iconst 1, 1) := by decide +kernel
theorem dX3_hasCell_13 : decode cX3_hasCell 13 = .ok (.goto 4, 3) := by decide +kernel
theorem dX3_hasCell_16 : decode cX3_hasCell 16 = .ok (.iconst 0, 1) := by decide +kernel
theorem dX3_hasCell_17 : decode cX3_hasCell 17 = .ok (.ireturn, 1) := by decide +kernel
theorem dX3_takes_0 : decode cX3_takes 0 = .ok (.aload_n 0, 1) := by decide +kernel
theorem dX3_takes_1 : decode cX3_takes 1 = .ok (.getfield 21, 3) := by decide +kernel
theorem dX3_takes_4 : decode cX3_takes 4 = .ok (.ifCond .eq 24, 3) := by decide +kernel
theorem dX3_takes_7 : decode cX3_takes 7 = .ok (.aload_n 0, 1) := by decide +kernel
theorem dX3_takes_8 : decode cX3_takes 8 = .ok (.getfield 21, 3) := by decide +kernel
theorem dX3_takes_11 : decode cX3_takes 11 = .ok (.iload_n 1, 1) := by decide +kernel
theorem dX3_takes_12 : decode cX3_takes 12 = .ok (.if_icmp .eq 16, 3) := by decide +kernel
theorem dX3_takes_15 : decode cX3_takes 15 = .ok (.aload_n 0, 1) := by decide +kernel
theorem dX3_takes_16 : decode cX3_takes 16 = .ok (.getfield 21, 3) := by decide +kernel
theorem dX3_takes_19 : decode cX3_takes 19 = .ok (.iconst 2, 1) := by decide +kernel
theorem dX3_takes_20 : decode cX3_takes 20 = .ok (.if_icmp .ne 12, 3) := by decide +kernel
theorem dX3_takes_23 : decode cX3_takes 23 = .ok (.iload_n 1, 1) := by decide +kernel
theorem dX3_takes_24 : decode cX3_takes 24 = .ok (.iconst 3, 1) := by decide +kernel
theorem dX3_takes_25 : decode cX3_takes 25 = .ok (.if_icmp .ne 7, 3) := by decide +kernel
theorem dX3_takes_28 : decode cX3_takes 28 = .ok (.iconst 1, 1) := by decide +kernel
theorem dX3_takes_29 : decode cX3_takes 29 = .ok (.goto 4, 3) := by decide +kernel
theorem dX3_takes_32 : decode cX3_takes 32 = .ok (.iconst 0, 1) := by decide +kernel
theorem dX3_takes_33 : decode cX3_takes 33 = .ok (.ireturn, 1) := by decide +kernel
theorem dX3_fill_0 : decode cX3_fill 0 = .ok (.aload_n 0, 1) := by decide +kernel
theorem dX3_fill_1 : decode cX3_fill 1 = .ok (.getfield 9, 3) := by decide +kernel
theorem dX3_fill_4 : decode cX3_fill 4 = .ok (.iload_n 1, 1) := by decide +kernel
theorem dX3_fill_5 : decode cX3_fill 5 = .ok (.iload_n 2, 1) := by decide +kernel
theorem dX3_fill_6 : decode cX3_fill 6 = .ok (.iastore, 1) := by decide +kernel
theorem dX3_fill_7 : decode cX3_fill 7 = .ok (.aload_n 0, 1) := by decide +kernel
theorem dX3_fill_8 : decode cX3_fill 8 = .ok (.getfield 15, 3) := by decide +kernel
theorem dX3_fill_11 : decode cX3_fill 11 = .ok (.iload_n 1, 1) := by decide +kernel
theorem dX3_fill_12 : decode cX3_fill 12 = .ok (.iload_n 3, 1) := by decide +kernel
theorem dX3_fill_13 : decode cX3_fill 13 = .ok (.iastore, 1) := by decide +kernel
theorem dX3_fill_14 : decode cX3_fill 14 = .ok (.aload_n 0, 1) := by decide +kernel
theorem dX3_fill_15 : decode cX3_fill 15 = .ok (.getfield 18, 3) := by decide +kernel
theorem dX3_fill_18 : decode cX3_fill 18 = .ok (.iload_n 1, 1) := by decide +kernel
theorem dX3_fill_19 : decode cX3_fill 19 = .ok (.iload 4, 2) := by decide +kernel
theorem dX3_fill_21 : decode cX3_fill 21 = .ok (.iastore, 1) := by decide +kernel
theorem dX3_fill_22 : decode cX3_fill 22 = .ok (.return_, 1) := by decide +kernel
theorem dX3_tell_0 : decode cX3_tell 0 = .ok (.iload_n 2, 1) := by decide +kernel
theorem dX3_tell_1 : decode cX3_tell 1 = .ok (.ifCond .ne 10, 3) := by decide +kernel
theorem dX3_tell_4 : decode cX3_tell 4 = .ok (.aload_n 0, 1) := by decide +kernel
theorem dX3_tell_5 : decode cX3_tell 5 = .ok (.getfield 9, 3) := by decide +kernel
theorem dX3_tell_8 : decode cX3_tell 8 = .ok (.iload_n 1, 1) := by decide +kernel
theorem dX3_tell_9 : decode cX3_tell 9 = .ok (.iaload, 1) := by decide +kernel
theorem dX3_tell_10 : decode cX3_tell 10 = .ok (.ireturn, 1) := by decide +kernel
theorem dX3_tell_11 : decode cX3_tell 11 = .ok (.iload_n 2, 1) := by decide +kernel
theorem dX3_tell_12 : decode cX3_tell 12 = .ok (.iconst 1, 1) := by decide +kernel
theorem dX3_tell_13 : decode cX3_tell 13 = .ok (.if_icmp .ne 12, 3) := by decide +kernel
theorem dX3_tell_16 : decode cX3_tell 16 = .ok (.aload_n 0, 1) := by decide +kernel
theorem dX3_tell_17 : decode cX3_tell 17 = .ok (.getfield 15, 3) := by decide +kernel
theorem dX3_tell_20 : decode cX3_tell 20 = .ok (.iload_n 1, 1) := by decide +kernel
theorem dX3_tell_21 : decode cX3_tell 21 = .ok (.iaload, 1) := by decide +kernel
theorem dX3_tell_22 : decode cX3_tell 22 = .ok (.goto 9, 3) := by decide +kernel
theorem dX3_tell_25 : decode cX3_tell 25 = .ok (.aload_n 0, 1) := by decide +kernel
theorem dX3_tell_26 : decode cX3_tell 26 = .ok (.getfield 18, 3) := by decide +kernel
theorem dX3_tell_29 : decode cX3_tell 29 = .ok (.iload_n 1, 1) := by decide +kernel
theorem dX3_tell_30 : decode cX3_tell 30 = .ok (.iaload, 1) := by decide +kernel
theorem dX3_tell_31 : decode cX3_tell 31 = .ok (.ireturn, 1) := by decide +kernel
set_option maxRecDepth 20000 in
theorem ggX3_becomeLike_X3_fill : GoodIn wsX3_becomeLike wsX3_fill := goodIn_r _ [10, 3, 4, 5, 11, 12, 13, 14, 15] (by decide +kernel) (by decide +kernel)
set_option maxRecDepth 20000 in
theorem gX3_becomeLike_X3_fill : GoodIn wsX3_becomeLike (wsV RX3 28 RX3 yX3_fill wsX3_fill) := goodIn_app (goodIn_of _ (by decide +kernel)) ggX3_becomeLike_X3_fill
theorem dX3_becomeLike_0 : decode cX3_becomeLike 0 = .ok (.aload_n 0, 1) := by decide +kernel
theorem dX3_becomeLike_1 : decode cX3_becomeLike 1 = .ok (.aload_n 1, 1) := by decide +kernel
theorem dX3_becomeLike_2 : decode cX3_becomeLike 2 = .ok (.getfield 21, 3) := by decide +kernel
theorem dX3_becomeLike_5 : decode cX3_becomeLike 5 = .ok (.putfield 21, 3) := by decide +kernel
theorem dX3_becomeLike_8 : decode cX3_becomeLike 8 = .ok (.aload_n 0, 1) := by decide +kernel
theorem dX3_becomeLike_9 : decode cX3_becomeLike 9 = .ok (.aload_n 1, 1) := by decide +kernel
theorem dX3_becomeLike_10 : decode cX3_becomeLike 10 = .ok (.getfield 25, 3) := by decide +kernel
theorem dX3_becomeLike_13 : decode cX3_becomeLike 13 = .ok (.putfield 25, 3) := by decide +kernel
theorem dX3_becomeLike_16 : decode cX3_becomeLike 16 = .ok (.iconst 0, 1) := by decide +kernel
theorem dX3_becomeLike_17 : decode cX3_becomeLike 17 = .ok (.istore_n 2, 1) := by decide +kernel
theorem dX3_becomeLike_18 : decode cX3_becomeLike 18 = .ok (.iload_n 2, 1) := by decide +kernel
theorem dX3_becomeLike_19 : decode cX3_becomeLike 19 = .ok (.bipush 6, 2) := by decide +kernel
theorem dX3_becomeLike_21 : decode cX3_becomeLike 21 = .ok (.if_icmp .ge 32, 3) := by decide +kernel
theorem dX3_becomeLike_24 : decode cX3_becomeLike 24 = .ok (.aload_n 0, 1) := by decide +kernel
theorem dX3_becomeLike_25 : decode cX3_becomeLike 25 = .ok (.iload_n 2, 1) := by decide +kernel
theorem dX3_becomeLike_26 : decode cX3_becomeLike 26 = .ok (.aload_n 1, 1) := by decide +kernel
theorem dX3_becomeLike_27 : decode cX3_becomeLike 27 = .ok (.getfield 9, 3) := by decide +kernel
theorem dX3_becomeLike_30 : decode cX3_becomeLike 30 = .ok (.iload_n 2, 1) := by decide +kernel
theorem dX3_becomeLike_31 : decode cX3_becomeLike 31 = .ok (.iaload, 1) := by decide +kernel
theorem dX3_becomeLike_32 : decode cX3_becomeLike 32 = .ok (.aload_n 1, 1) := by decide +kernel
theorem dX3_becomeLike_33 : decode cX3_becomeLike 33 = .ok (.getfield 15, 3) := by decide +kernel
theorem dX3_becomeLike_36 : decode cX3_becomeLike 36 = .ok (.iload_n 2, 1) := by decide +kernel
theorem dX3_becomeLike_37 : decode cX3_becomeLike 37 = .ok (.iaload, 1) := by decide +kernel
theorem dX3_becomeLike_38 : decode cX3_becomeLike 38 = .ok (.aload_n 1, 1) := by decide +kernel
theorem dX3_becomeLike_39 : decode cX3_becomeLike 39 = .ok (.getfield 18, 3) := by decide +kernel
theorem dX3_becomeLike_42 : decode cX3_becomeLike 42 = .ok (.iload_n 2, 1) := by decide +kernel
theorem dX3_becomeLike_43 : decode cX3_becomeLike 43 = .ok (.iaload, 1) := by decide +kernel
theorem dX3_becomeLike_44 : decode cX3_becomeLike 44 = .ok (.invokevirtual 28, 3) := by decide +kernel
theorem dX3_becomeLike_47 : decode cX3_becomeLike 47 = .ok (.iinc 2 1, 3) := by decide +kernel
theorem dX3_becomeLike_50 : decode cX3_becomeLike 50 = .ok (.goto (-32), 3) := by decide +kernel
theorem dX3_becomeLike_53 : decode cX3_becomeLike 53 = .ok (.return_, 1) := by decide +kernel
set_option maxRecDepth 20000 in
theorem ggX4_init_X1_init : GoodIn wsX4_init wsX1_init := goodIn_r _ [9, 10, 2, 3, 11, 12, 13, 16, 17, 18, 19, 20, 21] (by decide +kernel) (by decide +kernel)
set_option maxRecDepth 20000 in
theorem gX4_init_X1_init_n17 : GoodIn wsX4_init (wsX1_init) := ggX4_init_X1_init
theorem dX4_init_0 : decode cX4_init 0 = .ok (.aload_n 0, 1) := by decide +kernel
theorem dX4_init_1 : decode cX4_init 1 = .ok (.invokespecial 3, 3) := by decide +kernel
theorem dX4_init_4 : decode cX4_init 4 = .ok (.aload_n 0, 1) := by decide +kernel
theorem dX4_init_5 : decode cX4_init 5 = .ok (.bipush 20, 2) := by decide +kernel
theorem dX4_init_7 : decode cX4_init 7 = .ok (.anewarray 9, 3) := by decide +kernel
theorem dX4_init_10 : decode cX4_init 10 = .ok (.putfield 11, 3) := by decide +kernel
theorem dX4_init_13 : decode cX4_init 13 = .ok (.iconst 0, 1) := by decide +kernel
theorem dX4_init_14 : decode cX4_init 14 = .ok (.istore_n 1, 1) := by decide +kernel
theorem dX4_init_15 : decode cX4_init 15 = .ok (.iload_n 1, 1) := by decide +kernel
theorem dX4_init_16 : decode cX4_init 16 = .ok (.bipush 20, 2) := by decide +kernel
theorem dX4_init_18 : decode cX4_init 18 = .ok (.if_icmp .ge 22, 3) := by decide +kernel
theorem dX4_init_21 : decode cX4_init 21 = .ok (.aload_n 0, 1) := by decide +kernel
theorem dX4_init_22 : decode cX4_init 22 = .ok (.getfield 11, 3) := by decide +kernel
theorem dX4_init_25 : decode cX4_init 25 = .ok (.iload_n 1, 1) := by decide +kernel
theorem dX4_init_26 : decode cX4_init 26 = .ok (.new 9, 3) := by decide +kernel
theorem dX4_init_29 : decode cX4_init 29 = .ok (.dup, 1) := by decide +kernel
theorem dX4_init_30 : decode cX4_init 30 = .ok (.invokespecial 17, 3) := by decide +kernel
theorem dX4_init_33 : decode cX4_init 33 = .ok (.aastore, 1) := by decide +kernel
theorem dX4_init_34 : decode cX4_init 34 = .ok (.iinc 1 1, 3) := by decide +kernel
theorem dX4_init_37 : decode cX4_init 37 = .ok (.goto (-22), 3) := by decide +kernel
theorem dX4_init_40 : decode cX4_init 40 = .ok (.return_, 1) := by decide +kernel
set_option maxRecDepth 20000 in
theorem ggX4_insert_X1_read : GoodIn wsX4_insert wsX1_read := goodIn_r _ [8, 9, 10, 11, 12, 13, 14, 7, 15, 18, 19, 20, 21, 22, 23] (by decide +kernel) (by decide +kernel)
set_option maxRecDepth 20000 in
theorem gX4_insert_X1_read : GoodIn wsX4_insert (wsV RX4 22 RX1 yX1_read wsX1_read) := goodIn_app (goodIn_of _ (by decide +kernel)) ggX4_insert_X1_read
theorem dX4_insert_0 : decode cX4_insert 0 = .ok (.aload_n 0, 1) := by decide +kernel
theorem dX4_insert_1 : decode cX4_insert 1 = .ok (.getfield 18, 3) := by decide +kernel
theorem dX4_insert_4 : decode cX4_insert 4 = .ok (.bipush 20, 2) := by decide +kernel
theorem dX4_insert_6 : decode cX4_insert 6 = .ok (.if_icmp .ge 15, 3) := by decide +kernel
theorem dX4_insert_9 : decode cX4_insert 9 = .ok (.iload_n 1, 1) := by decide +kernel
theorem dX4_insert_10 : decode cX4_insert 10 = .ok (.ifCond .lt 11, 3) := by decide +kernel
theorem dX4_insert_13 : decode cX4_insert 13 = .ok (.iload_n 1, 1) := by decide +kernel
theorem dX4_insert_14 : decode cX4_insert 14 = .ok (.aload_n 0, 1) := by decide +kernel
theorem dX4_insert_15 : decode cX4_insert 15 = .ok (.getfield 18, 3) := by decide +kernel
theorem dX4_insert_18 : decode cX4_insert 18 = .ok (.if_icmp .le 4, 3) := by decide +kernel
theorem dX4_insert_21 : decode cX4_insert 21 = .ok (.return_, 1) := by decide +kernel
theorem dX4_insert_22 : decode cX4_insert 22 = .ok (.aload_n 0, 1) := by decide +kernel
theorem dX4_insert_23 : decode cX4_insert 23 = .ok (.getfield 11, 3) := by decide +kernel
theorem dX4_insert_26 : decode cX4_insert 26 = .ok (.aload_n 0, 1) := by decide +kernel
theorem dX4_insert_27 : decode cX4_insert 27 = .ok (.getfield 18, 3) := by decide +kernel
theorem dX4_insert_30 : decode cX4_insert 30 = .ok (.aaload, 1) := by decide +kernel
theorem dX4_insert_31 : decode cX4_insert 31 = .ok (.astore_n 3, 1) := by decide +kernel
theorem dX4_insert_32 : decode cX4_insert 32 = .ok (.aload_n 0, 1) := by decide +kernel
theorem dX4_insert_33 : decode cX4_insert 33 = .ok (.getfield 18, 3) := by decide +kernel
theorem dX4_insert_36 : decode cX4_insert 36 = .ok (.istore 4, 2) := by decide +kernel
theorem dX4_insert_38 : decode cX4_insert 38 = .ok (.iload 4, 2) := by decide +kernel
theorem dX4_insert_40 : decode cX4_insert 40 = .ok (.iload_n 1, 1) := by decide +kernel
theorem dX4_insert_41 : decode cX4_insert 41 = .ok (.if_icmp .le 25, 3) := by decide +kernel
theorem dX4_insert_44 : decode cX4_insert 44 = .ok (.aload_n 0, 1) := by decide +kernel
theorem dX4_insert_45 : decode cX4_insert 45 = .ok (.getfield 11, 3) := by decide +kernel
theorem dX4_insert_48 : decode cX4_insert 48 = .ok (.iload 4, 2) := by decide +kernel
theorem dX4_insert_50 : decode cX4_insert 50 = .ok (.aload_n 0, 1) := by decide +kernel
theorem dX4_insert_51 : decode cX4_insert 51 = .ok (.getfield 11, 3) := by decide +kernel
theorem dX4_insert_54 : decode cX4_insert 54 = .ok (.iload 4, 2) := by decide +kernel
theorem dX4_insert_56 : decode cX4_insert 56 = .ok (.iconst 1, 1) := by decide +kernel
theorem dX4_insert_57 : decode cX4_insert 57 = .ok (.isub, 1) := by decide +kernel
theorem dX4_insert_58 : decode cX4_insert 58 = .ok (.aaload, 1) := by decide +kernel
theorem dX4_insert_59 : decode cX4_insert 59 = .ok (.aastore, 1) := by decide +kernel
theorem dX4_insert_60 : decode cX4_insert 60 = .ok (.iinc 4 (-1), 3) := by decide +kernel
theorem dX4_insert_63 : decode cX4_insert 63 = .ok (.goto (-25), 3) := by decide +kernel
theorem dX4_insert_66 : decode cX4_insert 66 = .ok (.aload_n 0, 1) := by decide +kernel
theorem dX4_insert_67 : decode cX4_insert 67 = .ok (.getfield 11, 3) := by decide +kernel
theorem dX4_insert_70 : decode cX4_insert 70 = .ok (.iload_n 1, 1) := by decide +kernel
theorem dX4_insert_71 : decode cX4_insert 71 = .ok (.aload_n 3, 1) := by decide +kernel
theorem dX4_insert_72 : decode cX4_insert 72 = .ok (.aastore, 1) := by decide +kernel
theorem dX4_insert_73 : decode cX4_insert 73 = .ok (.aload_n 0, 1) := by decide +kernel
theorem dX4_insert_74 : decode cX4_insert 74 = .ok (.dup, 1) := by decide +kernel
theorem dX4_insert_75 : decode cX4_insert 75 = .ok (.getfield 18, 3) := by decide +kernel
theorem dX4_insert_78 : decode cX4_insert 78 = .ok (.iconst 1, 1) := by decide +kernel
theorem dX4_insert_79 : decode cX4_insert 79 = .ok (.iadd, 1) := by decide +kernel
theorem dX4_insert_80 : decode cX4_insert 80 = .ok (.putfield 18, 3) := by decide +kernel
theorem dX4_insert_83 : decode cX4_insert 83 = .ok (.aload_n 3, 1) := by decide +kernel
theorem dX4_insert_84 : decode cX4_insert 84 = .ok (.iload_n 2, 1) := by decide +kernel
theorem dX4_insert_85 : decode cX4_insert 85 = .ok (.invokevirtual 22, 3) := by decide +kernel
theorem dX4_insert_88 : decode cX4_insert 88 = .ok (.aload_n 3, 1) := by decide +kernel
theorem dX4_insert_89 : decode cX4_insert 89 = .ok (.bipush (-9), 2) := by decide +kernel
theorem dX4_insert_91 : decode cX4_insert 91 = .ok (.putfield 26, 3) := by decide +kernel
theorem dX4_insert_94 : decode cX4_insert 94 = .ok (.return_, 1) := by decide +kernel
theorem dX4_remove_0 : decode cX4_remove 0 = .ok (.iload_n 1, 1) := by decide +kernel
theorem dX4_remove_1 : decode cX4_remove 1 = .ok (.ifCond .lt 11, 3) := by decide +kernel
theorem dX4_remove_4 : decode cX4_remove 4 = .ok (.iload_n 1, 1) := by decide +kernel
theorem dX4_remove_5 : decode cX4_remove 5 = .ok (.aload_n 0, 1) := by decide +kernel
theorem dX4_remove_6 : decode cX4_remove 6 = .ok (.getfield 18, 3) := by decide +kernel
theorem dX4_remove_9 : decode cX4_remove 9 = .ok (.if_icmp .lt 4, 3) := by decide +kernel
theorem dX4_remove_12 : decode cX4_remove 12 = .ok (.return_, 1) := by decide +kernel
theorem dX4_remove_13 : decode cX4_remove 13 = .ok (.aload_n 0, 1) := by decide +kernel
theorem dX4_remove_14 : decode cX4_remove 14 = .ok (.getfield 11, 3) := by decide +kernel
theorem dX4_remove_17 : decode cX4_remove 17 = .ok (.iload_n 1, 1) := by decide +kernel
theorem dX4_remove_18 : decode cX4_remove 18 = .ok (.aaload, 1) := by decide +kernel
theorem dX4_remove_19 : decode cX4_remove 19 = .ok (.astore_n 2, 1) := by decide +kernel
theorem dX4_remove_20 : decode cX4_remove 20 = .ok (.iload_n 1, 1) := by decide +kernel
theorem dX4_remove_21 : decode cX4_remove 21 = .ok (.istore_n 3, 1) := by decide +kernel
theorem dX4_remove_22 : decode cX4_remove 22 = .ok (.iload_n 3, 1) := by decide +kernel
theorem dX4_remove_23 : decode cX4_remove 23 = .ok (.aload_n 0, 1) := by decide +kernel
theorem dX4_remove_24 : decode cX4_remove 24 = .ok (.getfield 18, 3) := by decide +kernel
theorem dX4_remove_27 : decode cX4_remove 27 = .ok (.iconst 1, 1) := by decide +kernel
theorem dX4_remove_28 : decode cX4_remove 28 = .ok (.isub, 1) := by decide +kernel
theorem dX4_remove_29 : decode cX4_remove 29 = .ok (.if_icmp .ge 23, 3) := by decide +kernel
theorem dX4_remove_32 : decode cX4_remove 32 = .ok (.aload_n 0, 1) := by decide +kernel
theorem dX4_remove_33 : decode cX4_remove 33 = .ok (.getfield 11, 3) := by decide +kernel
theorem dX4_remove_36 : decode cX4_remove 36 = .ok (.iload_n 3, 1) := by decide +kernel
theorem dX4_remove_37 : decode cX4_remove 37 = .ok (.aload_n 0, 1) := by decide +kernel
theorem dX4_remove_38 : decode cX4_remove 38 = .ok (.getfield 11, 3) := by decide +kernel
theorem dX4_remove_41 : decode cX4_remove 41 = .ok (.iload_n 3, 1) := by decide +kernel
theorem dX4_remove_42 : decode cX4_remove 42 = .ok (.iconst 1, 1) := by decide +kernel
theorem dX4_remove_43 : decode cX4_remove 43 = .ok (.iadd, 1) := by decide +kernel
theorem dX4_remove_44 : decode cX4_remove 44 = .ok (.aaload, 1) := by decide +kernel
theorem dX4_remove_45 : decode cX4_remove 45 = .ok (.aastore, 1) := by decide +kernel
theorem dX4_remove_46 : decode cX4_remove 46 = .ok (.iinc 3 1, 3) := by decide +kernel
theorem dX4_remove_49 : decode cX4_remove 49 = .ok (.goto (-27), 3) := by decide +kernel
theorem dX4_remove_52 : decode cX4_remove 52 = .ok (.aload_n 0, 1) := by decide +kernel
theorem dX4_remove_53 : decode cX4_remove 53 = .ok (.dup, 1) := by decide +kernel
theorem dX4_remove_54 : decode cX4_remove 54 = .ok (.getfield 18, 3) := by decide +kernel
theorem dX4_remove_57 : decode cX4_remove 57 = .ok (.iconst 1, 1) := by decide +kernel
theorem dX4_remove_58 : decode cX4_remove 58 = .ok (.isub, 1) := by decide +kernel
theorem dX4_remove_59 : decode cX4_remove 59 = .ok (.putfield 18, 3) := by decide +kernel
theorem dX4_remove_62 : decode cX4_remove 62 = .ok (.aload_n 0, 1) := by decide +kernel
theorem dX4_remove_63 : decode cX4_remove 63 = .ok (.getfield 11, 3) := by decide +kernel
theorem dX4_remove_66 : decode cX4_remove 66 = .ok (.aload_n 0, 1) := by decide +kernel
theorem dX4_remove_67 : decode cX4_remove 67 = .ok (.getfield 18, 3) := by decide +kernel
theorem dX4_remove_70 : decode cX4_remove 70 = .ok (.aload_n 2, 1) := by decide +kernel
theorem dX4_remove_71 : decode cX4_remove 71 = .ok (.aastore, 1) := by decide +kernel
theorem dX4_remove_72 : decode cX4_remove 72 = .ok (.return_, 1) := by decide +kernel
set_option maxRecDepth 20000 in
theorem ggX5_init_X4_init : GoodIn wsX5_init wsX4_init := goodIn_r _ [25, 26, 2, 3, 27, 28, 29, 30, 31, 32, 33, 17, 34, 35, 66, 67, 96, 97, 98, 99, 100, 101] (by decide +kernel) (by decide +kernel)
set_option maxRecDepth 20000 in
theorem gX5_init_X4_init : GoodIn wsX5_init (wsX4_init) := ggX5_init_X4_init
set_option maxRecDepth 20000 in
theorem ggX5_init_X2_init : GoodIn wsX5_init wsX2_init := goodIn_r _ [37, 38, 2, 3, 17, 39, 40, 41, 42, 43, 44, 45, 46, 47, 48, 49, 50, 75, 76, 77, 78, 79, 80, 81, 82, 83, 84, 85, 86, 87, 88] (by decide +kernel) (by decide +kernel)
set_option maxRecDepth 20000 in
theorem gX5_init_X2_init_n18 : GoodIn wsX5_init (wsX2_init) := ggX5_init_X2_init
set_option maxRecDepth 20000 in
theorem ggX5_init_X0_init : GoodIn wsX5_init wsX0_init := goodIn_r _ [52, 53, 2, 3, 17, 54, 55, 89, 90] (by decide +kernel) (by decide +kernel)
set_option maxRecDepth 20000 in
theorem gX5_init_X0_init_n25 : GoodIn wsX5_init (wsX0_init) := ggX5_init_X0_init
set_option maxRecDepth 20000 in
theorem ggX5_init_X0_choose : GoodIn wsX5_init wsX0_choose := goodIn_r _ [59, 54, 89, 90] (by decide +kernel) (by decide +kernel)
set_option maxRecDepth 20000 in
theorem gX5_init_X0_choose : GoodIn wsX5_init (wsV RX5 43 RX0 yX0_choose wsX0_choose) := goodIn_app (goodIn_of _ (by decide +kernel)) ggX5_init_X0_choose
set_option maxRecDepth 20000 in
theorem ggX5_init_X3_init : GoodIn wsX5_init wsX3_init := goodIn_r _ [61, 62, 2, 3, 17, 63, 64, 65, 91, 92, 93, 94, 95] (by decide +kernel) (by decide +kernel)
set_option maxRecDepth 20000 in
theorem gX5_init_X3_init_n47 : GoodIn wsX5_init (wsX3_init) := ggX5_init_X3_init
