theorem dX4_kept_39 : decode cX4_kept 39 = .ok (.iconst 0, 1) := by decide +kernel
theorem dX4_kept_40 : decode cX4_kept 40 = .ok (.ireturn, 1) := by decide +kernel
theorem dX4_kept_41 : decode cX4_kept 41 = .ok (.aload_n 3, 1) := by decide +kernel
theorem dX4_kept_42 : decode cX4_kept 42 = .ok (.getfield 118, 3) := by decide +kernel
theorem dX4_kept_45 : decode cX4_kept 45 = .ok (.astore_n 3, 1) := by decide +kernel
theorem dX4_kept_46 : decode cX4_kept 46 = .ok (.goto (-31), 3) := by decide +kernel
theorem dX4_kept_49 : decode cX4_kept 49 = .ok (.lload_n 1, 1) := by decide +kernel
theorem dX4_kept_50 : decode cX4_kept 50 = .ok (.aload_n 0, 1) := by decide +kernel
theorem dX4_kept_51 : decode cX4_kept 51 = .ok (.getfield 148, 3) := by decide +kernel
theorem dX4_kept_54 : decode cX4_kept 54 = .ok (.lcmp, 1) := by decide +kernel
theorem dX4_kept_55 : decode cX4_kept 55 = .ok (.ifCond .ne 7, 3) := by decide +kernel
theorem dX4_kept_58 : decode cX4_kept 58 = .ok (.iconst 1, 1) := by decide +kernel
theorem dX4_kept_59 : decode cX4_kept 59 = .ok (.goto 4, 3) := by decide +kernel
theorem dX4_kept_62 : decode cX4_kept 62 = .ok (.iconst 0, 1) := by decide +kernel
theorem dX4_kept_63 : decode cX4_kept 63 = .ok (.ireturn, 1) := by decide +kernel
theorem dX4_within_0 : decode cX4_within 0 = .ok (.iload_n 0, 1) := by decide +kernel
theorem dX4_within_1 : decode cX4_within 1 = .ok (.iload_n 1, 1) := by decide +kernel
theorem dX4_within_2 : decode cX4_within 2 = .ok (.if_icmp .lt 12, 3) := by decide +kernel
theorem dX4_within_5 : decode cX4_within 5 = .ok (.iload_n 0, 1) := by decide +kernel
theorem dX4_within_6 : decode cX4_within 6 = .ok (.iload_n 2, 1) := by decide +kernel
theorem dX4_within_7 : decode cX4_within 7 = .ok (.if_icmp .gt 7, 3) := by decide +kernel
theorem dX4_within_10 : decode cX4_within 10 = .ok (.iconst 1, 1) := by decide +kernel
theorem dX4_within_11 : decode cX4_within 11 = .ok (.goto 4, 3) := by decide +kernel
theorem dX4_within_14 : decode cX4_within 14 = .ok (.iconst 0, 1) := by decide +kernel
theorem dX4_within_15 : decode cX4_within 15 = .ok (.ireturn, 1) := by decide +kernel
set_option maxRecDepth 20000 in
theorem ggX4_isCause_X4_within : GoodIn wsX4_isCause wsX4_within := goodIn_r _ [4] (by decide +kernel) (by decide +kernel)
set_option maxRecDepth 20000 in
theorem gX4_isCause_X4_within : GoodIn wsX4_isCause (va_wsS RX4 31 yX4_within wsX4_within) := goodIn_app (goodIn_of _ (by decide +kernel)) ggX4_isCause_X4_within
theorem dX4_isCause_0 : decode cX4_isCause 0 = .ok (.iload_n 0, 1) := by decide +kernel
theorem dX4_isCause_1 : decode cX4_isCause 1 = .ok (.iconst 0, 1) := by decide +kernel
theorem dX4_isCause_2 : decode cX4_isCause 2 = .ok (.bipush 11, 2) := by decide +kernel
theorem dX4_isCause_4 : decode cX4_isCause 4 = .ok (.invokestatic 31, 3) := by decide +kernel
theorem dX4_isCause_7 : decode cX4_isCause 7 = .ok (.ireturn, 1) := by decide +kernel
theorem dX4_find_0 : decode cX4_find 0 = .ok (.aload_n 0, 1) := by decide +kernel
theorem dX4_find_1 : decode cX4_find 1 = .ok (.getfield 38, 3) := by decide +kernel
theorem dX4_find_4 : decode cX4_find 4 = .ok (.astore_n 2, 1) := by decide +kernel
theorem dX4_find_5 : decode cX4_find 5 = .ok (.aload_n 2, 1) := by decide +kernel
theorem dX4_find_6 : decode cX4_find 6 = .ok (.ifnull 21, 3) := by decide +kernel
theorem dX4_find_9 : decode cX4_find 9 = .ok (.aload_n 2, 1) := by decide +kernel
theorem dX4_find_10 : decode cX4_find 10 = .ok (.getfield 45, 3) := by decide +kernel
theorem dX4_find_13 : decode cX4_find 13 = .ok (.iload_n 1, 1) := by decide +kernel
theorem dX4_find_14 : decode cX4_find 14 = .ok (.if_icmp .ne 5, 3) := by decide +kernel
theorem dX4_find_17 : decode cX4_find 17 = .ok (.aload_n 2, 1) := by decide +kernel
theorem dX4_find_18 : decode cX4_find 18 = .ok (.areturn, 1) := by decide +kernel
theorem dX4_find_19 : decode cX4_find 19 = .ok (.aload_n 2, 1) := by decide +kernel
theorem dX4_find_20 : decode cX4_find 20 = .ok (.getfield 118, 3) := by decide +kernel
theorem dX4_find_23 : decode cX4_find 23 = .ok (.astore_n 2, 1) := by decide +kernel
theorem dX4_find_24 : decode cX4_find 24 = .ok (.goto (-19), 3) := by decide +kernel
theorem dX4_find_27 : decode cX4_find 27 = .ok (.aconst_null, 1) := by decide +kernel
theorem dX4_find_28 : decode cX4_find 28 = .ok (.areturn, 1) := by decide +kernel
set_option maxRecDepth 20000 in
theorem ggX4_known_X4_find : GoodIn wsX4_known wsX4_find := goodIn_r _ [8, 9, 10, 11, 18, 19, 20, 21, 22, 23, 24, 25, 26, 27, 28, 29, 30, 31, 32, 33, 34, 35, 36, 37, 38, 39, 40, 41, 42, 43, 44] (by decide +kernel) (by decide +kernel)
set_option maxRecDepth 20000 in
theorem gX4_known_X4_find : GoodIn wsX4_known (wsV RX4 17 RX4 yX4_find wsX4_find) := goodIn_app (goodIn_of _ (by decide +kernel)) ggX4_known_X4_find
theorem dX4_known_0 : decode cX4_known 0 = .ok (.aload_n 0, 1) := by decide +kernel
theorem dX4_known_1 : decode cX4_known 1 = .ok (.iload_n 1, 1) := by decide +kernel
theorem dX4_known_2 : decode cX4_known 2 = .ok (.invokevirtual 17, 3) := by decide +kernel
theorem dX4_known_5 : decode cX4_known 5 = .ok (.astore_n 2, 1) := by decide +kernel
theorem dX4_known_6 : decode cX4_known 6 = .ok (.aload_n 2, 1) := by decide +kernel
theorem dX4_known_7 : decode cX4_known 7 = .ok (.ifnonnull 13, 3) := by decide +kernel
theorem dX4_known_10 : decode cX4_known 10 = .ok (.new 151, 3) := by decide +kernel
theorem dX4_known_13 : decode cX4_known 13 = .ok (.dup, 1) := by decide +kernel
theorem dX4_known_14 : decode cX4_known 14 = .ok (.ldc 153, 2) := by decide +kernel
theorem dX4_known_16 : decode cX4_known 16 = .ok (.invokespecial 155, 3) := by decide +kernel
theorem dX4_known_19 : decode cX4_known 19 = .ok (.athrow, 1) := by decide +kernel
theorem dX4_known_20 : decode cX4_known 20 = .ok (.aload_n 2, 1) := by decide +kernel
theorem dX4_known_21 : decode cX4_known 21 = .ok (.areturn, 1) := by decide +kernel
set_option maxRecDepth 20000 in
theorem ggX4_addRow_X3_init : GoodIn wsX4_addRow wsX3_init := goodIn_r _ [11, 12, 13, 14, 15, 16, 17, 18, 19, 31, 32, 33, 34, 35] (by decide +kernel) (by decide +kernel)
set_option maxRecDepth 20000 in
theorem gX4_addRow_X3_init : GoodIn wsX4_addRow (wsX3_init) := ggX4_addRow_X3_init
theorem dX4_addRow_0 : decode cX4_addRow 0 = .ok (.aload_n 0, 1) := by decide +kernel
theorem dX4_addRow_1 : decode cX4_addRow 1 = .ok (.getfield 158, 3) := by decide +kernel
theorem dX4_addRow_4 : decode cX4_addRow 4 = .ok (.bipush 64, 2) := by decide +kernel
theorem dX4_addRow_6 : decode cX4_addRow 6 = .ok (.if_icmp .ge 22, 3) := by decide +kernel
theorem dX4_addRow_9 : decode cX4_addRow 9 = .ok (.iload_n 2, 1) := by decide +kernel
theorem dX4_addRow_10 : decode cX4_addRow 10 = .ok (.aload_n 0, 1) := by decide +kernel
theorem dX4_addRow_11 : decode cX4_addRow 11 = .ok (.getfield 27, 3) := by decide +kernel
theorem dX4_addRow_14 : decode cX4_addRow 14 = .ok (.if_icmp .lt 14, 3) := by decide +kernel
theorem dX4_addRow_17 : decode cX4_addRow 17 = .ok (.iload_n 3, 1) := by decide +kernel
theorem dX4_addRow_18 : decode cX4_addRow 18 = .ok (.iload_n 2, 1) := by decide +kernel
theorem dX4_addRow_19 : decode cX4_addRow 19 = .ok (.if_icmp .le 9, 3) := by decide +kernel
theorem dX4_addRow_22 : decode cX4_addRow 22 = .ok (.iload_n 3, 1) := by decide +kernel
theorem dX4_addRow_23 : decode cX4_addRow 23 = .ok (.ldc 79, 2) := by decide +kernel
theorem dX4_addRow_25 : decode cX4_addRow 25 = .ok (.if_icmp .le 5, 3) := by decide +kernel
theorem dX4_addRow_28 : decode cX4_addRow 28 = .ok (.iconst 0, 1) := by decide +kernel
theorem dX4_addRow_29 : decode cX4_addRow 29 = .ok (.ireturn, 1) := by decide +kernel
theorem dX4_addRow_30 : decode cX4_addRow 30 = .ok (.aload_n 0, 1) := by decide +kernel
theorem dX4_addRow_31 : decode cX4_addRow 31 = .ok (.new 161, 3) := by decide +kernel
theorem dX4_addRow_34 : decode cX4_addRow 34 = .ok (.dup, 1) := by decide +kernel
theorem dX4_addRow_35 : decode cX4_addRow 35 = .ok (.iload_n 1, 1) := by decide +kernel
theorem dX4_addRow_36 : decode cX4_addRow 36 = .ok (.iload_n 2, 1) := by decide +kernel
theorem dX4_addRow_37 : decode cX4_addRow 37 = .ok (.iload_n 3, 1) := by decide +kernel
theorem dX4_addRow_38 : decode cX4_addRow 38 = .ok (.iload 4, 2) := by decide +kernel
theorem dX4_addRow_40 : decode cX4_addRow 40 = .ok (.aload_n 0, 1) := by decide +kernel
theorem dX4_addRow_41 : decode cX4_addRow 41 = .ok (.getfield 163, 3) := by decide +kernel
theorem dX4_addRow_44 : decode cX4_addRow 44 = .ok (.invokespecial 167, 3) := by decide +kernel
theorem dX4_addRow_47 : decode cX4_addRow 47 = .ok (.putfield 163, 3) := by decide +kernel
theorem dX4_addRow_50 : decode cX4_addRow 50 = .ok (.aload_n 0, 1) := by decide +kernel
theorem dX4_addRow_51 : decode cX4_addRow 51 = .ok (.dup, 1) := by decide +kernel
theorem dX4_addRow_52 : decode cX4_addRow 52 = .ok (.getfield 158, 3) := by decide +kernel
theorem dX4_addRow_55 : decode cX4_addRow 55 = .ok (.iconst 1, 1) := by decide +kernel
theorem dX4_addRow_56 : decode cX4_addRow 56 = .ok (.iadd, 1) := by decide +kernel
theorem dX4_addRow_57 : decode cX4_addRow 57 = .ok (.putfield 158, 3) := by decide +kernel
theorem dX4_addRow_60 : decode cX4_addRow 60 = .ok (.aload_n 0, 1) := by decide +kernel
theorem dX4_addRow_61 : decode cX4_addRow 61 = .ok (.aload_n 0, 1) := by decide +kernel
theorem dX4_addRow_62 : decode cX4_addRow 62 = .ok (.getfield 27, 3) := by decide +kernel
theorem dX4_addRow_65 : decode cX4_addRow 65 = .ok (.putfield 83, 3) := by decide +kernel
theorem dX4_addRow_68 : decode cX4_addRow 68 = .ok (.iconst 1, 1) := by decide +kernel
theorem dX4_addRow_69 : decode cX4_addRow 69 = .ok (.ireturn, 1) := by decide +kernel
set_option maxRecDepth 20000 in
theorem ggX4_lookAtRows_X4_rowCauseOf : GoodIn wsX4_lookAtRows wsX4_rowCauseOf := goodIn_r _ [18, 7, 8, 19, 13, 20, 21, 22, 23, 24, 25, 26, 27, 33, 34, 35, 36, 37, 38, 39, 40, 41, 42, 43, 60, 61, 62, 63, 64] (by decide +kernel) (by decide +kernel)
set_option maxRecDepth 20000 in
theorem gX4_lookAtRows_X4_rowCauseOf : GoodIn wsX4_lookAtRows (wsV RX4 170 RX4 yX4_rowCauseOf wsX4_rowCauseOf) := goodIn_app (goodIn_of _ (by decide +kernel)) ggX4_lookAtRows_X4_rowCauseOf
set_option maxRecDepth 20000 in
theorem ggX4_lookAtRows_X3_turnBehind : GoodIn wsX4_lookAtRows wsX3_turnBehind := goodIn_r _ [31, 26, 27, 32, 60, 61, 62, 63, 64] (by decide +kernel) (by decide +kernel)
set_option maxRecDepth 20000 in
theorem gX4_lookAtRows_X3_turnBehind : GoodIn wsX4_lookAtRows (wsV RX4 177 RX3 yX3_turnBehind wsX3_turnBehind) := goodIn_app (goodIn_of _ (by decide +kernel)) ggX4_lookAtRows_X3_turnBehind
theorem dX4_lookAtRows_0 : decode cX4_lookAtRows 0 = .ok (.aload_n 0, 1) := by decide +kernel
theorem dX4_lookAtRows_1 : decode cX4_lookAtRows 1 = .ok (.getfield 38, 3) := by decide +kernel
theorem dX4_lookAtRows_4 : decode cX4_lookAtRows 4 = .ok (.astore_n 1, 1) := by decide +kernel
theorem dX4_lookAtRows_5 : decode cX4_lookAtRows 5 = .ok (.aload_n 1, 1) := by decide +kernel
theorem dX4_lookAtRows_6 : decode cX4_lookAtRows 6 = .ok (.ifnull 23, 3) := by decide +kernel
theorem dX4_lookAtRows_9 : decode cX4_lookAtRows 9 = .ok (.aload_n 1, 1) := by decide +kernel
theorem dX4_lookAtRows_10 : decode cX4_lookAtRows 10 = .ok (.aload_n 0, 1) := by decide +kernel
theorem dX4_lookAtRows_11 : decode cX4_lookAtRows 11 = .ok (.aload_n 1, 1) := by decide +kernel
theorem dX4_lookAtRows_12 : decode cX4_lookAtRows 12 = .ok (.getfield 45, 3) := by decide +kernel
theorem dX4_lookAtRows_15 : decode cX4_lookAtRows 15 = .ok (.invokevirtual 170, 3) := by decide +kernel
theorem dX4_lookAtRows_18 : decode cX4_lookAtRows 18 = .ok (.putfield 174, 3) := by decide +kernel
theorem dX4_lookAtRows_21 : decode cX4_lookAtRows 21 = .ok (.aload_n 1, 1) := by decide +kernel
theorem dX4_lookAtRows_22 : decode cX4_lookAtRows 22 = .ok (.getfield 118, 3) := by decide +kernel
theorem dX4_lookAtRows_25 : decode cX4_lookAtRows 25 = .ok (.astore_n 1, 1) := by decide +kernel
theorem dX4_lookAtRows_26 : decode cX4_lookAtRows 26 = .ok (.goto (-21), 3) := by decide +kernel
theorem dX4_lookAtRows_29 : decode cX4_lookAtRows 29 = .ok (.aload_n 0, 1) := by decide +kernel
theorem dX4_lookAtRows_30 : decode cX4_lookAtRows 30 = .ok (.ldc 79, 2) := by decide +kernel
theorem dX4_lookAtRows_32 : decode cX4_lookAtRows 32 = .ok (.putfield 83, 3) := by decide +kernel
theorem dX4_lookAtRows_35 : decode cX4_lookAtRows 35 = .ok (.aload_n 0, 1) := by decide +kernel
theorem dX4_lookAtRows_36 : decode cX4_lookAtRows 36 = .ok (.getfield 163, 3) := by decide +kernel
theorem dX4_lookAtRows_39 : decode cX4_lookAtRows 39 = .ok (.astore_n 1, 1) := by decide +kernel
theorem dX4_lookAtRows_40 : decode cX4_lookAtRows 40 = .ok (.aload_n 1, 1) := by decide +kernel
theorem dX4_lookAtRows_41 : decode cX4_lookAtRows 41 = .ok (.ifnull 30, 3) := by decide +kernel
theorem dX4_lookAtRows_44 : decode cX4_lookAtRows 44 = .ok (.aload_n 0, 1) := by decide +kernel
theorem dX4_lookAtRows_45 : decode cX4_lookAtRows 45 = .ok (.aload_n 0, 1) := by decide +kernel
theorem dX4_lookAtRows_46 : decode cX4_lookAtRows 46 = .ok (.getfield 83, 3) := by decide +kernel
theorem dX4_lookAtRows_49 : decode cX4_lookAtRows 49 = .ok (.aload_n 1, 1) := by decide +kernel
theorem dX4_lookAtRows_50 : decode cX4_lookAtRows 50 = .ok (.aload_n 0, 1) := by decide +kernel
theorem dX4_lookAtRows_51 : decode cX4_lookAtRows 51 = .ok (.getfield 27, 3) := by decide +kernel
theorem dX4_lookAtRows_54 : decode cX4_lookAtRows 54 = .ok (.invokevirtual 177, 3) := by decide +kernel
theorem dX4_lookAtRows_57 : decode cX4_lookAtRows 57 = .ok (.invokestatic 96, 3) := by decide +kernel
theorem dX4_lookAtRows_60 : decode cX4_lookAtRows 60 = .ok (.putfield 83, 3) := by decide +kernel
theorem dX4_lookAtRows_63 : decode cX4_lookAtRows 63 = .ok (.aload_n 1, 1) := by decide +kernel
theorem dX4_lookAtRows_64 : decode cX4_lookAtRows 64 = .ok (.getfield 180, 3) := by decide +kernel
theorem dX4_lookAtRows_67 : decode cX4_lookAtRows 67 = .ok (.astore_n 1, 1) := by decide +kernel
theorem dX4_lookAtRows_68 : decode cX4_lookAtRows 68 = .ok (.goto (-28), 3) := by decide +kernel
theorem dX4_lookAtRows_71 : decode cX4_lookAtRows 71 = .ok (.return_, 1) := by decide +kernel
set_option maxRecDepth 20000 in
theorem ggX4_rowCauseOf_X3_holds : GoodIn wsX4_rowCauseOf wsX3_holds := goodIn_r _ [9, 10, 11, 12, 24, 25, 26, 27, 28] (by decide +kernel) (by decide +kernel)
set_option maxRecDepth 20000 in
theorem gX4_rowCauseOf_X3_holds : GoodIn wsX4_rowCauseOf (wsV RX4 183 RX3 yX3_holds wsX3_holds) := goodIn_app (goodIn_of _ (by decide +kernel)) ggX4_rowCauseOf_X3_holds
theorem dX4_rowCauseOf_0 : decode cX4_rowCauseOf 0 = .ok (.iconst (-1), 1) := by decide +kernel
theorem dX4_rowCauseOf_1 : decode cX4_rowCauseOf 1 = .ok (.istore_n 2, 1) := by decide +kernel
theorem dX4_rowCauseOf_2 : decode cX4_rowCauseOf 2 = .ok (.aload_n 0, 1) := by decide +kernel
theorem dX4_rowCauseOf_3 : decode cX4_rowCauseOf 3 = .ok (.getfield 163, 3) := by decide +kernel
theorem dX4_rowCauseOf_6 : decode cX4_rowCauseOf 6 = .ok (.astore_n 3, 1) := by decide +kernel
theorem dX4_rowCauseOf_7 : decode cX4_rowCauseOf 7 = .ok (.aload_n 3, 1) := by decide +kernel
theorem dX4_rowCauseOf_8 : decode cX4_rowCauseOf 8 = .ok (.ifnull 28, 3) := by decide +kernel
theorem dX4_rowCauseOf_11 : decode cX4_rowCauseOf 11 = .ok (.aload_n 3, 1) := by decide +kernel
theorem dX4_rowCauseOf_12 : decode cX4_rowCauseOf 12 = .ok (.iload_n 1, 1) := by decide +kernel
theorem dX4_rowCauseOf_13 : decode cX4_rowCauseOf 13 = .ok (.aload_n 0, 1) := by decide +kernel
theorem dX4_rowCauseOf_14 : decode cX4_rowCauseOf 14 = .ok (.getfield 27, 3) := by decide +kernel
theorem dX4_rowCauseOf_17 : decode cX4_rowCauseOf 17 = .ok (.invokevirtual 183, 3) := by decide +kernel
theorem dX4_rowCauseOf_20 : decode cX4_rowCauseOf 20 = .ok (.ifCond .eq 8, 3) := by decide +kernel
theorem dX4_rowCauseOf_23 : decode cX4_rowCauseOf 23 = .ok (.aload_n 3, 1) := by decide +kernel
theorem dX4_rowCauseOf_24 : decode cX4_rowCauseOf 24 = .ok (.getfield 187, 3) := by decide +kernel
theorem dX4_rowCauseOf_27 : decode cX4_rowCauseOf 27 = .ok (.istore_n 2, 1) := by decide +kernel
theorem dX4_rowCauseOf_28 : decode cX4_rowCauseOf 28 = .ok (.aload_n 3, 1) := by decide +kernel
theorem dX4_rowCauseOf_29 : decode cX4_rowCauseOf 29 = .ok (.getfield 180, 3) := by decide +kernel
theorem dX4_rowCauseOf_32 : decode cX4_rowCauseOf 32 = .ok (.astore_n 3, 1) := by decide +kernel
theorem dX4_rowCauseOf_33 : decode cX4_rowCauseOf 33 = .ok (.goto (-26), 3) := by decide +kernel
theorem dX4_rowCauseOf_36 : decode cX4_rowCauseOf 36 = .ok (.iload_n 2, 1) := by decide +kernel
theorem dX4_rowCauseOf_37 : decode cX4_rowCauseOf 37 = .ok (.ireturn, 1) := by decide +kernel
set_option maxRecDepth 20000 in
theorem ggX4_actAll_X2_stands : GoodIn wsX4_actAll wsX2_stands := goodIn_r _ [8, 9, 10, 115, 116, 117, 118, 119, 120, 121, 122, 123, 124, 125, 126, 127, 128, 129, 130] (by decide +kernel) (by decide +kernel)
set_option maxRecDepth 20000 in
theorem gX4_actAll_X2_stands : GoodIn wsX4_actAll (wsV RX4 190 RX2 yX2_stands wsX2_stands) := goodIn_app (goodIn_of _ (by decide +kernel)) ggX4_actAll_X2_stands
set_option maxRecDepth 20000 in
theorem ggX4_actAll_X4_act : GoodIn wsX4_actAll wsX4_act := goodIn_r _ [15, 16, 2, 17, 18, 19, 20, 7, 21, 22, 23, 24, 25, 26, 27, 14, 28, 29, 30, 31, 32, 33, 34, 35, 36, 37, 38, 39, 40, 41, 42, 43, 44, 45, 46, 47, 48, 49, 50, 51, 52, 53, 54, 55, 56, 57, 58, 59, 60, 61, 62, 4, 5, 6, 8, 9, 10, 63, 64, 65, 66, 67, 68, 69, 70, 71, 72, 73, 74, 75, 76, 77, 78, 79, 80, 81, 82, 83, 84, 85, 86, 87, 88, 89, 90, 91, 92, 93, 94, 95, 96, 97, 98, 99, 100, 101, 102, 103, 115, 116, 117, 118, 119, 120, 121, 122, 123, 124, 125, 126, 127, 128, 129, 130, 104, 105, 106, 107, 108, 109, 110, 111, 112, 113, 114, 131, 132, 133, 134, 135, 136, 137, 138, 139] (by decide +kernel) (by decide +kernel)
set_option maxRecDepth 20000 in
theorem gX4_actAll_X4_act : GoodIn wsX4_actAll (wsV RX4 193 RX4 yX4_act wsX4_act) := goodIn_app (goodIn_of _ (by decide +kernel)) ggX4_actAll_X4_act
theorem dX4_actAll_0 : decode cX4_actAll 0 = .ok (.aload_n 0, 1) := by decide +kernel
theorem dX4_actAll_1 : decode cX4_actAll 1 = .ok (.getfield 38, 3) := by decide +kernel
theorem dX4_actAll_4 : decode cX4_actAll 4 = .ok (.astore_n 1, 1) := by decide +kernel
theorem dX4_actAll_5 : decode cX4_actAll 5 = .ok (.aload_n 1, 1) := by decide +kernel
theorem dX4_actAll_6 : decode cX4_actAll 6 = .ok (.ifnull 27, 3) := by decide +kernel
theorem dX4_actAll_9 : decode cX4_actAll 9 = .ok (.aload_n 1, 1) := by decide +kernel
theorem dX4_actAll_10 : decode cX4_actAll 10 = .ok (.aload_n 0, 1) := by decide +kernel
theorem dX4_actAll_11 : decode cX4_actAll 11 = .ok (.getfield 27, 3) := by decide +kernel
theorem dX4_actAll_14 : decode cX4_actAll 14 = .ok (.invokevirtual 190, 3) := by decide +kernel
theorem dX4_actAll_17 : decode cX4_actAll 17 = .ok (.ifCond .ne 8, 3) := by decide +kernel
theorem dX4_actAll_20 : decode cX4_actAll 20 = .ok (.aload_n 0, 1) := by decide +kernel
theorem dX4_actAll_21 : decode cX4_actAll 21 = .ok (.aload_n 1, 1) := by decide +kernel
theorem dX4_actAll_22 : decode cX4_actAll 22 = .ok (.invokevirtual 193, 3) := by decide +kernel
theorem dX4_actAll_25 : decode cX4_actAll 25 = .ok (.aload_n 1, 1) := by decide +kernel
theorem dX4_actAll_26 : decode cX4_actAll 26 = .ok (.getfield 118, 3) := by decide +kernel
theorem dX4_actAll_29 : decode cX4_actAll 29 = .ok (.astore_n 1, 1) := by decide +kernel
theorem dX4_actAll_30 : decode cX4_actAll 30 = .ok (.goto (-25), 3) := by decide +kernel
theorem dX4_actAll_33 : decode cX4_actAll 33 = .ok (.return_, 1) := by decide +kernel
set_option maxRecDepth 20000 in
theorem ggX4_act_X2_isDone : GoodIn wsX4_act wsX2_isDone := goodIn_r _ [8, 9, 10, 11, 98, 99, 100, 101, 102, 103, 104, 105, 106, 107, 108, 109, 110, 111, 112, 113] (by decide +kernel) (by decide +kernel)
set_option maxRecDepth 20000 in
theorem gX4_act_X2_isDone : GoodIn wsX4_act (wsV RX4 197 RX2 yX2_isDone wsX2_isDone) := goodIn_app (goodIn_of _ (by decide +kernel)) ggX4_act_X2_isDone
set_option maxRecDepth 20000 in
theorem ggX4_act_X4_judge : GoodIn wsX4_act wsX4_judge := goodIn_r _ [16, 17, 18, 19, 20, 21, 22, 23, 24, 25, 1, 2, 26, 27, 28, 29, 15, 30, 31, 32, 33, 34, 35, 36, 37, 38, 39, 40, 41, 7, 42, 9, 43, 10, 44, 45, 46, 47, 48, 49, 50, 98, 99, 100, 101, 102, 103, 104, 105, 106, 107, 108, 109, 110, 111, 112, 113, 125, 126, 127, 128, 114, 115, 116, 117, 118, 119, 120, 121, 122, 123, 124] (by decide +kernel) (by decide +kernel)
set_option maxRecDepth 20000 in
theorem gX4_act_X4_judge : GoodIn wsX4_act (wsV RX4 204 RX4 yX4_judge wsX4_judge) := goodIn_app (goodIn_of _ (by decide +kernel)) ggX4_act_X4_judge
set_option maxRecDepth 20000 in
theorem ggX4_act_X2_stands : GoodIn wsX4_act wsX2_stands := goodIn_r _ [54, 55, 56, 98, 99, 100, 101, 102, 103, 104, 105, 106, 107, 108, 109, 110, 111, 112, 113] (by decide +kernel) (by decide +kernel)
set_option maxRecDepth 20000 in
theorem gX4_act_X2_stands : GoodIn wsX4_act (wsV RX4 190 RX2 yX2_stands wsX2_stands) := goodIn_app (goodIn_of _ (by decide +kernel)) ggX4_act_X2_stands
set_option maxRecDepth 20000 in
theorem ggX4_act_X4_leave : GoodIn wsX4_act wsX4_leave := goodIn_r _ [60, 61, 62, 63, 2, 64, 65, 66, 67, 68, 69, 70, 71, 72, 73, 74, 75, 76, 39, 40, 41, 7, 42, 9, 43, 10, 44, 45, 46, 15, 47, 48, 49, 50, 98, 99, 100, 101, 102, 103, 104, 105, 106, 107, 108, 109, 110, 111, 112, 113, 114, 115, 116, 117, 118, 119, 120, 121, 122, 123, 124, 129, 130, 131, 132, 133] (by decide +kernel) (by decide +kernel)
set_option maxRecDepth 20000 in
theorem gX4_act_X4_leave : GoodIn wsX4_act (wsV RX4 207 RX4 yX4_leave wsX4_leave) := goodIn_app (goodIn_of _ (by decide +kernel)) ggX4_act_X4_leave
set_option maxRecDepth 20000 in
theorem ggX4_act_X4_take : GoodIn wsX4_act wsX4_take := goodIn_r _ [80, 81, 82, 2, 3, 83, 84, 85, 67, 86, 69, 87, 88, 89, 90, 75, 76, 91, 92, 22, 23, 24, 93, 94, 95, 96, 97, 44, 45, 46, 15, 47, 48, 49, 50, 98, 99, 100, 101, 102, 103, 104, 105, 106, 107, 108, 109, 110, 111, 112, 113, 114, 115, 116, 117, 118, 119, 120, 121, 122, 123, 124, 129, 130, 131, 132, 133] (by decide +kernel) (by decide +kernel)
set_option maxRecDepth 20000 in
theorem gX4_act_X4_take : GoodIn wsX4_act (wsV RX4 210 RX4 yX4_take wsX4_take) := goodIn_app (goodIn_of _ (by decide +kernel)) ggX4_act_X4_take
theorem dX4_act_0 : decode cX4_act 0 = .ok (.aload_n 1, 1) := by decide +kernel
theorem dX4_act_1 : decode cX4_act 1 = .ok (.invokevirtual 197, 3) := by decide +kernel
theorem dX4_act_4 : decode cX4_act 4 = .ok (.ifCond .eq 27, 3) := by decide +kernel
theorem dX4_act_7 : decode cX4_act 7 = .ok (.aload_n 1, 1) := by decide +kernel
theorem dX4_act_8 : decode cX4_act 8 = .ok (.getfield 201, 3) := by decide +kernel
theorem dX4_act_11 : decode cX4_act 11 = .ok (.ifCond .ne 20, 3) := by decide +kernel
theorem dX4_act_14 : decode cX4_act 14 = .ok (.aload_n 0, 1) := by decide +kernel
theorem dX4_act_15 : decode cX4_act 15 = .ok (.aload_n 1, 1) := by decide +kernel
theorem dX4_act_16 : decode cX4_act 16 = .ok (.invokevirtual 204, 3) := by decide +kernel
theorem dX4_act_19 : decode cX4_act 19 = .ok (.aload_n 1, 1) := by decide +kernel
theorem dX4_act_20 : decode cX4_act 20 = .ok (.aload_n 0, 1) := by decide +kernel
theorem dX4_act_21 : decode cX4_act 21 = .ok (.getfield 27, 3) := by decide +kernel
theorem dX4_act_24 : decode cX4_act 24 = .ok (.invokevirtual 190, 3) := by decide +kernel
theorem dX4_act_27 : decode cX4_act 27 = .ok (.ifCond .eq 4, 3) := by decide +kernel
theorem dX4_act_30 : decode cX4_act 30 = .ok (.return_, 1) := by decide +kernel
theorem dX4_act_31 : decode cX4_act 31 = .ok (.aload_n 1, 1) := by decide +kernel
theorem dX4_act_32 : decode cX4_act 32 = .ok (.getfield 201, 3) := by decide +kernel
theorem dX4_act_35 : decode cX4_act 35 = .ok (.ifCond .eq 8, 3) := by decide +kernel
theorem dX4_act_38 : decode cX4_act 38 = .ok (.aload_n 0, 1) := by decide +kernel
theorem dX4_act_39 : decode cX4_act 39 = .ok (.aload_n 1, 1) := by decide +kernel
theorem dX4_act_40 : decode cX4_act 40 = .ok (.invokevirtual 207, 3) := by decide +kernel
theorem dX4_act_43 : decode cX4_act 43 = .ok (.aload_n 1, 1) := by decide +kernel
theorem dX4_act_44 : decode cX4_act 44 = .ok (.getfield 115, 3) := by decide +kernel
theorem dX4_act_47 : decode cX4_act 47 = .ok (.ifCond .ne 8, 3) := by decide +kernel
theorem dX4_act_50 : decode cX4_act 50 = .ok (.aload_n 0, 1) := by decide +kernel
theorem dX4_act_51 : decode cX4_act 51 = .ok (.aload_n 1, 1) := by decide +kernel
theorem dX4_act_52 : decode cX4_act 52 = .ok (.invokevirtual 210, 3) := by decide +kernel
theorem dX4_act_55 : decode cX4_act 55 = .ok (.return_, 1) := by decide +kernel
set_option maxRecDepth 20000 in
theorem ggX4_judge_X4_draw : GoodIn wsX4_judge wsX4_draw := goodIn_r _ [17, 18, 19, 20, 61, 62, 63, 64, 65, 66, 67, 68, 69, 70, 71] (by decide +kernel) (by decide +kernel)
set_option maxRecDepth 20000 in
theorem gX4_judge_X4_draw : GoodIn wsX4_judge (wsV RX4 220 RX4 yX4_draw wsX4_draw) := goodIn_app (goodIn_of _ (by decide +kernel)) ggX4_judge_X4_draw
set_option maxRecDepth 20000 in
theorem ggX4_judge_X4_reject : GoodIn wsX4_judge wsX4_reject := goodIn_r _ [24, 25, 26, 27, 28, 29, 30, 31, 32, 33, 34, 35, 36, 16, 37, 38, 39, 11, 40, 41, 42, 43, 44, 45, 46, 47, 48, 49, 50, 51, 52, 53, 54, 55, 56, 61, 62, 63, 64, 65, 66, 67, 68, 69, 70, 71] (by decide +kernel) (by decide +kernel)
set_option maxRecDepth 20000 in
theorem gX4_judge_X4_reject : GoodIn wsX4_judge (wsV RX4 230 RX4 yX4_reject wsX4_reject) := goodIn_app (goodIn_of _ (by decide +kernel)) ggX4_judge_X4_reject
set_option maxRecDepth 20000 in
theorem ggX4_judge_X4_note : GoodIn wsX4_judge wsX4_note := goodIn_r _ [37, 38, 39, 11, 40, 61, 62, 63, 64, 65, 66, 67, 68, 69, 70, 71, 41, 42, 43, 44, 45, 46, 47, 48, 49, 50, 51, 52, 53, 54, 55, 56] (by decide +kernel) (by decide +kernel)
set_option maxRecDepth 20000 in
theorem gX4_judge_X4_note : GoodIn wsX4_judge (wsV RX4 239 RX4 yX4_note wsX4_note) := goodIn_app (goodIn_of _ (by decide +kernel)) ggX4_judge_X4_note
theorem dX4_judge_0 : decode cX4_judge 0 = .ok (.iconst 0, 1) := by decide +kernel
theorem dX4_judge_1 : decode cX4_judge 1 = .ok (.istore_n 2, 1) := by decide +kernel
theorem dX4_judge_2 : decode cX4_judge 2 = .ok (.aload_n 1, 1) := by decide +kernel
theorem dX4_judge_3 : decode cX4_judge 3 = .ok (.getfield 213, 3) := by decide +kernel
theorem dX4_judge_6 : decode cX4_judge 6 = .ok (.astore_n 3, 1) := by decide +kernel
theorem dX4_judge_7 : decode cX4_judge 7 = .ok (.aload_n 3, 1) := by decide +kernel
theorem dX4_judge_8 : decode cX4_judge 8 = .ok (.ifnull 49, 3) := by decide +kernel
theorem dX4_judge_11 : decode cX4_judge 11 = .ok (.aload_n 0, 1) := by decide +kernel
theorem dX4_judge_12 : decode cX4_judge 12 = .ok (.aload_n 3, 1) := by decide +kernel
theorem dX4_judge_13 : decode cX4_judge 13 = .ok (.getfield 217, 3) := by decide +kernel
theorem dX4_judge_16 : decode cX4_judge 16 = .ok (.invokevirtual 220, 3) := by decide +kernel
theorem dX4_judge_19 : decode cX4_judge 19 = .ok (.aload_n 3, 1) := by decide +kernel
theorem dX4_judge_20 : decode cX4_judge 20 = .ok (.getfield 224, 3) := by decide +kernel
theorem dX4_judge_23 : decode cX4_judge 23 = .ok (.lcmp, 1) := by decide +kernel
theorem dX4_judge_24 : decode cX4_judge 24 = .ok (.ifCond .ge 25, 3) := by decide +kernel
theorem dX4_judge_27 : decode cX4_judge 27 = .ok (.aload_n 3, 1) := by decide +kernel
theorem dX4_judge_28 : decode cX4_judge 28 = .ok (.getfield 227, 3) := by decide +kernel
theorem dX4_judge_31 : decode cX4_judge 31 = .ok (.ifCond .ne 9, 3) := by decide +kernel
theorem dX4_judge_34 : decode cX4_judge 34 = .ok (.aload_n 0, 1) := by decide +kernel
theorem dX4_judge_35 : decode cX4_judge 35 = .ok (.aload_n 1, 1) := by decide +kernel
theorem dX4_judge_36 : decode cX4_judge 36 = .ok (.invokevirtual 230, 3) := by decide +kernel
theorem dX4_judge_39 : decode cX4_judge 39 = .ok (.return_, 1) := by decide +kernel
theorem dX4_judge_40 : decode cX4_judge 40 = .ok (.iload_n 2, 1) := by decide +kernel
theorem dX4_judge_41 : decode cX4_judge 41 = .ok (.aload_n 3, 1) := by decide +kernel
theorem dX4_judge_42 : decode cX4_judge 42 = .ok (.getfield 227, 3) := by decide +kernel
theorem dX4_judge_45 : decode cX4_judge 45 = .ok (.invokestatic 102, 3) := by decide +kernel
theorem dX4_judge_48 : decode cX4_judge 48 = .ok (.istore_n 2, 1) := by decide +kernel
theorem dX4_judge_49 : decode cX4_judge 49 = .ok (.aload_n 3, 1) := by decide +kernel
theorem dX4_judge_50 : decode cX4_judge 50 = .ok (.getfield 233, 3) := by decide +kernel
theorem dX4_judge_53 : decode cX4_judge 53 = .ok (.astore_n 3, 1) := by decide +kernel
theorem dX4_judge_54 : decode cX4_judge 54 = .ok (.goto (-47), 3) := by decide +kernel
theorem dX4_judge_57 : decode cX4_judge 57 = .ok (.aload_n 1, 1) := by decide +kernel
theorem dX4_judge_58 : decode cX4_judge 58 = .ok (.iconst 1, 1) := by decide +kernel
theorem dX4_judge_59 : decode cX4_judge 59 = .ok (.putfield 201, 3) := by decide +kernel
theorem dX4_judge_62 : decode cX4_judge 62 = .ok (.iload_n 2, 1) := by decide +kernel
theorem dX4_judge_63 : decode cX4_judge 63 = .ok (.ifCond .le 19, 3) := by decide +kernel
theorem dX4_judge_66 : decode cX4_judge 66 = .ok (.aload_n 1, 1) := by decide +kernel
theorem dX4_judge_67 : decode cX4_judge 67 = .ok (.aload_n 0, 1) := by decide +kernel
theorem dX4_judge_68 : decode cX4_judge 68 = .ok (.getfield 27, 3) := by decide +kernel
theorem dX4_judge_71 : decode cX4_judge 71 = .ok (.iload_n 2, 1) := by decide +kernel
theorem dX4_judge_72 : decode cX4_judge 72 = .ok (.iadd, 1) := by decide +kernel
theorem dX4_judge_73 : decode cX4_judge 73 = .ok (.putfield 236, 3) := by decide +kernel
theorem dX4_judge_76 : decode cX4_judge 76 = .ok (.aload_n 0, 1) := by decide +kernel
theorem dX4_judge_77 : decode cX4_judge 77 = .ok (.aload_n 1, 1) := by decide +kernel
theorem dX4_judge_78 : decode cX4_judge 78 = .ok (.iconst 3, 1) := by decide +kernel
theorem dX4_judge_79 : decode cX4_judge 79 = .ok (.invokevirtual 239, 3) := by decide +kernel
theorem dX4_judge_82 : decode cX4_judge 82 = .ok (.return_, 1) := by decide +kernel
theorem dX4_draw_0 : decode cX4_draw 0 = .ok (.aload_n 0, 1) := by decide +kernel
theorem dX4_draw_1 : decode cX4_draw 1 = .ok (.aload_n 0, 1) := by decide +kernel
theorem dX4_draw_2 : decode cX4_draw 2 = .ok (.getfield 13, 3) := by decide +kernel
theorem dX4_draw_5 : decode cX4_draw 5 = .ok (.ldc2_w 243, 3) := by decide +kernel
theorem dX4_draw_8 : decode cX4_draw 8 = .ok (.lmul, 1) := by decide +kernel
theorem dX4_draw_9 : decode cX4_draw 9 = .ok (.ldc2_w 245, 3) := by decide +kernel
theorem dX4_draw_12 : decode cX4_draw 12 = .ok (.ladd, 1) := by decide +kernel
theorem dX4_draw_13 : decode cX4_draw 13 = .ok (.putfield 13, 3) := by decide +kernel
theorem dX4_draw_16 : decode cX4_draw 16 = .ok (.aload_n 0, 1) := by decide +kernel
theorem dX4_draw_17 : decode cX4_draw 17 = .ok (.getfield 13, 3) := by decide +kernel
theorem dX4_draw_20 : decode cX4_draw 20 = .ok (.bipush 33, 2) := by decide +kernel
theorem dX4_draw_22 : decode cX4_draw 22 = .ok (.lushr, 1) := by decide +kernel
theorem dX4_draw_23 : decode cX4_draw 23 = .ok (.lload_n 1, 1) := by decide +kernel
theorem dX4_draw_24 : decode cX4_draw 24 = .ok (.lrem, 1) := by decide +kernel
theorem dX4_draw_25 : decode cX4_draw 25 = .ok (.lreturn, 1) := by decide +kernel
set_option maxRecDepth 20000 in
theorem ggX4_reject_X2_putAway : GoodIn wsX4_reject wsX2_putAway := goodIn_r _ [6, 7, 8, 9, 19, 20, 21, 22, 23, 24, 25, 26, 27, 28, 29, 30, 31, 32, 33, 34] (by decide +kernel) (by decide +kernel)
set_option maxRecDepth 20000 in
theorem gX4_reject_X2_putAway : GoodIn wsX4_reject (wsV RX4 247 RX2 yX2_putAway wsX2_putAway) := goodIn_app (goodIn_of _ (by decide +kernel)) ggX4_reject_X2_putAway
set_option maxRecDepth 20000 in
theorem ggX4_reject_X4_note : GoodIn wsX4_reject wsX4_note := goodIn_r _ [14, 15, 16, 17, 18, 35, 36, 37, 38, 39, 40, 41, 42, 43, 44, 45, 19, 20, 21, 22, 23, 24, 25, 26, 27, 28, 29, 30, 31, 32, 33, 34] (by decide +kernel) (by decide +kernel)
set_option maxRecDepth 20000 in
theorem gX4_reject_X4_note : GoodIn wsX4_reject (wsV RX4 239 RX4 yX4_note wsX4_note) := goodIn_app (goodIn_of _ (by decide +kernel)) ggX4_reject_X4_note
theorem dX4_reject_0 : decode cX4_reject 0 = .ok (.aload_n 1, 1) := by decide +kernel
theorem dX4_reject_1 : decode cX4_reject 1 = .ok (.invokevirtual 247, 3) := by decide +kernel
theorem dX4_reject_4 : decode cX4_reject 4 = .ok (.aload_n 1, 1) := by decide +kernel
theorem dX4_reject_5 : decode cX4_reject 5 = .ok (.dup, 1) := by decide +kernel
theorem dX4_reject_6 : decode cX4_reject 6 = .ok (.getfield 137, 3) := by decide +kernel
theorem dX4_reject_9 : decode cX4_reject 9 = .ok (.lconst 1, 1) := by decide +kernel
theorem dX4_reject_10 : decode cX4_reject 10 = .ok (.ladd, 1) := by decide +kernel
theorem dX4_reject_11 : decode cX4_reject 11 = .ok (.putfield 137, 3) := by decide +kernel
theorem dX4_reject_14 : decode cX4_reject 14 = .ok (.aload_n 0, 1) := by decide +kernel
theorem dX4_reject_15 : decode cX4_reject 15 = .ok (.aload_n 1, 1) := by decide +kernel
theorem dX4_reject_16 : decode cX4_reject 16 = .ok (.iconst 2, 1) := by decide +kernel
theorem dX4_reject_17 : decode cX4_reject 17 = .ok (.invokevirtual 239, 3) := by decide +kernel
theorem dX4_reject_20 : decode cX4_reject 20 = .ok (.return_, 1) := by decide +kernel
set_option maxRecDepth 20000 in
theorem ggX4_leave_X0_hasRoom : GoodIn wsX4_leave wsX0_hasRoom := goodIn_r _ [9, 10, 11, 61, 62, 63, 64, 65] (by decide +kernel) (by decide +kernel)
set_option maxRecDepth 20000 in
theorem gX4_leave_X0_hasRoom : GoodIn wsX4_leave (wsV RX4 250 RX0 yX0_hasRoom wsX0_hasRoom) := goodIn_app (goodIn_of _ (by decide +kernel)) ggX4_leave_X0_hasRoom
set_option maxRecDepth 20000 in
theorem ggX4_leave_X0_add : GoodIn wsX4_leave wsX0_add := goodIn_r _ [15, 16, 17, 10, 61, 62, 63, 64, 65] (by decide +kernel) (by decide +kernel)
set_option maxRecDepth 20000 in
theorem gX4_leave_X0_add : GoodIn wsX4_leave (wsV RX4 253 RX0 yX0_add wsX0_add) := goodIn_app (goodIn_of _ (by decide +kernel)) ggX4_leave_X0_add
set_option maxRecDepth 20000 in
theorem ggX4_leave_X2_putAway : GoodIn wsX4_leave wsX2_putAway := goodIn_r _ [22, 23, 24, 25, 34, 35, 36, 37, 38, 39, 40, 41, 42, 43, 44, 45, 46, 47, 48, 49] (by decide +kernel) (by decide +kernel)
set_option maxRecDepth 20000 in
theorem gX4_leave_X2_putAway : GoodIn wsX4_leave (wsV RX4 247 RX2 yX2_putAway wsX2_putAway) := goodIn_app (goodIn_of _ (by decide +kernel)) ggX4_leave_X2_putAway
set_option maxRecDepth 20000 in
theorem ggX4_leave_X4_note : GoodIn wsX4_leave wsX4_note := goodIn_r _ [30, 31, 32, 4, 33, 50, 51, 52, 53, 54, 55, 56, 57, 58, 59, 60, 34, 35, 36, 37, 38, 39, 40, 41, 42, 43, 44, 45, 46, 47, 48, 49] (by decide +kernel) (by decide +kernel)
set_option maxRecDepth 20000 in
theorem gX4_leave_X4_note : GoodIn wsX4_leave (wsV RX4 239 RX4 yX4_note wsX4_note) := goodIn_app (goodIn_of _ (by decide +kernel)) ggX4_leave_X4_note
theorem dX4_leave_0 : decode cX4_leave 0 = .ok (.aload_n 1, 1) := by decide +kernel
theorem dX4_leave_1 : decode cX4_leave 1 = .ok (.getfield 21, 3) := by decide +kernel
theorem dX4_leave_4 : decode cX4_leave 4 = .ok (.ifCond .ne 16, 3) := by decide +kernel
theorem dX4_leave_7 : decode cX4_leave 7 = .ok (.aload_n 0, 1) := by decide +kernel
theorem dX4_leave_8 : decode cX4_leave 8 = .ok (.dup, 1) := by decide +kernel
theorem dX4_leave_9 : decode cX4_leave 9 = .ok (.getfield 109, 3) := by decide +kernel
theorem dX4_leave_12 : decode cX4_leave 12 = .ok (.lconst 1, 1) := by decide +kernel
theorem dX4_leave_13 : decode cX4_leave 13 = .ok (.ladd, 1) := by decide +kernel
theorem dX4_leave_14 : decode cX4_leave 14 = .ok (.putfield 109, 3) := by decide +kernel
theorem dX4_leave_17 : decode cX4_leave 17 = .ok (.goto 28, 3) := by decide +kernel
theorem dX4_leave_20 : decode cX4_leave 20 = .ok (.aload_n 1, 1) := by decide +kernel
theorem dX4_leave_21 : decode cX4_leave 21 = .ok (.getfield 48, 3) := by decide +kernel
theorem dX4_leave_24 : decode cX4_leave 24 = .ok (.invokevirtual 250, 3) := by decide +kernel
theorem dX4_leave_27 : decode cX4_leave 27 = .ok (.ifCond .eq 17, 3) := by decide +kernel
theorem dX4_leave_30 : decode cX4_leave 30 = .ok (.aload_n 1, 1) := by decide +kernel
theorem dX4_leave_31 : decode cX4_leave 31 = .ok (.getfield 48, 3) := by decide +kernel
theorem dX4_leave_34 : decode cX4_leave 34 = .ok (.aload_n 0, 1) := by decide +kernel
theorem dX4_leave_35 : decode cX4_leave 35 = .ok (.getfield 27, 3) := by decide +kernel
theorem dX4_leave_38 : decode cX4_leave 38 = .ok (.invokevirtual 253, 3) := by decide +kernel
theorem dX4_leave_41 : decode cX4_leave 41 = .ok (.goto 4, 3) := by decide +kernel
theorem dX4_leave_44 : decode cX4_leave 44 = .ok (.return_, 1) := by decide +kernel
theorem dX4_leave_45 : decode cX4_leave 45 = .ok (.aload_n 1, 1) := by decide +kernel
theorem dX4_leave_46 : decode cX4_leave 46 = .ok (.invokevirtual 247, 3) := by decide +kernel
theorem dX4_leave_49 : decode cX4_leave 49 = .ok (.aload_n 0, 1) := by decide +kernel
theorem dX4_leave_50 : decode cX4_leave 50 = .ok (.aload_n 1, 1) := by decide +kernel
theorem dX4_leave_51 : decode cX4_leave 51 = .ok (.iconst 1, 1) := by decide +kernel
theorem dX4_leave_52 : decode cX4_leave 52 = .ok (.invokevirtual 239, 3) := by decide +kernel
theorem dX4_leave_55 : decode cX4_leave 55 = .ok (.return_, 1) := by decide +kernel
set_option maxRecDepth 20000 in
theorem ggX4_take_X0_isReady : GoodIn wsX4_take wsX0_isReady := goodIn_r _ [9, 10, 11, 12, 13, 8, 14, 15, 16, 17, 18, 19, 20, 21, 22, 62, 63, 64, 65, 66] (by decide +kernel) (by decide +kernel)
set_option maxRecDepth 20000 in
theorem gX4_take_X0_isReady : GoodIn wsX4_take (wsV RX4 259 RX0 yX0_isReady wsX0_isReady) := goodIn_app (goodIn_of _ (by decide +kernel)) ggX4_take_X0_isReady
set_option maxRecDepth 20000 in
theorem ggX4_take_X0_removeFirst : GoodIn wsX4_take wsX0_removeFirst := goodIn_r _ [26, 16, 10, 62, 63, 64, 65, 66] (by decide +kernel) (by decide +kernel)
set_option maxRecDepth 20000 in
theorem gX4_take_X0_removeFirst : GoodIn wsX4_take (wsV RX4 262 RX0 yX0_removeFirst wsX0_removeFirst) := goodIn_app (goodIn_of _ (by decide +kernel)) ggX4_take_X0_removeFirst
set_option maxRecDepth 20000 in
theorem ggX4_take_X4_note : GoodIn wsX4_take wsX4_note := goodIn_r _ [31, 32, 33, 3, 34, 51, 52, 53, 54, 55, 56, 57, 58, 59, 60, 61, 35, 36, 37, 38, 39, 40, 41, 42, 43, 44, 45, 46, 47, 48, 49, 50] (by decide +kernel) (by decide +kernel)
set_option maxRecDepth 20000 in
theorem gX4_take_X4_note : GoodIn wsX4_take (wsV RX4 239 RX4 yX4_note wsX4_note) := goodIn_app (goodIn_of _ (by decide +kernel)) ggX4_take_X4_note
theorem dX4_take_0 : decode cX4_take 0 = .ok (.aload_n 1, 1) := by decide +kernel
theorem dX4_take_1 : decode cX4_take 1 = .ok (.getfield 256, 3) := by decide +kernel
theorem dX4_take_4 : decode cX4_take 4 = .ok (.ifnonnull 16, 3) := by decide +kernel
theorem dX4_take_7 : decode cX4_take 7 = .ok (.aload_n 0, 1) := by decide +kernel
theorem dX4_take_8 : decode cX4_take 8 = .ok (.dup, 1) := by decide +kernel
theorem dX4_take_9 : decode cX4_take 9 = .ok (.getfield 148, 3) := by decide +kernel
theorem dX4_take_12 : decode cX4_take 12 = .ok (.lconst 1, 1) := by decide +kernel
theorem dX4_take_13 : decode cX4_take 13 = .ok (.ladd, 1) := by decide +kernel
theorem dX4_take_14 : decode cX4_take 14 = .ok (.putfield 148, 3) := by decide +kernel
theorem dX4_take_17 : decode cX4_take 17 = .ok (.goto 28, 3) := by decide +kernel
theorem dX4_take_20 : decode cX4_take 20 = .ok (.aload_n 1, 1) := by decide +kernel
theorem dX4_take_21 : decode cX4_take 21 = .ok (.getfield 256, 3) := by decide +kernel
theorem dX4_take_24 : decode cX4_take 24 = .ok (.aload_n 0, 1) := by decide +kernel
theorem dX4_take_25 : decode cX4_take 25 = .ok (.getfield 27, 3) := by decide +kernel
theorem dX4_take_28 : decode cX4_take 28 = .ok (.invokevirtual 259, 3) := by decide +kernel
theorem dX4_take_31 : decode cX4_take 31 = .ok (.ifCond .eq 13, 3) := by decide +kernel
theorem dX4_take_34 : decode cX4_take 34 = .ok (.aload_n 1, 1) := by decide +kernel
theorem dX4_take_35 : decode cX4_take 35 = .ok (.getfield 256, 3) := by decide +kernel
theorem dX4_take_38 : decode cX4_take 38 = .ok (.invokevirtual 262, 3) := by decide +kernel
theorem dX4_take_41 : decode cX4_take 41 = .ok (.goto 4, 3) := by decide +kernel
theorem dX4_take_44 : decode cX4_take 44 = .ok (.return_, 1) := by decide +kernel
theorem dX4_take_45 : decode cX4_take 45 = .ok (.aload_n 1, 1) := by decide +kernel
theorem dX4_take_46 : decode cX4_take 46 = .ok (.iconst 1, 1) := by decide +kernel
theorem dX4_take_47 : decode cX4_take 47 = .ok (.putfield 115, 3) := by decide +kernel
theorem dX4_take_50 : decode cX4_take 50 = .ok (.aload_n 0, 1) := by decide +kernel
theorem dX4_take_51 : decode cX4_take 51 = .ok (.aload_n 1, 1) := by decide +kernel
theorem dX4_take_52 : decode cX4_take 52 = .ok (.iconst 0, 1) := by decide +kernel
theorem dX4_take_53 : decode cX4_take 53 = .ok (.invokevirtual 239, 3) := by decide +kernel
theorem dX4_take_56 : decode cX4_take 56 = .ok (.return_, 1) := by decide +kernel
theorem dX4_note_0 : decode cX4_note 0 = .ok (.aload_n 0, 1) := by decide +kernel
theorem dX4_note_1 : decode cX4_note 1 = .ok (.getfield 80, 3) := by decide +kernel
theorem dX4_note_4 : decode cX4_note 4 = .ok (.sipush 1000, 3) := by decide +kernel
theorem dX4_note_7 : decode cX4_note 7 = .ok (.if_icmp .ge 41, 3) := by decide +kernel
theorem dX4_note_10 : decode cX4_note 10 = .ok (.aload_n 0, 1) := by decide +kernel
theorem dX4_note_11 : decode cX4_note 11 = .ok (.getfield 80, 3) := by decide +kernel
theorem dX4_note_14 : decode cX4_note 14 = .ok (.iconst 3, 1) := by decide +kernel
theorem dX4_note_15 : decode cX4_note 15 = .ok (.imul, 1) := by decide +kernel
theorem dX4_note_16 : decode cX4_note 16 = .ok (.istore_n 3, 1) := by decide +kernel
theorem dX4_note_17 : decode cX4_note 17 = .ok (.aload_n 0, 1) := by decide +kernel
theorem dX4_note_18 : decode cX4_note 18 = .ok (.getfield 9, 3) := by decide +kernel
theorem dX4_note_21 : decode cX4_note 21 = .ok (.iload_n 3, 1) := by decide +kernel
theorem dX4_note_22 : decode cX4_note 22 = .ok (.aload_n 0, 1) := by decide +kernel
theorem dX4_note_23 : decode cX4_note 23 = .ok (.getfield 27, 3) := by decide +kernel
theorem dX4_note_26 : decode cX4_note 26 = .ok (.iastore, 1) := by decide +kernel
theorem dX4_note_27 : decode cX4_note 27 = .ok (.aload_n 0, 1) := by decide +kernel
theorem dX4_note_28 : decode cX4_note 28 = .ok (.getfield 9, 3) := by decide +kernel
theorem dX4_note_31 : decode cX4_note 31 = .ok (.iload_n 3, 1) := by decide +kernel
theorem dX4_note_32 : decode cX4_note 32 = .ok (.iconst 1, 1) := by decide +kernel
theorem dX4_note_33 : decode cX4_note 33 = .ok (.iadd, 1) := by decide +kernel
theorem dX4_note_34 : decode cX4_note 34 = .ok (.aload_n 1, 1) := by decide +kernel
theorem dX4_note_35 : decode cX4_note 35 = .ok (.getfield 45, 3) := by decide +kernel
theorem dX4_note_38 : decode cX4_note 38 = .ok (.iastore, 1) := by decide +kernel
theorem dX4_note_39 : decode cX4_note 39 = .ok (.aload_n 0, 1) := by decide +kernel
theorem dX4_note_40 : decode cX4_note 40 = .ok (.getfield 9, 3) := by decide +kernel
theorem dX4_note_43 : decode cX4_note 43 = .ok (.iload_n 3, 1) := by decide +kernel
theorem dX4_note_44 : decode cX4_note 44 = .ok (.iconst 2, 1) := by decide +kernel
theorem dX4_note_45 : decode cX4_note 45 = .ok (.iadd, 1) := by decide +kernel
theorem dX4_note_46 : decode cX4_note 46 = .ok (.iload_n 2, 1) := by decide +kernel
theorem dX4_note_47 : decode cX4_note 47 = .ok (.iastore, 1) := by decide +kernel
theorem dX4_note_48 : decode cX4_note 48 = .ok (.aload_n 0, 1) := by decide +kernel
theorem dX4_note_49 : decode cX4_note 49 = .ok (.dup, 1) := by decide +kernel
theorem dX4_note_50 : decode cX4_note 50 = .ok (.getfield 80, 3) := by decide +kernel
theorem dX4_note_53 : decode cX4_note 53 = .ok (.iconst 1, 1) := by decide +kernel
theorem dX4_note_54 : decode cX4_note 54 = .ok (.iadd, 1) := by decide +kernel
theorem dX4_note_55 : decode cX4_note 55 = .ok (.putfield 80, 3) := by decide +kernel
theorem dX4_note_58 : decode cX4_note 58 = .ok (.return_, 1) := by decide +kernel
set_option maxRecDepth 20000 in
theorem ggX4_quietTenths_X2_quietTenths : GoodIn wsX4_quietTenths wsX2_quietTenths := goodIn_r _ [13, 14, 15, 16, 17, 18, 19, 20, 21, 12, 22, 23, 24, 25, 26, 27, 28, 29, 30, 31, 32, 33, 34, 35, 6, 36, 37, 49, 50, 51, 52, 53, 54, 55, 56, 57, 58, 59, 60, 61, 62, 63, 64, 65, 66, 67, 68, 69] (by decide +kernel) (by decide +kernel)
set_option maxRecDepth 20000 in
theorem gX4_quietTenths_X2_quietTenths : GoodIn wsX4_quietTenths (wsV RX4 265 RX2 yX2_quietTenths wsX2_quietTenths) := goodIn_app (goodIn_of _ (by decide +kernel)) ggX4_quietTenths_X2_quietTenths
theorem dX4_quietTenths_0 : decode cX4_quietTenths 0 = .ok (.aload_n 0, 1) := by decide +kernel
theorem dX4_quietTenths_1 : decode cX4_quietTenths 1 = .ok (.getfield 83, 3) := by decide +kernel
theorem dX4_quietTenths_4 : decode cX4_quietTenths 4 = .ok (.aload_n 0, 1) := by decide +kernel
theorem dX4_quietTenths_5 : decode cX4_quietTenths 5 = .ok (.getfield 27, 3) := by decide +kernel
theorem dX4_quietTenths_8 : decode cX4_quietTenths 8 = .ok (.isub, 1) := by decide +kernel
theorem dX4_quietTenths_9 : decode cX4_quietTenths 9 = .ok (.istore_n 1, 1) := by decide +kernel
theorem dX4_quietTenths_10 : decode cX4_quietTenths 10 = .ok (.aload_n 0, 1) := by decide +kernel
theorem dX4_quietTenths_11 : decode cX4_quietTenths 11 = .ok (.getfield 38, 3) := by decide +kernel
theorem dX4_quietTenths_14 : decode cX4_quietTenths 14 = .ok (.astore_n 2, 1) := by decide +kernel
theorem dX4_quietTenths_15 : decode cX4_quietTenths 15 = .ok (.aload_n 2, 1) := by decide +kernel
theorem dX4_quietTenths_16 : decode cX4_quietTenths 16 = .ok (.ifnull 24, 3) := by decide +kernel
theorem dX4_quietTenths_19 : decode cX4_quietTenths 19 = .ok (.iload_n 1, 1) := by decide +kernel
theorem dX4_quietTenths_20 : decode cX4_quietTenths 20 = .ok (.aload_n 2, 1) := by decide +kernel
theorem dX4_quietTenths_21 : decode cX4_quietTenths 21 = .ok (.aload_n 0, 1) := by decide +kernel
theorem dX4_quietTenths_22 : decode cX4_quietTenths 22 = .ok (.getfield 27, 3) := by decide +kernel
theorem dX4_quietTenths_25 : decode cX4_quietTenths 25 = .ok (.invokevirtual 265, 3) := by decide +kernel
theorem dX4_quietTenths_28 : decode cX4_quietTenths 28 = .ok (.invokestatic 96, 3) := by decide +kernel
theorem dX4_quietTenths_31 : decode cX4_quietTenths 31 = .ok (.istore_n 1, 1) := by decide +kernel
theorem dX4_quietTenths_32 : decode cX4_quietTenths 32 = .ok (.aload_n 2, 1) := by decide +kernel
theorem dX4_quietTenths_33 : decode cX4_quietTenths 33 = .ok (.getfield 118, 3) := by decide +kernel
theorem dX4_quietTenths_36 : decode cX4_quietTenths 36 = .ok (.astore_n 2, 1) := by decide +kernel
theorem dX4_quietTenths_37 : decode cX4_quietTenths 37 = .ok (.goto (-22), 3) := by decide +kernel
theorem dX4_quietTenths_40 : decode cX4_quietTenths 40 = .ok (.iload_n 1, 1) := by decide +kernel
theorem dX4_quietTenths_41 : decode cX4_quietTenths 41 = .ok (.ireturn, 1) := by decide +kernel
set_option maxRecDepth 20000 in
theorem ggX4_passTime_X2_causeAt : GoodIn wsX4_passTime wsX2_causeAt := goodIn_r _ [8, 9, 10, 11, 12, 13, 30, 31, 32, 33, 34, 35, 36, 37, 38, 39, 40, 41, 42, 43, 44, 45] (by decide +kernel) (by decide +kernel)
set_option maxRecDepth 20000 in
theorem gX4_passTime_X2_causeAt : GoodIn wsX4_passTime (wsV RX4 267 RX2 yX2_causeAt wsX2_causeAt) := goodIn_app (goodIn_of _ (by decide +kernel)) ggX4_passTime_X2_causeAt
set_option maxRecDepth 20000 in
theorem ggX4_passTime_X2_spend : GoodIn wsX4_passTime wsX2_spend := goodIn_r _ [17, 18, 12, 30, 31, 32, 33, 34, 35, 36, 37, 38, 39, 40, 41, 42, 43, 44, 45] (by decide +kernel) (by decide +kernel)
set_option maxRecDepth 20000 in
theorem gX4_passTime_X2_spend : GoodIn wsX4_passTime (wsV RX4 270 RX2 yX2_spend wsX2_spend) := goodIn_app (goodIn_of _ (by decide +kernel)) ggX4_passTime_X2_spend
theorem dX4_passTime_0 : decode cX4_passTime 0 = .ok (.aload_n 0, 1) := by decide +kernel
theorem dX4_passTime_1 : decode cX4_passTime 1 = .ok (.getfield 38, 3) := by decide +kernel
theorem dX4_passTime_4 : decode cX4_passTime 4 = .ok (.astore_n 2, 1) := by decide +kernel
theorem dX4_passTime_5 : decode cX4_passTime 5 = .ok (.aload_n 2, 1) := by decide +kernel
theorem dX4_passTime_6 : decode cX4_passTime 6 = .ok (.ifnull 24, 3) := by decide +kernel
theorem dX4_passTime_9 : decode cX4_passTime 9 = .ok (.aload_n 2, 1) := by decide +kernel
theorem dX4_passTime_10 : decode cX4_passTime 10 = .ok (.aload_n 2, 1) := by decide +kernel
theorem dX4_passTime_11 : decode cX4_passTime 11 = .ok (.aload_n 0, 1) := by decide +kernel
theorem dX4_passTime_12 : decode cX4_passTime 12 = .ok (.getfield 27, 3) := by decide +kernel
theorem dX4_passTime_15 : decode cX4_passTime 15 = .ok (.invokevirtual 267, 3) := by decide +kernel
theorem dX4_passTime_18 : decode cX4_passTime 18 = .ok (.iload_n 1, 1) := by decide +kernel
theorem dX4_passTime_19 : decode cX4_passTime 19 = .ok (.invokevirtual 270, 3) := by decide +kernel
theorem dX4_passTime_22 : decode cX4_passTime 22 = .ok (.aload_n 2, 1) := by decide +kernel
theorem dX4_passTime_23 : decode cX4_passTime 23 = .ok (.getfield 118, 3) := by decide +kernel
theorem dX4_passTime_26 : decode cX4_passTime 26 = .ok (.astore_n 2, 1) := by decide +kernel
theorem dX4_passTime_27 : decode cX4_passTime 27 = .ok (.goto (-22), 3) := by decide +kernel
theorem dX4_passTime_30 : decode cX4_passTime 30 = .ok (.aload_n 0, 1) := by decide +kernel
theorem dX4_passTime_31 : decode cX4_passTime 31 = .ok (.dup, 1) := by decide +kernel
theorem dX4_passTime_32 : decode cX4_passTime 32 = .ok (.getfield 27, 3) := by decide +kernel
theorem dX4_passTime_35 : decode cX4_passTime 35 = .ok (.iload_n 1, 1) := by decide +kernel
theorem dX4_passTime_36 : decode cX4_passTime 36 = .ok (.iadd, 1) := by decide +kernel
theorem dX4_passTime_37 : decode cX4_passTime 37 = .ok (.putfield 27, 3) := by decide +kernel
theorem dX4_passTime_40 : decode cX4_passTime 40 = .ok (.return_, 1) := by decide +kernel
theorem dX5_init_0 : decode cX5_init 0 = .ok (.aload_n 0, 1) := by decide +kernel
theorem dX5_init_1 : decode cX5_init 1 = .ok (.invokespecial 1, 3) := by decide +kernel
theorem dX5_init_4 : decode cX5_init 4 = .ok (.aload_n 0, 1) := by decide +kernel
theorem dX5_init_5 : decode cX5_init 5 = .ok (.bipush 12, 2) := by decide +kernel
theorem dX5_init_7 : decode cX5_init 7 = .ok (.newarray .int, 2) := by decide +kernel
theorem dX5_init_9 : decode cX5_init 9 = .ok (.putfield 9, 3) := by decide +kernel
theorem dX5_init_12 : decode cX5_init 12 = .ok (.aload_n 0, 1) := by decide +kernel
theorem dX5_init_13 : decode cX5_init 13 = .ok (.bipush 12, 2) := by decide +kernel
theorem dX5_init_15 : decode cX5_init 15 = .ok (.newarray .int, 2) := by decide +kernel
theorem dX5_init_17 : decode cX5_init 17 = .ok (.putfield 13, 3) := by decide +kernel
theorem dX5_init_20 : decode cX5_init 20 = .ok (.aload_n 0, 1) := by decide +kernel
theorem dX5_init_21 : decode cX5_init 21 = .ok (.bipush 12, 2) := by decide +kernel
theorem dX5_init_23 : decode cX5_init 23 = .ok (.newarray .int, 2) := by decide +kernel
theorem dX5_init_25 : decode cX5_init 25 = .ok (.putfield 16, 3) := by decide +kernel
theorem dX5_init_28 : decode cX5_init 28 = .ok (.aload_n 0, 1) := by decide +kernel
theorem dX5_init_29 : decode cX5_init 29 = .ok (.bipush 12, 2) := by decide +kernel
theorem dX5_init_31 : decode cX5_init 31 = .ok (.newarray .int, 2) := by decide +kernel
theorem dX5_init_33 : decode cX5_init 33 = .ok (.putfield 19, 3) := by decide +kernel
theorem dX5_init_36 : decode cX5_init 36 = .ok (.aload_n 0, 1) := by decide +kernel
theorem dX5_init_37 : decode cX5_init 37 = .ok (.bipush 12, 2) := by decide +kernel
theorem dX5_init_39 : decode cX5_init 39 = .ok (.newarray .int, 2) := by decide +kernel
theorem dX5_init_41 : decode cX5_init 41 = .ok (.putfield 22, 3) := by decide +kernel
theorem dX5_init_44 : decode cX5_init 44 = .ok (.aload_n 0, 1) := by decide +kernel
theorem dX5_init_45 : decode cX5_init 45 = .ok (.bipush 12, 2) := by decide +kernel
theorem dX5_init_47 : decode cX5_init 47 = .ok (.newarray .int, 2) := by decide +kernel
theorem dX5_init_49 : decode cX5_init 49 = .ok (.putfield 25, 3) := by decide +kernel
theorem dX5_init_52 : decode cX5_init 52 = .ok (.aload_n 0, 1) := by decide +kernel
theorem dX5_init_53 : decode cX5_init 53 = .ok (.bipush 12, 2) := by decide +kernel
theorem dX5_init_55 : decode cX5_init 55 = .ok (.newarray .int, 2) := by decide +kernel
theorem dX5_init_57 : decode cX5_init 57 = .ok (.putfield 28, 3) := by decide +kernel
theorem dX5_init_60 : decode cX5_init 60 = .ok (.aload_n 0, 1) := by decide +kernel
theorem dX5_init_61 : decode cX5_init 61 = .ok (.bipush 12, 2) := by decide +kernel
theorem dX5_init_63 : decode cX5_init 63 = .ok (.newarray .int, 2) := by decide +kernel
theorem dX5_init_65 : decode cX5_init 65 = .ok (.putfield 31, 3) := by decide +kernel
theorem dX5_init_68 : decode cX5_init 68 = .ok (.aload_n 0, 1) := by decide +kernel
theorem dX5_init_69 : decode cX5_init 69 = .ok (.sipush 12000, 3) := by decide +kernel
theorem dX5_init_72 : decode cX5_init 72 = .ok (.newarray .int, 2) := by decide +kernel
theorem dX5_init_74 : decode cX5_init 74 = .ok (.putfield 34, 3) := by decide +kernel
theorem dX5_init_77 : decode cX5_init 77 = .ok (.aload_n 0, 1) := by decide +kernel
theorem dX5_init_78 : decode cX5_init 78 = .ok (.bipush 12, 2) := by decide +kernel
theorem dX5_init_80 : decode cX5_init 80 = .ok (.newarray .int, 2) := by decide +kernel
theorem dX5_init_82 : decode cX5_init 82 = .ok (.putfield 37, 3) := by decide +kernel
theorem dX5_init_85 : decode cX5_init 85 = .ok (.aload_n 0, 1) := by decide +kernel
theorem dX5_init_86 : decode cX5_init 86 = .ok (.bipush 12, 2) := by decide +kernel
theorem dX5_init_88 : decode cX5_init 88 = .ok (.newarray .int, 2) := by decide +kernel
theorem dX5_init_90 : decode cX5_init 90 = .ok (.putfield 40, 3) := by decide +kernel
theorem dX5_init_93 : decode cX5_init 93 = .ok (.aload_n 0, 1) := by decide +kernel
theorem dX5_init_94 : decode cX5_init 94 = .ok (.bipush 48, 2) := by decide +kernel
theorem dX5_init_96 : decode cX5_init 96 = .ok (.newarray .long, 2) := by decide +kernel
theorem dX5_init_98 : decode cX5_init 98 = .ok (.putfield 43, 3) := by decide +kernel
theorem dX5_init_101 : decode cX5_init 101 = .ok (.aload_n 0, 1) := by decide +kernel
theorem dX5_init_102 : decode cX5_init 102 = .ok (.bipush 48, 2) := by decide +kernel
theorem dX5_init_104 : decode cX5_init 104 = .ok (.newarray .long, 2) := by decide +kernel
theorem dX5_init_106 : decode cX5_init 106 = .ok (.putfield 47, 3) := by decide +kernel
theorem dX5_init_109 : decode cX5_init 109 = .ok (.aload_n 0, 1) := by decide +kernel
theorem dX5_init_110 : decode cX5_init 110 = .ok (.bipush 48, 2) := by decide +kernel
theorem dX5_init_112 : decode cX5_init 112 = .ok (.newarray .int, 2) := by decide +kernel
theorem dX5_init_114 : decode cX5_init 114 = .ok (.putfield 50, 3) := by decide +kernel
theorem dX5_init_117 : decode cX5_init 117 = .ok (.aload_n 0, 1) := by decide +kernel
theorem dX5_init_118 : decode cX5_init 118 = .ok (.bipush 12, 2) := by decide +kernel
theorem dX5_init_120 : decode cX5_init 120 = .ok (.newarray .int, 2) := by decide +kernel
theorem dX5_init_122 : decode cX5_init 122 = .ok (.putfield 53, 3) := by decide +kernel
theorem dX5_init_125 : decode cX5_init 125 = .ok (.aload_n 0, 1) := by decide +kernel
theorem dX5_init_126 : decode cX5_init 126 = .ok (.bipush 64, 2) := by decide +kernel
theorem dX5_init_128 : decode cX5_init 128 = .ok (.newarray .int, 2) := by decide +kernel
theorem dX5_init_130 : decode cX5_init 130 = .ok (.putfield 56, 3) := by decide +kernel
theorem dX5_init_133 : decode cX5_init 133 = .ok (.aload_n 0, 1) := by decide +kernel
theorem dX5_init_134 : decode cX5_init 134 = .ok (.bipush 64, 2) := by decide +kernel
theorem dX5_init_136 : decode cX5_init 136 = .ok (.newarray .int, 2) := by decide +kernel
theorem dX5_init_138 : decode cX5_init 138 = .ok (.putfield 59, 3) := by decide +kernel
theorem dX5_init_141 : decode cX5_init 141 = .ok (.aload_n 0, 1) := by decide +kernel
theorem dX5_init_142 : decode cX5_init 142 = .ok (.bipush 64, 2) := by decide +kernel
theorem dX5_init_144 : decode cX5_init 144 = .ok (.newarray .int, 2) := by decide +kernel
theorem dX5_init_146 : decode cX5_init 146 = .ok (.putfield 62, 3) := by decide +kernel
theorem dX5_init_149 : decode cX5_init 149 = .ok (.aload_n 0, 1) := by decide +kernel
theorem dX5_init_150 : decode cX5_init 150 = .ok (.bipush 64, 2) := by decide +kernel
theorem dX5_init_152 : decode cX5_init 152 = .ok (.newarray .int, 2) := by decide +kernel
theorem dX5_init_154 : decode cX5_init 154 = .ok (.putfield 65, 3) := by decide +kernel
theorem dX5_init_157 : decode cX5_init 157 = .ok (.aload_n 0, 1) := by decide +kernel
theorem dX5_init_158 : decode cX5_init 158 = .ok (.sipush 144, 3) := by decide +kernel
theorem dX5_init_161 : decode cX5_init 161 = .ok (.newarray .long, 2) := by decide +kernel
theorem dX5_init_163 : decode cX5_init 163 = .ok (.putfield 68, 3) := by decide +kernel
theorem dX5_init_166 : decode cX5_init 166 = .ok (.aload_n 0, 1) := by decide +kernel
theorem dX5_init_167 : decode cX5_init 167 = .ok (.bipush 12, 2) := by decide +kernel
theorem dX5_init_169 : decode cX5_init 169 = .ok (.newarray .long, 2) := by decide +kernel
theorem dX5_init_171 : decode cX5_init 171 = .ok (.putfield 71, 3) := by decide +kernel
theorem dX5_init_174 : decode cX5_init 174 = .ok (.aload_n 0, 1) := by decide +kernel
theorem dX5_init_175 : decode cX5_init 175 = .ok (.sipush 1000, 3) := by decide +kernel
theorem dX5_init_178 : decode cX5_init 178 = .ok (.newarray .int, 2) := by decide +kernel
theorem dX5_init_180 : decode cX5_init 180 = .ok (.putfield 74, 3) := by decide +kernel
theorem dX5_init_183 : decode cX5_init 183 = .ok (.aload_n 0, 1) := by decide +kernel
theorem dX5_init_184 : decode cX5_init 184 = .ok (.sipush 1000, 3) := by decide +kernel
theorem dX5_init_187 : decode cX5_init 187 = .ok (.newarray .int, 2) := by decide +kernel
theorem dX5_init_189 : decode cX5_init 189 = .ok (.putfield 77, 3) := by decide +kernel
theorem dX5_init_192 : decode cX5_init 192 = .ok (.aload_n 0, 1) := by decide +kernel
theorem dX5_init_193 : decode cX5_init 193 = .ok (.sipush 1000, 3) := by decide +kernel
theorem dX5_init_196 : decode cX5_init 196 = .ok (.newarray .int, 2) := by decide +kernel
theorem dX5_init_198 : decode cX5_init 198 = .ok (.putfield 80, 3) := by decide +kernel
theorem dX5_init_201 : decode cX5_init 201 = .ok (.aload_n 0, 1) := by decide +kernel
theorem dX5_init_202 : decode cX5_init 202 = .ok (.lload_n 1, 1) := by decide +kernel
theorem dX5_init_203 : decode cX5_init 203 = .ok (.putfield 83, 3) := by decide +kernel
theorem dX5_init_206 : decode cX5_init 206 = .ok (.return_, 1) := by decide +kernel
theorem dX5_thrown_0 : decode cX5_thrown 0 = .ok (.aload_n 0, 1) := by decide +kernel
theorem dX5_thrown_1 : decode cX5_thrown 1 = .ok (.getfield 87, 3) := by decide +kernel
theorem dX5_thrown_4 : decode cX5_thrown 4 = .ok (.ireturn, 1) := by decide +kernel
theorem dX5_isMachine_0 : decode cX5_isMachine 0 = .ok (.iload_n 1, 1) := by decide +kernel
theorem dX5_isMachine_1 : decode cX5_isMachine 1 = .ok (.ifCond .lt 15, 3) := by decide +kernel
theorem dX5_isMachine_4 : decode cX5_isMachine 4 = .ok (.iload_n 1, 1) := by decide +kernel
theorem dX5_isMachine_5 : decode cX5_isMachine 5 = .ok (.aload_n 0, 1) := by decide +kernel
theorem dX5_isMachine_6 : decode cX5_isMachine 6 = .ok (.getfield 91, 3) := by decide +kernel
theorem dX5_isMachine_9 : decode cX5_isMachine 9 = .ok (.if_icmp .ge 7, 3) := by decide +kernel
theorem dX5_isMachine_12 : decode cX5_isMachine 12 = .ok (.iconst 1, 1) := by decide +kernel
theorem dX5_isMachine_13 : decode cX5_isMachine 13 = .ok (.goto 4, 3) := by decide +kernel
theorem dX5_isMachine_16 : decode cX5_isMachine 16 = .ok (.iconst 0, 1) := by decide +kernel
theorem dX5_isMachine_17 : decode cX5_isMachine 17 = .ok (.ireturn, 1) := by decide +kernel
set_option maxRecDepth 20000 in
theorem ggX5_machine_X5_isMachine : GoodIn wsX5_machine wsX5_isMachine := goodIn_r _ [13, 4, 14, 15, 16, 17, 18, 19, 20, 21, 22, 23, 24, 25, 26, 27, 28, 29, 30, 31, 32, 33, 34, 35, 36, 37, 38, 39, 40, 41, 42, 43, 44, 45] (by decide +kernel) (by decide +kernel)
set_option maxRecDepth 20000 in
theorem gX5_machine_X5_isMachine : GoodIn wsX5_machine (wsV RX5 97 RX5 yX5_isMachine wsX5_isMachine) := goodIn_app (goodIn_of _ (by decide +kernel)) ggX5_machine_X5_isMachine
theorem dX5_machine_0 : decode cX5_machine 0 = .ok (.aload_n 0, 1) := by decide +kernel
theorem dX5_machine_1 : decode cX5_machine 1 = .ok (.iconst 0, 1) := by decide +kernel
theorem dX5_machine_2 : decode cX5_machine 2 = .ok (.putfield 87, 3) := by decide +kernel
theorem dX5_machine_5 : decode cX5_machine 5 = .ok (.aload_n 0, 1) := by decide +kernel
theorem dX5_machine_6 : decode cX5_machine 6 = .ok (.getfield 94, 3) := by decide +kernel
theorem dX5_machine_9 : decode cX5_machine 9 = .ok (.ifCond .ne 42, 3) := by decide +kernel
theorem dX5_machine_12 : decode cX5_machine 12 = .ok (.iload_n 1, 1) := by decide +kernel
theorem dX5_machine_13 : decode cX5_machine 13 = .ok (.iconst 1, 1) := by decide +kernel
theorem dX5_machine_14 : decode cX5_machine 14 = .ok (.if_icmp .lt 37, 3) := by decide +kernel
theorem dX5_machine_17 : decode cX5_machine 17 = .ok (.iload_n 1, 1) := by decide +kernel
theorem dX5_machine_18 : decode cX5_machine 18 = .ok (.sipush 10000, 3) := by decide +kernel
theorem dX5_machine_21 : decode cX5_machine 21 = .ok (.if_icmp .gt 30, 3) := by decide +kernel
theorem dX5_machine_24 : decode cX5_machine 24 = .ok (.iload_n 2, 1) := by decide +kernel
theorem dX5_machine_25 : decode cX5_machine 25 = .ok (.iconst (-1), 1) := by decide +kernel
theorem dX5_machine_26 : decode cX5_machine 26 = .ok (.if_icmp .eq 21, 3) := by decide +kernel
theorem dX5_machine_29 : decode cX5_machine 29 = .ok (.aload_n 0, 1) := by decide +kernel
theorem dX5_machine_30 : decode cX5_machine 30 = .ok (.iload_n 2, 1) := by decide +kernel
theorem dX5_machine_31 : decode cX5_machine 31 = .ok (.invokevirtual 97, 3) := by decide +kernel
theorem dX5_machine_34 : decode cX5_machine 34 = .ok (.ifCond .eq 17, 3) := by decide +kernel
theorem dX5_machine_37 : decode cX5_machine 37 = .ok (.aload_n 0, 1) := by decide +kernel
theorem dX5_machine_38 : decode cX5_machine 38 = .ok (.getfield 16, 3) := by decide +kernel
theorem dX5_machine_41 : decode cX5_machine 41 = .ok (.iload_n 2, 1) := by decide +kernel
theorem dX5_machine_42 : decode cX5_machine 42 = .ok (.iaload, 1) := by decide +kernel
theorem dX5_machine_43 : decode cX5_machine 43 = .ok (.iconst (-1), 1) := by decide +kernel
theorem dX5_machine_44 : decode cX5_machine 44 = .ok (.if_icmp .ne 7, 3) := by decide +kernel
theorem dX5_machine_47 : decode cX5_machine 47 = .ok (.iconst 1, 1) := by decide +kernel
theorem dX5_machine_48 : decode cX5_machine 48 = .ok (.goto 4, 3) := by decide +kernel
theorem dX5_machine_51 : decode cX5_machine 51 = .ok (.iconst 0, 1) := by decide +kernel
theorem dX5_machine_52 : decode cX5_machine 52 = .ok (.istore_n 3, 1) := by decide +kernel
theorem dX5_machine_53 : decode cX5_machine 53 = .ok (.iload_n 3, 1) := by decide +kernel
theorem dX5_machine_54 : decode cX5_machine 54 = .ok (.ifCond .ne 5, 3) := by decide +kernel
theorem dX5_machine_57 : decode cX5_machine 57 = .ok (.iconst (-1), 1) := by decide +kernel
theorem dX5_machine_58 : decode cX5_machine 58 = .ok (.ireturn, 1) := by decide +kernel
theorem dX5_machine_59 : decode cX5_machine 59 = .ok (.aload_n 0, 1) := by decide +kernel
theorem dX5_machine_60 : decode cX5_machine 60 = .ok (.getfield 91, 3) := by decide +kernel
theorem dX5_machine_63 : decode cX5_machine 63 = .ok (.bipush 12, 2) := by decide +kernel
theorem dX5_machine_65 : decode cX5_machine 65 = .ok (.if_icmp .ne 6, 3) := by decide +kernel
theorem dX5_machine_68 : decode cX5_machine 68 = .ok (.bipush (-2), 2) := by decide +kernel
theorem dX5_machine_70 : decode cX5_machine 70 = .ok (.ireturn, 1) := by decide +kernel
theorem dX5_machine_71 : decode cX5_machine 71 = .ok (.aload_n 0, 1) := by decide +kernel
theorem dX5_machine_72 : decode cX5_machine 72 = .ok (.getfield 91, 3) := by decide +kernel
theorem dX5_machine_75 : decode cX5_machine 75 = .ok (.istore 4, 2) := by decide +kernel
theorem dX5_machine_77 : decode cX5_machine 77 = .ok (.aload_n 0, 1) := by decide +kernel
theorem dX5_machine_78 : decode cX5_machine 78 = .ok (.getfield 9, 3) := by decide +kernel
theorem dX5_machine_81 : decode cX5_machine 81 = .ok (.iload 4, 2) := by decide +kernel
theorem dX5_machine_83 : decode cX5_machine 83 = .ok (.iload_n 1, 1) := by decide +kernel
theorem dX5_machine_84 : decode cX5_machine 84 = .ok (.iastore, 1) := by decide +kernel
theorem dX5_machine_85 : decode cX5_machine 85 = .ok (.aload_n 0, 1) := by decide +kernel
theorem dX5_machine_86 : decode cX5_machine 86 = .ok (.getfield 13, 3) := by decide +kernel
theorem dX5_machine_89 : decode cX5_machine 89 = .ok (.iload 4, 2) := by decide +kernel
theorem dX5_machine_91 : decode cX5_machine 91 = .ok (.iload_n 2, 1) := by decide +kernel
theorem dX5_machine_92 : decode cX5_machine 92 = .ok (.iastore, 1) := by decide +kernel
theorem dX5_machine_93 : decode cX5_machine 93 = .ok (.aload_n 0, 1) := by decide +kernel
theorem dX5_machine_94 : decode cX5_machine 94 = .ok (.getfield 16, 3) := by decide +kernel
theorem dX5_machine_97 : decode cX5_machine 97 = .ok (.iload 4, 2) := by decide +kernel
theorem dX5_machine_99 : decode cX5_machine 99 = .ok (.iconst (-1), 1) := by decide +kernel
theorem dX5_machine_100 : decode cX5_machine 100 = .ok (.iastore, 1) := by decide +kernel
theorem dX5_machine_101 : decode cX5_machine 101 = .ok (.aload_n 0, 1) := by decide +kernel
theorem dX5_machine_102 : decode cX5_machine 102 = .ok (.getfield 19, 3) := by decide +kernel
theorem dX5_machine_105 : decode cX5_machine 105 = .ok (.iload 4, 2) := by decide +kernel
theorem dX5_machine_107 : decode cX5_machine 107 = .ok (.iconst 1, 1) := by decide +kernel
theorem dX5_machine_108 : decode cX5_machine 108 = .ok (.iastore, 1) := by decide +kernel
theorem dX5_machine_109 : decode cX5_machine 109 = .ok (.aload_n 0, 1) := by decide +kernel
theorem dX5_machine_110 : decode cX5_machine 110 = .ok (.getfield 22, 3) := by decide +kernel
theorem dX5_machine_113 : decode cX5_machine 113 = .ok (.iload 4, 2) := by decide +kernel
theorem dX5_machine_115 : decode cX5_machine 115 = .ok (.iconst 0, 1) := by decide +kernel
theorem dX5_machine_116 : decode cX5_machine 116 = .ok (.iastore, 1) := by decide +kernel
theorem dX5_machine_117 : decode cX5_machine 117 = .ok (.iload_n 2, 1) := by decide +kernel
theorem dX5_machine_118 : decode cX5_machine 118 = .ok (.iconst (-1), 1) := by decide +kernel
theorem dX5_machine_119 : decode cX5_machine 119 = .ok (.if_icmp .eq 11, 3) := by decide +kernel
theorem dX5_machine_122 : decode cX5_machine 122 = .ok (.aload_n 0, 1) := by decide +kernel
theorem dX5_machine_123 : decode cX5_machine 123 = .ok (.getfield 16, 3) := by decide +kernel
theorem dX5_machine_126 : decode cX5_machine 126 = .ok (.iload_n 2, 1) := by decide +kernel
theorem dX5_machine_127 : decode cX5_machine 127 = .ok (.iload 4, 2) := by decide +kernel
theorem dX5_machine_129 : decode cX5_machine 129 = .ok (.iastore, 1) := by decide +kernel
theorem dX5_machine_130 : decode cX5_machine 130 = .ok (.aload_n 0, 1) := by decide +kernel
theorem dX5_machine_131 : decode cX5_machine 131 = .ok (.dup, 1) := by decide +kernel
theorem dX5_machine_132 : decode cX5_machine 132 = .ok (.getfield 91, 3) := by decide +kernel
theorem dX5_machine_135 : decode cX5_machine 135 = .ok (.iconst 1, 1) := by decide +kernel
theorem dX5_machine_136 : decode cX5_machine 136 = .ok (.iadd, 1) := by decide +kernel
theorem dX5_machine_137 : decode cX5_machine 137 = .ok (.putfield 91, 3) := by decide +kernel
theorem dX5_machine_140 : decode cX5_machine 140 = .ok (.iload 4, 2) := by decide +kernel
theorem dX5_machine_142 : decode cX5_machine 142 = .ok (.ireturn, 1) := by decide +kernel
set_option maxRecDepth 20000 in
theorem ggX5_buffer_X5_isMachine : GoodIn wsX5_buffer wsX5_isMachine := goodIn_r _ [9, 10, 11, 12, 13, 14, 15, 16, 17, 18, 19, 20, 21, 22, 23, 24, 25, 26, 27, 28, 29, 30, 31, 32, 33, 34, 35, 36, 37, 38, 39, 40, 41, 42] (by decide +kernel) (by decide +kernel)
set_option maxRecDepth 20000 in
theorem gX5_buffer_X5_isMachine : GoodIn wsX5_buffer (wsV RX5 97 RX5 yX5_isMachine wsX5_isMachine) := goodIn_app (goodIn_of _ (by decide +kernel)) ggX5_buffer_X5_isMachine
theorem dX5_buffer_0 : decode cX5_buffer 0 = .ok (.aload_n 0, 1) := by decide +kernel
theorem dX5_buffer_1 : decode cX5_buffer 1 = .ok (.iconst 0, 1) := by decide +kernel
theorem dX5_buffer_2 : decode cX5_buffer 2 = .ok (.putfield 87, 3) := by decide +kernel
theorem dX5_buffer_5 : decode cX5_buffer 5 = .ok (.aload_n 0, 1) := by decide +kernel
theorem dX5_buffer_6 : decode cX5_buffer 6 = .ok (.getfield 94, 3) := by decide +kernel
theorem dX5_buffer_9 : decode cX5_buffer 9 = .ok (.ifCond .gt 34, 3) := by decide +kernel
theorem dX5_buffer_12 : decode cX5_buffer 12 = .ok (.aload_n 0, 1) := by decide +kernel
theorem dX5_buffer_13 : decode cX5_buffer 13 = .ok (.iload_n 1, 1) := by decide +kernel
theorem dX5_buffer_14 : decode cX5_buffer 14 = .ok (.invokevirtual 97, 3) := by decide +kernel
theorem dX5_buffer_17 : decode cX5_buffer 17 = .ok (.ifCond .eq 26, 3) := by decide +kernel
theorem dX5_buffer_20 : decode cX5_buffer 20 = .ok (.iload_n 2, 1) := by decide +kernel
theorem dX5_buffer_21 : decode cX5_buffer 21 = .ok (.iconst 1, 1) := by decide +kernel
theorem dX5_buffer_22 : decode cX5_buffer 22 = .ok (.if_icmp .lt 21, 3) := by decide +kernel
theorem dX5_buffer_25 : decode cX5_buffer 25 = .ok (.iload_n 2, 1) := by decide +kernel
theorem dX5_buffer_26 : decode cX5_buffer 26 = .ok (.sipush 1000, 3) := by decide +kernel
theorem dX5_buffer_29 : decode cX5_buffer 29 = .ok (.if_icmp .gt 14, 3) := by decide +kernel
theorem dX5_buffer_32 : decode cX5_buffer 32 = .ok (.iload_n 3, 1) := by decide +kernel
theorem dX5_buffer_33 : decode cX5_buffer 33 = .ok (.ifCond .lt 10, 3) := by decide +kernel
theorem dX5_buffer_36 : decode cX5_buffer 36 = .ok (.iload_n 3, 1) := by decide +kernel
theorem dX5_buffer_37 : decode cX5_buffer 37 = .ok (.sipush 10000, 3) := by decide +kernel
theorem dX5_buffer_40 : decode cX5_buffer 40 = .ok (.if_icmp .le 5, 3) := by decide +kernel
theorem dX5_buffer_43 : decode cX5_buffer 43 = .ok (.iconst (-1), 1) := by decide +kernel
theorem dX5_buffer_44 : decode cX5_buffer 44 = .ok (.ireturn, 1) := by decide +kernel
theorem dX5_buffer_45 : decode cX5_buffer 45 = .ok (.aload_n 0, 1) := by decide +kernel
theorem dX5_buffer_46 : decode cX5_buffer 46 = .ok (.getfield 19, 3) := by decide +kernel
theorem dX5_buffer_49 : decode cX5_buffer 49 = .ok (.iload_n 1, 1) := by decide +kernel
theorem dX5_buffer_50 : decode cX5_buffer 50 = .ok (.iaload, 1) := by decide +kernel
theorem dX5_buffer_51 : decode cX5_buffer 51 = .ok (.istore 4, 2) := by decide +kernel
theorem dX5_buffer_53 : decode cX5_buffer 53 = .ok (.aload_n 0, 1) := by decide +kernel
theorem dX5_buffer_54 : decode cX5_buffer 54 = .ok (.getfield 19, 3) := by decide +kernel
theorem dX5_buffer_57 : decode cX5_buffer 57 = .ok (.iload_n 1, 1) := by decide +kernel
theorem dX5_buffer_58 : decode cX5_buffer 58 = .ok (.iload_n 2, 1) := by decide +kernel
theorem dX5_buffer_59 : decode cX5_buffer 59 = .ok (.iastore, 1) := by decide +kernel
theorem dX5_buffer_60 : decode cX5_buffer 60 = .ok (.aload_n 0, 1) := by decide +kernel
theorem dX5_buffer_61 : decode cX5_buffer 61 = .ok (.getfield 22, 3) := by decide +kernel
theorem dX5_buffer_64 : decode cX5_buffer 64 = .ok (.iload_n 1, 1) := by decide +kernel
theorem dX5_buffer_65 : decode cX5_buffer 65 = .ok (.iload_n 3, 1) := by decide +kernel
theorem dX5_buffer_66 : decode cX5_buffer 66 = .ok (.iastore, 1) := by decide +kernel
theorem dX5_buffer_67 : decode cX5_buffer 67 = .ok (.iload 4, 2) := by decide +kernel
theorem dX5_buffer_69 : decode cX5_buffer 69 = .ok (.ireturn, 1) := by decide +kernel
set_option maxRecDepth 20000 in
theorem ggX5_fault_X5_isMachine : GoodIn wsX5_fault wsX5_isMachine := goodIn_r _ [13, 14, 15, 16, 17, 18, 19, 20, 21, 22, 23, 24, 25, 26, 27, 28, 29, 30, 31, 32, 33, 34, 35, 36, 37, 38, 39, 40, 41, 42, 43, 44, 45, 46] (by decide +kernel) (by decide +kernel)
set_option maxRecDepth 20000 in
theorem gX5_fault_X5_isMachine : GoodIn wsX5_fault (wsV RX5 97 RX5 yX5_isMachine wsX5_isMachine) := goodIn_app (goodIn_of _ (by decide +kernel)) ggX5_fault_X5_isMachine
theorem dX5_fault_0 : decode cX5_fault 0 = .ok (.aload_n 0, 1) := by decide +kernel
theorem dX5_fault_1 : decode cX5_fault 1 = .ok (.iconst 0, 1) := by decide +kernel
theorem dX5_fault_2 : decode cX5_fault 2 = .ok (.putfield 87, 3) := by decide +kernel
theorem dX5_fault_5 : decode cX5_fault 5 = .ok (.aload_n 0, 1) := by decide +kernel
theorem dX5_fault_6 : decode cX5_fault 6 = .ok (.getfield 94, 3) := by decide +kernel
theorem dX5_fault_9 : decode cX5_fault 9 = .ok (.ifCond .gt 62, 3) := by decide +kernel
theorem dX5_fault_12 : decode cX5_fault 12 = .ok (.aload_n 0, 1) := by decide +kernel
theorem dX5_fault_13 : decode cX5_fault 13 = .ok (.iload_n 1, 1) := by decide +kernel
theorem dX5_fault_14 : decode cX5_fault 14 = .ok (.invokevirtual 97, 3) := by decide +kernel
theorem dX5_fault_17 : decode cX5_fault 17 = .ok (.ifCond .eq 54, 3) := by decide +kernel
theorem dX5_fault_20 : decode cX5_fault 20 = .ok (.lload 4, 2) := by decide +kernel
theorem dX5_fault_22 : decode cX5_fault 22 = .ok (.lconst 1, 1) := by decide +kernel
theorem dX5_fault_23 : decode cX5_fault 23 = .ok (.lcmp, 1) := by decide +kernel
theorem dX5_fault_24 : decode cX5_fault 24 = .ok (.ifCond .lt 47, 3) := by decide +kernel
theorem dX5_fault_27 : decode cX5_fault 27 = .ok (.lload 4, 2) := by decide +kernel
theorem dX5_fault_29 : decode cX5_fault 29 = .ok (.ldc2_w 101, 3) := by decide +kernel
theorem dX5_fault_32 : decode cX5_fault 32 = .ok (.lcmp, 1) := by decide +kernel
theorem dX5_fault_33 : decode cX5_fault 33 = .ok (.ifCond .gt 38, 3) := by decide +kernel
theorem dX5_fault_36 : decode cX5_fault 36 = .ok (.lload_n 2, 1) := by decide +kernel
theorem dX5_fault_37 : decode cX5_fault 37 = .ok (.lconst 0, 1) := by decide +kernel
theorem dX5_fault_38 : decode cX5_fault 38 = .ok (.lcmp, 1) := by decide +kernel
theorem dX5_fault_39 : decode cX5_fault 39 = .ok (.ifCond .lt 32, 3) := by decide +kernel
theorem dX5_fault_42 : decode cX5_fault 42 = .ok (.lload_n 2, 1) := by decide +kernel
theorem dX5_fault_43 : decode cX5_fault 43 = .ok (.lload 4, 2) := by decide +kernel
theorem dX5_fault_45 : decode cX5_fault 45 = .ok (.lcmp, 1) := by decide +kernel
theorem dX5_fault_46 : decode cX5_fault 46 = .ok (.ifCond .gt 25, 3) := by decide +kernel
theorem dX5_fault_49 : decode cX5_fault 49 = .ok (.iload 6, 2) := by decide +kernel
theorem dX5_fault_51 : decode cX5_fault 51 = .ok (.ifCond .lt 20, 3) := by decide +kernel
theorem dX5_fault_54 : decode cX5_fault 54 = .ok (.iload 6, 2) := by decide +kernel
theorem dX5_fault_56 : decode cX5_fault 56 = .ok (.ldc 103, 2) := by decide +kernel
theorem dX5_fault_58 : decode cX5_fault 58 = .ok (.if_icmp .gt 13, 3) := by decide +kernel
theorem dX5_fault_61 : decode cX5_fault 61 = .ok (.aload_n 0, 1) := by decide +kernel
theorem dX5_fault_62 : decode cX5_fault 62 = .ok (.getfield 53, 3) := by decide +kernel
theorem dX5_fault_65 : decode cX5_fault 65 = .ok (.iload_n 1, 1) := by decide +kernel
theorem dX5_fault_66 : decode cX5_fault 66 = .ok (.iaload, 1) := by decide +kernel
theorem dX5_fault_67 : decode cX5_fault 67 = .ok (.iconst 4, 1) := by decide +kernel
theorem dX5_fault_68 : decode cX5_fault 68 = .ok (.if_icmp .ne 5, 3) := by decide +kernel
theorem dX5_fault_71 : decode cX5_fault 71 = .ok (.iconst 0, 1) := by decide +kernel
theorem dX5_fault_72 : decode cX5_fault 72 = .ok (.ireturn, 1) := by decide +kernel
theorem dX5_fault_73 : decode cX5_fault 73 = .ok (.iload_n 1, 1) := by decide +kernel
theorem dX5_fault_74 : decode cX5_fault 74 = .ok (.iconst 4, 1) := by decide +kernel
theorem dX5_fault_75 : decode cX5_fault 75 = .ok (.imul, 1) := by decide +kernel
theorem dX5_fault_76 : decode cX5_fault 76 = .ok (.aload_n 0, 1) := by decide +kernel
