theorem dX5_fault_77 : decode cX5_fault 77 = .ok (.getfield 53, 3) := by decide +kernel
theorem dX5_fault_80 : decode cX5_fault 80 = .ok (.iload_n 1, 1) := by decide +kernel
theorem dX5_fault_81 : decode cX5_fault 81 = .ok (.iaload, 1) := by decide +kernel
theorem dX5_fault_82 : decode cX5_fault 82 = .ok (.iadd, 1) := by decide +kernel
theorem dX5_fault_83 : decode cX5_fault 83 = .ok (.istore 7, 2) := by decide +kernel
theorem dX5_fault_85 : decode cX5_fault 85 = .ok (.aload_n 0, 1) := by decide +kernel
theorem dX5_fault_86 : decode cX5_fault 86 = .ok (.getfield 43, 3) := by decide +kernel
theorem dX5_fault_89 : decode cX5_fault 89 = .ok (.iload 7, 2) := by decide +kernel
theorem dX5_fault_91 : decode cX5_fault 91 = .ok (.lload_n 2, 1) := by decide +kernel
theorem dX5_fault_92 : decode cX5_fault 92 = .ok (.lastore, 1) := by decide +kernel
theorem dX5_fault_93 : decode cX5_fault 93 = .ok (.aload_n 0, 1) := by decide +kernel
theorem dX5_fault_94 : decode cX5_fault 94 = .ok (.getfield 47, 3) := by decide +kernel
theorem dX5_fault_97 : decode cX5_fault 97 = .ok (.iload 7, 2) := by decide +kernel
theorem dX5_fault_99 : decode cX5_fault 99 = .ok (.lload 4, 2) := by decide +kernel
theorem dX5_fault_101 : decode cX5_fault 101 = .ok (.lastore, 1) := by decide +kernel
theorem dX5_fault_102 : decode cX5_fault 102 = .ok (.aload_n 0, 1) := by decide +kernel
theorem dX5_fault_103 : decode cX5_fault 103 = .ok (.getfield 50, 3) := by decide +kernel
theorem dX5_fault_106 : decode cX5_fault 106 = .ok (.iload 7, 2) := by decide +kernel
theorem dX5_fault_108 : decode cX5_fault 108 = .ok (.iload 6, 2) := by decide +kernel
theorem dX5_fault_110 : decode cX5_fault 110 = .ok (.iastore, 1) := by decide +kernel
theorem dX5_fault_111 : decode cX5_fault 111 = .ok (.aload_n 0, 1) := by decide +kernel
theorem dX5_fault_112 : decode cX5_fault 112 = .ok (.getfield 53, 3) := by decide +kernel
theorem dX5_fault_115 : decode cX5_fault 115 = .ok (.iload_n 1, 1) := by decide +kernel
theorem dX5_fault_116 : decode cX5_fault 116 = .ok (.dup2, 1) := by decide +kernel
theorem dX5_fault_117 : decode cX5_fault 117 = .ok (.iaload, 1) := by decide +kernel
theorem dX5_fault_118 : decode cX5_fault 118 = .ok (.iconst 1, 1) := by decide +kernel
theorem dX5_fault_119 : decode cX5_fault 119 = .ok (.iadd, 1) := by decide +kernel
theorem dX5_fault_120 : decode cX5_fault 120 = .ok (.iastore, 1) := by decide +kernel
theorem dX5_fault_121 : decode cX5_fault 121 = .ok (.iconst 1, 1) := by decide +kernel
theorem dX5_fault_122 : decode cX5_fault 122 = .ok (.ireturn, 1) := by decide +kernel
theorem dX5_told_0 : decode cX5_told 0 = .ok (.iload_n 2, 1) := by decide +kernel
theorem dX5_told_1 : decode cX5_told 1 = .ok (.aload_n 0, 1) := by decide +kernel
theorem dX5_told_2 : decode cX5_told 2 = .ok (.getfield 94, 3) := by decide +kernel
theorem dX5_told_5 : decode cX5_told 5 = .ok (.if_icmp .lt 27, 3) := by decide +kernel
theorem dX5_told_8 : decode cX5_told 8 = .ok (.lload_n 3, 1) := by decide +kernel
theorem dX5_told_9 : decode cX5_told 9 = .ok (.iload_n 2, 1) := by decide +kernel
theorem dX5_told_10 : decode cX5_told 10 = .ok (.i2l, 1) := by decide +kernel
theorem dX5_told_11 : decode cX5_told 11 = .ok (.lcmp, 1) := by decide +kernel
theorem dX5_told_12 : decode cX5_told 12 = .ok (.ifCond .le 20, 3) := by decide +kernel
theorem dX5_told_15 : decode cX5_told 15 = .ok (.lload_n 3, 1) := by decide +kernel
theorem dX5_told_16 : decode cX5_told 16 = .ok (.ldc2_w 104, 3) := by decide +kernel
theorem dX5_told_19 : decode cX5_told 19 = .ok (.lcmp, 1) := by decide +kernel
theorem dX5_told_20 : decode cX5_told 20 = .ok (.ifCond .gt 12, 3) := by decide +kernel
theorem dX5_told_23 : decode cX5_told 23 = .ok (.aload_n 0, 1) := by decide +kernel
theorem dX5_told_24 : decode cX5_told 24 = .ok (.getfield 106, 3) := by decide +kernel
theorem dX5_told_27 : decode cX5_told 27 = .ok (.bipush 64, 2) := by decide +kernel
theorem dX5_told_29 : decode cX5_told 29 = .ok (.if_icmp .ne 5, 3) := by decide +kernel
theorem dX5_told_32 : decode cX5_told 32 = .ok (.iconst 0, 1) := by decide +kernel
theorem dX5_told_33 : decode cX5_told 33 = .ok (.ireturn, 1) := by decide +kernel
theorem dX5_told_34 : decode cX5_told 34 = .ok (.aload_n 0, 1) := by decide +kernel
theorem dX5_told_35 : decode cX5_told 35 = .ok (.getfield 56, 3) := by decide +kernel
theorem dX5_told_38 : decode cX5_told 38 = .ok (.aload_n 0, 1) := by decide +kernel
theorem dX5_told_39 : decode cX5_told 39 = .ok (.getfield 106, 3) := by decide +kernel
theorem dX5_told_42 : decode cX5_told 42 = .ok (.iload_n 1, 1) := by decide +kernel
theorem dX5_told_43 : decode cX5_told 43 = .ok (.iastore, 1) := by decide +kernel
theorem dX5_told_44 : decode cX5_told 44 = .ok (.aload_n 0, 1) := by decide +kernel
theorem dX5_told_45 : decode cX5_told 45 = .ok (.getfield 59, 3) := by decide +kernel
theorem dX5_told_48 : decode cX5_told 48 = .ok (.aload_n 0, 1) := by decide +kernel
theorem dX5_told_49 : decode cX5_told 49 = .ok (.getfield 106, 3) := by decide +kernel
theorem dX5_told_52 : decode cX5_told 52 = .ok (.iload_n 2, 1) := by decide +kernel
theorem dX5_told_53 : decode cX5_told 53 = .ok (.iastore, 1) := by decide +kernel
theorem dX5_told_54 : decode cX5_told 54 = .ok (.aload_n 0, 1) := by decide +kernel
theorem dX5_told_55 : decode cX5_told 55 = .ok (.getfield 62, 3) := by decide +kernel
theorem dX5_told_58 : decode cX5_told 58 = .ok (.aload_n 0, 1) := by decide +kernel
theorem dX5_told_59 : decode cX5_told 59 = .ok (.getfield 106, 3) := by decide +kernel
theorem dX5_told_62 : decode cX5_told 62 = .ok (.lload_n 3, 1) := by decide +kernel
theorem dX5_told_63 : decode cX5_told 63 = .ok (.l2i, 1) := by decide +kernel
theorem dX5_told_64 : decode cX5_told 64 = .ok (.iastore, 1) := by decide +kernel
theorem dX5_told_65 : decode cX5_told 65 = .ok (.aload_n 0, 1) := by decide +kernel
theorem dX5_told_66 : decode cX5_told 66 = .ok (.getfield 65, 3) := by decide +kernel
theorem dX5_told_69 : decode cX5_told 69 = .ok (.aload_n 0, 1) := by decide +kernel
theorem dX5_told_70 : decode cX5_told 70 = .ok (.getfield 106, 3) := by decide +kernel
theorem dX5_told_73 : decode cX5_told 73 = .ok (.iload 5, 2) := by decide +kernel
theorem dX5_told_75 : decode cX5_told 75 = .ok (.iastore, 1) := by decide +kernel
theorem dX5_told_76 : decode cX5_told 76 = .ok (.aload_n 0, 1) := by decide +kernel
theorem dX5_told_77 : decode cX5_told 77 = .ok (.dup, 1) := by decide +kernel
theorem dX5_told_78 : decode cX5_told 78 = .ok (.getfield 106, 3) := by decide +kernel
theorem dX5_told_81 : decode cX5_told 81 = .ok (.iconst 1, 1) := by decide +kernel
theorem dX5_told_82 : decode cX5_told 82 = .ok (.iadd, 1) := by decide +kernel
theorem dX5_told_83 : decode cX5_told 83 = .ok (.putfield 106, 3) := by decide +kernel
theorem dX5_told_86 : decode cX5_told 86 = .ok (.iconst 1, 1) := by decide +kernel
theorem dX5_told_87 : decode cX5_told 87 = .ok (.ireturn, 1) := by decide +kernel
set_option maxRecDepth 20000 in
theorem ggX5_row_X5_isMachine : GoodIn wsX5_row wsX5_isMachine := goodIn_r _ [6, 7, 19, 20, 21, 22, 23, 24, 25, 26, 27, 28, 29, 30, 31, 32, 33, 34, 35, 36, 37, 38, 39, 40, 41, 42, 43, 44, 45, 46, 47, 48, 49, 50] (by decide +kernel) (by decide +kernel)
set_option maxRecDepth 20000 in
theorem gX5_row_X5_isMachine : GoodIn wsX5_row (wsV RX5 97 RX5 yX5_isMachine wsX5_isMachine) := goodIn_app (goodIn_of _ (by decide +kernel)) ggX5_row_X5_isMachine
set_option maxRecDepth 20000 in
theorem ggX5_row_X5_told : GoodIn wsX5_row wsX5_told := goodIn_r _ [11, 12, 13, 14, 15, 16, 17, 18, 19, 20, 21, 22, 23, 24, 25, 26, 27, 28, 29, 30, 31, 32, 33, 34, 35, 36, 37, 38, 39, 40, 41, 42, 43, 44, 45, 46, 47, 48, 49, 50] (by decide +kernel) (by decide +kernel)
set_option maxRecDepth 20000 in
theorem gX5_row_X5_told : GoodIn wsX5_row (wsV RX5 109 RX5 yX5_told wsX5_told) := goodIn_app (goodIn_of _ (by decide +kernel)) ggX5_row_X5_told
theorem dX5_row_0 : decode cX5_row 0 = .ok (.aload_n 0, 1) := by decide +kernel
theorem dX5_row_1 : decode cX5_row 1 = .ok (.iconst 0, 1) := by decide +kernel
theorem dX5_row_2 : decode cX5_row 2 = .ok (.putfield 87, 3) := by decide +kernel
theorem dX5_row_5 : decode cX5_row 5 = .ok (.aload_n 0, 1) := by decide +kernel
theorem dX5_row_6 : decode cX5_row 6 = .ok (.iload_n 1, 1) := by decide +kernel
theorem dX5_row_7 : decode cX5_row 7 = .ok (.invokevirtual 97, 3) := by decide +kernel
theorem dX5_row_10 : decode cX5_row 10 = .ok (.ifCond .eq 33, 3) := by decide +kernel
theorem dX5_row_13 : decode cX5_row 13 = .ok (.iload 4, 2) := by decide +kernel
theorem dX5_row_15 : decode cX5_row 15 = .ok (.iconst 4, 1) := by decide +kernel
theorem dX5_row_16 : decode cX5_row 16 = .ok (.if_icmp .lt 27, 3) := by decide +kernel
theorem dX5_row_19 : decode cX5_row 19 = .ok (.iload 4, 2) := by decide +kernel
theorem dX5_row_21 : decode cX5_row 21 = .ok (.bipush 9, 2) := by decide +kernel
theorem dX5_row_23 : decode cX5_row 23 = .ok (.if_icmp .gt 20, 3) := by decide +kernel
theorem dX5_row_26 : decode cX5_row 26 = .ok (.aload_n 0, 1) := by decide +kernel
theorem dX5_row_27 : decode cX5_row 27 = .ok (.iload_n 1, 1) := by decide +kernel
theorem dX5_row_28 : decode cX5_row 28 = .ok (.iload_n 2, 1) := by decide +kernel
theorem dX5_row_29 : decode cX5_row 29 = .ok (.iload_n 3, 1) := by decide +kernel
theorem dX5_row_30 : decode cX5_row 30 = .ok (.i2l, 1) := by decide +kernel
theorem dX5_row_31 : decode cX5_row 31 = .ok (.iload 4, 2) := by decide +kernel
theorem dX5_row_33 : decode cX5_row 33 = .ok (.invokevirtual 109, 3) := by decide +kernel
theorem dX5_row_36 : decode cX5_row 36 = .ok (.ifCond .eq 7, 3) := by decide +kernel
theorem dX5_row_39 : decode cX5_row 39 = .ok (.iconst 1, 1) := by decide +kernel
theorem dX5_row_40 : decode cX5_row 40 = .ok (.goto 4, 3) := by decide +kernel
theorem dX5_row_43 : decode cX5_row 43 = .ok (.iconst 0, 1) := by decide +kernel
theorem dX5_row_44 : decode cX5_row 44 = .ok (.ireturn, 1) := by decide +kernel
set_option maxRecDepth 20000 in
theorem ggX5_change_X5_told : GoodIn wsX5_change wsX5_told := goodIn_r _ [7, 8, 9, 10, 11, 12, 13, 14, 15, 16, 17, 18, 19, 20, 21, 22, 23, 24, 25, 26, 27, 28, 29, 30, 31, 32, 33, 34, 35, 36, 37, 38, 39, 40, 41, 42, 43, 44, 45, 46] (by decide +kernel) (by decide +kernel)
set_option maxRecDepth 20000 in
theorem gX5_change_X5_told : GoodIn wsX5_change (wsV RX5 109 RX5 yX5_told wsX5_told) := goodIn_app (goodIn_of _ (by decide +kernel)) ggX5_change_X5_told
theorem dX5_change_0 : decode cX5_change 0 = .ok (.aload_n 0, 1) := by decide +kernel
theorem dX5_change_1 : decode cX5_change 1 = .ok (.iconst 0, 1) := by decide +kernel
theorem dX5_change_2 : decode cX5_change 2 = .ok (.putfield 87, 3) := by decide +kernel
theorem dX5_change_5 : decode cX5_change 5 = .ok (.iload_n 2, 1) := by decide +kernel
theorem dX5_change_6 : decode cX5_change 6 = .ok (.iconst 1, 1) := by decide +kernel
theorem dX5_change_7 : decode cX5_change 7 = .ok (.if_icmp .lt 28, 3) := by decide +kernel
theorem dX5_change_10 : decode cX5_change 10 = .ok (.iload_n 2, 1) := by decide +kernel
theorem dX5_change_11 : decode cX5_change 11 = .ok (.ldc 113, 2) := by decide +kernel
theorem dX5_change_13 : decode cX5_change 13 = .ok (.if_icmp .gt 22, 3) := by decide +kernel
theorem dX5_change_16 : decode cX5_change 16 = .ok (.aload_n 0, 1) := by decide +kernel
theorem dX5_change_17 : decode cX5_change 17 = .ok (.iconst (-1), 1) := by decide +kernel
theorem dX5_change_18 : decode cX5_change 18 = .ok (.iload_n 1, 1) := by decide +kernel
theorem dX5_change_19 : decode cX5_change 19 = .ok (.iload_n 1, 1) := by decide +kernel
theorem dX5_change_20 : decode cX5_change 20 = .ok (.i2l, 1) := by decide +kernel
theorem dX5_change_21 : decode cX5_change 21 = .ok (.iload_n 2, 1) := by decide +kernel
theorem dX5_change_22 : decode cX5_change 22 = .ok (.i2l, 1) := by decide +kernel
theorem dX5_change_23 : decode cX5_change 23 = .ok (.ladd, 1) := by decide +kernel
theorem dX5_change_24 : decode cX5_change 24 = .ok (.iconst 1, 1) := by decide +kernel
theorem dX5_change_25 : decode cX5_change 25 = .ok (.invokevirtual 109, 3) := by decide +kernel
theorem dX5_change_28 : decode cX5_change 28 = .ok (.ifCond .eq 7, 3) := by decide +kernel
theorem dX5_change_31 : decode cX5_change 31 = .ok (.iconst 1, 1) := by decide +kernel
theorem dX5_change_32 : decode cX5_change 32 = .ok (.goto 4, 3) := by decide +kernel
theorem dX5_change_35 : decode cX5_change 35 = .ok (.iconst 0, 1) := by decide +kernel
theorem dX5_change_36 : decode cX5_change 36 = .ok (.ireturn, 1) := by decide +kernel
set_option maxRecDepth 20000 in
theorem ggX5_rest_X5_told : GoodIn wsX5_rest wsX5_told := goodIn_r _ [6, 7, 8, 9, 10, 11, 12, 13, 14, 15, 16, 17, 18, 19, 20, 21, 22, 23, 24, 25, 26, 27, 28, 29, 30, 31, 32, 33, 34, 35, 36, 37, 38, 39, 40, 41, 42, 43, 44, 45] (by decide +kernel) (by decide +kernel)
set_option maxRecDepth 20000 in
theorem gX5_rest_X5_told : GoodIn wsX5_rest (wsV RX5 109 RX5 yX5_told wsX5_told) := goodIn_app (goodIn_of _ (by decide +kernel)) ggX5_rest_X5_told
theorem dX5_rest_0 : decode cX5_rest 0 = .ok (.aload_n 0, 1) := by decide +kernel
theorem dX5_rest_1 : decode cX5_rest 1 = .ok (.iconst 0, 1) := by decide +kernel
theorem dX5_rest_2 : decode cX5_rest 2 = .ok (.putfield 87, 3) := by decide +kernel
theorem dX5_rest_5 : decode cX5_rest 5 = .ok (.aload_n 0, 1) := by decide +kernel
theorem dX5_rest_6 : decode cX5_rest 6 = .ok (.iconst (-1), 1) := by decide +kernel
theorem dX5_rest_7 : decode cX5_rest 7 = .ok (.iload_n 1, 1) := by decide +kernel
theorem dX5_rest_8 : decode cX5_rest 8 = .ok (.iload_n 2, 1) := by decide +kernel
theorem dX5_rest_9 : decode cX5_rest 9 = .ok (.i2l, 1) := by decide +kernel
theorem dX5_rest_10 : decode cX5_rest 10 = .ok (.iconst 2, 1) := by decide +kernel
theorem dX5_rest_11 : decode cX5_rest 11 = .ok (.invokevirtual 109, 3) := by decide +kernel
theorem dX5_rest_14 : decode cX5_rest 14 = .ok (.ireturn, 1) := by decide +kernel
theorem dX5_held_0 : decode cX5_held 0 = .ok (.iconst 0, 1) := by decide +kernel
theorem dX5_held_1 : decode cX5_held 1 = .ok (.istore_n 2, 1) := by decide +kernel
theorem dX5_held_2 : decode cX5_held 2 = .ok (.iload_n 2, 1) := by decide +kernel
theorem dX5_held_3 : decode cX5_held 3 = .ok (.aload_n 0, 1) := by decide +kernel
theorem dX5_held_4 : decode cX5_held 4 = .ok (.getfield 106, 3) := by decide +kernel
theorem dX5_held_7 : decode cX5_held 7 = .ok (.if_icmp .ge 62, 3) := by decide +kernel
theorem dX5_held_10 : decode cX5_held 10 = .ok (.aload_n 0, 1) := by decide +kernel
theorem dX5_held_11 : decode cX5_held 11 = .ok (.getfield 56, 3) := by decide +kernel
theorem dX5_held_14 : decode cX5_held 14 = .ok (.iload_n 2, 1) := by decide +kernel
theorem dX5_held_15 : decode cX5_held 15 = .ok (.iaload, 1) := by decide +kernel
theorem dX5_held_16 : decode cX5_held 16 = .ok (.iconst (-1), 1) := by decide +kernel
theorem dX5_held_17 : decode cX5_held 17 = .ok (.if_icmp .eq 13, 3) := by decide +kernel
theorem dX5_held_20 : decode cX5_held 20 = .ok (.aload_n 0, 1) := by decide +kernel
theorem dX5_held_21 : decode cX5_held 21 = .ok (.getfield 56, 3) := by decide +kernel
theorem dX5_held_24 : decode cX5_held 24 = .ok (.iload_n 2, 1) := by decide +kernel
theorem dX5_held_25 : decode cX5_held 25 = .ok (.iaload, 1) := by decide +kernel
theorem dX5_held_26 : decode cX5_held 26 = .ok (.iload_n 1, 1) := by decide +kernel
theorem dX5_held_27 : decode cX5_held 27 = .ok (.if_icmp .ne 36, 3) := by decide +kernel
theorem dX5_held_30 : decode cX5_held 30 = .ok (.aload_n 0, 1) := by decide +kernel
theorem dX5_held_31 : decode cX5_held 31 = .ok (.getfield 59, 3) := by decide +kernel
theorem dX5_held_34 : decode cX5_held 34 = .ok (.iload_n 2, 1) := by decide +kernel
theorem dX5_held_35 : decode cX5_held 35 = .ok (.iaload, 1) := by decide +kernel
theorem dX5_held_36 : decode cX5_held 36 = .ok (.aload_n 0, 1) := by decide +kernel
theorem dX5_held_37 : decode cX5_held 37 = .ok (.getfield 94, 3) := by decide +kernel
theorem dX5_held_40 : decode cX5_held 40 = .ok (.if_icmp .gt 23, 3) := by decide +kernel
theorem dX5_held_43 : decode cX5_held 43 = .ok (.aload_n 0, 1) := by decide +kernel
theorem dX5_held_44 : decode cX5_held 44 = .ok (.getfield 94, 3) := by decide +kernel
theorem dX5_held_47 : decode cX5_held 47 = .ok (.aload_n 0, 1) := by decide +kernel
theorem dX5_held_48 : decode cX5_held 48 = .ok (.getfield 62, 3) := by decide +kernel
theorem dX5_held_51 : decode cX5_held 51 = .ok (.iload_n 2, 1) := by decide +kernel
theorem dX5_held_52 : decode cX5_held 52 = .ok (.iaload, 1) := by decide +kernel
theorem dX5_held_53 : decode cX5_held 53 = .ok (.if_icmp .ge 10, 3) := by decide +kernel
theorem dX5_held_56 : decode cX5_held 56 = .ok (.aload_n 0, 1) := by decide +kernel
theorem dX5_held_57 : decode cX5_held 57 = .ok (.getfield 65, 3) := by decide +kernel
theorem dX5_held_60 : decode cX5_held 60 = .ok (.iload_n 2, 1) := by decide +kernel
theorem dX5_held_61 : decode cX5_held 61 = .ok (.iaload, 1) := by decide +kernel
theorem dX5_held_62 : decode cX5_held 62 = .ok (.ireturn, 1) := by decide +kernel
theorem dX5_held_63 : decode cX5_held 63 = .ok (.iinc 2 1, 3) := by decide +kernel
theorem dX5_held_66 : decode cX5_held 66 = .ok (.goto (-64), 3) := by decide +kernel
theorem dX5_held_69 : decode cX5_held 69 = .ok (.iconst (-1), 1) := by decide +kernel
theorem dX5_held_70 : decode cX5_held 70 = .ok (.ireturn, 1) := by decide +kernel
theorem dX5_note_0 : decode cX5_note 0 = .ok (.aload_n 0, 1) := by decide +kernel
theorem dX5_note_1 : decode cX5_note 1 = .ok (.getfield 114, 3) := by decide +kernel
theorem dX5_note_4 : decode cX5_note 4 = .ok (.sipush 1000, 3) := by decide +kernel
theorem dX5_note_7 : decode cX5_note 7 = .ok (.if_icmp .ge 36, 3) := by decide +kernel
theorem dX5_note_10 : decode cX5_note 10 = .ok (.aload_n 0, 1) := by decide +kernel
theorem dX5_note_11 : decode cX5_note 11 = .ok (.getfield 74, 3) := by decide +kernel
theorem dX5_note_14 : decode cX5_note 14 = .ok (.aload_n 0, 1) := by decide +kernel
theorem dX5_note_15 : decode cX5_note 15 = .ok (.getfield 114, 3) := by decide +kernel
theorem dX5_note_18 : decode cX5_note 18 = .ok (.aload_n 0, 1) := by decide +kernel
theorem dX5_note_19 : decode cX5_note 19 = .ok (.getfield 94, 3) := by decide +kernel
theorem dX5_note_22 : decode cX5_note 22 = .ok (.iastore, 1) := by decide +kernel
theorem dX5_note_23 : decode cX5_note 23 = .ok (.aload_n 0, 1) := by decide +kernel
theorem dX5_note_24 : decode cX5_note 24 = .ok (.getfield 77, 3) := by decide +kernel
theorem dX5_note_27 : decode cX5_note 27 = .ok (.aload_n 0, 1) := by decide +kernel
theorem dX5_note_28 : decode cX5_note 28 = .ok (.getfield 114, 3) := by decide +kernel
theorem dX5_note_31 : decode cX5_note 31 = .ok (.iload_n 1, 1) := by decide +kernel
theorem dX5_note_32 : decode cX5_note 32 = .ok (.iastore, 1) := by decide +kernel
theorem dX5_note_33 : decode cX5_note 33 = .ok (.aload_n 0, 1) := by decide +kernel
theorem dX5_note_34 : decode cX5_note 34 = .ok (.getfield 80, 3) := by decide +kernel
theorem dX5_note_37 : decode cX5_note 37 = .ok (.aload_n 0, 1) := by decide +kernel
theorem dX5_note_38 : decode cX5_note 38 = .ok (.getfield 114, 3) := by decide +kernel
theorem dX5_note_41 : decode cX5_note 41 = .ok (.iload_n 2, 1) := by decide +kernel
theorem dX5_note_42 : decode cX5_note 42 = .ok (.iastore, 1) := by decide +kernel
theorem dX5_note_43 : decode cX5_note 43 = .ok (.aload_n 0, 1) := by decide +kernel
theorem dX5_note_44 : decode cX5_note 44 = .ok (.dup, 1) := by decide +kernel
theorem dX5_note_45 : decode cX5_note 45 = .ok (.getfield 114, 3) := by decide +kernel
theorem dX5_note_48 : decode cX5_note 48 = .ok (.iconst 1, 1) := by decide +kernel
theorem dX5_note_49 : decode cX5_note 49 = .ok (.iadd, 1) := by decide +kernel
theorem dX5_note_50 : decode cX5_note 50 = .ok (.putfield 114, 3) := by decide +kernel
theorem dX5_note_53 : decode cX5_note 53 = .ok (.return_, 1) := by decide +kernel
theorem dX5_draw_0 : decode cX5_draw 0 = .ok (.aload_n 0, 1) := by decide +kernel
theorem dX5_draw_1 : decode cX5_draw 1 = .ok (.aload_n 0, 1) := by decide +kernel
theorem dX5_draw_2 : decode cX5_draw 2 = .ok (.getfield 83, 3) := by decide +kernel
theorem dX5_draw_5 : decode cX5_draw 5 = .ok (.ldc2_w 117, 3) := by decide +kernel
theorem dX5_draw_8 : decode cX5_draw 8 = .ok (.lmul, 1) := by decide +kernel
theorem dX5_draw_9 : decode cX5_draw 9 = .ok (.ldc2_w 119, 3) := by decide +kernel
theorem dX5_draw_12 : decode cX5_draw 12 = .ok (.ladd, 1) := by decide +kernel
theorem dX5_draw_13 : decode cX5_draw 13 = .ok (.putfield 83, 3) := by decide +kernel
theorem dX5_draw_16 : decode cX5_draw 16 = .ok (.aload_n 0, 1) := by decide +kernel
theorem dX5_draw_17 : decode cX5_draw 17 = .ok (.getfield 83, 3) := by decide +kernel
theorem dX5_draw_20 : decode cX5_draw 20 = .ok (.bipush 33, 2) := by decide +kernel
theorem dX5_draw_22 : decode cX5_draw 22 = .ok (.lushr, 1) := by decide +kernel
theorem dX5_draw_23 : decode cX5_draw 23 = .ok (.lload_n 1, 1) := by decide +kernel
theorem dX5_draw_24 : decode cX5_draw 24 = .ok (.lrem, 1) := by decide +kernel
theorem dX5_draw_25 : decode cX5_draw 25 = .ok (.lreturn, 1) := by decide +kernel
set_option maxRecDepth 20000 in
theorem ggX5_judge_X5_draw : GoodIn wsX5_judge wsX5_draw := goodIn_r _ [13, 14, 15, 16, 25, 26, 27, 28, 29, 30, 31, 32, 33, 34, 35, 36, 37, 38, 39, 40, 41, 42, 43, 44, 45, 46, 47, 48, 49, 50, 51, 52, 53, 54, 55, 56] (by decide +kernel) (by decide +kernel)
set_option maxRecDepth 20000 in
theorem gX5_judge_X5_draw : GoodIn wsX5_judge (wsV RX5 121 RX5 yX5_draw wsX5_draw) := goodIn_app (goodIn_of _ (by decide +kernel)) ggX5_judge_X5_draw
set_option maxRecDepth 20000 in
theorem ggX5_judge_X5_note : GoodIn wsX5_judge wsX5_note := goodIn_r _ [20, 21, 22, 8, 23, 24, 25, 26, 27, 28, 29, 30, 31, 32, 33, 34, 35, 36, 37, 38, 39, 40, 41, 42, 43, 44, 45, 46, 47, 48, 49, 50, 51, 52, 53, 54, 55, 56] (by decide +kernel) (by decide +kernel)
set_option maxRecDepth 20000 in
theorem gX5_judge_X5_note : GoodIn wsX5_judge (wsV RX5 125 RX5 yX5_note wsX5_note) := goodIn_app (goodIn_of _ (by decide +kernel)) ggX5_judge_X5_note
theorem dX5_judge_0 : decode cX5_judge 0 = .ok (.aload_n 0, 1) := by decide +kernel
theorem dX5_judge_1 : decode cX5_judge 1 = .ok (.getfield 25, 3) := by decide +kernel
theorem dX5_judge_4 : decode cX5_judge 4 = .ok (.iload_n 1, 1) := by decide +kernel
theorem dX5_judge_5 : decode cX5_judge 5 = .ok (.iconst 2, 1) := by decide +kernel
theorem dX5_judge_6 : decode cX5_judge 6 = .ok (.iastore, 1) := by decide +kernel
theorem dX5_judge_7 : decode cX5_judge 7 = .ok (.iconst 0, 1) := by decide +kernel
theorem dX5_judge_8 : decode cX5_judge 8 = .ok (.istore_n 2, 1) := by decide +kernel
theorem dX5_judge_9 : decode cX5_judge 9 = .ok (.iconst 0, 1) := by decide +kernel
theorem dX5_judge_10 : decode cX5_judge 10 = .ok (.istore_n 3, 1) := by decide +kernel
theorem dX5_judge_11 : decode cX5_judge 11 = .ok (.iload_n 3, 1) := by decide +kernel
theorem dX5_judge_12 : decode cX5_judge 12 = .ok (.aload_n 0, 1) := by decide +kernel
theorem dX5_judge_13 : decode cX5_judge 13 = .ok (.getfield 53, 3) := by decide +kernel
theorem dX5_judge_16 : decode cX5_judge 16 = .ok (.iload_n 1, 1) := by decide +kernel
theorem dX5_judge_17 : decode cX5_judge 17 = .ok (.iaload, 1) := by decide +kernel
theorem dX5_judge_18 : decode cX5_judge 18 = .ok (.if_icmp .ge 113, 3) := by decide +kernel
theorem dX5_judge_21 : decode cX5_judge 21 = .ok (.iload_n 1, 1) := by decide +kernel
theorem dX5_judge_22 : decode cX5_judge 22 = .ok (.iconst 4, 1) := by decide +kernel
theorem dX5_judge_23 : decode cX5_judge 23 = .ok (.imul, 1) := by decide +kernel
theorem dX5_judge_24 : decode cX5_judge 24 = .ok (.iload_n 3, 1) := by decide +kernel
theorem dX5_judge_25 : decode cX5_judge 25 = .ok (.iadd, 1) := by decide +kernel
theorem dX5_judge_26 : decode cX5_judge 26 = .ok (.istore 4, 2) := by decide +kernel
theorem dX5_judge_28 : decode cX5_judge 28 = .ok (.aload_n 0, 1) := by decide +kernel
theorem dX5_judge_29 : decode cX5_judge 29 = .ok (.aload_n 0, 1) := by decide +kernel
theorem dX5_judge_30 : decode cX5_judge 30 = .ok (.getfield 47, 3) := by decide +kernel
theorem dX5_judge_33 : decode cX5_judge 33 = .ok (.iload 4, 2) := by decide +kernel
theorem dX5_judge_35 : decode cX5_judge 35 = .ok (.laload, 1) := by decide +kernel
theorem dX5_judge_36 : decode cX5_judge 36 = .ok (.invokevirtual 121, 3) := by decide +kernel
theorem dX5_judge_39 : decode cX5_judge 39 = .ok (.aload_n 0, 1) := by decide +kernel
theorem dX5_judge_40 : decode cX5_judge 40 = .ok (.getfield 43, 3) := by decide +kernel
theorem dX5_judge_43 : decode cX5_judge 43 = .ok (.iload 4, 2) := by decide +kernel
theorem dX5_judge_45 : decode cX5_judge 45 = .ok (.laload, 1) := by decide +kernel
theorem dX5_judge_46 : decode cX5_judge 46 = .ok (.lcmp, 1) := by decide +kernel
theorem dX5_judge_47 : decode cX5_judge 47 = .ok (.ifCond .ge 7, 3) := by decide +kernel
theorem dX5_judge_50 : decode cX5_judge 50 = .ok (.iconst 1, 1) := by decide +kernel
theorem dX5_judge_51 : decode cX5_judge 51 = .ok (.goto 4, 3) := by decide +kernel
theorem dX5_judge_54 : decode cX5_judge 54 = .ok (.iconst 0, 1) := by decide +kernel
theorem dX5_judge_55 : decode cX5_judge 55 = .ok (.istore 5, 2) := by decide +kernel
theorem dX5_judge_57 : decode cX5_judge 57 = .ok (.iload 5, 2) := by decide +kernel
theorem dX5_judge_59 : decode cX5_judge 59 = .ok (.ifCond .eq 38, 3) := by decide +kernel
theorem dX5_judge_62 : decode cX5_judge 62 = .ok (.aload_n 0, 1) := by decide +kernel
theorem dX5_judge_63 : decode cX5_judge 63 = .ok (.getfield 50, 3) := by decide +kernel
theorem dX5_judge_66 : decode cX5_judge 66 = .ok (.iload 4, 2) := by decide +kernel
theorem dX5_judge_68 : decode cX5_judge 68 = .ok (.iaload, 1) := by decide +kernel
theorem dX5_judge_69 : decode cX5_judge 69 = .ok (.ifCond .ne 28, 3) := by decide +kernel
theorem dX5_judge_72 : decode cX5_judge 72 = .ok (.aload_n 0, 1) := by decide +kernel
theorem dX5_judge_73 : decode cX5_judge 73 = .ok (.getfield 25, 3) := by decide +kernel
theorem dX5_judge_76 : decode cX5_judge 76 = .ok (.iload_n 1, 1) := by decide +kernel
theorem dX5_judge_77 : decode cX5_judge 77 = .ok (.iconst 0, 1) := by decide +kernel
theorem dX5_judge_78 : decode cX5_judge 78 = .ok (.iastore, 1) := by decide +kernel
theorem dX5_judge_79 : decode cX5_judge 79 = .ok (.aload_n 0, 1) := by decide +kernel
theorem dX5_judge_80 : decode cX5_judge 80 = .ok (.getfield 71, 3) := by decide +kernel
theorem dX5_judge_83 : decode cX5_judge 83 = .ok (.iload_n 1, 1) := by decide +kernel
theorem dX5_judge_84 : decode cX5_judge 84 = .ok (.dup2, 1) := by decide +kernel
theorem dX5_judge_85 : decode cX5_judge 85 = .ok (.laload, 1) := by decide +kernel
theorem dX5_judge_86 : decode cX5_judge 86 = .ok (.lconst 1, 1) := by decide +kernel
theorem dX5_judge_87 : decode cX5_judge 87 = .ok (.ladd, 1) := by decide +kernel
theorem dX5_judge_88 : decode cX5_judge 88 = .ok (.lastore, 1) := by decide +kernel
theorem dX5_judge_89 : decode cX5_judge 89 = .ok (.aload_n 0, 1) := by decide +kernel
theorem dX5_judge_90 : decode cX5_judge 90 = .ok (.iload_n 1, 1) := by decide +kernel
theorem dX5_judge_91 : decode cX5_judge 91 = .ok (.iconst 2, 1) := by decide +kernel
theorem dX5_judge_92 : decode cX5_judge 92 = .ok (.invokevirtual 125, 3) := by decide +kernel
theorem dX5_judge_95 : decode cX5_judge 95 = .ok (.iconst 0, 1) := by decide +kernel
theorem dX5_judge_96 : decode cX5_judge 96 = .ok (.ireturn, 1) := by decide +kernel
theorem dX5_judge_97 : decode cX5_judge 97 = .ok (.iload 5, 2) := by decide +kernel
theorem dX5_judge_99 : decode cX5_judge 99 = .ok (.ifCond .eq 24, 3) := by decide +kernel
theorem dX5_judge_102 : decode cX5_judge 102 = .ok (.aload_n 0, 1) := by decide +kernel
theorem dX5_judge_103 : decode cX5_judge 103 = .ok (.getfield 50, 3) := by decide +kernel
theorem dX5_judge_106 : decode cX5_judge 106 = .ok (.iload 4, 2) := by decide +kernel
theorem dX5_judge_108 : decode cX5_judge 108 = .ok (.iaload, 1) := by decide +kernel
theorem dX5_judge_109 : decode cX5_judge 109 = .ok (.iload_n 2, 1) := by decide +kernel
theorem dX5_judge_110 : decode cX5_judge 110 = .ok (.if_icmp .le 13, 3) := by decide +kernel
theorem dX5_judge_113 : decode cX5_judge 113 = .ok (.aload_n 0, 1) := by decide +kernel
theorem dX5_judge_114 : decode cX5_judge 114 = .ok (.getfield 50, 3) := by decide +kernel
theorem dX5_judge_117 : decode cX5_judge 117 = .ok (.iload 4, 2) := by decide +kernel
theorem dX5_judge_119 : decode cX5_judge 119 = .ok (.iaload, 1) := by decide +kernel
theorem dX5_judge_120 : decode cX5_judge 120 = .ok (.goto 4, 3) := by decide +kernel
theorem dX5_judge_123 : decode cX5_judge 123 = .ok (.iload_n 2, 1) := by decide +kernel
theorem dX5_judge_124 : decode cX5_judge 124 = .ok (.istore_n 2, 1) := by decide +kernel
theorem dX5_judge_125 : decode cX5_judge 125 = .ok (.iinc 3 1, 3) := by decide +kernel
theorem dX5_judge_128 : decode cX5_judge 128 = .ok (.goto (-117), 3) := by decide +kernel
theorem dX5_judge_131 : decode cX5_judge 131 = .ok (.iload_n 2, 1) := by decide +kernel
theorem dX5_judge_132 : decode cX5_judge 132 = .ok (.ifCond .le 21, 3) := by decide +kernel
theorem dX5_judge_135 : decode cX5_judge 135 = .ok (.aload_n 0, 1) := by decide +kernel
theorem dX5_judge_136 : decode cX5_judge 136 = .ok (.getfield 31, 3) := by decide +kernel
theorem dX5_judge_139 : decode cX5_judge 139 = .ok (.iload_n 1, 1) := by decide +kernel
theorem dX5_judge_140 : decode cX5_judge 140 = .ok (.aload_n 0, 1) := by decide +kernel
theorem dX5_judge_141 : decode cX5_judge 141 = .ok (.getfield 94, 3) := by decide +kernel
theorem dX5_judge_144 : decode cX5_judge 144 = .ok (.iload_n 2, 1) := by decide +kernel
theorem dX5_judge_145 : decode cX5_judge 145 = .ok (.iadd, 1) := by decide +kernel
theorem dX5_judge_146 : decode cX5_judge 146 = .ok (.iastore, 1) := by decide +kernel
theorem dX5_judge_147 : decode cX5_judge 147 = .ok (.aload_n 0, 1) := by decide +kernel
theorem dX5_judge_148 : decode cX5_judge 148 = .ok (.iload_n 1, 1) := by decide +kernel
theorem dX5_judge_149 : decode cX5_judge 149 = .ok (.iconst 3, 1) := by decide +kernel
theorem dX5_judge_150 : decode cX5_judge 150 = .ok (.invokevirtual 125, 3) := by decide +kernel
theorem dX5_judge_153 : decode cX5_judge 153 = .ok (.iload_n 2, 1) := by decide +kernel
theorem dX5_judge_154 : decode cX5_judge 154 = .ok (.ifCond .le 7, 3) := by decide +kernel
theorem dX5_judge_157 : decode cX5_judge 157 = .ok (.iconst 1, 1) := by decide +kernel
theorem dX5_judge_158 : decode cX5_judge 158 = .ok (.goto 4, 3) := by decide +kernel
theorem dX5_judge_161 : decode cX5_judge 161 = .ok (.iconst 0, 1) := by decide +kernel
theorem dX5_judge_162 : decode cX5_judge 162 = .ok (.ireturn, 1) := by decide +kernel
set_option maxRecDepth 20000 in
theorem ggX5_leave_X5_note : GoodIn wsX5_leave wsX5_note := goodIn_r _ [13, 14, 15, 7, 16, 17, 18, 19, 20, 21, 22, 23, 24, 25, 26, 27, 28, 29, 30, 31, 32, 33, 34, 35, 36, 37, 38, 39, 40, 41, 42, 43, 44, 45, 46, 47, 48, 49] (by decide +kernel) (by decide +kernel)
set_option maxRecDepth 20000 in
theorem gX5_leave_X5_note : GoodIn wsX5_leave (wsV RX5 125 RX5 yX5_note wsX5_note) := goodIn_app (goodIn_of _ (by decide +kernel)) ggX5_leave_X5_note
theorem dX5_leave_0 : decode cX5_leave 0 = .ok (.aload_n 0, 1) := by decide +kernel
theorem dX5_leave_1 : decode cX5_leave 1 = .ok (.getfield 16, 3) := by decide +kernel
theorem dX5_leave_4 : decode cX5_leave 4 = .ok (.iload_n 1, 1) := by decide +kernel
theorem dX5_leave_5 : decode cX5_leave 5 = .ok (.iaload, 1) := by decide +kernel
theorem dX5_leave_6 : decode cX5_leave 6 = .ok (.iconst (-1), 1) := by decide +kernel
theorem dX5_leave_7 : decode cX5_leave 7 = .ok (.if_icmp .ne 16, 3) := by decide +kernel
theorem dX5_leave_10 : decode cX5_leave 10 = .ok (.aload_n 0, 1) := by decide +kernel
theorem dX5_leave_11 : decode cX5_leave 11 = .ok (.dup, 1) := by decide +kernel
theorem dX5_leave_12 : decode cX5_leave 12 = .ok (.getfield 129, 3) := by decide +kernel
theorem dX5_leave_15 : decode cX5_leave 15 = .ok (.lconst 1, 1) := by decide +kernel
theorem dX5_leave_16 : decode cX5_leave 16 = .ok (.ladd, 1) := by decide +kernel
theorem dX5_leave_17 : decode cX5_leave 17 = .ok (.putfield 129, 3) := by decide +kernel
theorem dX5_leave_20 : decode cX5_leave 20 = .ok (.goto 64, 3) := by decide +kernel
theorem dX5_leave_23 : decode cX5_leave 23 = .ok (.aload_n 0, 1) := by decide +kernel
theorem dX5_leave_24 : decode cX5_leave 24 = .ok (.getfield 40, 3) := by decide +kernel
theorem dX5_leave_27 : decode cX5_leave 27 = .ok (.iload_n 1, 1) := by decide +kernel
theorem dX5_leave_28 : decode cX5_leave 28 = .ok (.iaload, 1) := by decide +kernel
theorem dX5_leave_29 : decode cX5_leave 29 = .ok (.aload_n 0, 1) := by decide +kernel
theorem dX5_leave_30 : decode cX5_leave 30 = .ok (.getfield 19, 3) := by decide +kernel
theorem dX5_leave_33 : decode cX5_leave 33 = .ok (.iload_n 1, 1) := by decide +kernel
theorem dX5_leave_34 : decode cX5_leave 34 = .ok (.iaload, 1) := by decide +kernel
theorem dX5_leave_35 : decode cX5_leave 35 = .ok (.if_icmp .ge 48, 3) := by decide +kernel
theorem dX5_leave_38 : decode cX5_leave 38 = .ok (.aload_n 0, 1) := by decide +kernel
theorem dX5_leave_39 : decode cX5_leave 39 = .ok (.getfield 34, 3) := by decide +kernel
theorem dX5_leave_42 : decode cX5_leave 42 = .ok (.iload_n 1, 1) := by decide +kernel
theorem dX5_leave_43 : decode cX5_leave 43 = .ok (.sipush 1000, 3) := by decide +kernel
theorem dX5_leave_46 : decode cX5_leave 46 = .ok (.imul, 1) := by decide +kernel
theorem dX5_leave_47 : decode cX5_leave 47 = .ok (.aload_n 0, 1) := by decide +kernel
theorem dX5_leave_48 : decode cX5_leave 48 = .ok (.getfield 37, 3) := by decide +kernel
theorem dX5_leave_51 : decode cX5_leave 51 = .ok (.iload_n 1, 1) := by decide +kernel
theorem dX5_leave_52 : decode cX5_leave 52 = .ok (.iaload, 1) := by decide +kernel
theorem dX5_leave_53 : decode cX5_leave 53 = .ok (.aload_n 0, 1) := by decide +kernel
theorem dX5_leave_54 : decode cX5_leave 54 = .ok (.getfield 40, 3) := by decide +kernel
theorem dX5_leave_57 : decode cX5_leave 57 = .ok (.iload_n 1, 1) := by decide +kernel
theorem dX5_leave_58 : decode cX5_leave 58 = .ok (.iaload, 1) := by decide +kernel
theorem dX5_leave_59 : decode cX5_leave 59 = .ok (.iadd, 1) := by decide +kernel
theorem dX5_leave_60 : decode cX5_leave 60 = .ok (.sipush 1000, 3) := by decide +kernel
theorem dX5_leave_63 : decode cX5_leave 63 = .ok (.irem, 1) := by decide +kernel
theorem dX5_leave_64 : decode cX5_leave 64 = .ok (.iadd, 1) := by decide +kernel
theorem dX5_leave_65 : decode cX5_leave 65 = .ok (.aload_n 0, 1) := by decide +kernel
theorem dX5_leave_66 : decode cX5_leave 66 = .ok (.getfield 94, 3) := by decide +kernel
theorem dX5_leave_69 : decode cX5_leave 69 = .ok (.iastore, 1) := by decide +kernel
theorem dX5_leave_70 : decode cX5_leave 70 = .ok (.aload_n 0, 1) := by decide +kernel
theorem dX5_leave_71 : decode cX5_leave 71 = .ok (.getfield 40, 3) := by decide +kernel
theorem dX5_leave_74 : decode cX5_leave 74 = .ok (.iload_n 1, 1) := by decide +kernel
theorem dX5_leave_75 : decode cX5_leave 75 = .ok (.dup2, 1) := by decide +kernel
theorem dX5_leave_76 : decode cX5_leave 76 = .ok (.iaload, 1) := by decide +kernel
theorem dX5_leave_77 : decode cX5_leave 77 = .ok (.iconst 1, 1) := by decide +kernel
theorem dX5_leave_78 : decode cX5_leave 78 = .ok (.iadd, 1) := by decide +kernel
theorem dX5_leave_79 : decode cX5_leave 79 = .ok (.iastore, 1) := by decide +kernel
theorem dX5_leave_80 : decode cX5_leave 80 = .ok (.goto 4, 3) := by decide +kernel
theorem dX5_leave_83 : decode cX5_leave 83 = .ok (.return_, 1) := by decide +kernel
theorem dX5_leave_84 : decode cX5_leave 84 = .ok (.aload_n 0, 1) := by decide +kernel
theorem dX5_leave_85 : decode cX5_leave 85 = .ok (.getfield 25, 3) := by decide +kernel
theorem dX5_leave_88 : decode cX5_leave 88 = .ok (.iload_n 1, 1) := by decide +kernel
theorem dX5_leave_89 : decode cX5_leave 89 = .ok (.iconst 0, 1) := by decide +kernel
theorem dX5_leave_90 : decode cX5_leave 90 = .ok (.iastore, 1) := by decide +kernel
theorem dX5_leave_91 : decode cX5_leave 91 = .ok (.aload_n 0, 1) := by decide +kernel
theorem dX5_leave_92 : decode cX5_leave 92 = .ok (.iload_n 1, 1) := by decide +kernel
theorem dX5_leave_93 : decode cX5_leave 93 = .ok (.iconst 1, 1) := by decide +kernel
theorem dX5_leave_94 : decode cX5_leave 94 = .ok (.invokevirtual 125, 3) := by decide +kernel
theorem dX5_leave_97 : decode cX5_leave 97 = .ok (.return_, 1) := by decide +kernel
set_option maxRecDepth 20000 in
theorem ggX5_take_X5_note : GoodIn wsX5_take wsX5_note := goodIn_r _ [14, 15, 16, 4, 17, 18, 19, 20, 21, 22, 23, 24, 25, 26, 27, 28, 29, 30, 31, 32, 33, 34, 35, 36, 37, 38, 39, 40, 41, 42, 43, 44, 45, 46, 47, 48, 49, 50] (by decide +kernel) (by decide +kernel)
set_option maxRecDepth 20000 in
theorem gX5_take_X5_note : GoodIn wsX5_take (wsV RX5 125 RX5 yX5_note wsX5_note) := goodIn_app (goodIn_of _ (by decide +kernel)) ggX5_take_X5_note
theorem dX5_take_0 : decode cX5_take 0 = .ok (.aload_n 0, 1) := by decide +kernel
theorem dX5_take_1 : decode cX5_take 1 = .ok (.getfield 13, 3) := by decide +kernel
theorem dX5_take_4 : decode cX5_take 4 = .ok (.iload_n 1, 1) := by decide +kernel
theorem dX5_take_5 : decode cX5_take 5 = .ok (.iaload, 1) := by decide +kernel
theorem dX5_take_6 : decode cX5_take 6 = .ok (.istore_n 2, 1) := by decide +kernel
theorem dX5_take_7 : decode cX5_take 7 = .ok (.iload_n 2, 1) := by decide +kernel
theorem dX5_take_8 : decode cX5_take 8 = .ok (.iconst (-1), 1) := by decide +kernel
theorem dX5_take_9 : decode cX5_take 9 = .ok (.if_icmp .ne 16, 3) := by decide +kernel
theorem dX5_take_12 : decode cX5_take 12 = .ok (.aload_n 0, 1) := by decide +kernel
theorem dX5_take_13 : decode cX5_take 13 = .ok (.dup, 1) := by decide +kernel
theorem dX5_take_14 : decode cX5_take 14 = .ok (.getfield 132, 3) := by decide +kernel
theorem dX5_take_17 : decode cX5_take 17 = .ok (.lconst 1, 1) := by decide +kernel
theorem dX5_take_18 : decode cX5_take 18 = .ok (.ladd, 1) := by decide +kernel
theorem dX5_take_19 : decode cX5_take 19 = .ok (.putfield 132, 3) := by decide +kernel
theorem dX5_take_22 : decode cX5_take 22 = .ok (.goto 89, 3) := by decide +kernel
theorem dX5_take_25 : decode cX5_take 25 = .ok (.aload_n 0, 1) := by decide +kernel
theorem dX5_take_26 : decode cX5_take 26 = .ok (.getfield 40, 3) := by decide +kernel
theorem dX5_take_29 : decode cX5_take 29 = .ok (.iload_n 2, 1) := by decide +kernel
theorem dX5_take_30 : decode cX5_take 30 = .ok (.iaload, 1) := by decide +kernel
theorem dX5_take_31 : decode cX5_take 31 = .ok (.ifCond .ne 10, 3) := by decide +kernel
theorem dX5_take_34 : decode cX5_take 34 = .ok (.aload_n 0, 1) := by decide +kernel
theorem dX5_take_35 : decode cX5_take 35 = .ok (.getfield 94, 3) := by decide +kernel
theorem dX5_take_38 : decode cX5_take 38 = .ok (.goto 20, 3) := by decide +kernel
theorem dX5_take_41 : decode cX5_take 41 = .ok (.aload_n 0, 1) := by decide +kernel
theorem dX5_take_42 : decode cX5_take 42 = .ok (.getfield 34, 3) := by decide +kernel
theorem dX5_take_45 : decode cX5_take 45 = .ok (.iload_n 2, 1) := by decide +kernel
theorem dX5_take_46 : decode cX5_take 46 = .ok (.sipush 1000, 3) := by decide +kernel
theorem dX5_take_49 : decode cX5_take 49 = .ok (.imul, 1) := by decide +kernel
theorem dX5_take_50 : decode cX5_take 50 = .ok (.aload_n 0, 1) := by decide +kernel
theorem dX5_take_51 : decode cX5_take 51 = .ok (.getfield 37, 3) := by decide +kernel
theorem dX5_take_54 : decode cX5_take 54 = .ok (.iload_n 2, 1) := by decide +kernel
theorem dX5_take_55 : decode cX5_take 55 = .ok (.iaload, 1) := by decide +kernel
theorem dX5_take_56 : decode cX5_take 56 = .ok (.iadd, 1) := by decide +kernel
theorem dX5_take_57 : decode cX5_take 57 = .ok (.iaload, 1) := by decide +kernel
theorem dX5_take_58 : decode cX5_take 58 = .ok (.istore_n 3, 1) := by decide +kernel
theorem dX5_take_59 : decode cX5_take 59 = .ok (.iload_n 3, 1) := by decide +kernel
theorem dX5_take_60 : decode cX5_take 60 = .ok (.aload_n 0, 1) := by decide +kernel
theorem dX5_take_61 : decode cX5_take 61 = .ok (.getfield 94, 3) := by decide +kernel
theorem dX5_take_64 : decode cX5_take 64 = .ok (.if_icmp .ge 18, 3) := by decide +kernel
theorem dX5_take_67 : decode cX5_take 67 = .ok (.aload_n 0, 1) := by decide +kernel
theorem dX5_take_68 : decode cX5_take 68 = .ok (.getfield 94, 3) := by decide +kernel
theorem dX5_take_71 : decode cX5_take 71 = .ok (.iload_n 3, 1) := by decide +kernel
theorem dX5_take_72 : decode cX5_take 72 = .ok (.isub, 1) := by decide +kernel
theorem dX5_take_73 : decode cX5_take 73 = .ok (.aload_n 0, 1) := by decide +kernel
theorem dX5_take_74 : decode cX5_take 74 = .ok (.getfield 22, 3) := by decide +kernel
theorem dX5_take_77 : decode cX5_take 77 = .ok (.iload_n 2, 1) := by decide +kernel
theorem dX5_take_78 : decode cX5_take 78 = .ok (.iaload, 1) := by decide +kernel
theorem dX5_take_79 : decode cX5_take 79 = .ok (.if_icmp .ge 4, 3) := by decide +kernel
theorem dX5_take_82 : decode cX5_take 82 = .ok (.return_, 1) := by decide +kernel
theorem dX5_take_83 : decode cX5_take 83 = .ok (.aload_n 0, 1) := by decide +kernel
theorem dX5_take_84 : decode cX5_take 84 = .ok (.getfield 37, 3) := by decide +kernel
theorem dX5_take_87 : decode cX5_take 87 = .ok (.iload_n 2, 1) := by decide +kernel
theorem dX5_take_88 : decode cX5_take 88 = .ok (.aload_n 0, 1) := by decide +kernel
theorem dX5_take_89 : decode cX5_take 89 = .ok (.getfield 37, 3) := by decide +kernel
theorem dX5_take_92 : decode cX5_take 92 = .ok (.iload_n 2, 1) := by decide +kernel
theorem dX5_take_93 : decode cX5_take 93 = .ok (.iaload, 1) := by decide +kernel
theorem dX5_take_94 : decode cX5_take 94 = .ok (.iconst 1, 1) := by decide +kernel
theorem dX5_take_95 : decode cX5_take 95 = .ok (.iadd, 1) := by decide +kernel
theorem dX5_take_96 : decode cX5_take 96 = .ok (.sipush 1000, 3) := by decide +kernel
theorem dX5_take_99 : decode cX5_take 99 = .ok (.irem, 1) := by decide +kernel
theorem dX5_take_100 : decode cX5_take 100 = .ok (.iastore, 1) := by decide +kernel
theorem dX5_take_101 : decode cX5_take 101 = .ok (.aload_n 0, 1) := by decide +kernel
theorem dX5_take_102 : decode cX5_take 102 = .ok (.getfield 40, 3) := by decide +kernel
theorem dX5_take_105 : decode cX5_take 105 = .ok (.iload_n 2, 1) := by decide +kernel
theorem dX5_take_106 : decode cX5_take 106 = .ok (.dup2, 1) := by decide +kernel
theorem dX5_take_107 : decode cX5_take 107 = .ok (.iaload, 1) := by decide +kernel
theorem dX5_take_108 : decode cX5_take 108 = .ok (.iconst 1, 1) := by decide +kernel
theorem dX5_take_109 : decode cX5_take 109 = .ok (.isub, 1) := by decide +kernel
theorem dX5_take_110 : decode cX5_take 110 = .ok (.iastore, 1) := by decide +kernel
theorem dX5_take_111 : decode cX5_take 111 = .ok (.aload_n 0, 1) := by decide +kernel
theorem dX5_take_112 : decode cX5_take 112 = .ok (.getfield 25, 3) := by decide +kernel
theorem dX5_take_115 : decode cX5_take 115 = .ok (.iload_n 1, 1) := by decide +kernel
theorem dX5_take_116 : decode cX5_take 116 = .ok (.iconst 1, 1) := by decide +kernel
theorem dX5_take_117 : decode cX5_take 117 = .ok (.iastore, 1) := by decide +kernel
theorem dX5_take_118 : decode cX5_take 118 = .ok (.aload_n 0, 1) := by decide +kernel
theorem dX5_take_119 : decode cX5_take 119 = .ok (.getfield 28, 3) := by decide +kernel
theorem dX5_take_122 : decode cX5_take 122 = .ok (.iload_n 1, 1) := by decide +kernel
theorem dX5_take_123 : decode cX5_take 123 = .ok (.iconst 0, 1) := by decide +kernel
theorem dX5_take_124 : decode cX5_take 124 = .ok (.iastore, 1) := by decide +kernel
theorem dX5_take_125 : decode cX5_take 125 = .ok (.aload_n 0, 1) := by decide +kernel
theorem dX5_take_126 : decode cX5_take 126 = .ok (.iload_n 1, 1) := by decide +kernel
theorem dX5_take_127 : decode cX5_take 127 = .ok (.iconst 0, 1) := by decide +kernel
theorem dX5_take_128 : decode cX5_take 128 = .ok (.invokevirtual 125, 3) := by decide +kernel
theorem dX5_take_131 : decode cX5_take 131 = .ok (.return_, 1) := by decide +kernel
set_option maxRecDepth 20000 in
theorem ggX5_act_X5_held : GoodIn wsX5_act wsX5_held := goodIn_r _ [10, 11, 12, 13, 2, 14, 15, 57, 58, 59, 60, 61, 62, 63, 64, 65, 66, 67, 68, 69, 70, 71, 72, 73, 74, 75, 76, 77, 78, 79, 80, 81, 82, 83, 84, 85, 86, 87, 88] (by decide +kernel) (by decide +kernel)
set_option maxRecDepth 20000 in
theorem gX5_act_X5_held : GoodIn wsX5_act (wsV RX5 135 RX5 yX5_held wsX5_held) := goodIn_app (goodIn_of _ (by decide +kernel)) ggX5_act_X5_held
set_option maxRecDepth 20000 in
theorem ggX5_act_X5_judge : GoodIn wsX5_act wsX5_judge := goodIn_r _ [19, 3, 20, 21, 22, 23, 24, 1, 2, 25, 26, 27, 9, 28, 29, 30, 31, 32, 33, 34, 35, 36, 37, 38, 39, 57, 58, 59, 60, 61, 62, 63, 64, 65, 66, 67, 68, 69, 70, 71, 72, 73, 74, 75, 76, 77, 78, 79, 80, 81, 82, 83, 84, 85, 86, 87, 88] (by decide +kernel) (by decide +kernel)
set_option maxRecDepth 20000 in
theorem gX5_act_X5_judge : GoodIn wsX5_act (wsV RX5 139 RX5 yX5_judge wsX5_judge) := goodIn_app (goodIn_of _ (by decide +kernel)) ggX5_act_X5_judge
set_option maxRecDepth 20000 in
theorem ggX5_act_X5_leave : GoodIn wsX5_act wsX5_leave := goodIn_r _ [43, 44, 45, 46, 47, 48, 49, 2, 3, 32, 33, 34, 9, 35, 36, 37, 38, 39, 57, 58, 59, 60, 61, 62, 63, 64, 65, 66, 67, 68, 69, 70, 71, 72, 73, 74, 75, 76, 77, 78, 79, 80, 81, 82, 83, 84, 85, 86, 87, 88] (by decide +kernel) (by decide +kernel)
set_option maxRecDepth 20000 in
theorem gX5_act_X5_leave : GoodIn wsX5_act (wsV RX5 142 RX5 yX5_leave wsX5_leave) := goodIn_app (goodIn_of _ (by decide +kernel)) ggX5_act_X5_leave
set_option maxRecDepth 20000 in
theorem ggX5_act_X5_take : GoodIn wsX5_act wsX5_take := goodIn_r _ [53, 54, 55, 46, 2, 48, 49, 56, 3, 4, 32, 33, 34, 9, 35, 36, 37, 38, 39, 57, 58, 59, 60, 61, 62, 63, 64, 65, 66, 67, 68, 69, 70, 71, 72, 73, 74, 75, 76, 77, 78, 79, 80, 81, 82, 83, 84, 85, 86, 87, 88] (by decide +kernel) (by decide +kernel)
set_option maxRecDepth 20000 in
theorem gX5_act_X5_take : GoodIn wsX5_act (wsV RX5 146 RX5 yX5_take wsX5_take) := goodIn_app (goodIn_of _ (by decide +kernel)) ggX5_act_X5_take
theorem dX5_act_0 : decode cX5_act 0 = .ok (.aload_n 0, 1) := by decide +kernel
theorem dX5_act_1 : decode cX5_act 1 = .ok (.iload_n 1, 1) := by decide +kernel
theorem dX5_act_2 : decode cX5_act 2 = .ok (.invokevirtual 135, 3) := by decide +kernel
theorem dX5_act_5 : decode cX5_act 5 = .ok (.iconst (-1), 1) := by decide +kernel
theorem dX5_act_6 : decode cX5_act 6 = .ok (.if_icmp .ne 16, 3) := by decide +kernel
theorem dX5_act_9 : decode cX5_act 9 = .ok (.aload_n 0, 1) := by decide +kernel
theorem dX5_act_10 : decode cX5_act 10 = .ok (.getfield 31, 3) := by decide +kernel
theorem dX5_act_13 : decode cX5_act 13 = .ok (.iload_n 1, 1) := by decide +kernel
theorem dX5_act_14 : decode cX5_act 14 = .ok (.iaload, 1) := by decide +kernel
theorem dX5_act_15 : decode cX5_act 15 = .ok (.aload_n 0, 1) := by decide +kernel
theorem dX5_act_16 : decode cX5_act 16 = .ok (.getfield 94, 3) := by decide +kernel
theorem dX5_act_19 : decode cX5_act 19 = .ok (.if_icmp .le 4, 3) := by decide +kernel
theorem dX5_act_22 : decode cX5_act 22 = .ok (.return_, 1) := by decide +kernel
theorem dX5_act_23 : decode cX5_act 23 = .ok (.aload_n 0, 1) := by decide +kernel
theorem dX5_act_24 : decode cX5_act 24 = .ok (.getfield 25, 3) := by decide +kernel
theorem dX5_act_27 : decode cX5_act 27 = .ok (.iload_n 1, 1) := by decide +kernel
theorem dX5_act_28 : decode cX5_act 28 = .ok (.iaload, 1) := by decide +kernel
theorem dX5_act_29 : decode cX5_act 29 = .ok (.iconst 1, 1) := by decide +kernel
theorem dX5_act_30 : decode cX5_act 30 = .ok (.if_icmp .ne 27, 3) := by decide +kernel
theorem dX5_act_33 : decode cX5_act 33 = .ok (.aload_n 0, 1) := by decide +kernel
theorem dX5_act_34 : decode cX5_act 34 = .ok (.getfield 28, 3) := by decide +kernel
theorem dX5_act_37 : decode cX5_act 37 = .ok (.iload_n 1, 1) := by decide +kernel
theorem dX5_act_38 : decode cX5_act 38 = .ok (.iaload, 1) := by decide +kernel
theorem dX5_act_39 : decode cX5_act 39 = .ok (.aload_n 0, 1) := by decide +kernel
theorem dX5_act_40 : decode cX5_act 40 = .ok (.getfield 9, 3) := by decide +kernel
theorem dX5_act_43 : decode cX5_act 43 = .ok (.iload_n 1, 1) := by decide +kernel
theorem dX5_act_44 : decode cX5_act 44 = .ok (.iaload, 1) := by decide +kernel
theorem dX5_act_45 : decode cX5_act 45 = .ok (.if_icmp .ne 12, 3) := by decide +kernel
theorem dX5_act_48 : decode cX5_act 48 = .ok (.aload_n 0, 1) := by decide +kernel
theorem dX5_act_49 : decode cX5_act 49 = .ok (.iload_n 1, 1) := by decide +kernel
theorem dX5_act_50 : decode cX5_act 50 = .ok (.invokevirtual 139, 3) := by decide +kernel
theorem dX5_act_53 : decode cX5_act 53 = .ok (.ifCond .eq 4, 3) := by decide +kernel
theorem dX5_act_56 : decode cX5_act 56 = .ok (.return_, 1) := by decide +kernel
theorem dX5_act_57 : decode cX5_act 57 = .ok (.aload_n 0, 1) := by decide +kernel
theorem dX5_act_58 : decode cX5_act 58 = .ok (.getfield 25, 3) := by decide +kernel
theorem dX5_act_61 : decode cX5_act 61 = .ok (.iload_n 1, 1) := by decide +kernel
theorem dX5_act_62 : decode cX5_act 62 = .ok (.iaload, 1) := by decide +kernel
theorem dX5_act_63 : decode cX5_act 63 = .ok (.iconst 2, 1) := by decide +kernel
theorem dX5_act_64 : decode cX5_act 64 = .ok (.if_icmp .ne 8, 3) := by decide +kernel
theorem dX5_act_67 : decode cX5_act 67 = .ok (.aload_n 0, 1) := by decide +kernel
theorem dX5_act_68 : decode cX5_act 68 = .ok (.iload_n 1, 1) := by decide +kernel
theorem dX5_act_69 : decode cX5_act 69 = .ok (.invokevirtual 142, 3) := by decide +kernel
theorem dX5_act_72 : decode cX5_act 72 = .ok (.aload_n 0, 1) := by decide +kernel
theorem dX5_act_73 : decode cX5_act 73 = .ok (.getfield 25, 3) := by decide +kernel
theorem dX5_act_76 : decode cX5_act 76 = .ok (.iload_n 1, 1) := by decide +kernel
theorem dX5_act_77 : decode cX5_act 77 = .ok (.iaload, 1) := by decide +kernel
theorem dX5_act_78 : decode cX5_act 78 = .ok (.ifCond .ne 8, 3) := by decide +kernel
theorem dX5_act_81 : decode cX5_act 81 = .ok (.aload_n 0, 1) := by decide +kernel
theorem dX5_act_82 : decode cX5_act 82 = .ok (.iload_n 1, 1) := by decide +kernel
theorem dX5_act_83 : decode cX5_act 83 = .ok (.invokevirtual 146, 3) := by decide +kernel
theorem dX5_act_86 : decode cX5_act 86 = .ok (.return_, 1) := by decide +kernel
set_option maxRecDepth 20000 in
theorem ggX5_causeOf_X5_held : GoodIn wsX5_causeOf wsX5_held := goodIn_r _ [8, 9, 10, 11, 2, 12, 13, 14, 15, 16, 17, 18, 19, 20, 21, 22, 23, 24, 25, 26, 27, 28, 29, 30, 31, 32, 33, 34, 35, 36, 37, 38, 39, 40, 41, 42, 43, 44, 45] (by decide +kernel) (by decide +kernel)
set_option maxRecDepth 20000 in
theorem gX5_causeOf_X5_held : GoodIn wsX5_causeOf (wsV RX5 135 RX5 yX5_held wsX5_held) := goodIn_app (goodIn_of _ (by decide +kernel)) ggX5_causeOf_X5_held
theorem dX5_causeOf_0 : decode cX5_causeOf 0 = .ok (.aload_n 0, 1) := by decide +kernel
theorem dX5_causeOf_1 : decode cX5_causeOf 1 = .ok (.iload_n 1, 1) := by decide +kernel
theorem dX5_causeOf_2 : decode cX5_causeOf 2 = .ok (.invokevirtual 135, 3) := by decide +kernel
theorem dX5_causeOf_5 : decode cX5_causeOf 5 = .ok (.istore_n 2, 1) := by decide +kernel
theorem dX5_causeOf_6 : decode cX5_causeOf 6 = .ok (.iload_n 2, 1) := by decide +kernel
theorem dX5_causeOf_7 : decode cX5_causeOf 7 = .ok (.iconst (-1), 1) := by decide +kernel
theorem dX5_causeOf_8 : decode cX5_causeOf 8 = .ok (.if_icmp .eq 5, 3) := by decide +kernel
theorem dX5_causeOf_11 : decode cX5_causeOf 11 = .ok (.iload_n 2, 1) := by decide +kernel
theorem dX5_causeOf_12 : decode cX5_causeOf 12 = .ok (.ireturn, 1) := by decide +kernel
theorem dX5_causeOf_13 : decode cX5_causeOf 13 = .ok (.aload_n 0, 1) := by decide +kernel
theorem dX5_causeOf_14 : decode cX5_causeOf 14 = .ok (.getfield 31, 3) := by decide +kernel
theorem dX5_causeOf_17 : decode cX5_causeOf 17 = .ok (.iload_n 1, 1) := by decide +kernel
theorem dX5_causeOf_18 : decode cX5_causeOf 18 = .ok (.iaload, 1) := by decide +kernel
theorem dX5_causeOf_19 : decode cX5_causeOf 19 = .ok (.aload_n 0, 1) := by decide +kernel
theorem dX5_causeOf_20 : decode cX5_causeOf 20 = .ok (.getfield 94, 3) := by decide +kernel
theorem dX5_causeOf_23 : decode cX5_causeOf 23 = .ok (.if_icmp .le 5, 3) := by decide +kernel
theorem dX5_causeOf_26 : decode cX5_causeOf 26 = .ok (.iconst 3, 1) := by decide +kernel
theorem dX5_causeOf_27 : decode cX5_causeOf 27 = .ok (.ireturn, 1) := by decide +kernel
theorem dX5_causeOf_28 : decode cX5_causeOf 28 = .ok (.aload_n 0, 1) := by decide +kernel
theorem dX5_causeOf_29 : decode cX5_causeOf 29 = .ok (.getfield 25, 3) := by decide +kernel
theorem dX5_causeOf_32 : decode cX5_causeOf 32 = .ok (.iload_n 1, 1) := by decide +kernel
theorem dX5_causeOf_33 : decode cX5_causeOf 33 = .ok (.iaload, 1) := by decide +kernel
theorem dX5_causeOf_34 : decode cX5_causeOf 34 = .ok (.iconst 1, 1) := by decide +kernel
theorem dX5_causeOf_35 : decode cX5_causeOf 35 = .ok (.if_icmp .ne 7, 3) := by decide +kernel
theorem dX5_causeOf_38 : decode cX5_causeOf 38 = .ok (.iconst 0, 1) := by decide +kernel
theorem dX5_causeOf_39 : decode cX5_causeOf 39 = .ok (.goto 20, 3) := by decide +kernel
theorem dX5_causeOf_42 : decode cX5_causeOf 42 = .ok (.aload_n 0, 1) := by decide +kernel
theorem dX5_causeOf_43 : decode cX5_causeOf 43 = .ok (.getfield 25, 3) := by decide +kernel
theorem dX5_causeOf_46 : decode cX5_causeOf 46 = .ok (.iload_n 1, 1) := by decide +kernel
theorem dX5_causeOf_47 : decode cX5_causeOf 47 = .ok (.iaload, 1) := by decide +kernel
theorem dX5_causeOf_48 : decode cX5_causeOf 48 = .ok (.iconst 2, 1) := by decide +kernel
theorem dX5_causeOf_49 : decode cX5_causeOf 49 = .ok (.if_icmp .ne 8, 3) := by decide +kernel
theorem dX5_causeOf_52 : decode cX5_causeOf 52 = .ok (.bipush 11, 2) := by decide +kernel
theorem dX5_causeOf_54 : decode cX5_causeOf 54 = .ok (.goto 5, 3) := by decide +kernel
theorem dX5_causeOf_57 : decode cX5_causeOf 57 = .ok (.bipush 10, 2) := by decide +kernel
theorem dX5_causeOf_59 : decode cX5_causeOf 59 = .ok (.ireturn, 1) := by decide +kernel
set_option maxRecDepth 20000 in
theorem ggX5_run_X5_act : GoodIn wsX5_run wsX5_act := goodIn_r _ [13, 14, 3, 15, 8, 16, 17, 18, 19, 12, 20, 21, 22, 23, 24, 25, 26, 27, 28, 29, 30, 31, 32, 33, 34, 35, 36, 37, 38, 39, 40, 41, 42, 43, 44, 45, 5, 46, 47, 48, 49, 50, 51, 52, 53, 54, 55, 56, 57, 58, 59, 60, 61, 62, 63, 64, 65, 70, 71, 72, 73, 74, 75, 76, 77, 78, 79, 80, 81, 82, 83, 84, 85, 86, 87, 88, 89, 90, 91, 92, 93, 94, 95, 96, 97, 98, 99, 100, 101] (by decide +kernel) (by decide +kernel)
set_option maxRecDepth 20000 in
theorem gX5_run_X5_act : GoodIn wsX5_run (wsV RX5 149 RX5 yX5_act wsX5_act) := goodIn_app (goodIn_of _ (by decide +kernel)) ggX5_run_X5_act
set_option maxRecDepth 20000 in
theorem ggX5_run_X5_causeOf : GoodIn wsX5_run wsX5_causeOf := goodIn_r _ [69, 14, 3, 15, 17, 18, 19, 12, 20, 21, 22, 23, 24, 25, 70, 71, 72, 73, 74, 75, 76, 77, 78, 79, 80, 81, 82, 83, 84, 85, 86, 87, 88, 89, 90, 91, 92, 93, 94, 95, 96, 97, 98, 99, 100, 101] (by decide +kernel) (by decide +kernel)
set_option maxRecDepth 20000 in
theorem gX5_run_X5_causeOf : GoodIn wsX5_run (wsV RX5 152 RX5 yX5_causeOf wsX5_causeOf) := goodIn_app (goodIn_of _ (by decide +kernel)) ggX5_run_X5_causeOf
theorem dX5_run_0 : decode cX5_run 0 = .ok (.aload_n 0, 1) := by decide +kernel
theorem dX5_run_1 : decode cX5_run 1 = .ok (.iconst 0, 1) := by decide +kernel
theorem dX5_run_2 : decode cX5_run 2 = .ok (.putfield 87, 3) := by decide +kernel
theorem dX5_run_5 : decode cX5_run 5 = .ok (.iload_n 1, 1) := by decide +kernel
theorem dX5_run_6 : decode cX5_run 6 = .ok (.ifCond .lt 24, 3) := by decide +kernel
theorem dX5_run_9 : decode cX5_run 9 = .ok (.iload_n 1, 1) := by decide +kernel
theorem dX5_run_10 : decode cX5_run 10 = .ok (.ldc 103, 2) := by decide +kernel
theorem dX5_run_12 : decode cX5_run 12 = .ok (.if_icmp .gt 18, 3) := by decide +kernel
theorem dX5_run_15 : decode cX5_run 15 = .ok (.aload_n 0, 1) := by decide +kernel
theorem dX5_run_16 : decode cX5_run 16 = .ok (.getfield 94, 3) := by decide +kernel
theorem dX5_run_19 : decode cX5_run 19 = .ok (.i2l, 1) := by decide +kernel
theorem dX5_run_20 : decode cX5_run 20 = .ok (.iload_n 1, 1) := by decide +kernel
theorem dX5_run_21 : decode cX5_run 21 = .ok (.i2l, 1) := by decide +kernel
theorem dX5_run_22 : decode cX5_run 22 = .ok (.ladd, 1) := by decide +kernel
theorem dX5_run_23 : decode cX5_run 23 = .ok (.ldc2_w 104, 3) := by decide +kernel
theorem dX5_run_26 : decode cX5_run 26 = .ok (.lcmp, 1) := by decide +kernel
theorem dX5_run_27 : decode cX5_run 27 = .ok (.ifCond .le 5, 3) := by decide +kernel
theorem dX5_run_30 : decode cX5_run 30 = .ok (.iconst (-1), 1) := by decide +kernel
theorem dX5_run_31 : decode cX5_run 31 = .ok (.ireturn, 1) := by decide +kernel
theorem dX5_run_32 : decode cX5_run 32 = .ok (.aload_n 0, 1) := by decide +kernel
theorem dX5_run_33 : decode cX5_run 33 = .ok (.iconst 0, 1) := by decide +kernel
theorem dX5_run_34 : decode cX5_run 34 = .ok (.putfield 114, 3) := by decide +kernel
theorem dX5_run_37 : decode cX5_run 37 = .ok (.iconst 0, 1) := by decide +kernel
theorem dX5_run_38 : decode cX5_run 38 = .ok (.istore_n 2, 1) := by decide +kernel
theorem dX5_run_39 : decode cX5_run 39 = .ok (.iload_n 2, 1) := by decide +kernel
theorem dX5_run_40 : decode cX5_run 40 = .ok (.iload_n 1, 1) := by decide +kernel
theorem dX5_run_41 : decode cX5_run 41 = .ok (.if_icmp .ge 99, 3) := by decide +kernel
theorem dX5_run_44 : decode cX5_run 44 = .ok (.aload_n 0, 1) := by decide +kernel
theorem dX5_run_45 : decode cX5_run 45 = .ok (.getfield 91, 3) := by decide +kernel
theorem dX5_run_48 : decode cX5_run 48 = .ok (.iconst 1, 1) := by decide +kernel
theorem dX5_run_49 : decode cX5_run 49 = .ok (.isub, 1) := by decide +kernel
theorem dX5_run_50 : decode cX5_run 50 = .ok (.istore_n 3, 1) := by decide +kernel
theorem dX5_run_51 : decode cX5_run 51 = .ok (.iload_n 3, 1) := by decide +kernel
theorem dX5_run_52 : decode cX5_run 52 = .ok (.ifCond .lt 14, 3) := by decide +kernel
theorem dX5_run_55 : decode cX5_run 55 = .ok (.aload_n 0, 1) := by decide +kernel
theorem dX5_run_56 : decode cX5_run 56 = .ok (.iload_n 3, 1) := by decide +kernel
theorem dX5_run_57 : decode cX5_run 57 = .ok (.invokevirtual 149, 3) := by decide +kernel
theorem dX5_run_60 : decode cX5_run 60 = .ok (.iinc 3 (-1), 3) := by decide +kernel
theorem dX5_run_63 : decode cX5_run 63 = .ok (.goto (-12), 3) := by decide +kernel
theorem dX5_run_66 : decode cX5_run 66 = .ok (.iconst 0, 1) := by decide +kernel
theorem dX5_run_67 : decode cX5_run 67 = .ok (.istore_n 3, 1) := by decide +kernel
theorem dX5_run_68 : decode cX5_run 68 = .ok (.iload_n 3, 1) := by decide +kernel
theorem dX5_run_69 : decode cX5_run 69 = .ok (.aload_n 0, 1) := by decide +kernel
theorem dX5_run_70 : decode cX5_run 70 = .ok (.getfield 91, 3) := by decide +kernel
theorem dX5_run_73 : decode cX5_run 73 = .ok (.if_icmp .ge 51, 3) := by decide +kernel
theorem dX5_run_76 : decode cX5_run 76 = .ok (.aload_n 0, 1) := by decide +kernel
theorem dX5_run_77 : decode cX5_run 77 = .ok (.iload_n 3, 1) := by decide +kernel
theorem dX5_run_78 : decode cX5_run 78 = .ok (.invokevirtual 152, 3) := by decide +kernel
theorem dX5_run_81 : decode cX5_run 81 = .ok (.istore 4, 2) := by decide +kernel
theorem dX5_run_83 : decode cX5_run 83 = .ok (.aload_n 0, 1) := by decide +kernel
theorem dX5_run_84 : decode cX5_run 84 = .ok (.getfield 68, 3) := by decide +kernel
theorem dX5_run_87 : decode cX5_run 87 = .ok (.iload_n 3, 1) := by decide +kernel
theorem dX5_run_88 : decode cX5_run 88 = .ok (.bipush 12, 2) := by decide +kernel
theorem dX5_run_90 : decode cX5_run 90 = .ok (.imul, 1) := by decide +kernel
theorem dX5_run_91 : decode cX5_run 91 = .ok (.iload 4, 2) := by decide +kernel
theorem dX5_run_93 : decode cX5_run 93 = .ok (.iadd, 1) := by decide +kernel
theorem dX5_run_94 : decode cX5_run 94 = .ok (.dup2, 1) := by decide +kernel
theorem dX5_run_95 : decode cX5_run 95 = .ok (.laload, 1) := by decide +kernel
theorem dX5_run_96 : decode cX5_run 96 = .ok (.lconst 1, 1) := by decide +kernel
theorem dX5_run_97 : decode cX5_run 97 = .ok (.ladd, 1) := by decide +kernel
theorem dX5_run_98 : decode cX5_run 98 = .ok (.lastore, 1) := by decide +kernel
theorem dX5_run_99 : decode cX5_run 99 = .ok (.aload_n 0, 1) := by decide +kernel
theorem dX5_run_100 : decode cX5_run 100 = .ok (.getfield 28, 3) := by decide +kernel
theorem dX5_run_103 : decode cX5_run 103 = .ok (.iload_n 3, 1) := by decide +kernel
theorem dX5_run_104 : decode cX5_run 104 = .ok (.dup2, 1) := by decide +kernel
theorem dX5_run_105 : decode cX5_run 105 = .ok (.iaload, 1) := by decide +kernel
theorem dX5_run_106 : decode cX5_run 106 = .ok (.iload 4, 2) := by decide +kernel
theorem dX5_run_108 : decode cX5_run 108 = .ok (.ifCond .ne 7, 3) := by decide +kernel
theorem dX5_run_111 : decode cX5_run 111 = .ok (.iconst 1, 1) := by decide +kernel
theorem dX5_run_112 : decode cX5_run 112 = .ok (.goto 4, 3) := by decide +kernel
theorem dX5_run_115 : decode cX5_run 115 = .ok (.iconst 0, 1) := by decide +kernel
theorem dX5_run_116 : decode cX5_run 116 = .ok (.iadd, 1) := by decide +kernel
theorem dX5_run_117 : decode cX5_run 117 = .ok (.iastore, 1) := by decide +kernel
theorem dX5_run_118 : decode cX5_run 118 = .ok (.iinc 3 1, 3) := by decide +kernel
theorem dX5_run_121 : decode cX5_run 121 = .ok (.goto (-53), 3) := by decide +kernel
theorem dX5_run_124 : decode cX5_run 124 = .ok (.aload_n 0, 1) := by decide +kernel
theorem dX5_run_125 : decode cX5_run 125 = .ok (.dup, 1) := by decide +kernel
theorem dX5_run_126 : decode cX5_run 126 = .ok (.getfield 94, 3) := by decide +kernel
theorem dX5_run_129 : decode cX5_run 129 = .ok (.iconst 1, 1) := by decide +kernel
theorem dX5_run_130 : decode cX5_run 130 = .ok (.iadd, 1) := by decide +kernel
theorem dX5_run_131 : decode cX5_run 131 = .ok (.putfield 94, 3) := by decide +kernel
theorem dX5_run_134 : decode cX5_run 134 = .ok (.iinc 2 1, 3) := by decide +kernel
theorem dX5_run_137 : decode cX5_run 137 = .ok (.goto (-98), 3) := by decide +kernel
theorem dX5_run_140 : decode cX5_run 140 = .ok (.aload_n 0, 1) := by decide +kernel
theorem dX5_run_141 : decode cX5_run 141 = .ok (.getfield 114, 3) := by decide +kernel
theorem dX5_run_144 : decode cX5_run 144 = .ok (.ireturn, 1) := by decide +kernel
theorem dX5_event_0 : decode cX5_event 0 = .ok (.aload_n 0, 1) := by decide +kernel
theorem dX5_event_1 : decode cX5_event 1 = .ok (.iconst 0, 1) := by decide +kernel
theorem dX5_event_2 : decode cX5_event 2 = .ok (.putfield 87, 3) := by decide +kernel
theorem dX5_event_5 : decode cX5_event 5 = .ok (.iload_n 1, 1) := by decide +kernel
theorem dX5_event_6 : decode cX5_event 6 = .ok (.ifCond .lt 18, 3) := by decide +kernel
theorem dX5_event_9 : decode cX5_event 9 = .ok (.iload_n 1, 1) := by decide +kernel
theorem dX5_event_10 : decode cX5_event 10 = .ok (.aload_n 0, 1) := by decide +kernel
theorem dX5_event_11 : decode cX5_event 11 = .ok (.getfield 114, 3) := by decide +kernel
theorem dX5_event_14 : decode cX5_event 14 = .ok (.if_icmp .ge 10, 3) := by decide +kernel
theorem dX5_event_17 : decode cX5_event 17 = .ok (.iload_n 1, 1) := by decide +kernel
theorem dX5_event_18 : decode cX5_event 18 = .ok (.sipush 1000, 3) := by decide +kernel
theorem dX5_event_21 : decode cX5_event 21 = .ok (.if_icmp .lt 5, 3) := by decide +kernel
theorem dX5_event_24 : decode cX5_event 24 = .ok (.iconst (-1), 1) := by decide +kernel
theorem dX5_event_25 : decode cX5_event 25 = .ok (.ireturn, 1) := by decide +kernel
theorem dX5_event_26 : decode cX5_event 26 = .ok (.iload_n 2, 1) := by decide +kernel
theorem dX5_event_27 : decode cX5_event 27 = .ok (.ifCond .ne 12, 3) := by decide +kernel
theorem dX5_event_30 : decode cX5_event 30 = .ok (.aload_n 0, 1) := by decide +kernel
theorem dX5_event_31 : decode cX5_event 31 = .ok (.getfield 74, 3) := by decide +kernel
theorem dX5_event_34 : decode cX5_event 34 = .ok (.iload_n 1, 1) := by decide +kernel
theorem dX5_event_35 : decode cX5_event 35 = .ok (.iaload, 1) := by decide +kernel
theorem dX5_event_36 : decode cX5_event 36 = .ok (.goto 32, 3) := by decide +kernel
theorem dX5_event_39 : decode cX5_event 39 = .ok (.iload_n 2, 1) := by decide +kernel
theorem dX5_event_40 : decode cX5_event 40 = .ok (.iconst 1, 1) := by decide +kernel
theorem dX5_event_41 : decode cX5_event 41 = .ok (.if_icmp .ne 12, 3) := by decide +kernel
theorem dX5_event_44 : decode cX5_event 44 = .ok (.aload_n 0, 1) := by decide +kernel
theorem dX5_event_45 : decode cX5_event 45 = .ok (.getfield 77, 3) := by decide +kernel
theorem dX5_event_48 : decode cX5_event 48 = .ok (.iload_n 1, 1) := by decide +kernel
theorem dX5_event_49 : decode cX5_event 49 = .ok (.iaload, 1) := by decide +kernel
theorem dX5_event_50 : decode cX5_event 50 = .ok (.goto 18, 3) := by decide +kernel
theorem dX5_event_53 : decode cX5_event 53 = .ok (.iload_n 2, 1) := by decide +kernel
theorem dX5_event_54 : decode cX5_event 54 = .ok (.iconst 2, 1) := by decide +kernel
theorem dX5_event_55 : decode cX5_event 55 = .ok (.if_icmp .ne 12, 3) := by decide +kernel
theorem dX5_event_58 : decode cX5_event 58 = .ok (.aload_n 0, 1) := by decide +kernel
theorem dX5_event_59 : decode cX5_event 59 = .ok (.getfield 80, 3) := by decide +kernel
theorem dX5_event_62 : decode cX5_event 62 = .ok (.iload_n 1, 1) := by decide +kernel
theorem dX5_event_63 : decode cX5_event 63 = .ok (.iaload, 1) := by decide +kernel
theorem dX5_event_64 : decode cX5_event 64 = .ok (.goto 4, 3) := by decide +kernel
theorem dX5_event_67 : decode cX5_event 67 = .ok (.iconst (-1), 1) := by decide +kernel
theorem dX5_event_68 : decode cX5_event 68 = .ok (.ireturn, 1) := by decide +kernel
theorem dX5_made_0 : decode cX5_made 0 = .ok (.aload_n 0, 1) := by decide +kernel
theorem dX5_made_1 : decode cX5_made 1 = .ok (.iconst 0, 1) := by decide +kernel
theorem dX5_made_2 : decode cX5_made 2 = .ok (.putfield 87, 3) := by decide +kernel
theorem dX5_made_5 : decode cX5_made 5 = .ok (.aload_n 0, 1) := by decide +kernel
theorem dX5_made_6 : decode cX5_made 6 = .ok (.getfield 129, 3) := by decide +kernel
theorem dX5_made_9 : decode cX5_made 9 = .ok (.lreturn, 1) := by decide +kernel
theorem dX5_within_0 : decode cX5_within 0 = .ok (.lconst 0, 1) := by decide +kernel
theorem dX5_within_1 : decode cX5_within 1 = .ok (.lstore_n 1, 1) := by decide +kernel
theorem dX5_within_2 : decode cX5_within 2 = .ok (.iconst 0, 1) := by decide +kernel
theorem dX5_within_3 : decode cX5_within 3 = .ok (.istore_n 3, 1) := by decide +kernel
theorem dX5_within_4 : decode cX5_within 4 = .ok (.iload_n 3, 1) := by decide +kernel
theorem dX5_within_5 : decode cX5_within 5 = .ok (.aload_n 0, 1) := by decide +kernel
theorem dX5_within_6 : decode cX5_within 6 = .ok (.getfield 91, 3) := by decide +kernel
theorem dX5_within_9 : decode cX5_within 9 = .ok (.if_icmp .ge 34, 3) := by decide +kernel
theorem dX5_within_12 : decode cX5_within 12 = .ok (.lload_n 1, 1) := by decide +kernel
theorem dX5_within_13 : decode cX5_within 13 = .ok (.aload_n 0, 1) := by decide +kernel
theorem dX5_within_14 : decode cX5_within 14 = .ok (.getfield 40, 3) := by decide +kernel
theorem dX5_within_17 : decode cX5_within 17 = .ok (.iload_n 3, 1) := by decide +kernel
theorem dX5_within_18 : decode cX5_within 18 = .ok (.iaload, 1) := by decide +kernel
theorem dX5_within_19 : decode cX5_within 19 = .ok (.aload_n 0, 1) := by decide +kernel
theorem dX5_within_20 : decode cX5_within 20 = .ok (.getfield 25, 3) := by decide +kernel
theorem dX5_within_23 : decode cX5_within 23 = .ok (.iload_n 3, 1) := by decide +kernel
theorem dX5_within_24 : decode cX5_within 24 = .ok (.iaload, 1) := by decide +kernel
theorem dX5_within_25 : decode cX5_within 25 = .ok (.ifCond .ne 7, 3) := by decide +kernel
theorem dX5_within_28 : decode cX5_within 28 = .ok (.iconst 0, 1) := by decide +kernel
theorem dX5_within_29 : decode cX5_within 29 = .ok (.goto 4, 3) := by decide +kernel
theorem dX5_within_32 : decode cX5_within 32 = .ok (.iconst 1, 1) := by decide +kernel
theorem dX5_within_33 : decode cX5_within 33 = .ok (.iadd, 1) := by decide +kernel
theorem dX5_within_34 : decode cX5_within 34 = .ok (.i2l, 1) := by decide +kernel
theorem dX5_within_35 : decode cX5_within 35 = .ok (.ladd, 1) := by decide +kernel
theorem dX5_within_36 : decode cX5_within 36 = .ok (.lstore_n 1, 1) := by decide +kernel
theorem dX5_within_37 : decode cX5_within 37 = .ok (.iinc 3 1, 3) := by decide +kernel
theorem dX5_within_40 : decode cX5_within 40 = .ok (.goto (-36), 3) := by decide +kernel
theorem dX5_within_43 : decode cX5_within 43 = .ok (.lload_n 1, 1) := by decide +kernel
theorem dX5_within_44 : decode cX5_within 44 = .ok (.lreturn, 1) := by decide +kernel
set_option maxRecDepth 20000 in
theorem ggX5_inside_X5_within : GoodIn wsX5_inside wsX5_within := goodIn_r _ [6, 7, 8, 9, 10, 11, 12, 13, 14, 15, 16, 17, 18, 19, 20, 21, 22, 23, 24, 25, 26, 27, 28, 29, 30, 31, 32, 33, 34, 35, 36, 37, 38, 39, 40, 41] (by decide +kernel) (by decide +kernel)
set_option maxRecDepth 20000 in
theorem gX5_inside_X5_within : GoodIn wsX5_inside (wsV RX5 155 RX5 yX5_within wsX5_within) := goodIn_app (goodIn_of _ (by decide +kernel)) ggX5_inside_X5_within
theorem dX5_inside_0 : decode cX5_inside 0 = .ok (.aload_n 0, 1) := by decide +kernel
theorem dX5_inside_1 : decode cX5_inside 1 = .ok (.iconst 0, 1) := by decide +kernel
theorem dX5_inside_2 : decode cX5_inside 2 = .ok (.putfield 87, 3) := by decide +kernel
theorem dX5_inside_5 : decode cX5_inside 5 = .ok (.aload_n 0, 1) := by decide +kernel
theorem dX5_inside_6 : decode cX5_inside 6 = .ok (.invokevirtual 155, 3) := by decide +kernel
theorem dX5_inside_9 : decode cX5_inside 9 = .ok (.lreturn, 1) := by decide +kernel
set_option maxRecDepth 20000 in
theorem ggX5_lost_X5_isMachine : GoodIn wsX5_lost wsX5_isMachine := goodIn_r _ [9, 10, 11, 12, 13, 14, 15, 16, 17, 18, 19, 20, 21, 22, 23, 24, 25, 26, 27, 28, 29, 30, 31, 32, 33, 34, 35, 36, 37, 38, 39, 40, 41, 42] (by decide +kernel) (by decide +kernel)
set_option maxRecDepth 20000 in
theorem gX5_lost_X5_isMachine : GoodIn wsX5_lost (wsV RX5 97 RX5 yX5_isMachine wsX5_isMachine) := goodIn_app (goodIn_of _ (by decide +kernel)) ggX5_lost_X5_isMachine
theorem dX5_lost_0 : decode cX5_lost 0 = .ok (.aload_n 0, 1) := by decide +kernel
theorem dX5_lost_1 : decode cX5_lost 1 = .ok (.aload_n 0, 1) := by decide +kernel
theorem dX5_lost_2 : decode cX5_lost 2 = .ok (.iload_n 1, 1) := by decide +kernel
theorem dX5_lost_3 : decode cX5_lost 3 = .ok (.invokevirtual 97, 3) := by decide +kernel
theorem dX5_lost_6 : decode cX5_lost 6 = .ok (.ifCond .eq 7, 3) := by decide +kernel
theorem dX5_lost_9 : decode cX5_lost 9 = .ok (.iconst 0, 1) := by decide +kernel
theorem dX5_lost_10 : decode cX5_lost 10 = .ok (.goto 4, 3) := by decide +kernel
theorem dX5_lost_13 : decode cX5_lost 13 = .ok (.iconst 1, 1) := by decide +kernel
theorem dX5_lost_14 : decode cX5_lost 14 = .ok (.putfield 87, 3) := by decide +kernel
theorem dX5_lost_17 : decode cX5_lost 17 = .ok (.aload_n 0, 1) := by decide +kernel
theorem dX5_lost_18 : decode cX5_lost 18 = .ok (.getfield 87, 3) := by decide +kernel
theorem dX5_lost_21 : decode cX5_lost 21 = .ok (.iconst 1, 1) := by decide +kernel
theorem dX5_lost_22 : decode cX5_lost 22 = .ok (.if_icmp .eq 13, 3) := by decide +kernel
theorem dX5_lost_25 : decode cX5_lost 25 = .ok (.iload_n 2, 1) := by decide +kernel
theorem dX5_lost_26 : decode cX5_lost 26 = .ok (.ifCond .lt 9, 3) := by decide +kernel
theorem dX5_lost_29 : decode cX5_lost 29 = .ok (.iload_n 2, 1) := by decide +kernel
theorem dX5_lost_30 : decode cX5_lost 30 = .ok (.bipush 12, 2) := by decide +kernel
theorem dX5_lost_32 : decode cX5_lost 32 = .ok (.if_icmp .lt 9, 3) := by decide +kernel
theorem dX5_lost_35 : decode cX5_lost 35 = .ok (.ldc2_w 159, 3) := by decide +kernel
theorem dX5_lost_38 : decode cX5_lost 38 = .ok (.goto 22, 3) := by decide +kernel
theorem dX5_lost_41 : decode cX5_lost 41 = .ok (.aload_n 0, 1) := by decide +kernel
theorem dX5_lost_42 : decode cX5_lost 42 = .ok (.getfield 68, 3) := by decide +kernel
theorem dX5_lost_45 : decode cX5_lost 45 = .ok (.iload_n 1, 1) := by decide +kernel
theorem dX5_lost_46 : decode cX5_lost 46 = .ok (.bipush 12, 2) := by decide +kernel
theorem dX5_lost_48 : decode cX5_lost 48 = .ok (.imul, 1) := by decide +kernel
theorem dX5_lost_49 : decode cX5_lost 49 = .ok (.iload_n 2, 1) := by decide +kernel
theorem dX5_lost_50 : decode cX5_lost 50 = .ok (.iadd, 1) := by decide +kernel
theorem dX5_lost_51 : decode cX5_lost 51 = .ok (.laload, 1) := by decide +kernel
theorem dX5_lost_52 : decode cX5_lost 52 = .ok (.aload_n 0, 1) := by decide +kernel
theorem dX5_lost_53 : decode cX5_lost 53 = .ok (.getfield 9, 3) := by decide +kernel
