theorem dX0_init_0 : decode cX0_init 0 = .ok (.aload_n 0, 1) := by decide +kernel
theorem dX0_init_1 : decode cX0_init 1 = .ok (.invokespecial 3, 3) := by decide +kernel
theorem dX0_init_4 : decode cX0_init 4 = .ok (.aload_n 0, 1) := by decide +kernel
theorem dX0_init_5 : decode cX0_init 5 = .ok (.iconst 1, 1) := by decide +kernel
theorem dX0_init_6 : decode cX0_init 6 = .ok (.putfield 9, 3) := by decide +kernel
theorem dX0_init_9 : decode cX0_init 9 = .ok (.aload_n 0, 1) := by decide +kernel
theorem dX0_init_10 : decode cX0_init 10 = .ok (.sipush 1000, 3) := by decide +kernel
theorem dX0_init_13 : decode cX0_init 13 = .ok (.newarray .int, 2) := by decide +kernel
theorem dX0_init_15 : decode cX0_init 15 = .ok (.putfield 15, 3) := by decide +kernel
theorem dX0_init_18 : decode cX0_init 18 = .ok (.return_, 1) := by decide +kernel
theorem dX0_hasRoom_0 : decode cX0_hasRoom 0 = .ok (.aload_n 0, 1) := by decide +kernel
theorem dX0_hasRoom_1 : decode cX0_hasRoom 1 = .ok (.getfield 19, 3) := by decide +kernel
theorem dX0_hasRoom_4 : decode cX0_hasRoom 4 = .ok (.aload_n 0, 1) := by decide +kernel
theorem dX0_hasRoom_5 : decode cX0_hasRoom 5 = .ok (.getfield 9, 3) := by decide +kernel
theorem dX0_hasRoom_8 : decode cX0_hasRoom 8 = .ok (.if_icmp .ge 7, 3) := by decide +kernel
theorem dX0_hasRoom_11 : decode cX0_hasRoom 11 = .ok (.iconst 1, 1) := by decide +kernel
theorem dX0_hasRoom_12 : decode cX0_hasRoom 12 = .ok (.goto 4, 3) := by decide +kernel
theorem dX0_hasRoom_15 : decode cX0_hasRoom 15 = .ok (.iconst 0, 1) := by decide +kernel
theorem dX0_hasRoom_16 : decode cX0_hasRoom 16 = .ok (.ireturn, 1) := by decide +kernel
theorem dX0_add_0 : decode cX0_add 0 = .ok (.aload_n 0, 1) := by decide +kernel
theorem dX0_add_1 : decode cX0_add 1 = .ok (.getfield 15, 3) := by decide +kernel
theorem dX0_add_4 : decode cX0_add 4 = .ok (.aload_n 0, 1) := by decide +kernel
theorem dX0_add_5 : decode cX0_add 5 = .ok (.getfield 22, 3) := by decide +kernel
theorem dX0_add_8 : decode cX0_add 8 = .ok (.aload_n 0, 1) := by decide +kernel
theorem dX0_add_9 : decode cX0_add 9 = .ok (.getfield 19, 3) := by decide +kernel
theorem dX0_add_12 : decode cX0_add 12 = .ok (.iadd, 1) := by decide +kernel
theorem dX0_add_13 : decode cX0_add 13 = .ok (.sipush 1000, 3) := by decide +kernel
theorem dX0_add_16 : decode cX0_add 16 = .ok (.irem, 1) := by decide +kernel
theorem dX0_add_17 : decode cX0_add 17 = .ok (.iload_n 1, 1) := by decide +kernel
theorem dX0_add_18 : decode cX0_add 18 = .ok (.iastore, 1) := by decide +kernel
theorem dX0_add_19 : decode cX0_add 19 = .ok (.aload_n 0, 1) := by decide +kernel
theorem dX0_add_20 : decode cX0_add 20 = .ok (.dup, 1) := by decide +kernel
theorem dX0_add_21 : decode cX0_add 21 = .ok (.getfield 19, 3) := by decide +kernel
theorem dX0_add_24 : decode cX0_add 24 = .ok (.iconst 1, 1) := by decide +kernel
theorem dX0_add_25 : decode cX0_add 25 = .ok (.iadd, 1) := by decide +kernel
theorem dX0_add_26 : decode cX0_add 26 = .ok (.putfield 19, 3) := by decide +kernel
theorem dX0_add_29 : decode cX0_add 29 = .ok (.return_, 1) := by decide +kernel
theorem dX0_readyAt_0 : decode cX0_readyAt 0 = .ok (.aload_n 0, 1) := by decide +kernel
theorem dX0_readyAt_1 : decode cX0_readyAt 1 = .ok (.getfield 19, 3) := by decide +kernel
theorem dX0_readyAt_4 : decode cX0_readyAt 4 = .ok (.ifCond .le 24, 3) := by decide +kernel
theorem dX0_readyAt_7 : decode cX0_readyAt 7 = .ok (.aload_n 0, 1) := by decide +kernel
theorem dX0_readyAt_8 : decode cX0_readyAt 8 = .ok (.getfield 15, 3) := by decide +kernel
theorem dX0_readyAt_11 : decode cX0_readyAt 11 = .ok (.aload_n 0, 1) := by decide +kernel
theorem dX0_readyAt_12 : decode cX0_readyAt 12 = .ok (.getfield 22, 3) := by decide +kernel
theorem dX0_readyAt_15 : decode cX0_readyAt 15 = .ok (.iaload, 1) := by decide +kernel
theorem dX0_readyAt_16 : decode cX0_readyAt 16 = .ok (.iconst 1, 1) := by decide +kernel
theorem dX0_readyAt_17 : decode cX0_readyAt 17 = .ok (.aload_n 0, 1) := by decide +kernel
theorem dX0_readyAt_18 : decode cX0_readyAt 18 = .ok (.getfield 25, 3) := by decide +kernel
theorem dX0_readyAt_21 : decode cX0_readyAt 21 = .ok (.invokestatic 28, 3) := by decide +kernel
theorem dX0_readyAt_24 : decode cX0_readyAt 24 = .ok (.iadd, 1) := by decide +kernel
theorem dX0_readyAt_25 : decode cX0_readyAt 25 = .ok (.goto 5, 3) := by decide +kernel
theorem dX0_readyAt_28 : decode cX0_readyAt 28 = .ok (.ldc 34, 2) := by decide +kernel
theorem dX0_readyAt_30 : decode cX0_readyAt 30 = .ok (.ireturn, 1) := by decide +kernel
set_option maxRecDepth 20000 in
theorem ggX0_isReady_X0_readyAt : GoodIn wsX0_isReady wsX0_readyAt := goodIn_r _ [6, 1, 7, 8, 9, 10, 11, 12, 13, 14, 15, 16, 17, 18, 19] (by decide +kernel) (by decide +kernel)
set_option maxRecDepth 20000 in
theorem gX0_isReady_X0_readyAt : GoodIn wsX0_isReady (wsV RX0 35 RX0 yX0_readyAt wsX0_readyAt) := goodIn_app (goodIn_of _ (by decide +kernel)) ggX0_isReady_X0_readyAt
theorem dX0_isReady_0 : decode cX0_isReady 0 = .ok (.aload_n 0, 1) := by decide +kernel
theorem dX0_isReady_1 : decode cX0_isReady 1 = .ok (.getfield 19, 3) := by decide +kernel
theorem dX0_isReady_4 : decode cX0_isReady 4 = .ok (.ifCond .le 15, 3) := by decide +kernel
theorem dX0_isReady_7 : decode cX0_isReady 7 = .ok (.iload_n 1, 1) := by decide +kernel
theorem dX0_isReady_8 : decode cX0_isReady 8 = .ok (.aload_n 0, 1) := by decide +kernel
theorem dX0_isReady_9 : decode cX0_isReady 9 = .ok (.invokevirtual 35, 3) := by decide +kernel
theorem dX0_isReady_12 : decode cX0_isReady 12 = .ok (.if_icmp .lt 7, 3) := by decide +kernel
theorem dX0_isReady_15 : decode cX0_isReady 15 = .ok (.iconst 1, 1) := by decide +kernel
theorem dX0_isReady_16 : decode cX0_isReady 16 = .ok (.goto 4, 3) := by decide +kernel
theorem dX0_isReady_19 : decode cX0_isReady 19 = .ok (.iconst 0, 1) := by decide +kernel
theorem dX0_isReady_20 : decode cX0_isReady 20 = .ok (.ireturn, 1) := by decide +kernel
theorem dX0_removeFirst_0 : decode cX0_removeFirst 0 = .ok (.aload_n 0, 1) := by decide +kernel
theorem dX0_removeFirst_1 : decode cX0_removeFirst 1 = .ok (.aload_n 0, 1) := by decide +kernel
theorem dX0_removeFirst_2 : decode cX0_removeFirst 2 = .ok (.getfield 22, 3) := by decide +kernel
theorem dX0_removeFirst_5 : decode cX0_removeFirst 5 = .ok (.iconst 1, 1) := by decide +kernel
theorem dX0_removeFirst_6 : decode cX0_removeFirst 6 = .ok (.iadd, 1) := by decide +kernel
theorem dX0_removeFirst_7 : decode cX0_removeFirst 7 = .ok (.sipush 1000, 3) := by decide +kernel
theorem dX0_removeFirst_10 : decode cX0_removeFirst 10 = .ok (.irem, 1) := by decide +kernel
theorem dX0_removeFirst_11 : decode cX0_removeFirst 11 = .ok (.putfield 22, 3) := by decide +kernel
theorem dX0_removeFirst_14 : decode cX0_removeFirst 14 = .ok (.aload_n 0, 1) := by decide +kernel
theorem dX0_removeFirst_15 : decode cX0_removeFirst 15 = .ok (.dup, 1) := by decide +kernel
theorem dX0_removeFirst_16 : decode cX0_removeFirst 16 = .ok (.getfield 19, 3) := by decide +kernel
theorem dX0_removeFirst_19 : decode cX0_removeFirst 19 = .ok (.iconst 1, 1) := by decide +kernel
theorem dX0_removeFirst_20 : decode cX0_removeFirst 20 = .ok (.isub, 1) := by decide +kernel
theorem dX0_removeFirst_21 : decode cX0_removeFirst 21 = .ok (.putfield 19, 3) := by decide +kernel
theorem dX0_removeFirst_24 : decode cX0_removeFirst 24 = .ok (.return_, 1) := by decide +kernel
theorem dX1_init_0 : decode cX1_init 0 = .ok (.aload_n 0, 1) := by decide +kernel
theorem dX1_init_1 : decode cX1_init 1 = .ok (.invokespecial 1, 3) := by decide +kernel
theorem dX1_init_4 : decode cX1_init 4 = .ok (.aload_n 0, 1) := by decide +kernel
theorem dX1_init_5 : decode cX1_init 5 = .ok (.lload_n 1, 1) := by decide +kernel
theorem dX1_init_6 : decode cX1_init 6 = .ok (.putfield 7, 3) := by decide +kernel
theorem dX1_init_9 : decode cX1_init 9 = .ok (.aload_n 0, 1) := by decide +kernel
theorem dX1_init_10 : decode cX1_init 10 = .ok (.lload_n 3, 1) := by decide +kernel
theorem dX1_init_11 : decode cX1_init 11 = .ok (.putfield 13, 3) := by decide +kernel
theorem dX1_init_14 : decode cX1_init 14 = .ok (.aload_n 0, 1) := by decide +kernel
theorem dX1_init_15 : decode cX1_init 15 = .ok (.iload 5, 2) := by decide +kernel
theorem dX1_init_17 : decode cX1_init 17 = .ok (.putfield 16, 3) := by decide +kernel
theorem dX1_init_20 : decode cX1_init 20 = .ok (.return_, 1) := by decide +kernel
set_option maxRecDepth 20000 in
theorem ggX2_init_X0_init : GoodIn wsX2_init wsX0_init := goodIn_r _ [16, 17, 2, 3, 18, 19, 20, 21, 22, 23, 24, 25] (by decide +kernel) (by decide +kernel)
set_option maxRecDepth 20000 in
theorem gX2_init_X0_init_n11 : GoodIn wsX2_init (wsX0_init) := ggX2_init_X0_init
theorem dX2_init_0 : decode cX2_init 0 = .ok (.aload_n 0, 1) := by decide +kernel
theorem dX2_init_1 : decode cX2_init 1 = .ok (.invokespecial 3, 3) := by decide +kernel
theorem dX2_init_4 : decode cX2_init 4 = .ok (.aload_n 0, 1) := by decide +kernel
theorem dX2_init_5 : decode cX2_init 5 = .ok (.new 9, 3) := by decide +kernel
theorem dX2_init_8 : decode cX2_init 8 = .ok (.dup, 1) := by decide +kernel
theorem dX2_init_9 : decode cX2_init 9 = .ok (.invokespecial 11, 3) := by decide +kernel
theorem dX2_init_12 : decode cX2_init 12 = .ok (.putfield 12, 3) := by decide +kernel
theorem dX2_init_15 : decode cX2_init 15 = .ok (.aload_n 0, 1) := by decide +kernel
theorem dX2_init_16 : decode cX2_init 16 = .ok (.iconst (-1), 1) := by decide +kernel
theorem dX2_init_17 : decode cX2_init 17 = .ok (.putfield 18, 3) := by decide +kernel
theorem dX2_init_20 : decode cX2_init 20 = .ok (.aload_n 0, 1) := by decide +kernel
theorem dX2_init_21 : decode cX2_init 21 = .ok (.bipush 12, 2) := by decide +kernel
theorem dX2_init_23 : decode cX2_init 23 = .ok (.newarray .long, 2) := by decide +kernel
theorem dX2_init_25 : decode cX2_init 25 = .ok (.putfield 22, 3) := by decide +kernel
theorem dX2_init_28 : decode cX2_init 28 = .ok (.aload_n 0, 1) := by decide +kernel
theorem dX2_init_29 : decode cX2_init 29 = .ok (.iload_n 1, 1) := by decide +kernel
theorem dX2_init_30 : decode cX2_init 30 = .ok (.putfield 26, 3) := by decide +kernel
theorem dX2_init_33 : decode cX2_init 33 = .ok (.aload_n 0, 1) := by decide +kernel
theorem dX2_init_34 : decode cX2_init 34 = .ok (.iload_n 2, 1) := by decide +kernel
theorem dX2_init_35 : decode cX2_init 35 = .ok (.putfield 29, 3) := by decide +kernel
theorem dX2_init_38 : decode cX2_init 38 = .ok (.aload_n 0, 1) := by decide +kernel
theorem dX2_init_39 : decode cX2_init 39 = .ok (.aload_n 3, 1) := by decide +kernel
theorem dX2_init_40 : decode cX2_init 40 = .ok (.putfield 32, 3) := by decide +kernel
theorem dX2_init_43 : decode cX2_init 43 = .ok (.aload_n 0, 1) := by decide +kernel
theorem dX2_init_44 : decode cX2_init 44 = .ok (.aload 4, 2) := by decide +kernel
theorem dX2_init_46 : decode cX2_init 46 = .ok (.ifnonnull 7, 3) := by decide +kernel
theorem dX2_init_49 : decode cX2_init 49 = .ok (.aconst_null, 1) := by decide +kernel
theorem dX2_init_50 : decode cX2_init 50 = .ok (.goto 8, 3) := by decide +kernel
theorem dX2_init_53 : decode cX2_init 53 = .ok (.aload 4, 2) := by decide +kernel
theorem dX2_init_55 : decode cX2_init 55 = .ok (.getfield 12, 3) := by decide +kernel
theorem dX2_init_58 : decode cX2_init 58 = .ok (.putfield 36, 3) := by decide +kernel
theorem dX2_init_61 : decode cX2_init 61 = .ok (.return_, 1) := by decide +kernel
theorem dX2_addFault_0 : decode cX2_addFault 0 = .ok (.aload_n 0, 1) := by decide +kernel
theorem dX2_addFault_1 : decode cX2_addFault 1 = .ok (.getfield 39, 3) := by decide +kernel
theorem dX2_addFault_4 : decode cX2_addFault 4 = .ok (.ifnonnull 11, 3) := by decide +kernel
theorem dX2_addFault_7 : decode cX2_addFault 7 = .ok (.aload_n 0, 1) := by decide +kernel
theorem dX2_addFault_8 : decode cX2_addFault 8 = .ok (.aload_n 1, 1) := by decide +kernel
theorem dX2_addFault_9 : decode cX2_addFault 9 = .ok (.putfield 43, 3) := by decide +kernel
theorem dX2_addFault_12 : decode cX2_addFault 12 = .ok (.goto 11, 3) := by decide +kernel
theorem dX2_addFault_15 : decode cX2_addFault 15 = .ok (.aload_n 0, 1) := by decide +kernel
theorem dX2_addFault_16 : decode cX2_addFault 16 = .ok (.getfield 39, 3) := by decide +kernel
theorem dX2_addFault_19 : decode cX2_addFault 19 = .ok (.aload_n 1, 1) := by decide +kernel
theorem dX2_addFault_20 : decode cX2_addFault 20 = .ok (.putfield 46, 3) := by decide +kernel
theorem dX2_addFault_23 : decode cX2_addFault 23 = .ok (.aload_n 0, 1) := by decide +kernel
theorem dX2_addFault_24 : decode cX2_addFault 24 = .ok (.aload_n 1, 1) := by decide +kernel
theorem dX2_addFault_25 : decode cX2_addFault 25 = .ok (.putfield 39, 3) := by decide +kernel
theorem dX2_addFault_28 : decode cX2_addFault 28 = .ok (.aload_n 0, 1) := by decide +kernel
theorem dX2_addFault_29 : decode cX2_addFault 29 = .ok (.dup, 1) := by decide +kernel
theorem dX2_addFault_30 : decode cX2_addFault 30 = .ok (.getfield 51, 3) := by decide +kernel
theorem dX2_addFault_33 : decode cX2_addFault 33 = .ok (.iconst 1, 1) := by decide +kernel
theorem dX2_addFault_34 : decode cX2_addFault 34 = .ok (.iadd, 1) := by decide +kernel
theorem dX2_addFault_35 : decode cX2_addFault 35 = .ok (.putfield 51, 3) := by decide +kernel
theorem dX2_addFault_38 : decode cX2_addFault 38 = .ok (.return_, 1) := by decide +kernel
theorem dX2_stands_0 : decode cX2_stands 0 = .ok (.aload_n 0, 1) := by decide +kernel
theorem dX2_stands_1 : decode cX2_stands 1 = .ok (.getfield 18, 3) := by decide +kernel
theorem dX2_stands_4 : decode cX2_stands 4 = .ok (.iconst (-1), 1) := by decide +kernel
theorem dX2_stands_5 : decode cX2_stands 5 = .ok (.if_icmp .ne 11, 3) := by decide +kernel
theorem dX2_stands_8 : decode cX2_stands 8 = .ok (.iload_n 1, 1) := by decide +kernel
theorem dX2_stands_9 : decode cX2_stands 9 = .ok (.aload_n 0, 1) := by decide +kernel
theorem dX2_stands_10 : decode cX2_stands 10 = .ok (.getfield 54, 3) := by decide +kernel
theorem dX2_stands_13 : decode cX2_stands 13 = .ok (.if_icmp .ge 7, 3) := by decide +kernel
theorem dX2_stands_16 : decode cX2_stands 16 = .ok (.iconst 1, 1) := by decide +kernel
theorem dX2_stands_17 : decode cX2_stands 17 = .ok (.goto 4, 3) := by decide +kernel
theorem dX2_stands_20 : decode cX2_stands 20 = .ok (.iconst 0, 1) := by decide +kernel
theorem dX2_stands_21 : decode cX2_stands 21 = .ok (.ireturn, 1) := by decide +kernel
theorem dX2_isDone_0 : decode cX2_isDone 0 = .ok (.aload_n 0, 1) := by decide +kernel
theorem dX2_isDone_1 : decode cX2_isDone 1 = .ok (.getfield 57, 3) := by decide +kernel
theorem dX2_isDone_4 : decode cX2_isDone 4 = .ok (.ifCond .eq 18, 3) := by decide +kernel
theorem dX2_isDone_7 : decode cX2_isDone 7 = .ok (.aload_n 0, 1) := by decide +kernel
theorem dX2_isDone_8 : decode cX2_isDone 8 = .ok (.getfield 61, 3) := by decide +kernel
theorem dX2_isDone_11 : decode cX2_isDone 11 = .ok (.aload_n 0, 1) := by decide +kernel
theorem dX2_isDone_12 : decode cX2_isDone 12 = .ok (.getfield 29, 3) := by decide +kernel
theorem dX2_isDone_15 : decode cX2_isDone 15 = .ok (.if_icmp .lt 7, 3) := by decide +kernel
theorem dX2_isDone_18 : decode cX2_isDone 18 = .ok (.iconst 1, 1) := by decide +kernel
theorem dX2_isDone_19 : decode cX2_isDone 19 = .ok (.goto 4, 3) := by decide +kernel
theorem dX2_isDone_22 : decode cX2_isDone 22 = .ok (.iconst 0, 1) := by decide +kernel
theorem dX2_isDone_23 : decode cX2_isDone 23 = .ok (.ireturn, 1) := by decide +kernel
theorem dX2_putAway_0 : decode cX2_putAway 0 = .ok (.aload_n 0, 1) := by decide +kernel
theorem dX2_putAway_1 : decode cX2_putAway 1 = .ok (.iconst 0, 1) := by decide +kernel
theorem dX2_putAway_2 : decode cX2_putAway 2 = .ok (.putfield 57, 3) := by decide +kernel
theorem dX2_putAway_5 : decode cX2_putAway 5 = .ok (.aload_n 0, 1) := by decide +kernel
theorem dX2_putAway_6 : decode cX2_putAway 6 = .ok (.iconst 0, 1) := by decide +kernel
theorem dX2_putAway_7 : decode cX2_putAway 7 = .ok (.putfield 64, 3) := by decide +kernel
theorem dX2_putAway_10 : decode cX2_putAway 10 = .ok (.aload_n 0, 1) := by decide +kernel
theorem dX2_putAway_11 : decode cX2_putAway 11 = .ok (.iconst 0, 1) := by decide +kernel
theorem dX2_putAway_12 : decode cX2_putAway 12 = .ok (.putfield 61, 3) := by decide +kernel
theorem dX2_putAway_15 : decode cX2_putAway 15 = .ok (.return_, 1) := by decide +kernel
theorem dX2_causeAt_0 : decode cX2_causeAt 0 = .ok (.aload_n 0, 1) := by decide +kernel
theorem dX2_causeAt_1 : decode cX2_causeAt 1 = .ok (.getfield 18, 3) := by decide +kernel
theorem dX2_causeAt_4 : decode cX2_causeAt 4 = .ok (.iconst (-1), 1) := by decide +kernel
theorem dX2_causeAt_5 : decode cX2_causeAt 5 = .ok (.if_icmp .eq 8, 3) := by decide +kernel
theorem dX2_causeAt_8 : decode cX2_causeAt 8 = .ok (.aload_n 0, 1) := by decide +kernel
theorem dX2_causeAt_9 : decode cX2_causeAt 9 = .ok (.getfield 18, 3) := by decide +kernel
theorem dX2_causeAt_12 : decode cX2_causeAt 12 = .ok (.ireturn, 1) := by decide +kernel
theorem dX2_causeAt_13 : decode cX2_causeAt 13 = .ok (.iload_n 1, 1) := by decide +kernel
theorem dX2_causeAt_14 : decode cX2_causeAt 14 = .ok (.aload_n 0, 1) := by decide +kernel
theorem dX2_causeAt_15 : decode cX2_causeAt 15 = .ok (.getfield 54, 3) := by decide +kernel
theorem dX2_causeAt_18 : decode cX2_causeAt 18 = .ok (.if_icmp .ge 5, 3) := by decide +kernel
theorem dX2_causeAt_21 : decode cX2_causeAt 21 = .ok (.iconst 3, 1) := by decide +kernel
theorem dX2_causeAt_22 : decode cX2_causeAt 22 = .ok (.ireturn, 1) := by decide +kernel
theorem dX2_causeAt_23 : decode cX2_causeAt 23 = .ok (.aload_n 0, 1) := by decide +kernel
theorem dX2_causeAt_24 : decode cX2_causeAt 24 = .ok (.getfield 57, 3) := by decide +kernel
theorem dX2_causeAt_27 : decode cX2_causeAt 27 = .ok (.ifCond .ne 6, 3) := by decide +kernel
theorem dX2_causeAt_30 : decode cX2_causeAt 30 = .ok (.bipush 10, 2) := by decide +kernel
theorem dX2_causeAt_32 : decode cX2_causeAt 32 = .ok (.ireturn, 1) := by decide +kernel
theorem dX2_causeAt_33 : decode cX2_causeAt 33 = .ok (.aload_n 0, 1) := by decide +kernel
theorem dX2_causeAt_34 : decode cX2_causeAt 34 = .ok (.getfield 61, 3) := by decide +kernel
theorem dX2_causeAt_37 : decode cX2_causeAt 37 = .ok (.aload_n 0, 1) := by decide +kernel
theorem dX2_causeAt_38 : decode cX2_causeAt 38 = .ok (.getfield 29, 3) := by decide +kernel
theorem dX2_causeAt_41 : decode cX2_causeAt 41 = .ok (.if_icmp .ge 7, 3) := by decide +kernel
theorem dX2_causeAt_44 : decode cX2_causeAt 44 = .ok (.iconst 0, 1) := by decide +kernel
theorem dX2_causeAt_45 : decode cX2_causeAt 45 = .ok (.goto 5, 3) := by decide +kernel
theorem dX2_causeAt_48 : decode cX2_causeAt 48 = .ok (.bipush 11, 2) := by decide +kernel
theorem dX2_causeAt_50 : decode cX2_causeAt 50 = .ok (.ireturn, 1) := by decide +kernel
set_option maxRecDepth 20000 in
theorem ggX2_quietTenths_X2_causeAt : GoodIn wsX2_quietTenths wsX2_causeAt := goodIn_r _ [10, 11, 3, 12, 2, 1, 27, 28, 29, 30, 31, 32, 33, 34, 35, 36, 37, 38, 39, 40, 41, 42] (by decide +kernel) (by decide +kernel)
set_option maxRecDepth 20000 in
theorem gX2_quietTenths_X2_causeAt : GoodIn wsX2_quietTenths (wsV RX2 67 RX2 yX2_causeAt wsX2_causeAt) := goodIn_app (goodIn_of _ (by decide +kernel)) ggX2_quietTenths_X2_causeAt
set_option maxRecDepth 20000 in
theorem ggX2_quietTenths_X0_readyAt : GoodIn wsX2_quietTenths wsX0_readyAt := goodIn_r _ [17, 18, 19, 20, 21, 22, 23, 24, 25, 26, 43, 44, 45, 46, 47] (by decide +kernel) (by decide +kernel)
set_option maxRecDepth 20000 in
theorem gX2_quietTenths_X0_readyAt : GoodIn wsX2_quietTenths (wsV RX2 71 RX0 yX0_readyAt wsX0_readyAt) := goodIn_app (goodIn_of _ (by decide +kernel)) ggX2_quietTenths_X0_readyAt
theorem dX2_quietTenths_0 : decode cX2_quietTenths 0 = .ok (.aload_n 0, 1) := by decide +kernel
theorem dX2_quietTenths_1 : decode cX2_quietTenths 1 = .ok (.iload_n 1, 1) := by decide +kernel
theorem dX2_quietTenths_2 : decode cX2_quietTenths 2 = .ok (.invokevirtual 67, 3) := by decide +kernel
theorem dX2_quietTenths_5 : decode cX2_quietTenths 5 = .ok (.lookupswitch 73 #[(0, 35), (3, 45), (10, 52)], 35) := by decide +kernel
theorem dX2_quietTenths_40 : decode cX2_quietTenths 40 = .ok (.aload_n 0, 1) := by decide +kernel
theorem dX2_quietTenths_41 : decode cX2_quietTenths 41 = .ok (.getfield 29, 3) := by decide +kernel
theorem dX2_quietTenths_44 : decode cX2_quietTenths 44 = .ok (.aload_n 0, 1) := by decide +kernel
theorem dX2_quietTenths_45 : decode cX2_quietTenths 45 = .ok (.getfield 61, 3) := by decide +kernel
theorem dX2_quietTenths_48 : decode cX2_quietTenths 48 = .ok (.isub, 1) := by decide +kernel
theorem dX2_quietTenths_49 : decode cX2_quietTenths 49 = .ok (.ireturn, 1) := by decide +kernel
theorem dX2_quietTenths_50 : decode cX2_quietTenths 50 = .ok (.aload_n 0, 1) := by decide +kernel
theorem dX2_quietTenths_51 : decode cX2_quietTenths 51 = .ok (.getfield 54, 3) := by decide +kernel
theorem dX2_quietTenths_54 : decode cX2_quietTenths 54 = .ok (.iload_n 1, 1) := by decide +kernel
theorem dX2_quietTenths_55 : decode cX2_quietTenths 55 = .ok (.isub, 1) := by decide +kernel
theorem dX2_quietTenths_56 : decode cX2_quietTenths 56 = .ok (.ireturn, 1) := by decide +kernel
theorem dX2_quietTenths_57 : decode cX2_quietTenths 57 = .ok (.aload_n 0, 1) := by decide +kernel
theorem dX2_quietTenths_58 : decode cX2_quietTenths 58 = .ok (.getfield 36, 3) := by decide +kernel
theorem dX2_quietTenths_61 : decode cX2_quietTenths 61 = .ok (.ifnonnull 7, 3) := by decide +kernel
theorem dX2_quietTenths_64 : decode cX2_quietTenths 64 = .ok (.iconst 0, 1) := by decide +kernel
theorem dX2_quietTenths_65 : decode cX2_quietTenths 65 = .ok (.goto 12, 3) := by decide +kernel
theorem dX2_quietTenths_68 : decode cX2_quietTenths 68 = .ok (.aload_n 0, 1) := by decide +kernel
theorem dX2_quietTenths_69 : decode cX2_quietTenths 69 = .ok (.getfield 36, 3) := by decide +kernel
theorem dX2_quietTenths_72 : decode cX2_quietTenths 72 = .ok (.invokevirtual 71, 3) := by decide +kernel
theorem dX2_quietTenths_75 : decode cX2_quietTenths 75 = .ok (.iload_n 1, 1) := by decide +kernel
theorem dX2_quietTenths_76 : decode cX2_quietTenths 76 = .ok (.isub, 1) := by decide +kernel
theorem dX2_quietTenths_77 : decode cX2_quietTenths 77 = .ok (.ireturn, 1) := by decide +kernel
theorem dX2_quietTenths_78 : decode cX2_quietTenths 78 = .ok (.ldc 75, 2) := by decide +kernel
theorem dX2_quietTenths_80 : decode cX2_quietTenths 80 = .ok (.ireturn, 1) := by decide +kernel
theorem dX2_spend_0 : decode cX2_spend 0 = .ok (.aload_n 0, 1) := by decide +kernel
theorem dX2_spend_1 : decode cX2_spend 1 = .ok (.getfield 22, 3) := by decide +kernel
theorem dX2_spend_4 : decode cX2_spend 4 = .ok (.iload_n 1, 1) := by decide +kernel
theorem dX2_spend_5 : decode cX2_spend 5 = .ok (.dup2, 1) := by decide +kernel
theorem dX2_spend_6 : decode cX2_spend 6 = .ok (.laload, 1) := by decide +kernel
theorem dX2_spend_7 : decode cX2_spend 7 = .ok (.iload_n 2, 1) := by decide +kernel
theorem dX2_spend_8 : decode cX2_spend 8 = .ok (.i2l, 1) := by decide +kernel
theorem dX2_spend_9 : decode cX2_spend 9 = .ok (.ladd, 1) := by decide +kernel
theorem dX2_spend_10 : decode cX2_spend 10 = .ok (.lastore, 1) := by decide +kernel
theorem dX2_spend_11 : decode cX2_spend 11 = .ok (.iload_n 1, 1) := by decide +kernel
theorem dX2_spend_12 : decode cX2_spend 12 = .ok (.ifCond .ne 13, 3) := by decide +kernel
theorem dX2_spend_15 : decode cX2_spend 15 = .ok (.aload_n 0, 1) := by decide +kernel
theorem dX2_spend_16 : decode cX2_spend 16 = .ok (.dup, 1) := by decide +kernel
theorem dX2_spend_17 : decode cX2_spend 17 = .ok (.getfield 61, 3) := by decide +kernel
theorem dX2_spend_20 : decode cX2_spend 20 = .ok (.iload_n 2, 1) := by decide +kernel
theorem dX2_spend_21 : decode cX2_spend 21 = .ok (.iadd, 1) := by decide +kernel
theorem dX2_spend_22 : decode cX2_spend 22 = .ok (.putfield 61, 3) := by decide +kernel
theorem dX2_spend_25 : decode cX2_spend 25 = .ok (.return_, 1) := by decide +kernel
theorem dX2_allTimes_0 : decode cX2_allTimes 0 = .ok (.lconst 0, 1) := by decide +kernel
theorem dX2_allTimes_1 : decode cX2_allTimes 1 = .ok (.lstore_n 1, 1) := by decide +kernel
theorem dX2_allTimes_2 : decode cX2_allTimes 2 = .ok (.aload_n 0, 1) := by decide +kernel
theorem dX2_allTimes_3 : decode cX2_allTimes 3 = .ok (.getfield 22, 3) := by decide +kernel
theorem dX2_allTimes_6 : decode cX2_allTimes 6 = .ok (.astore_n 3, 1) := by decide +kernel
theorem dX2_allTimes_7 : decode cX2_allTimes 7 = .ok (.aload_n 3, 1) := by decide +kernel
theorem dX2_allTimes_8 : decode cX2_allTimes 8 = .ok (.arraylength, 1) := by decide +kernel
theorem dX2_allTimes_9 : decode cX2_allTimes 9 = .ok (.istore 4, 2) := by decide +kernel
theorem dX2_allTimes_11 : decode cX2_allTimes 11 = .ok (.iconst 0, 1) := by decide +kernel
theorem dX2_allTimes_12 : decode cX2_allTimes 12 = .ok (.istore 5, 2) := by decide +kernel
theorem dX2_allTimes_14 : decode cX2_allTimes 14 = .ok (.iload 5, 2) := by decide +kernel
theorem dX2_allTimes_16 : decode cX2_allTimes 16 = .ok (.iload 4, 2) := by decide +kernel
theorem dX2_allTimes_18 : decode cX2_allTimes 18 = .ok (.if_icmp .ge 20, 3) := by decide +kernel
theorem dX2_allTimes_21 : decode cX2_allTimes 21 = .ok (.aload_n 3, 1) := by decide +kernel
theorem dX2_allTimes_22 : decode cX2_allTimes 22 = .ok (.iload 5, 2) := by decide +kernel
theorem dX2_allTimes_24 : decode cX2_allTimes 24 = .ok (.laload, 1) := by decide +kernel
theorem dX2_allTimes_25 : decode cX2_allTimes 25 = .ok (.lstore 6, 2) := by decide +kernel
theorem dX2_allTimes_27 : decode cX2_allTimes 27 = .ok (.lload_n 1, 1) := by decide +kernel
theorem dX2_allTimes_28 : decode cX2_allTimes 28 = .ok (.lload 6, 2) := by decide +kernel
theorem dX2_allTimes_30 : decode cX2_allTimes 30 = .ok (.ladd, 1) := by decide +kernel
theorem dX2_allTimes_31 : decode cX2_allTimes 31 = .ok (.lstore_n 1, 1) := by decide +kernel
theorem dX2_allTimes_32 : decode cX2_allTimes 32 = .ok (.iinc 5 1, 3) := by decide +kernel
theorem dX2_allTimes_35 : decode cX2_allTimes 35 = .ok (.goto (-21), 3) := by decide +kernel
theorem dX2_allTimes_38 : decode cX2_allTimes 38 = .ok (.lload_n 1, 1) := by decide +kernel
theorem dX2_allTimes_39 : decode cX2_allTimes 39 = .ok (.lreturn, 1) := by decide +kernel
theorem dX3_init_0 : decode cX3_init 0 = .ok (.aload_n 0, 1) := by decide +kernel
theorem dX3_init_1 : decode cX3_init 1 = .ok (.invokespecial 3, 3) := by decide +kernel
theorem dX3_init_4 : decode cX3_init 4 = .ok (.aload_n 0, 1) := by decide +kernel
theorem dX3_init_5 : decode cX3_init 5 = .ok (.iload_n 1, 1) := by decide +kernel
theorem dX3_init_6 : decode cX3_init 6 = .ok (.putfield 9, 3) := by decide +kernel
theorem dX3_init_9 : decode cX3_init 9 = .ok (.aload_n 0, 1) := by decide +kernel
theorem dX3_init_10 : decode cX3_init 10 = .ok (.iload_n 2, 1) := by decide +kernel
theorem dX3_init_11 : decode cX3_init 11 = .ok (.putfield 15, 3) := by decide +kernel
theorem dX3_init_14 : decode cX3_init 14 = .ok (.aload_n 0, 1) := by decide +kernel
theorem dX3_init_15 : decode cX3_init 15 = .ok (.iload_n 3, 1) := by decide +kernel
theorem dX3_init_16 : decode cX3_init 16 = .ok (.putfield 18, 3) := by decide +kernel
theorem dX3_init_19 : decode cX3_init 19 = .ok (.aload_n 0, 1) := by decide +kernel
theorem dX3_init_20 : decode cX3_init 20 = .ok (.iload 4, 2) := by decide +kernel
theorem dX3_init_22 : decode cX3_init 22 = .ok (.putfield 21, 3) := by decide +kernel
theorem dX3_init_25 : decode cX3_init 25 = .ok (.aload_n 0, 1) := by decide +kernel
theorem dX3_init_26 : decode cX3_init 26 = .ok (.aload 5, 2) := by decide +kernel
theorem dX3_init_28 : decode cX3_init 28 = .ok (.putfield 24, 3) := by decide +kernel
theorem dX3_init_31 : decode cX3_init 31 = .ok (.return_, 1) := by decide +kernel
theorem dX3_holds_0 : decode cX3_holds 0 = .ok (.aload_n 0, 1) := by decide +kernel
theorem dX3_holds_1 : decode cX3_holds 1 = .ok (.getfield 9, 3) := by decide +kernel
theorem dX3_holds_4 : decode cX3_holds 4 = .ok (.iconst (-1), 1) := by decide +kernel
theorem dX3_holds_5 : decode cX3_holds 5 = .ok (.if_icmp .eq 11, 3) := by decide +kernel
theorem dX3_holds_8 : decode cX3_holds 8 = .ok (.aload_n 0, 1) := by decide +kernel
theorem dX3_holds_9 : decode cX3_holds 9 = .ok (.getfield 9, 3) := by decide +kernel
theorem dX3_holds_12 : decode cX3_holds 12 = .ok (.iload_n 1, 1) := by decide +kernel
theorem dX3_holds_13 : decode cX3_holds 13 = .ok (.if_icmp .ne 23, 3) := by decide +kernel
theorem dX3_holds_16 : decode cX3_holds 16 = .ok (.iload_n 2, 1) := by decide +kernel
theorem dX3_holds_17 : decode cX3_holds 17 = .ok (.aload_n 0, 1) := by decide +kernel
theorem dX3_holds_18 : decode cX3_holds 18 = .ok (.getfield 15, 3) := by decide +kernel
theorem dX3_holds_21 : decode cX3_holds 21 = .ok (.if_icmp .lt 15, 3) := by decide +kernel
theorem dX3_holds_24 : decode cX3_holds 24 = .ok (.iload_n 2, 1) := by decide +kernel
theorem dX3_holds_25 : decode cX3_holds 25 = .ok (.aload_n 0, 1) := by decide +kernel
theorem dX3_holds_26 : decode cX3_holds 26 = .ok (.getfield 18, 3) := by decide +kernel
theorem dX3_holds_29 : decode cX3_holds 29 = .ok (.if_icmp .ge 7, 3) := by decide +kernel
theorem dX3_holds_32 : decode cX3_holds 32 = .ok (.iconst 1, 1) := by decide +kernel
theorem dX3_holds_33 : decode cX3_holds 33 = .ok (.goto 4, 3) := by decide +kernel
theorem dX3_holds_36 : decode cX3_holds 36 = .ok (.iconst 0, 1) := by decide +kernel
theorem dX3_holds_37 : decode cX3_holds 37 = .ok (.ireturn, 1) := by decide +kernel
theorem dX3_turnBehind_0 : decode cX3_turnBehind 0 = .ok (.iload_n 1, 1) := by decide +kernel
theorem dX3_turnBehind_1 : decode cX3_turnBehind 1 = .ok (.aload_n 0, 1) := by decide +kernel
theorem dX3_turnBehind_2 : decode cX3_turnBehind 2 = .ok (.getfield 15, 3) := by decide +kernel
theorem dX3_turnBehind_5 : decode cX3_turnBehind 5 = .ok (.if_icmp .ge 8, 3) := by decide +kernel
theorem dX3_turnBehind_8 : decode cX3_turnBehind 8 = .ok (.aload_n 0, 1) := by decide +kernel
theorem dX3_turnBehind_9 : decode cX3_turnBehind 9 = .ok (.getfield 15, 3) := by decide +kernel
theorem dX3_turnBehind_12 : decode cX3_turnBehind 12 = .ok (.ireturn, 1) := by decide +kernel
theorem dX3_turnBehind_13 : decode cX3_turnBehind 13 = .ok (.iload_n 1, 1) := by decide +kernel
theorem dX3_turnBehind_14 : decode cX3_turnBehind 14 = .ok (.aload_n 0, 1) := by decide +kernel
theorem dX3_turnBehind_15 : decode cX3_turnBehind 15 = .ok (.getfield 18, 3) := by decide +kernel
theorem dX3_turnBehind_18 : decode cX3_turnBehind 18 = .ok (.if_icmp .ge 10, 3) := by decide +kernel
theorem dX3_turnBehind_21 : decode cX3_turnBehind 21 = .ok (.aload_n 0, 1) := by decide +kernel
theorem dX3_turnBehind_22 : decode cX3_turnBehind 22 = .ok (.getfield 18, 3) := by decide +kernel
theorem dX3_turnBehind_25 : decode cX3_turnBehind 25 = .ok (.goto 5, 3) := by decide +kernel
theorem dX3_turnBehind_28 : decode cX3_turnBehind 28 = .ok (.ldc 28, 2) := by decide +kernel
theorem dX3_turnBehind_30 : decode cX3_turnBehind 30 = .ok (.ireturn, 1) := by decide +kernel
theorem dX4_init_0 : decode cX4_init 0 = .ok (.aload_n 0, 1) := by decide +kernel
theorem dX4_init_1 : decode cX4_init 1 = .ok (.invokespecial 1, 3) := by decide +kernel
theorem dX4_init_4 : decode cX4_init 4 = .ok (.aload_n 0, 1) := by decide +kernel
theorem dX4_init_5 : decode cX4_init 5 = .ok (.sipush 3000, 3) := by decide +kernel
theorem dX4_init_8 : decode cX4_init 8 = .ok (.newarray .int, 2) := by decide +kernel
theorem dX4_init_10 : decode cX4_init 10 = .ok (.putfield 9, 3) := by decide +kernel
theorem dX4_init_13 : decode cX4_init 13 = .ok (.aload_n 0, 1) := by decide +kernel
theorem dX4_init_14 : decode cX4_init 14 = .ok (.lload_n 1, 1) := by decide +kernel
theorem dX4_init_15 : decode cX4_init 15 = .ok (.putfield 13, 3) := by decide +kernel
theorem dX4_init_18 : decode cX4_init 18 = .ok (.return_, 1) := by decide +kernel
set_option maxRecDepth 20000 in
theorem ggX4_machine_X4_find : GoodIn wsX4_machine wsX4_find := goodIn_r _ [13, 7, 8, 14, 57, 58, 59, 60, 61, 62, 63, 64, 65, 66, 67, 41, 42, 43, 44, 45, 46, 47, 48, 49, 50, 51, 52, 53, 54, 55, 56] (by decide +kernel) (by decide +kernel)
set_option maxRecDepth 20000 in
theorem gX4_machine_X4_find : GoodIn wsX4_machine (wsV RX4 17 RX4 yX4_find wsX4_find) := goodIn_app (goodIn_of _ (by decide +kernel)) ggX4_machine_X4_find
set_option maxRecDepth 20000 in
theorem ggX4_machine_X4_within : GoodIn wsX4_machine wsX4_within := goodIn_r _ [17] (by decide +kernel) (by decide +kernel)
set_option maxRecDepth 20000 in
theorem gX4_machine_X4_within : GoodIn wsX4_machine (va_wsS RX4 31 yX4_within wsX4_within) := goodIn_app (goodIn_of _ (by decide +kernel)) ggX4_machine_X4_within
set_option maxRecDepth 20000 in
theorem ggX4_machine_X2_init : GoodIn wsX4_machine wsX2_init := goodIn_r _ [20, 21, 22, 23, 24, 25, 26, 27, 28, 29, 30, 31, 32, 33, 34, 35, 36, 37, 38, 39, 40, 68, 69, 70, 71, 72, 41, 42, 43, 44, 45, 46, 47, 48, 49, 50, 51, 52, 53, 54, 55, 56] (by decide +kernel) (by decide +kernel)
set_option maxRecDepth 20000 in
theorem gX4_machine_X2_init : GoodIn wsX4_machine (wsX2_init) := ggX4_machine_X2_init
theorem dX4_machine_0 : decode cX4_machine 0 = .ok (.aload_n 0, 1) := by decide +kernel
theorem dX4_machine_1 : decode cX4_machine 1 = .ok (.iload_n 2, 1) := by decide +kernel
theorem dX4_machine_2 : decode cX4_machine 2 = .ok (.invokevirtual 17, 3) := by decide +kernel
theorem dX4_machine_5 : decode cX4_machine 5 = .ok (.astore_n 3, 1) := by decide +kernel
theorem dX4_machine_6 : decode cX4_machine 6 = .ok (.iload_n 2, 1) := by decide +kernel
theorem dX4_machine_7 : decode cX4_machine 7 = .ok (.iconst (-1), 1) := by decide +kernel
theorem dX4_machine_8 : decode cX4_machine 8 = .ok (.if_icmp .eq 14, 3) := by decide +kernel
theorem dX4_machine_11 : decode cX4_machine 11 = .ok (.aload_n 3, 1) := by decide +kernel
theorem dX4_machine_12 : decode cX4_machine 12 = .ok (.ifnull 14, 3) := by decide +kernel
theorem dX4_machine_15 : decode cX4_machine 15 = .ok (.aload_n 3, 1) := by decide +kernel
theorem dX4_machine_16 : decode cX4_machine 16 = .ok (.getfield 21, 3) := by decide +kernel
theorem dX4_machine_19 : decode cX4_machine 19 = .ok (.ifCond .ne 7, 3) := by decide +kernel
theorem dX4_machine_22 : decode cX4_machine 22 = .ok (.iconst 1, 1) := by decide +kernel
theorem dX4_machine_23 : decode cX4_machine 23 = .ok (.goto 4, 3) := by decide +kernel
theorem dX4_machine_26 : decode cX4_machine 26 = .ok (.iconst 0, 1) := by decide +kernel
theorem dX4_machine_27 : decode cX4_machine 27 = .ok (.istore 4, 2) := by decide +kernel
theorem dX4_machine_29 : decode cX4_machine 29 = .ok (.aload_n 0, 1) := by decide +kernel
theorem dX4_machine_30 : decode cX4_machine 30 = .ok (.getfield 27, 3) := by decide +kernel
theorem dX4_machine_33 : decode cX4_machine 33 = .ok (.ifCond .gt 19, 3) := by decide +kernel
theorem dX4_machine_36 : decode cX4_machine 36 = .ok (.iload_n 1, 1) := by decide +kernel
theorem dX4_machine_37 : decode cX4_machine 37 = .ok (.iconst 1, 1) := by decide +kernel
theorem dX4_machine_38 : decode cX4_machine 38 = .ok (.sipush 10000, 3) := by decide +kernel
theorem dX4_machine_41 : decode cX4_machine 41 = .ok (.invokestatic 31, 3) := by decide +kernel
theorem dX4_machine_44 : decode cX4_machine 44 = .ok (.ifCond .eq 8, 3) := by decide +kernel
theorem dX4_machine_47 : decode cX4_machine 47 = .ok (.iload 4, 2) := by decide +kernel
theorem dX4_machine_49 : decode cX4_machine 49 = .ok (.ifCond .ne 5, 3) := by decide +kernel
theorem dX4_machine_52 : decode cX4_machine 52 = .ok (.iconst (-1), 1) := by decide +kernel
theorem dX4_machine_53 : decode cX4_machine 53 = .ok (.ireturn, 1) := by decide +kernel
theorem dX4_machine_54 : decode cX4_machine 54 = .ok (.aload_n 0, 1) := by decide +kernel
theorem dX4_machine_55 : decode cX4_machine 55 = .ok (.getfield 35, 3) := by decide +kernel
theorem dX4_machine_58 : decode cX4_machine 58 = .ok (.bipush 12, 2) := by decide +kernel
theorem dX4_machine_60 : decode cX4_machine 60 = .ok (.if_icmp .lt 6, 3) := by decide +kernel
theorem dX4_machine_63 : decode cX4_machine 63 = .ok (.bipush (-2), 2) := by decide +kernel
theorem dX4_machine_65 : decode cX4_machine 65 = .ok (.ireturn, 1) := by decide +kernel
theorem dX4_machine_66 : decode cX4_machine 66 = .ok (.aload_n 0, 1) := by decide +kernel
theorem dX4_machine_67 : decode cX4_machine 67 = .ok (.new 22, 3) := by decide +kernel
theorem dX4_machine_70 : decode cX4_machine 70 = .ok (.dup, 1) := by decide +kernel
theorem dX4_machine_71 : decode cX4_machine 71 = .ok (.aload_n 0, 1) := by decide +kernel
theorem dX4_machine_72 : decode cX4_machine 72 = .ok (.getfield 35, 3) := by decide +kernel
theorem dX4_machine_75 : decode cX4_machine 75 = .ok (.iload_n 1, 1) := by decide +kernel
theorem dX4_machine_76 : decode cX4_machine 76 = .ok (.aload_n 0, 1) := by decide +kernel
theorem dX4_machine_77 : decode cX4_machine 77 = .ok (.getfield 38, 3) := by decide +kernel
theorem dX4_machine_80 : decode cX4_machine 80 = .ok (.aload_n 3, 1) := by decide +kernel
theorem dX4_machine_81 : decode cX4_machine 81 = .ok (.invokespecial 42, 3) := by decide +kernel
theorem dX4_machine_84 : decode cX4_machine 84 = .ok (.putfield 38, 3) := by decide +kernel
theorem dX4_machine_87 : decode cX4_machine 87 = .ok (.aload_n 3, 1) := by decide +kernel
theorem dX4_machine_88 : decode cX4_machine 88 = .ok (.ifnull 8, 3) := by decide +kernel
theorem dX4_machine_91 : decode cX4_machine 91 = .ok (.aload_n 3, 1) := by decide +kernel
theorem dX4_machine_92 : decode cX4_machine 92 = .ok (.iconst 1, 1) := by decide +kernel
theorem dX4_machine_93 : decode cX4_machine 93 = .ok (.putfield 21, 3) := by decide +kernel
theorem dX4_machine_96 : decode cX4_machine 96 = .ok (.aload_n 0, 1) := by decide +kernel
theorem dX4_machine_97 : decode cX4_machine 97 = .ok (.dup, 1) := by decide +kernel
theorem dX4_machine_98 : decode cX4_machine 98 = .ok (.getfield 35, 3) := by decide +kernel
theorem dX4_machine_101 : decode cX4_machine 101 = .ok (.iconst 1, 1) := by decide +kernel
theorem dX4_machine_102 : decode cX4_machine 102 = .ok (.iadd, 1) := by decide +kernel
theorem dX4_machine_103 : decode cX4_machine 103 = .ok (.putfield 35, 3) := by decide +kernel
theorem dX4_machine_106 : decode cX4_machine 106 = .ok (.aload_n 0, 1) := by decide +kernel
theorem dX4_machine_107 : decode cX4_machine 107 = .ok (.getfield 38, 3) := by decide +kernel
theorem dX4_machine_110 : decode cX4_machine 110 = .ok (.getfield 45, 3) := by decide +kernel
theorem dX4_machine_113 : decode cX4_machine 113 = .ok (.ireturn, 1) := by decide +kernel
set_option maxRecDepth 20000 in
theorem ggX4_buffer_X4_find : GoodIn wsX4_buffer wsX4_find := goodIn_r _ [9, 10, 11, 12, 16, 17, 18, 19, 20, 21, 22, 23, 24, 25, 26, 27, 28, 29, 30, 31, 32, 33, 34, 35, 36, 37, 38, 39, 40, 41, 42] (by decide +kernel) (by decide +kernel)
set_option maxRecDepth 20000 in
theorem gX4_buffer_X4_find : GoodIn wsX4_buffer (wsV RX4 17 RX4 yX4_find wsX4_find) := goodIn_app (goodIn_of _ (by decide +kernel)) ggX4_buffer_X4_find
set_option maxRecDepth 20000 in
theorem ggX4_buffer_X4_within : GoodIn wsX4_buffer wsX4_within := goodIn_r _ [15] (by decide +kernel) (by decide +kernel)
set_option maxRecDepth 20000 in
theorem gX4_buffer_X4_within : GoodIn wsX4_buffer (va_wsS RX4 31 yX4_within wsX4_within) := goodIn_app (goodIn_of _ (by decide +kernel)) ggX4_buffer_X4_within
theorem dX4_buffer_0 : decode cX4_buffer 0 = .ok (.aload_n 0, 1) := by decide +kernel
theorem dX4_buffer_1 : decode cX4_buffer 1 = .ok (.iload_n 1, 1) := by decide +kernel
theorem dX4_buffer_2 : decode cX4_buffer 2 = .ok (.invokevirtual 17, 3) := by decide +kernel
theorem dX4_buffer_5 : decode cX4_buffer 5 = .ok (.astore 4, 2) := by decide +kernel
theorem dX4_buffer_7 : decode cX4_buffer 7 = .ok (.aload_n 0, 1) := by decide +kernel
theorem dX4_buffer_8 : decode cX4_buffer 8 = .ok (.getfield 27, 3) := by decide +kernel
theorem dX4_buffer_11 : decode cX4_buffer 11 = .ok (.ifCond .gt 30, 3) := by decide +kernel
theorem dX4_buffer_14 : decode cX4_buffer 14 = .ok (.aload 4, 2) := by decide +kernel
theorem dX4_buffer_16 : decode cX4_buffer 16 = .ok (.ifnull 25, 3) := by decide +kernel
theorem dX4_buffer_19 : decode cX4_buffer 19 = .ok (.iload_n 2, 1) := by decide +kernel
theorem dX4_buffer_20 : decode cX4_buffer 20 = .ok (.iconst 1, 1) := by decide +kernel
theorem dX4_buffer_21 : decode cX4_buffer 21 = .ok (.sipush 1000, 3) := by decide +kernel
theorem dX4_buffer_24 : decode cX4_buffer 24 = .ok (.invokestatic 31, 3) := by decide +kernel
theorem dX4_buffer_27 : decode cX4_buffer 27 = .ok (.ifCond .eq 14, 3) := by decide +kernel
theorem dX4_buffer_30 : decode cX4_buffer 30 = .ok (.iload_n 3, 1) := by decide +kernel
theorem dX4_buffer_31 : decode cX4_buffer 31 = .ok (.iconst 0, 1) := by decide +kernel
theorem dX4_buffer_32 : decode cX4_buffer 32 = .ok (.sipush 10000, 3) := by decide +kernel
theorem dX4_buffer_35 : decode cX4_buffer 35 = .ok (.invokestatic 31, 3) := by decide +kernel
theorem dX4_buffer_38 : decode cX4_buffer 38 = .ok (.ifCond .ne 5, 3) := by decide +kernel
theorem dX4_buffer_41 : decode cX4_buffer 41 = .ok (.iconst (-1), 1) := by decide +kernel
theorem dX4_buffer_42 : decode cX4_buffer 42 = .ok (.ireturn, 1) := by decide +kernel
theorem dX4_buffer_43 : decode cX4_buffer 43 = .ok (.aload 4, 2) := by decide +kernel
theorem dX4_buffer_45 : decode cX4_buffer 45 = .ok (.getfield 48, 3) := by decide +kernel
theorem dX4_buffer_48 : decode cX4_buffer 48 = .ok (.getfield 52, 3) := by decide +kernel
theorem dX4_buffer_51 : decode cX4_buffer 51 = .ok (.istore 5, 2) := by decide +kernel
theorem dX4_buffer_53 : decode cX4_buffer 53 = .ok (.aload 4, 2) := by decide +kernel
theorem dX4_buffer_55 : decode cX4_buffer 55 = .ok (.getfield 48, 3) := by decide +kernel
theorem dX4_buffer_58 : decode cX4_buffer 58 = .ok (.iload_n 2, 1) := by decide +kernel
theorem dX4_buffer_59 : decode cX4_buffer 59 = .ok (.putfield 52, 3) := by decide +kernel
theorem dX4_buffer_62 : decode cX4_buffer 62 = .ok (.aload 4, 2) := by decide +kernel
theorem dX4_buffer_64 : decode cX4_buffer 64 = .ok (.getfield 48, 3) := by decide +kernel
theorem dX4_buffer_67 : decode cX4_buffer 67 = .ok (.iload_n 3, 1) := by decide +kernel
theorem dX4_buffer_68 : decode cX4_buffer 68 = .ok (.putfield 57, 3) := by decide +kernel
theorem dX4_buffer_71 : decode cX4_buffer 71 = .ok (.iload 5, 2) := by decide +kernel
theorem dX4_buffer_73 : decode cX4_buffer 73 = .ok (.ireturn, 1) := by decide +kernel
set_option maxRecDepth 20000 in
theorem ggX4_fault_X4_find : GoodIn wsX4_fault wsX4_find := goodIn_r _ [12, 13, 14, 15, 37, 38, 39, 40, 41, 42, 43, 44, 45, 46, 47, 48, 49, 50, 51, 52, 53, 54, 55, 56, 57, 58, 59, 60, 61, 62, 63] (by decide +kernel) (by decide +kernel)
set_option maxRecDepth 20000 in
theorem gX4_fault_X4_find : GoodIn wsX4_fault (wsV RX4 17 RX4 yX4_find wsX4_find) := goodIn_app (goodIn_of _ (by decide +kernel)) ggX4_fault_X4_find
set_option maxRecDepth 20000 in
theorem ggX4_fault_X4_within : GoodIn wsX4_fault wsX4_within := goodIn_r _ [18] (by decide +kernel) (by decide +kernel)
set_option maxRecDepth 20000 in
theorem gX4_fault_X4_within : GoodIn wsX4_fault (va_wsS RX4 31 yX4_within wsX4_within) := goodIn_app (goodIn_of _ (by decide +kernel)) ggX4_fault_X4_within
set_option maxRecDepth 20000 in
theorem ggX4_fault_X1_init : GoodIn wsX4_fault wsX1_init := goodIn_r _ [21, 22, 23, 24, 25, 26, 27, 64, 65, 66, 67] (by decide +kernel) (by decide +kernel)
set_option maxRecDepth 20000 in
theorem gX4_fault_X1_init : GoodIn wsX4_fault (wsX1_init) := ggX4_fault_X1_init
set_option maxRecDepth 20000 in
theorem ggX4_fault_X2_addFault : GoodIn wsX4_fault wsX2_addFault := goodIn_r _ [32, 33, 34, 35, 36, 48, 49, 50, 51, 52, 53, 54, 55, 56, 57, 58, 59, 60, 61, 62, 63, 64, 65, 66, 67] (by decide +kernel) (by decide +kernel)
set_option maxRecDepth 20000 in
theorem gX4_fault_X2_addFault : GoodIn wsX4_fault (wsV RX4 71 RX2 yX2_addFault wsX2_addFault) := goodIn_app (goodIn_of _ (by decide +kernel)) ggX4_fault_X2_addFault
theorem dX4_fault_0 : decode cX4_fault 0 = .ok (.aload_n 0, 1) := by decide +kernel
theorem dX4_fault_1 : decode cX4_fault 1 = .ok (.iload_n 1, 1) := by decide +kernel
theorem dX4_fault_2 : decode cX4_fault 2 = .ok (.invokevirtual 17, 3) := by decide +kernel
theorem dX4_fault_5 : decode cX4_fault 5 = .ok (.astore 7, 2) := by decide +kernel
theorem dX4_fault_7 : decode cX4_fault 7 = .ok (.aload_n 0, 1) := by decide +kernel
theorem dX4_fault_8 : decode cX4_fault 8 = .ok (.getfield 27, 3) := by decide +kernel
theorem dX4_fault_11 : decode cX4_fault 11 = .ok (.ifCond .gt 17, 3) := by decide +kernel
theorem dX4_fault_14 : decode cX4_fault 14 = .ok (.aload 7, 2) := by decide +kernel
theorem dX4_fault_16 : decode cX4_fault 16 = .ok (.ifnull 12, 3) := by decide +kernel
theorem dX4_fault_19 : decode cX4_fault 19 = .ok (.aload 7, 2) := by decide +kernel
theorem dX4_fault_21 : decode cX4_fault 21 = .ok (.getfield 60, 3) := by decide +kernel
theorem dX4_fault_24 : decode cX4_fault 24 = .ok (.iconst 4, 1) := by decide +kernel
theorem dX4_fault_25 : decode cX4_fault 25 = .ok (.if_icmp .lt 5, 3) := by decide +kernel
theorem dX4_fault_28 : decode cX4_fault 28 = .ok (.iconst 0, 1) := by decide +kernel
theorem dX4_fault_29 : decode cX4_fault 29 = .ok (.ireturn, 1) := by decide +kernel
theorem dX4_fault_30 : decode cX4_fault 30 = .ok (.lload 4, 2) := by decide +kernel
theorem dX4_fault_32 : decode cX4_fault 32 = .ok (.lconst 1, 1) := by decide +kernel
theorem dX4_fault_33 : decode cX4_fault 33 = .ok (.lcmp, 1) := by decide +kernel
theorem dX4_fault_34 : decode cX4_fault 34 = .ok (.ifCond .lt 25, 3) := by decide +kernel
theorem dX4_fault_37 : decode cX4_fault 37 = .ok (.lload 4, 2) := by decide +kernel
theorem dX4_fault_39 : decode cX4_fault 39 = .ok (.ldc2_w 63, 3) := by decide +kernel
theorem dX4_fault_42 : decode cX4_fault 42 = .ok (.lcmp, 1) := by decide +kernel
theorem dX4_fault_43 : decode cX4_fault 43 = .ok (.ifCond .gt 16, 3) := by decide +kernel
theorem dX4_fault_46 : decode cX4_fault 46 = .ok (.lload_n 2, 1) := by decide +kernel
theorem dX4_fault_47 : decode cX4_fault 47 = .ok (.lconst 0, 1) := by decide +kernel
theorem dX4_fault_48 : decode cX4_fault 48 = .ok (.lcmp, 1) := by decide +kernel
theorem dX4_fault_49 : decode cX4_fault 49 = .ok (.ifCond .lt 10, 3) := by decide +kernel
theorem dX4_fault_52 : decode cX4_fault 52 = .ok (.lload_n 2, 1) := by decide +kernel
theorem dX4_fault_53 : decode cX4_fault 53 = .ok (.lload 4, 2) := by decide +kernel
theorem dX4_fault_55 : decode cX4_fault 55 = .ok (.lcmp, 1) := by decide +kernel
theorem dX4_fault_56 : decode cX4_fault 56 = .ok (.ifCond .le 5, 3) := by decide +kernel
theorem dX4_fault_59 : decode cX4_fault 59 = .ok (.iconst 0, 1) := by decide +kernel
theorem dX4_fault_60 : decode cX4_fault 60 = .ok (.ireturn, 1) := by decide +kernel
theorem dX4_fault_61 : decode cX4_fault 61 = .ok (.iload 6, 2) := by decide +kernel
theorem dX4_fault_63 : decode cX4_fault 63 = .ok (.iconst 0, 1) := by decide +kernel
theorem dX4_fault_64 : decode cX4_fault 64 = .ok (.ldc 65, 2) := by decide +kernel
theorem dX4_fault_66 : decode cX4_fault 66 = .ok (.invokestatic 31, 3) := by decide +kernel
theorem dX4_fault_69 : decode cX4_fault 69 = .ok (.ifCond .ne 5, 3) := by decide +kernel
theorem dX4_fault_72 : decode cX4_fault 72 = .ok (.iconst 0, 1) := by decide +kernel
theorem dX4_fault_73 : decode cX4_fault 73 = .ok (.ireturn, 1) := by decide +kernel
theorem dX4_fault_74 : decode cX4_fault 74 = .ok (.aload 7, 2) := by decide +kernel
theorem dX4_fault_76 : decode cX4_fault 76 = .ok (.new 66, 3) := by decide +kernel
theorem dX4_fault_79 : decode cX4_fault 79 = .ok (.dup, 1) := by decide +kernel
theorem dX4_fault_80 : decode cX4_fault 80 = .ok (.lload_n 2, 1) := by decide +kernel
theorem dX4_fault_81 : decode cX4_fault 81 = .ok (.lload 4, 2) := by decide +kernel
theorem dX4_fault_83 : decode cX4_fault 83 = .ok (.iload 6, 2) := by decide +kernel
theorem dX4_fault_85 : decode cX4_fault 85 = .ok (.invokespecial 68, 3) := by decide +kernel
theorem dX4_fault_88 : decode cX4_fault 88 = .ok (.invokevirtual 71, 3) := by decide +kernel
theorem dX4_fault_91 : decode cX4_fault 91 = .ok (.iconst 1, 1) := by decide +kernel
theorem dX4_fault_92 : decode cX4_fault 92 = .ok (.ireturn, 1) := by decide +kernel
set_option maxRecDepth 20000 in
theorem ggX4_row_X4_find : GoodIn wsX4_row wsX4_find := goodIn_r _ [5, 6, 7, 8, 35, 36, 37, 38, 39, 40, 41, 42, 43, 44, 45, 46, 47, 48, 49, 50, 51, 52, 53, 54, 55, 56, 57, 58, 59, 60, 61] (by decide +kernel) (by decide +kernel)
set_option maxRecDepth 20000 in
theorem gX4_row_X4_find : GoodIn wsX4_row (wsV RX4 17 RX4 yX4_find wsX4_find) := goodIn_app (goodIn_of _ (by decide +kernel)) ggX4_row_X4_find
set_option maxRecDepth 20000 in
theorem ggX4_row_X4_within : GoodIn wsX4_row wsX4_within := goodIn_r _ [11] (by decide +kernel) (by decide +kernel)
set_option maxRecDepth 20000 in
theorem gX4_row_X4_within : GoodIn wsX4_row (va_wsS RX4 31 yX4_within wsX4_within) := goodIn_app (goodIn_of _ (by decide +kernel)) ggX4_row_X4_within
set_option maxRecDepth 20000 in
theorem ggX4_row_X4_addRow : GoodIn wsX4_row wsX4_addRow := goodIn_r _ [15, 16, 17, 18, 19, 20, 21, 22, 23, 24, 25, 26, 27, 28, 29, 30, 31, 32, 33, 34, 35, 36, 37, 38, 39, 40, 41, 42, 43, 44, 45, 62, 63, 64, 65, 66] (by decide +kernel) (by decide +kernel)
set_option maxRecDepth 20000 in
theorem gX4_row_X4_addRow : GoodIn wsX4_row (wsV RX4 75 RX4 yX4_addRow wsX4_addRow) := goodIn_app (goodIn_of _ (by decide +kernel)) ggX4_row_X4_addRow
theorem dX4_row_0 : decode cX4_row 0 = .ok (.aload_n 0, 1) := by decide +kernel
theorem dX4_row_1 : decode cX4_row 1 = .ok (.iload_n 1, 1) := by decide +kernel
theorem dX4_row_2 : decode cX4_row 2 = .ok (.invokevirtual 17, 3) := by decide +kernel
theorem dX4_row_5 : decode cX4_row 5 = .ok (.ifnull 30, 3) := by decide +kernel
theorem dX4_row_8 : decode cX4_row 8 = .ok (.iload 4, 2) := by decide +kernel
theorem dX4_row_10 : decode cX4_row 10 = .ok (.iconst 4, 1) := by decide +kernel
theorem dX4_row_11 : decode cX4_row 11 = .ok (.bipush 9, 2) := by decide +kernel
theorem dX4_row_13 : decode cX4_row 13 = .ok (.invokestatic 31, 3) := by decide +kernel
theorem dX4_row_16 : decode cX4_row 16 = .ok (.ifCond .eq 19, 3) := by decide +kernel
theorem dX4_row_19 : decode cX4_row 19 = .ok (.aload_n 0, 1) := by decide +kernel
theorem dX4_row_20 : decode cX4_row 20 = .ok (.iload_n 1, 1) := by decide +kernel
theorem dX4_row_21 : decode cX4_row 21 = .ok (.iload_n 2, 1) := by decide +kernel
theorem dX4_row_22 : decode cX4_row 22 = .ok (.iload_n 3, 1) := by decide +kernel
theorem dX4_row_23 : decode cX4_row 23 = .ok (.iload 4, 2) := by decide +kernel
theorem dX4_row_25 : decode cX4_row 25 = .ok (.invokevirtual 75, 3) := by decide +kernel
theorem dX4_row_28 : decode cX4_row 28 = .ok (.ifCond .eq 7, 3) := by decide +kernel
theorem dX4_row_31 : decode cX4_row 31 = .ok (.iconst 1, 1) := by decide +kernel
theorem dX4_row_32 : decode cX4_row 32 = .ok (.goto 4, 3) := by decide +kernel
theorem dX4_row_35 : decode cX4_row 35 = .ok (.iconst 0, 1) := by decide +kernel
theorem dX4_row_36 : decode cX4_row 36 = .ok (.ireturn, 1) := by decide +kernel
set_option maxRecDepth 20000 in
theorem ggX4_run_X4_within : GoodIn wsX4_run wsX4_within := goodIn_r _ [16] (by decide +kernel) (by decide +kernel)
set_option maxRecDepth 20000 in
theorem gX4_run_X4_within : GoodIn wsX4_run (va_wsS RX4 31 yX4_within wsX4_within) := goodIn_app (goodIn_of _ (by decide +kernel)) ggX4_run_X4_within
set_option maxRecDepth 20000 in
theorem ggX4_run_X4_lookAtRows : GoodIn wsX4_run wsX4_lookAtRows := goodIn_r _ [20, 21, 22, 23, 24, 2, 5, 25, 3, 6, 7, 8, 9, 26, 27, 28, 29, 15, 30, 31, 32, 33, 34, 35, 36, 37, 38, 39, 40, 41, 42, 43, 44, 167, 168, 169, 170, 171, 172, 173, 174, 175, 176, 177, 178, 179, 180, 181, 182, 183, 184, 185, 186, 187, 188, 189, 190, 191, 192, 193, 194, 195, 196, 197, 198] (by decide +kernel) (by decide +kernel)
set_option maxRecDepth 20000 in
theorem gX4_run_X4_lookAtRows : GoodIn wsX4_run (wsV RX4 86 RX4 yX4_lookAtRows wsX4_lookAtRows) := goodIn_app (goodIn_of _ (by decide +kernel)) ggX4_run_X4_lookAtRows
set_option maxRecDepth 20000 in
theorem ggX4_run_X4_actAll : GoodIn wsX4_run wsX4_actAll := goodIn_r _ [48, 21, 3, 24, 49, 50, 51, 52, 53, 54, 55, 56, 57, 58, 15, 59, 60, 61, 62, 63, 64, 65, 66, 67, 68, 69, 70, 71, 72, 73, 74, 75, 76, 10, 11, 8, 12, 77, 78, 79, 80, 81, 82, 83, 84, 85, 86, 87, 88, 89, 90, 91, 92, 93, 94, 95, 96, 97, 98, 99, 4, 100, 22, 101, 102, 103, 104, 105, 106, 107, 108, 109, 110, 111, 112, 113, 114, 115, 116, 117, 118, 119, 120, 121, 122, 123, 124, 125, 126, 127, 128, 129, 130, 131, 132, 133, 134, 135, 136, 137, 138, 139, 140, 141, 167, 168, 169, 170, 171, 172, 173, 174, 175, 176, 177, 178, 179, 180, 181, 182, 183, 184, 185, 186, 187, 188, 189, 190, 191, 192, 193, 199, 200, 201, 202, 203, 204, 205, 206, 207] (by decide +kernel) (by decide +kernel)
set_option maxRecDepth 20000 in
theorem gX4_run_X4_actAll : GoodIn wsX4_run (wsV RX4 89 RX4 yX4_actAll wsX4_actAll) := goodIn_app (goodIn_of _ (by decide +kernel)) ggX4_run_X4_actAll
set_option maxRecDepth 20000 in
theorem ggX4_run_X4_quietTenths : GoodIn wsX4_run wsX4_quietTenths := goodIn_r _ [145, 5, 3, 21, 6, 7, 8, 9, 24, 146, 147, 148, 52, 149, 68, 67, 55, 150, 151, 152, 153, 154, 155, 54, 66, 156, 132, 133, 111, 134, 113, 119, 120, 135, 136, 11, 12, 137, 167, 168, 169, 170, 171, 172, 173, 174, 175, 176, 177, 178, 179, 180, 181, 182, 183, 184, 185, 186, 187, 188, 189, 190, 191, 192, 193, 203, 204, 205, 206, 207] (by decide +kernel) (by decide +kernel)
set_option maxRecDepth 20000 in
theorem gX4_run_X4_quietTenths : GoodIn wsX4_run (wsV RX4 92 RX4 yX4_quietTenths wsX4_quietTenths) := goodIn_app (goodIn_of _ (by decide +kernel)) ggX4_run_X4_quietTenths
set_option maxRecDepth 20000 in
theorem ggX4_run_X4_passTime : GoodIn wsX4_run wsX4_passTime := goodIn_r _ [160, 21, 3, 24, 161, 153, 154, 52, 155, 54, 55, 66, 67, 68, 162, 163, 164, 165, 166, 167, 168, 169, 170, 171, 172, 173, 174, 175, 176, 177, 178, 179, 180, 181, 182, 183, 184, 185, 186, 187, 188, 189, 190, 191, 192, 193] (by decide +kernel) (by decide +kernel)
set_option maxRecDepth 20000 in
theorem gX4_run_X4_passTime : GoodIn wsX4_run (wsV RX4 105 RX4 yX4_passTime wsX4_passTime) := goodIn_app (goodIn_of _ (by decide +kernel)) ggX4_run_X4_passTime
theorem dX4_run_0 : decode cX4_run 0 = .ok (.iload_n 1, 1) := by decide +kernel
theorem dX4_run_1 : decode cX4_run 1 = .ok (.iconst 0, 1) := by decide +kernel
theorem dX4_run_2 : decode cX4_run 2 = .ok (.ldc 65, 2) := by decide +kernel
theorem dX4_run_4 : decode cX4_run 4 = .ok (.invokestatic 31, 3) := by decide +kernel
theorem dX4_run_7 : decode cX4_run 7 = .ok (.ifCond .eq 14, 3) := by decide +kernel
theorem dX4_run_10 : decode cX4_run 10 = .ok (.iload_n 1, 1) := by decide +kernel
theorem dX4_run_11 : decode cX4_run 11 = .ok (.ldc 79, 2) := by decide +kernel
theorem dX4_run_13 : decode cX4_run 13 = .ok (.aload_n 0, 1) := by decide +kernel
theorem dX4_run_14 : decode cX4_run 14 = .ok (.getfield 27, 3) := by decide +kernel
theorem dX4_run_17 : decode cX4_run 17 = .ok (.isub, 1) := by decide +kernel
theorem dX4_run_18 : decode cX4_run 18 = .ok (.if_icmp .le 5, 3) := by decide +kernel
theorem dX4_run_21 : decode cX4_run 21 = .ok (.iconst (-1), 1) := by decide +kernel
theorem dX4_run_22 : decode cX4_run 22 = .ok (.ireturn, 1) := by decide +kernel
theorem dX4_run_23 : decode cX4_run 23 = .ok (.aload_n 0, 1) := by decide +kernel
theorem dX4_run_24 : decode cX4_run 24 = .ok (.iconst 0, 1) := by decide +kernel
theorem dX4_run_25 : decode cX4_run 25 = .ok (.putfield 80, 3) := by decide +kernel
theorem dX4_run_28 : decode cX4_run 28 = .ok (.iload_n 1, 1) := by decide +kernel
theorem dX4_run_29 : decode cX4_run 29 = .ok (.istore_n 2, 1) := by decide +kernel
theorem dX4_run_30 : decode cX4_run 30 = .ok (.iload_n 2, 1) := by decide +kernel
theorem dX4_run_31 : decode cX4_run 31 = .ok (.ifCond .le 47, 3) := by decide +kernel
theorem dX4_run_34 : decode cX4_run 34 = .ok (.aload_n 0, 1) := by decide +kernel
theorem dX4_run_35 : decode cX4_run 35 = .ok (.getfield 27, 3) := by decide +kernel
theorem dX4_run_38 : decode cX4_run 38 = .ok (.aload_n 0, 1) := by decide +kernel
theorem dX4_run_39 : decode cX4_run 39 = .ok (.getfield 83, 3) := by decide +kernel
theorem dX4_run_42 : decode cX4_run 42 = .ok (.if_icmp .lt 7, 3) := by decide +kernel
theorem dX4_run_45 : decode cX4_run 45 = .ok (.aload_n 0, 1) := by decide +kernel
theorem dX4_run_46 : decode cX4_run 46 = .ok (.invokevirtual 86, 3) := by decide +kernel
theorem dX4_run_49 : decode cX4_run 49 = .ok (.aload_n 0, 1) := by decide +kernel
theorem dX4_run_50 : decode cX4_run 50 = .ok (.invokevirtual 89, 3) := by decide +kernel
theorem dX4_run_53 : decode cX4_run 53 = .ok (.iconst 1, 1) := by decide +kernel
theorem dX4_run_54 : decode cX4_run 54 = .ok (.iload_n 2, 1) := by decide +kernel
theorem dX4_run_55 : decode cX4_run 55 = .ok (.aload_n 0, 1) := by decide +kernel
theorem dX4_run_56 : decode cX4_run 56 = .ok (.invokevirtual 92, 3) := by decide +kernel
theorem dX4_run_59 : decode cX4_run 59 = .ok (.invokestatic 96, 3) := by decide +kernel
theorem dX4_run_62 : decode cX4_run 62 = .ok (.invokestatic 102, 3) := by decide +kernel
theorem dX4_run_65 : decode cX4_run 65 = .ok (.istore_n 3, 1) := by decide +kernel
theorem dX4_run_66 : decode cX4_run 66 = .ok (.aload_n 0, 1) := by decide +kernel
theorem dX4_run_67 : decode cX4_run 67 = .ok (.iload_n 3, 1) := by decide +kernel
theorem dX4_run_68 : decode cX4_run 68 = .ok (.invokevirtual 105, 3) := by decide +kernel
theorem dX4_run_71 : decode cX4_run 71 = .ok (.iload_n 2, 1) := by decide +kernel
theorem dX4_run_72 : decode cX4_run 72 = .ok (.iload_n 3, 1) := by decide +kernel
theorem dX4_run_73 : decode cX4_run 73 = .ok (.isub, 1) := by decide +kernel
theorem dX4_run_74 : decode cX4_run 74 = .ok (.istore_n 2, 1) := by decide +kernel
theorem dX4_run_75 : decode cX4_run 75 = .ok (.goto (-45), 3) := by decide +kernel
theorem dX4_run_78 : decode cX4_run 78 = .ok (.aload_n 0, 1) := by decide +kernel
theorem dX4_run_79 : decode cX4_run 79 = .ok (.getfield 80, 3) := by decide +kernel
theorem dX4_run_82 : decode cX4_run 82 = .ok (.ireturn, 1) := by decide +kernel
set_option maxRecDepth 20000 in
theorem ggX4_event_X4_within : GoodIn wsX4_event wsX4_within := goodIn_r _ [6] (by decide +kernel) (by decide +kernel)
set_option maxRecDepth 20000 in
theorem gX4_event_X4_within : GoodIn wsX4_event (va_wsS RX4 31 yX4_within wsX4_within) := goodIn_app (goodIn_of _ (by decide +kernel)) ggX4_event_X4_within
theorem dX4_event_0 : decode cX4_event 0 = .ok (.iload_n 1, 1) := by decide +kernel
theorem dX4_event_1 : decode cX4_event 1 = .ok (.ifCond .lt 27, 3) := by decide +kernel
theorem dX4_event_4 : decode cX4_event 4 = .ok (.iload_n 1, 1) := by decide +kernel
theorem dX4_event_5 : decode cX4_event 5 = .ok (.aload_n 0, 1) := by decide +kernel
theorem dX4_event_6 : decode cX4_event 6 = .ok (.getfield 80, 3) := by decide +kernel
theorem dX4_event_9 : decode cX4_event 9 = .ok (.if_icmp .ge 19, 3) := by decide +kernel
theorem dX4_event_12 : decode cX4_event 12 = .ok (.iload_n 1, 1) := by decide +kernel
theorem dX4_event_13 : decode cX4_event 13 = .ok (.sipush 1000, 3) := by decide +kernel
theorem dX4_event_16 : decode cX4_event 16 = .ok (.if_icmp .ge 12, 3) := by decide +kernel
theorem dX4_event_19 : decode cX4_event 19 = .ok (.iload_n 2, 1) := by decide +kernel
theorem dX4_event_20 : decode cX4_event 20 = .ok (.iconst 0, 1) := by decide +kernel
theorem dX4_event_21 : decode cX4_event 21 = .ok (.iconst 2, 1) := by decide +kernel
theorem dX4_event_22 : decode cX4_event 22 = .ok (.invokestatic 31, 3) := by decide +kernel
theorem dX4_event_25 : decode cX4_event 25 = .ok (.ifCond .ne 5, 3) := by decide +kernel
theorem dX4_event_28 : decode cX4_event 28 = .ok (.iconst (-1), 1) := by decide +kernel
theorem dX4_event_29 : decode cX4_event 29 = .ok (.ireturn, 1) := by decide +kernel
theorem dX4_event_30 : decode cX4_event 30 = .ok (.aload_n 0, 1) := by decide +kernel
theorem dX4_event_31 : decode cX4_event 31 = .ok (.getfield 9, 3) := by decide +kernel
theorem dX4_event_34 : decode cX4_event 34 = .ok (.iload_n 1, 1) := by decide +kernel
theorem dX4_event_35 : decode cX4_event 35 = .ok (.iconst 3, 1) := by decide +kernel
theorem dX4_event_36 : decode cX4_event 36 = .ok (.imul, 1) := by decide +kernel
theorem dX4_event_37 : decode cX4_event 37 = .ok (.iload_n 2, 1) := by decide +kernel
theorem dX4_event_38 : decode cX4_event 38 = .ok (.iadd, 1) := by decide +kernel
theorem dX4_event_39 : decode cX4_event 39 = .ok (.iaload, 1) := by decide +kernel
theorem dX4_event_40 : decode cX4_event 40 = .ok (.ireturn, 1) := by decide +kernel
theorem dX4_made_0 : decode cX4_made 0 = .ok (.aload_n 0, 1) := by decide +kernel
theorem dX4_made_1 : decode cX4_made 1 = .ok (.getfield 109, 3) := by decide +kernel
theorem dX4_made_4 : decode cX4_made 4 = .ok (.lreturn, 1) := by decide +kernel
theorem dX4_inside_0 : decode cX4_inside 0 = .ok (.lconst 0, 1) := by decide +kernel
theorem dX4_inside_1 : decode cX4_inside 1 = .ok (.lstore_n 1, 1) := by decide +kernel
theorem dX4_inside_2 : decode cX4_inside 2 = .ok (.aload_n 0, 1) := by decide +kernel
theorem dX4_inside_3 : decode cX4_inside 3 = .ok (.getfield 38, 3) := by decide +kernel
theorem dX4_inside_6 : decode cX4_inside 6 = .ok (.astore_n 3, 1) := by decide +kernel
theorem dX4_inside_7 : decode cX4_inside 7 = .ok (.aload_n 3, 1) := by decide +kernel
theorem dX4_inside_8 : decode cX4_inside 8 = .ok (.ifnull 33, 3) := by decide +kernel
theorem dX4_inside_11 : decode cX4_inside 11 = .ok (.lload_n 1, 1) := by decide +kernel
theorem dX4_inside_12 : decode cX4_inside 12 = .ok (.aload_n 3, 1) := by decide +kernel
theorem dX4_inside_13 : decode cX4_inside 13 = .ok (.getfield 48, 3) := by decide +kernel
theorem dX4_inside_16 : decode cX4_inside 16 = .ok (.getfield 112, 3) := by decide +kernel
theorem dX4_inside_19 : decode cX4_inside 19 = .ok (.i2l, 1) := by decide +kernel
theorem dX4_inside_20 : decode cX4_inside 20 = .ok (.ladd, 1) := by decide +kernel
theorem dX4_inside_21 : decode cX4_inside 21 = .ok (.lstore_n 1, 1) := by decide +kernel
theorem dX4_inside_22 : decode cX4_inside 22 = .ok (.aload_n 3, 1) := by decide +kernel
theorem dX4_inside_23 : decode cX4_inside 23 = .ok (.getfield 115, 3) := by decide +kernel
theorem dX4_inside_26 : decode cX4_inside 26 = .ok (.ifCond .eq 7, 3) := by decide +kernel
theorem dX4_inside_29 : decode cX4_inside 29 = .ok (.lload_n 1, 1) := by decide +kernel
theorem dX4_inside_30 : decode cX4_inside 30 = .ok (.lconst 1, 1) := by decide +kernel
theorem dX4_inside_31 : decode cX4_inside 31 = .ok (.ladd, 1) := by decide +kernel
theorem dX4_inside_32 : decode cX4_inside 32 = .ok (.lstore_n 1, 1) := by decide +kernel
theorem dX4_inside_33 : decode cX4_inside 33 = .ok (.aload_n 3, 1) := by decide +kernel
theorem dX4_inside_34 : decode cX4_inside 34 = .ok (.getfield 118, 3) := by decide +kernel
theorem dX4_inside_37 : decode cX4_inside 37 = .ok (.astore_n 3, 1) := by decide +kernel
theorem dX4_inside_38 : decode cX4_inside 38 = .ok (.goto (-31), 3) := by decide +kernel
theorem dX4_inside_41 : decode cX4_inside 41 = .ok (.lload_n 1, 1) := by decide +kernel
theorem dX4_inside_42 : decode cX4_inside 42 = .ok (.lreturn, 1) := by decide +kernel
set_option maxRecDepth 20000 in
theorem ggX4_lost_X4_known : GoodIn wsX4_lost wsX4_known := goodIn_r _ [8, 9, 10, 11, 12, 13, 14, 7, 15, 16, 17, 18, 41, 42, 43, 44, 45, 46, 47, 48, 49, 50, 51, 52, 53, 54, 55, 56, 57, 25, 26, 27, 28, 29, 30, 31, 32, 33, 34, 35, 36, 37, 38, 39, 40] (by decide +kernel) (by decide +kernel)
set_option maxRecDepth 20000 in
theorem gX4_lost_X4_known : GoodIn wsX4_lost (wsV RX4 121 RX4 yX4_known wsX4_known) := goodIn_app (goodIn_of _ (by decide +kernel)) ggX4_lost_X4_known
set_option maxRecDepth 20000 in
theorem ggX4_lost_X4_isCause : GoodIn wsX4_lost wsX4_isCause := goodIn_r _ [21, 22, 23, 7, 24] (by decide +kernel) (by decide +kernel)
set_option maxRecDepth 20000 in
theorem gX4_lost_X4_isCause : GoodIn wsX4_lost (va_wsS RX4 124 yX4_isCause wsX4_isCause) := goodIn_app (goodIn_of _ (by decide +kernel)) ggX4_lost_X4_isCause
theorem dX4_lost_0 : decode cX4_lost 0 = .ok (.aload_n 0, 1) := by decide +kernel
theorem dX4_lost_1 : decode cX4_lost 1 = .ok (.iload_n 1, 1) := by decide +kernel
theorem dX4_lost_2 : decode cX4_lost 2 = .ok (.invokevirtual 121, 3) := by decide +kernel
theorem dX4_lost_5 : decode cX4_lost 5 = .ok (.astore_n 3, 1) := by decide +kernel
theorem dX4_lost_6 : decode cX4_lost 6 = .ok (.iload_n 2, 1) := by decide +kernel
theorem dX4_lost_7 : decode cX4_lost 7 = .ok (.invokestatic 124, 3) := by decide +kernel
theorem dX4_lost_10 : decode cX4_lost 10 = .ok (.ifCond .eq 18, 3) := by decide +kernel
theorem dX4_lost_13 : decode cX4_lost 13 = .ok (.aload_n 3, 1) := by decide +kernel
theorem dX4_lost_14 : decode cX4_lost 14 = .ok (.getfield 128, 3) := by decide +kernel
theorem dX4_lost_17 : decode cX4_lost 17 = .ok (.iload_n 2, 1) := by decide +kernel
theorem dX4_lost_18 : decode cX4_lost 18 = .ok (.laload, 1) := by decide +kernel
theorem dX4_lost_19 : decode cX4_lost 19 = .ok (.aload_n 3, 1) := by decide +kernel
theorem dX4_lost_20 : decode cX4_lost 20 = .ok (.getfield 132, 3) := by decide +kernel
theorem dX4_lost_23 : decode cX4_lost 23 = .ok (.i2l, 1) := by decide +kernel
theorem dX4_lost_24 : decode cX4_lost 24 = .ok (.ldiv, 1) := by decide +kernel
theorem dX4_lost_25 : decode cX4_lost 25 = .ok (.goto 6, 3) := by decide +kernel
theorem dX4_lost_28 : decode cX4_lost 28 = .ok (.ldc2_w 135, 3) := by decide +kernel
theorem dX4_lost_31 : decode cX4_lost 31 = .ok (.lreturn, 1) := by decide +kernel
set_option maxRecDepth 20000 in
theorem ggX4_rejected_X4_known : GoodIn wsX4_rejected wsX4_known := goodIn_r _ [6, 7, 8, 9, 10, 11, 12, 5, 13, 14, 15, 16, 33, 34, 35, 36, 37, 38, 39, 40, 41, 42, 43, 44, 45, 46, 47, 48, 49, 17, 18, 19, 20, 21, 22, 23, 24, 25, 26, 27, 28, 29, 30, 31, 32] (by decide +kernel) (by decide +kernel)
set_option maxRecDepth 20000 in
theorem gX4_rejected_X4_known : GoodIn wsX4_rejected (wsV RX4 121 RX4 yX4_known wsX4_known) := goodIn_app (goodIn_of _ (by decide +kernel)) ggX4_rejected_X4_known
theorem dX4_rejected_0 : decode cX4_rejected 0 = .ok (.aload_n 0, 1) := by decide +kernel
theorem dX4_rejected_1 : decode cX4_rejected 1 = .ok (.iload_n 1, 1) := by decide +kernel
theorem dX4_rejected_2 : decode cX4_rejected 2 = .ok (.invokevirtual 121, 3) := by decide +kernel
theorem dX4_rejected_5 : decode cX4_rejected 5 = .ok (.getfield 137, 3) := by decide +kernel
theorem dX4_rejected_8 : decode cX4_rejected 8 = .ok (.lreturn, 1) := by decide +kernel
set_option maxRecDepth 20000 in
theorem ggX4_change_X4_within : GoodIn wsX4_change wsX4_within := goodIn_r _ [6] (by decide +kernel) (by decide +kernel)
set_option maxRecDepth 20000 in
theorem gX4_change_X4_within : GoodIn wsX4_change (va_wsS RX4 31 yX4_within wsX4_within) := goodIn_app (goodIn_of _ (by decide +kernel)) ggX4_change_X4_within
set_option maxRecDepth 20000 in
theorem ggX4_change_X4_addRow : GoodIn wsX4_change wsX4_addRow := goodIn_r _ [10, 11, 12, 2, 13, 14, 15, 16, 17, 18, 19, 20, 21, 22, 23, 24, 25, 26, 27, 28, 29, 30, 31, 32, 33, 34, 35, 36, 37, 38, 39, 40, 41, 42, 43, 44] (by decide +kernel) (by decide +kernel)
set_option maxRecDepth 20000 in
theorem gX4_change_X4_addRow : GoodIn wsX4_change (wsV RX4 75 RX4 yX4_addRow wsX4_addRow) := goodIn_app (goodIn_of _ (by decide +kernel)) ggX4_change_X4_addRow
theorem dX4_change_0 : decode cX4_change 0 = .ok (.iload_n 2, 1) := by decide +kernel
theorem dX4_change_1 : decode cX4_change 1 = .ok (.iconst 1, 1) := by decide +kernel
theorem dX4_change_2 : decode cX4_change 2 = .ok (.ldc 140, 2) := by decide +kernel
theorem dX4_change_4 : decode cX4_change 4 = .ok (.invokestatic 31, 3) := by decide +kernel
theorem dX4_change_7 : decode cX4_change 7 = .ok (.ifCond .eq 28, 3) := by decide +kernel
theorem dX4_change_10 : decode cX4_change 10 = .ok (.iload_n 1, 1) := by decide +kernel
theorem dX4_change_11 : decode cX4_change 11 = .ok (.ldc 79, 2) := by decide +kernel
theorem dX4_change_13 : decode cX4_change 13 = .ok (.iload_n 2, 1) := by decide +kernel
theorem dX4_change_14 : decode cX4_change 14 = .ok (.isub, 1) := by decide +kernel
theorem dX4_change_15 : decode cX4_change 15 = .ok (.if_icmp .gt 20, 3) := by decide +kernel
theorem dX4_change_18 : decode cX4_change 18 = .ok (.aload_n 0, 1) := by decide +kernel
theorem dX4_change_19 : decode cX4_change 19 = .ok (.iconst (-1), 1) := by decide +kernel
theorem dX4_change_20 : decode cX4_change 20 = .ok (.iload_n 1, 1) := by decide +kernel
theorem dX4_change_21 : decode cX4_change 21 = .ok (.iload_n 1, 1) := by decide +kernel
theorem dX4_change_22 : decode cX4_change 22 = .ok (.iload_n 2, 1) := by decide +kernel
theorem dX4_change_23 : decode cX4_change 23 = .ok (.iadd, 1) := by decide +kernel
theorem dX4_change_24 : decode cX4_change 24 = .ok (.iconst 1, 1) := by decide +kernel
theorem dX4_change_25 : decode cX4_change 25 = .ok (.invokevirtual 75, 3) := by decide +kernel
theorem dX4_change_28 : decode cX4_change 28 = .ok (.ifCond .eq 7, 3) := by decide +kernel
theorem dX4_change_31 : decode cX4_change 31 = .ok (.iconst 1, 1) := by decide +kernel
theorem dX4_change_32 : decode cX4_change 32 = .ok (.goto 4, 3) := by decide +kernel
theorem dX4_change_35 : decode cX4_change 35 = .ok (.iconst 0, 1) := by decide +kernel
theorem dX4_change_36 : decode cX4_change 36 = .ok (.ireturn, 1) := by decide +kernel
set_option maxRecDepth 20000 in
theorem ggX4_rest_X4_addRow : GoodIn wsX4_rest wsX4_addRow := goodIn_r _ [5, 6, 7, 8, 9, 10, 11, 12, 13, 14, 15, 16, 17, 18, 19, 20, 21, 22, 23, 24, 25, 26, 27, 28, 29, 30, 31, 32, 33, 34, 35, 36, 37, 38, 39, 40] (by decide +kernel) (by decide +kernel)
set_option maxRecDepth 20000 in
theorem gX4_rest_X4_addRow : GoodIn wsX4_rest (wsV RX4 75 RX4 yX4_addRow wsX4_addRow) := goodIn_app (goodIn_of _ (by decide +kernel)) ggX4_rest_X4_addRow
theorem dX4_rest_0 : decode cX4_rest 0 = .ok (.aload_n 0, 1) := by decide +kernel
theorem dX4_rest_1 : decode cX4_rest 1 = .ok (.iconst (-1), 1) := by decide +kernel
theorem dX4_rest_2 : decode cX4_rest 2 = .ok (.iload_n 1, 1) := by decide +kernel
theorem dX4_rest_3 : decode cX4_rest 3 = .ok (.iload_n 2, 1) := by decide +kernel
theorem dX4_rest_4 : decode cX4_rest 4 = .ok (.iconst 2, 1) := by decide +kernel
theorem dX4_rest_5 : decode cX4_rest 5 = .ok (.invokevirtual 75, 3) := by decide +kernel
theorem dX4_rest_8 : decode cX4_rest 8 = .ok (.ireturn, 1) := by decide +kernel
set_option maxRecDepth 20000 in
theorem ggX4_time_X4_known : GoodIn wsX4_time wsX4_known := goodIn_r _ [7, 8, 9, 10, 11, 12, 13, 6, 14, 15, 16, 17, 40, 41, 42, 43, 44, 45, 46, 47, 48, 49, 50, 51, 52, 53, 54, 55, 56, 24, 25, 26, 27, 28, 29, 30, 31, 32, 33, 34, 35, 36, 37, 38, 39] (by decide +kernel) (by decide +kernel)
set_option maxRecDepth 20000 in
theorem gX4_time_X4_known : GoodIn wsX4_time (wsV RX4 121 RX4 yX4_known wsX4_known) := goodIn_app (goodIn_of _ (by decide +kernel)) ggX4_time_X4_known
set_option maxRecDepth 20000 in
theorem ggX4_time_X4_isCause : GoodIn wsX4_time wsX4_isCause := goodIn_r _ [20, 21, 22, 6, 23] (by decide +kernel) (by decide +kernel)
set_option maxRecDepth 20000 in
theorem gX4_time_X4_isCause : GoodIn wsX4_time (va_wsS RX4 124 yX4_isCause wsX4_isCause) := goodIn_app (goodIn_of _ (by decide +kernel)) ggX4_time_X4_isCause
theorem dX4_time_0 : decode cX4_time 0 = .ok (.aload_n 0, 1) := by decide +kernel
theorem dX4_time_1 : decode cX4_time 1 = .ok (.iload_n 1, 1) := by decide +kernel
theorem dX4_time_2 : decode cX4_time 2 = .ok (.invokevirtual 121, 3) := by decide +kernel
theorem dX4_time_5 : decode cX4_time 5 = .ok (.astore_n 3, 1) := by decide +kernel
theorem dX4_time_6 : decode cX4_time 6 = .ok (.iload_n 2, 1) := by decide +kernel
theorem dX4_time_7 : decode cX4_time 7 = .ok (.invokestatic 124, 3) := by decide +kernel
theorem dX4_time_10 : decode cX4_time 10 = .ok (.ifCond .eq 12, 3) := by decide +kernel
theorem dX4_time_13 : decode cX4_time 13 = .ok (.aload_n 3, 1) := by decide +kernel
theorem dX4_time_14 : decode cX4_time 14 = .ok (.getfield 128, 3) := by decide +kernel
theorem dX4_time_17 : decode cX4_time 17 = .ok (.iload_n 2, 1) := by decide +kernel
theorem dX4_time_18 : decode cX4_time 18 = .ok (.laload, 1) := by decide +kernel
theorem dX4_time_19 : decode cX4_time 19 = .ok (.goto 6, 3) := by decide +kernel
theorem dX4_time_22 : decode cX4_time 22 = .ok (.ldc2_w 135, 3) := by decide +kernel
theorem dX4_time_25 : decode cX4_time 25 = .ok (.lreturn, 1) := by decide +kernel
set_option maxRecDepth 20000 in
theorem ggX4_kept_X4_inside : GoodIn wsX4_kept wsX4_inside := goodIn_r _ [11, 2, 12, 13, 14, 5, 21, 22, 23, 24, 25, 26, 27, 28, 29, 30, 31, 32, 33, 34, 35, 36, 37, 38, 39, 40, 41, 42, 43, 44, 45, 46, 47, 48, 49, 50, 51, 52] (by decide +kernel) (by decide +kernel)
set_option maxRecDepth 20000 in
theorem gX4_kept_X4_inside : GoodIn wsX4_kept (wsV RX4 141 RX4 yX4_inside wsX4_inside) := goodIn_app (goodIn_of _ (by decide +kernel)) ggX4_kept_X4_inside
set_option maxRecDepth 20000 in
theorem ggX4_kept_X2_allTimes : GoodIn wsX4_kept wsX2_allTimes := goodIn_r _ [19, 20, 32, 33, 34, 35, 36, 37, 38, 39, 40, 41, 42, 43, 44, 45, 46, 47] (by decide +kernel) (by decide +kernel)
set_option maxRecDepth 20000 in
theorem gX4_kept_X2_allTimes : GoodIn wsX4_kept (wsV RX4 145 RX2 yX2_allTimes wsX2_allTimes) := goodIn_app (goodIn_of _ (by decide +kernel)) ggX4_kept_X2_allTimes
theorem dX4_kept_0 : decode cX4_kept 0 = .ok (.aload_n 0, 1) := by decide +kernel
theorem dX4_kept_1 : decode cX4_kept 1 = .ok (.getfield 109, 3) := by decide +kernel
theorem dX4_kept_4 : decode cX4_kept 4 = .ok (.aload_n 0, 1) := by decide +kernel
theorem dX4_kept_5 : decode cX4_kept 5 = .ok (.invokevirtual 141, 3) := by decide +kernel
theorem dX4_kept_8 : decode cX4_kept 8 = .ok (.ladd, 1) := by decide +kernel
theorem dX4_kept_9 : decode cX4_kept 9 = .ok (.lstore_n 1, 1) := by decide +kernel
theorem dX4_kept_10 : decode cX4_kept 10 = .ok (.aload_n 0, 1) := by decide +kernel
theorem dX4_kept_11 : decode cX4_kept 11 = .ok (.getfield 38, 3) := by decide +kernel
theorem dX4_kept_14 : decode cX4_kept 14 = .ok (.astore_n 3, 1) := by decide +kernel
theorem dX4_kept_15 : decode cX4_kept 15 = .ok (.aload_n 3, 1) := by decide +kernel
theorem dX4_kept_16 : decode cX4_kept 16 = .ok (.ifnull 33, 3) := by decide +kernel
theorem dX4_kept_19 : decode cX4_kept 19 = .ok (.lload_n 1, 1) := by decide +kernel
theorem dX4_kept_20 : decode cX4_kept 20 = .ok (.aload_n 3, 1) := by decide +kernel
theorem dX4_kept_21 : decode cX4_kept 21 = .ok (.getfield 137, 3) := by decide +kernel
theorem dX4_kept_24 : decode cX4_kept 24 = .ok (.ladd, 1) := by decide +kernel
theorem dX4_kept_25 : decode cX4_kept 25 = .ok (.lstore_n 1, 1) := by decide +kernel
theorem dX4_kept_26 : decode cX4_kept 26 = .ok (.aload_n 3, 1) := by decide +kernel
theorem dX4_kept_27 : decode cX4_kept 27 = .ok (.invokevirtual 145, 3) := by decide +kernel
theorem dX4_kept_30 : decode cX4_kept 30 = .ok (.aload_n 0, 1) := by decide +kernel
theorem dX4_kept_31 : decode cX4_kept 31 = .ok (.getfield 27, 3) := by decide +kernel
theorem dX4_kept_34 : decode cX4_kept 34 = .ok (.i2l, 1) := by decide +kernel
theorem dX4_kept_35 : decode cX4_kept 35 = .ok (.lcmp, 1) := by decide +kernel
theorem dX4_kept_36 : decode cX4_kept 36 = .ok (.ifCond .eq 5, 3) := by decide +kernel
