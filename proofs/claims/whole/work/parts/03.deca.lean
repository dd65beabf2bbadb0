theorem dX0_init_0 : decode cX0_init 0 = .ok (.aload_n 0, 1) := by decide +kernel
theorem dX0_init_1 : decode cX0_init 1 = .ok (.invokespecial 1, 3) := by decide +kernel
theorem dX0_init_4 : decode cX0_init 4 = .ok (.aload_n 0, 1) := by decide +kernel
theorem dX0_init_5 : decode cX0_init 5 = .ok (.bipush 64, 2) := by decide +kernel
theorem dX0_init_7 : decode cX0_init 7 = .ok (.newarray .double, 2) := by decide +kernel
theorem dX0_init_9 : decode cX0_init 9 = .ok (.putfield 9, 3) := by decide +kernel
theorem dX0_init_12 : decode cX0_init 12 = .ok (.aload_n 0, 1) := by decide +kernel
theorem dX0_init_13 : decode cX0_init 13 = .ok (.iconst 0, 1) := by decide +kernel
theorem dX0_init_14 : decode cX0_init 14 = .ok (.putfield 13, 3) := by decide +kernel
theorem dX0_init_17 : decode cX0_init 17 = .ok (.aload_n 0, 1) := by decide +kernel
theorem dX0_init_18 : decode cX0_init 18 = .ok (.iconst 0, 1) := by decide +kernel
theorem dX0_init_19 : decode cX0_init 19 = .ok (.putfield 17, 3) := by decide +kernel
theorem dX0_init_22 : decode cX0_init 22 = .ok (.return_, 1) := by decide +kernel
theorem dX0_waiting_0 : decode cX0_waiting 0 = .ok (.aload_n 0, 1) := by decide +kernel
theorem dX0_waiting_1 : decode cX0_waiting 1 = .ok (.getfield 13, 3) := by decide +kernel
theorem dX0_waiting_4 : decode cX0_waiting 4 = .ok (.aload_n 0, 1) := by decide +kernel
theorem dX0_waiting_5 : decode cX0_waiting 5 = .ok (.getfield 17, 3) := by decide +kernel
theorem dX0_waiting_8 : decode cX0_waiting 8 = .ok (.isub, 1) := by decide +kernel
theorem dX0_waiting_9 : decode cX0_waiting 9 = .ok (.ireturn, 1) := by decide +kernel
set_option maxRecDepth 20000 in
theorem ggX0_isFull_X0_waiting : GoodIn wsX0_isFull wsX0_waiting := goodIn_r _ [5, 6, 7, 8, 9, 10] (by decide +kernel) (by decide +kernel)
set_option maxRecDepth 20000 in
theorem gX0_isFull_X0_waiting : GoodIn wsX0_isFull (wsV RX0 20 RX0 yX0_waiting wsX0_waiting) := goodIn_app (goodIn_of _ (by decide +kernel)) ggX0_isFull_X0_waiting
theorem dX0_isFull_0 : decode cX0_isFull 0 = .ok (.aload_n 0, 1) := by decide +kernel
theorem dX0_isFull_1 : decode cX0_isFull 1 = .ok (.invokevirtual 20, 3) := by decide +kernel
theorem dX0_isFull_4 : decode cX0_isFull 4 = .ok (.bipush 64, 2) := by decide +kernel
theorem dX0_isFull_6 : decode cX0_isFull 6 = .ok (.if_icmp .lt 7, 3) := by decide +kernel
theorem dX0_isFull_9 : decode cX0_isFull 9 = .ok (.iconst 1, 1) := by decide +kernel
theorem dX0_isFull_10 : decode cX0_isFull 10 = .ok (.goto 4, 3) := by decide +kernel
theorem dX0_isFull_13 : decode cX0_isFull 13 = .ok (.iconst 0, 1) := by decide +kernel
theorem dX0_isFull_14 : decode cX0_isFull 14 = .ok (.ireturn, 1) := by decide +kernel
set_option maxRecDepth 20000 in
theorem ggX0_add_X0_place : GoodIn wsX0_add wsX0_place := goodIn_r _ [6] (by decide +kernel) (by decide +kernel)
set_option maxRecDepth 20000 in
theorem gX0_add_X0_place : GoodIn wsX0_add (va_wsS RX0 24 yX0_place wsX0_place) := goodIn_app (goodIn_of _ (by decide +kernel)) ggX0_add_X0_place
theorem dX0_add_0 : decode cX0_add 0 = .ok (.aload_n 0, 1) := by decide +kernel
theorem dX0_add_1 : decode cX0_add 1 = .ok (.getfield 9, 3) := by decide +kernel
theorem dX0_add_4 : decode cX0_add 4 = .ok (.aload_n 0, 1) := by decide +kernel
theorem dX0_add_5 : decode cX0_add 5 = .ok (.getfield 13, 3) := by decide +kernel
theorem dX0_add_8 : decode cX0_add 8 = .ok (.invokestatic 24, 3) := by decide +kernel
theorem dX0_add_11 : decode cX0_add 11 = .ok (.dload_n 1, 1) := by decide +kernel
theorem dX0_add_12 : decode cX0_add 12 = .ok (.dastore, 1) := by decide +kernel
theorem dX0_add_13 : decode cX0_add 13 = .ok (.aload_n 0, 1) := by decide +kernel
theorem dX0_add_14 : decode cX0_add 14 = .ok (.dup, 1) := by decide +kernel
theorem dX0_add_15 : decode cX0_add 15 = .ok (.getfield 13, 3) := by decide +kernel
theorem dX0_add_18 : decode cX0_add 18 = .ok (.iconst 1, 1) := by decide +kernel
theorem dX0_add_19 : decode cX0_add 19 = .ok (.iadd, 1) := by decide +kernel
theorem dX0_add_20 : decode cX0_add 20 = .ok (.putfield 13, 3) := by decide +kernel
theorem dX0_add_23 : decode cX0_add 23 = .ok (.return_, 1) := by decide +kernel
set_option maxRecDepth 20000 in
theorem ggX0_use_X0_waiting : GoodIn wsX0_use wsX0_waiting := goodIn_r _ [8, 9, 3, 13, 14, 15] (by decide +kernel) (by decide +kernel)
set_option maxRecDepth 20000 in
theorem gX0_use_X0_waiting : GoodIn wsX0_use (wsV RX0 20 RX0 yX0_waiting wsX0_waiting) := goodIn_app (goodIn_of _ (by decide +kernel)) ggX0_use_X0_waiting
set_option maxRecDepth 20000 in
theorem ggX0_use_X0_place : GoodIn wsX0_use wsX0_place := goodIn_r _ [12] (by decide +kernel) (by decide +kernel)
set_option maxRecDepth 20000 in
theorem gX0_use_X0_place : GoodIn wsX0_use (va_wsS RX0 24 yX0_place wsX0_place) := goodIn_app (goodIn_of _ (by decide +kernel)) ggX0_use_X0_place
theorem dX0_use_0 : decode cX0_use 0 = .ok (.aload_n 0, 1) := by decide +kernel
theorem dX0_use_1 : decode cX0_use 1 = .ok (.invokevirtual 20, 3) := by decide +kernel
theorem dX0_use_4 : decode cX0_use 4 = .ok (.ifCond .gt 7, 3) := by decide +kernel
theorem dX0_use_7 : decode cX0_use 7 = .ok (.ldc2_w 28, 3) := by decide +kernel
theorem dX0_use_10 : decode cX0_use 10 = .ok (.dreturn, 1) := by decide +kernel
theorem dX0_use_11 : decode cX0_use 11 = .ok (.aload_n 0, 1) := by decide +kernel
theorem dX0_use_12 : decode cX0_use 12 = .ok (.getfield 9, 3) := by decide +kernel
theorem dX0_use_15 : decode cX0_use 15 = .ok (.aload_n 0, 1) := by decide +kernel
theorem dX0_use_16 : decode cX0_use 16 = .ok (.getfield 17, 3) := by decide +kernel
theorem dX0_use_19 : decode cX0_use 19 = .ok (.invokestatic 24, 3) := by decide +kernel
theorem dX0_use_22 : decode cX0_use 22 = .ok (.daload, 1) := by decide +kernel
theorem dX0_use_23 : decode cX0_use 23 = .ok (.dstore_n 1, 1) := by decide +kernel
theorem dX0_use_24 : decode cX0_use 24 = .ok (.aload_n 0, 1) := by decide +kernel
theorem dX0_use_25 : decode cX0_use 25 = .ok (.dup, 1) := by decide +kernel
theorem dX0_use_26 : decode cX0_use 26 = .ok (.getfield 17, 3) := by decide +kernel
theorem dX0_use_29 : decode cX0_use 29 = .ok (.iconst 1, 1) := by decide +kernel
theorem dX0_use_30 : decode cX0_use 30 = .ok (.iadd, 1) := by decide +kernel
theorem dX0_use_31 : decode cX0_use 31 = .ok (.putfield 17, 3) := by decide +kernel
theorem dX0_use_34 : decode cX0_use 34 = .ok (.dload_n 1, 1) := by decide +kernel
theorem dX0_use_35 : decode cX0_use 35 = .ok (.dreturn, 1) := by decide +kernel
theorem dX0_place_0 : decode cX0_place 0 = .ok (.iload_n 0, 1) := by decide +kernel
theorem dX0_place_1 : decode cX0_place 1 = .ok (.bipush 63, 2) := by decide +kernel
theorem dX0_place_3 : decode cX0_place 3 = .ok (.iand, 1) := by decide +kernel
theorem dX0_place_4 : decode cX0_place 4 = .ok (.ireturn, 1) := by decide +kernel
theorem dX1_init_0 : decode cX1_init 0 = .ok (.aload_n 0, 1) := by decide +kernel
theorem dX1_init_1 : decode cX1_init 1 = .ok (.invokespecial 1, 3) := by decide +kernel
theorem dX1_init_4 : decode cX1_init 4 = .ok (.aload_n 0, 1) := by decide +kernel
theorem dX1_init_5 : decode cX1_init 5 = .ok (.ldc2_w 7, 3) := by decide +kernel
theorem dX1_init_8 : decode cX1_init 8 = .ok (.putfield 9, 3) := by decide +kernel
theorem dX1_init_11 : decode cX1_init 11 = .ok (.aload_n 0, 1) := by decide +kernel
theorem dX1_init_12 : decode cX1_init 12 = .ok (.ldc2_w 15, 3) := by decide +kernel
theorem dX1_init_15 : decode cX1_init 15 = .ok (.putfield 17, 3) := by decide +kernel
theorem dX1_init_18 : decode cX1_init 18 = .ok (.aload_n 0, 1) := by decide +kernel
theorem dX1_init_19 : decode cX1_init 19 = .ok (.iconst 0, 1) := by decide +kernel
theorem dX1_init_20 : decode cX1_init 20 = .ok (.putfield 20, 3) := by decide +kernel
theorem dX1_init_23 : decode cX1_init 23 = .ok (.aload_n 0, 1) := by decide +kernel
theorem dX1_init_24 : decode cX1_init 24 = .ok (.dconst 0, 1) := by decide +kernel
theorem dX1_init_25 : decode cX1_init 25 = .ok (.putfield 24, 3) := by decide +kernel
theorem dX1_init_28 : decode cX1_init 28 = .ok (.aload_n 0, 1) := by decide +kernel
theorem dX1_init_29 : decode cX1_init 29 = .ok (.iconst 0, 1) := by decide +kernel
theorem dX1_init_30 : decode cX1_init 30 = .ok (.putfield 27, 3) := by decide +kernel
theorem dX1_init_33 : decode cX1_init 33 = .ok (.aload_n 0, 1) := by decide +kernel
theorem dX1_init_34 : decode cX1_init 34 = .ok (.dconst 0, 1) := by decide +kernel
theorem dX1_init_35 : decode cX1_init 35 = .ok (.putfield 30, 3) := by decide +kernel
theorem dX1_init_38 : decode cX1_init 38 = .ok (.aload_n 0, 1) := by decide +kernel
theorem dX1_init_39 : decode cX1_init 39 = .ok (.iconst 0, 1) := by decide +kernel
theorem dX1_init_40 : decode cX1_init 40 = .ok (.putfield 33, 3) := by decide +kernel
theorem dX1_init_43 : decode cX1_init 43 = .ok (.aload_n 0, 1) := by decide +kernel
theorem dX1_init_44 : decode cX1_init 44 = .ok (.iconst 0, 1) := by decide +kernel
theorem dX1_init_45 : decode cX1_init 45 = .ok (.putfield 37, 3) := by decide +kernel
theorem dX1_init_48 : decode cX1_init 48 = .ok (.return_, 1) := by decide +kernel
theorem dX1_tell_0 : decode cX1_tell 0 = .ok (.aload_n 0, 1) := by decide +kernel
theorem dX1_tell_1 : decode cX1_tell 1 = .ok (.dload_n 1, 1) := by decide +kernel
theorem dX1_tell_2 : decode cX1_tell 2 = .ok (.putfield 9, 3) := by decide +kernel
theorem dX1_tell_5 : decode cX1_tell 5 = .ok (.aload_n 0, 1) := by decide +kernel
theorem dX1_tell_6 : decode cX1_tell 6 = .ok (.dload_n 3, 1) := by decide +kernel
theorem dX1_tell_7 : decode cX1_tell 7 = .ok (.putfield 17, 3) := by decide +kernel
theorem dX1_tell_10 : decode cX1_tell 10 = .ok (.return_, 1) := by decide +kernel
theorem dX1_restart_0 : decode cX1_restart 0 = .ok (.aload_n 0, 1) := by decide +kernel
theorem dX1_restart_1 : decode cX1_restart 1 = .ok (.iconst 0, 1) := by decide +kernel
theorem dX1_restart_2 : decode cX1_restart 2 = .ok (.putfield 20, 3) := by decide +kernel
theorem dX1_restart_5 : decode cX1_restart 5 = .ok (.aload_n 0, 1) := by decide +kernel
theorem dX1_restart_6 : decode cX1_restart 6 = .ok (.iconst 0, 1) := by decide +kernel
theorem dX1_restart_7 : decode cX1_restart 7 = .ok (.putfield 27, 3) := by decide +kernel
theorem dX1_restart_10 : decode cX1_restart 10 = .ok (.aload_n 0, 1) := by decide +kernel
theorem dX1_restart_11 : decode cX1_restart 11 = .ok (.iconst 0, 1) := by decide +kernel
theorem dX1_restart_12 : decode cX1_restart 12 = .ok (.putfield 33, 3) := by decide +kernel
theorem dX1_restart_15 : decode cX1_restart 15 = .ok (.aload_n 0, 1) := by decide +kernel
theorem dX1_restart_16 : decode cX1_restart 16 = .ok (.iconst 0, 1) := by decide +kernel
theorem dX1_restart_17 : decode cX1_restart 17 = .ok (.putfield 37, 3) := by decide +kernel
theorem dX1_restart_20 : decode cX1_restart 20 = .ok (.return_, 1) := by decide +kernel
set_option maxRecDepth 20000 in
theorem ggX1_hits_X1_isLate : GoodIn wsX1_hits wsX1_isLate := goodIn_r _ [10, 11, 12, 4, 13, 23, 24, 25, 26, 27, 28, 29, 30] (by decide +kernel) (by decide +kernel)
set_option maxRecDepth 20000 in
theorem gX1_hits_X1_isLate : GoodIn wsX1_hits (wsV RX1 40 RX1 yX1_isLate wsX1_isLate) := goodIn_app (goodIn_of _ (by decide +kernel)) ggX1_hits_X1_isLate
set_option maxRecDepth 20000 in
theorem ggX1_hits_X1_countToBeginWith : GoodIn wsX1_hits wsX1_countToBeginWith := goodIn_r _ [17, 2, 3, 5, 18, 4, 23, 24, 25, 26, 27, 28, 29, 30] (by decide +kernel) (by decide +kernel)
set_option maxRecDepth 20000 in
theorem gX1_hits_X1_countToBeginWith : GoodIn wsX1_hits (wsV RX1 44 RX1 yX1_countToBeginWith wsX1_countToBeginWith) := goodIn_app (goodIn_of _ (by decide +kernel)) ggX1_hits_X1_countToBeginWith
set_option maxRecDepth 20000 in
theorem ggX1_hits_X1_root : GoodIn wsX1_hits wsX1_root := goodIn_r _ [21, 22] (by decide +kernel) (by decide +kernel)
set_option maxRecDepth 20000 in
theorem gX1_hits_X1_root : GoodIn wsX1_hits (va_wsS RX1 48 yX1_root wsX1_root) := goodIn_app (goodIn_of _ (by decide +kernel)) ggX1_hits_X1_root
theorem dX1_hits_0 : decode cX1_hits 0 = .ok (.aload_n 0, 1) := by decide +kernel
theorem dX1_hits_1 : decode cX1_hits 1 = .ok (.iload_n 1, 1) := by decide +kernel
theorem dX1_hits_2 : decode cX1_hits 2 = .ok (.iload_n 2, 1) := by decide +kernel
theorem dX1_hits_3 : decode cX1_hits 3 = .ok (.iload_n 3, 1) := by decide +kernel
theorem dX1_hits_4 : decode cX1_hits 4 = .ok (.invokevirtual 40, 3) := by decide +kernel
theorem dX1_hits_7 : decode cX1_hits 7 = .ok (.ifCond .ne 10, 3) := by decide +kernel
theorem dX1_hits_10 : decode cX1_hits 10 = .ok (.aload_n 0, 1) := by decide +kernel
theorem dX1_hits_11 : decode cX1_hits 11 = .ok (.iconst 0, 1) := by decide +kernel
theorem dX1_hits_12 : decode cX1_hits 12 = .ok (.putfield 27, 3) := by decide +kernel
theorem dX1_hits_15 : decode cX1_hits 15 = .ok (.iconst 0, 1) := by decide +kernel
theorem dX1_hits_16 : decode cX1_hits 16 = .ok (.ireturn, 1) := by decide +kernel
theorem dX1_hits_17 : decode cX1_hits 17 = .ok (.aload_n 0, 1) := by decide +kernel
theorem dX1_hits_18 : decode cX1_hits 18 = .ok (.getfield 27, 3) := by decide +kernel
theorem dX1_hits_21 : decode cX1_hits 21 = .ok (.ifCond .ne 46, 3) := by decide +kernel
theorem dX1_hits_24 : decode cX1_hits 24 = .ok (.aload_n 0, 1) := by decide +kernel
theorem dX1_hits_25 : decode cX1_hits 25 = .ok (.iconst 1, 1) := by decide +kernel
theorem dX1_hits_26 : decode cX1_hits 26 = .ok (.putfield 27, 3) := by decide +kernel
theorem dX1_hits_29 : decode cX1_hits 29 = .ok (.aload_n 0, 1) := by decide +kernel
theorem dX1_hits_30 : decode cX1_hits 30 = .ok (.aload_n 0, 1) := by decide +kernel
theorem dX1_hits_31 : decode cX1_hits 31 = .ok (.iload_n 2, 1) := by decide +kernel
theorem dX1_hits_32 : decode cX1_hits 32 = .ok (.invokevirtual 44, 3) := by decide +kernel
theorem dX1_hits_35 : decode cX1_hits 35 = .ok (.putfield 33, 3) := by decide +kernel
theorem dX1_hits_38 : decode cX1_hits 38 = .ok (.aload_n 0, 1) := by decide +kernel
theorem dX1_hits_39 : decode cX1_hits 39 = .ok (.aload_n 0, 1) := by decide +kernel
theorem dX1_hits_40 : decode cX1_hits 40 = .ok (.getfield 33, 3) := by decide +kernel
theorem dX1_hits_43 : decode cX1_hits 43 = .ok (.putfield 37, 3) := by decide +kernel
theorem dX1_hits_46 : decode cX1_hits 46 = .ok (.aload_n 0, 1) := by decide +kernel
theorem dX1_hits_47 : decode cX1_hits 47 = .ok (.iload_n 2, 1) := by decide +kernel
theorem dX1_hits_48 : decode cX1_hits 48 = .ok (.i2d, 1) := by decide +kernel
theorem dX1_hits_49 : decode cX1_hits 49 = .ok (.aload_n 0, 1) := by decide +kernel
theorem dX1_hits_50 : decode cX1_hits 50 = .ok (.getfield 17, 3) := by decide +kernel
theorem dX1_hits_53 : decode cX1_hits 53 = .ok (.aload_n 0, 1) := by decide +kernel
theorem dX1_hits_54 : decode cX1_hits 54 = .ok (.getfield 33, 3) := by decide +kernel
theorem dX1_hits_57 : decode cX1_hits 57 = .ok (.invokestatic 48, 3) := by decide +kernel
theorem dX1_hits_60 : decode cX1_hits 60 = .ok (.ddiv, 1) := by decide +kernel
theorem dX1_hits_61 : decode cX1_hits 61 = .ok (.dadd, 1) := by decide +kernel
theorem dX1_hits_62 : decode cX1_hits 62 = .ok (.putfield 30, 3) := by decide +kernel
theorem dX1_hits_65 : decode cX1_hits 65 = .ok (.iconst 1, 1) := by decide +kernel
theorem dX1_hits_66 : decode cX1_hits 66 = .ok (.ireturn, 1) := by decide +kernel
theorem dX1_hits_67 : decode cX1_hits 67 = .ok (.iload_n 2, 1) := by decide +kernel
theorem dX1_hits_68 : decode cX1_hits 68 = .ok (.i2d, 1) := by decide +kernel
theorem dX1_hits_69 : decode cX1_hits 69 = .ok (.aload_n 0, 1) := by decide +kernel
theorem dX1_hits_70 : decode cX1_hits 70 = .ok (.getfield 30, 3) := by decide +kernel
theorem dX1_hits_73 : decode cX1_hits 73 = .ok (.dcmp .g, 1) := by decide +kernel
theorem dX1_hits_74 : decode cX1_hits 74 = .ok (.ifCond .ge 5, 3) := by decide +kernel
theorem dX1_hits_77 : decode cX1_hits 77 = .ok (.iconst 0, 1) := by decide +kernel
theorem dX1_hits_78 : decode cX1_hits 78 = .ok (.ireturn, 1) := by decide +kernel
theorem dX1_hits_79 : decode cX1_hits 79 = .ok (.aload_n 0, 1) := by decide +kernel
theorem dX1_hits_80 : decode cX1_hits 80 = .ok (.dup, 1) := by decide +kernel
theorem dX1_hits_81 : decode cX1_hits 81 = .ok (.getfield 33, 3) := by decide +kernel
theorem dX1_hits_84 : decode cX1_hits 84 = .ok (.iconst 1, 1) := by decide +kernel
theorem dX1_hits_85 : decode cX1_hits 85 = .ok (.iadd, 1) := by decide +kernel
theorem dX1_hits_86 : decode cX1_hits 86 = .ok (.putfield 33, 3) := by decide +kernel
theorem dX1_hits_89 : decode cX1_hits 89 = .ok (.aload_n 0, 1) := by decide +kernel
theorem dX1_hits_90 : decode cX1_hits 90 = .ok (.aload_n 0, 1) := by decide +kernel
theorem dX1_hits_91 : decode cX1_hits 91 = .ok (.getfield 30, 3) := by decide +kernel
theorem dX1_hits_94 : decode cX1_hits 94 = .ok (.aload_n 0, 1) := by decide +kernel
theorem dX1_hits_95 : decode cX1_hits 95 = .ok (.getfield 17, 3) := by decide +kernel
theorem dX1_hits_98 : decode cX1_hits 98 = .ok (.aload_n 0, 1) := by decide +kernel
theorem dX1_hits_99 : decode cX1_hits 99 = .ok (.getfield 33, 3) := by decide +kernel
theorem dX1_hits_102 : decode cX1_hits 102 = .ok (.invokestatic 48, 3) := by decide +kernel
theorem dX1_hits_105 : decode cX1_hits 105 = .ok (.ddiv, 1) := by decide +kernel
theorem dX1_hits_106 : decode cX1_hits 106 = .ok (.dadd, 1) := by decide +kernel
theorem dX1_hits_107 : decode cX1_hits 107 = .ok (.putfield 30, 3) := by decide +kernel
theorem dX1_hits_110 : decode cX1_hits 110 = .ok (.iconst 1, 1) := by decide +kernel
theorem dX1_hits_111 : decode cX1_hits 111 = .ok (.ireturn, 1) := by decide +kernel
theorem dX1_isLate_0 : decode cX1_isLate 0 = .ok (.iload_n 1, 1) := by decide +kernel
theorem dX1_isLate_1 : decode cX1_isLate 1 = .ok (.i2d, 1) := by decide +kernel
theorem dX1_isLate_2 : decode cX1_isLate 2 = .ok (.aload_n 0, 1) := by decide +kernel
theorem dX1_isLate_3 : decode cX1_isLate 3 = .ok (.getfield 9, 3) := by decide +kernel
theorem dX1_isLate_6 : decode cX1_isLate 6 = .ok (.dcmp .g, 1) := by decide +kernel
theorem dX1_isLate_7 : decode cX1_isLate 7 = .ok (.ifCond .lt 7, 3) := by decide +kernel
theorem dX1_isLate_10 : decode cX1_isLate 10 = .ok (.iload_n 3, 1) := by decide +kernel
theorem dX1_isLate_11 : decode cX1_isLate 11 = .ok (.ifCond .eq 10, 3) := by decide +kernel
theorem dX1_isLate_14 : decode cX1_isLate 14 = .ok (.aload_n 0, 1) := by decide +kernel
theorem dX1_isLate_15 : decode cX1_isLate 15 = .ok (.iconst 0, 1) := by decide +kernel
theorem dX1_isLate_16 : decode cX1_isLate 16 = .ok (.putfield 20, 3) := by decide +kernel
theorem dX1_isLate_19 : decode cX1_isLate 19 = .ok (.iconst 0, 1) := by decide +kernel
theorem dX1_isLate_20 : decode cX1_isLate 20 = .ok (.ireturn, 1) := by decide +kernel
theorem dX1_isLate_21 : decode cX1_isLate 21 = .ok (.aload_n 0, 1) := by decide +kernel
theorem dX1_isLate_22 : decode cX1_isLate 22 = .ok (.getfield 20, 3) := by decide +kernel
theorem dX1_isLate_25 : decode cX1_isLate 25 = .ok (.ifCond .ne 21, 3) := by decide +kernel
theorem dX1_isLate_28 : decode cX1_isLate 28 = .ok (.aload_n 0, 1) := by decide +kernel
theorem dX1_isLate_29 : decode cX1_isLate 29 = .ok (.iconst 1, 1) := by decide +kernel
theorem dX1_isLate_30 : decode cX1_isLate 30 = .ok (.putfield 20, 3) := by decide +kernel
theorem dX1_isLate_33 : decode cX1_isLate 33 = .ok (.aload_n 0, 1) := by decide +kernel
theorem dX1_isLate_34 : decode cX1_isLate 34 = .ok (.iload_n 2, 1) := by decide +kernel
theorem dX1_isLate_35 : decode cX1_isLate 35 = .ok (.i2d, 1) := by decide +kernel
theorem dX1_isLate_36 : decode cX1_isLate 36 = .ok (.aload_n 0, 1) := by decide +kernel
theorem dX1_isLate_37 : decode cX1_isLate 37 = .ok (.getfield 17, 3) := by decide +kernel
theorem dX1_isLate_40 : decode cX1_isLate 40 = .ok (.dadd, 1) := by decide +kernel
theorem dX1_isLate_41 : decode cX1_isLate 41 = .ok (.putfield 24, 3) := by decide +kernel
theorem dX1_isLate_44 : decode cX1_isLate 44 = .ok (.iconst 0, 1) := by decide +kernel
theorem dX1_isLate_45 : decode cX1_isLate 45 = .ok (.ireturn, 1) := by decide +kernel
theorem dX1_isLate_46 : decode cX1_isLate 46 = .ok (.iload_n 2, 1) := by decide +kernel
theorem dX1_isLate_47 : decode cX1_isLate 47 = .ok (.i2d, 1) := by decide +kernel
theorem dX1_isLate_48 : decode cX1_isLate 48 = .ok (.aload_n 0, 1) := by decide +kernel
theorem dX1_isLate_49 : decode cX1_isLate 49 = .ok (.getfield 24, 3) := by decide +kernel
theorem dX1_isLate_52 : decode cX1_isLate 52 = .ok (.dcmp .l, 1) := by decide +kernel
theorem dX1_isLate_53 : decode cX1_isLate 53 = .ok (.ifCond .lt 7, 3) := by decide +kernel
theorem dX1_isLate_56 : decode cX1_isLate 56 = .ok (.iconst 1, 1) := by decide +kernel
theorem dX1_isLate_57 : decode cX1_isLate 57 = .ok (.goto 4, 3) := by decide +kernel
theorem dX1_isLate_60 : decode cX1_isLate 60 = .ok (.iconst 0, 1) := by decide +kernel
theorem dX1_isLate_61 : decode cX1_isLate 61 = .ok (.ireturn, 1) := by decide +kernel
theorem dX1_countToBeginWith_0 : decode cX1_countToBeginWith 0 = .ok (.aload_n 0, 1) := by decide +kernel
theorem dX1_countToBeginWith_1 : decode cX1_countToBeginWith 1 = .ok (.getfield 33, 3) := by decide +kernel
theorem dX1_countToBeginWith_4 : decode cX1_countToBeginWith 4 = .ok (.aload_n 0, 1) := by decide +kernel
theorem dX1_countToBeginWith_5 : decode cX1_countToBeginWith 5 = .ok (.getfield 37, 3) := by decide +kernel
theorem dX1_countToBeginWith_8 : decode cX1_countToBeginWith 8 = .ok (.isub, 1) := by decide +kernel
theorem dX1_countToBeginWith_9 : decode cX1_countToBeginWith 9 = .ok (.istore_n 2, 1) := by decide +kernel
theorem dX1_countToBeginWith_10 : decode cX1_countToBeginWith 10 = .ok (.iload_n 2, 1) := by decide +kernel
theorem dX1_countToBeginWith_11 : decode cX1_countToBeginWith 11 = .ok (.iconst 1, 1) := by decide +kernel
theorem dX1_countToBeginWith_12 : decode cX1_countToBeginWith 12 = .ok (.if_icmp .le 26, 3) := by decide +kernel
theorem dX1_countToBeginWith_15 : decode cX1_countToBeginWith 15 = .ok (.iload_n 1, 1) := by decide +kernel
theorem dX1_countToBeginWith_16 : decode cX1_countToBeginWith 16 = .ok (.i2d, 1) := by decide +kernel
theorem dX1_countToBeginWith_17 : decode cX1_countToBeginWith 17 = .ok (.aload_n 0, 1) := by decide +kernel
theorem dX1_countToBeginWith_18 : decode cX1_countToBeginWith 18 = .ok (.getfield 30, 3) := by decide +kernel
theorem dX1_countToBeginWith_21 : decode cX1_countToBeginWith 21 = .ok (.dsub, 1) := by decide +kernel
theorem dX1_countToBeginWith_22 : decode cX1_countToBeginWith 22 = .ok (.ldc2_w 52, 3) := by decide +kernel
theorem dX1_countToBeginWith_25 : decode cX1_countToBeginWith 25 = .ok (.aload_n 0, 1) := by decide +kernel
theorem dX1_countToBeginWith_26 : decode cX1_countToBeginWith 26 = .ok (.getfield 17, 3) := by decide +kernel
theorem dX1_countToBeginWith_29 : decode cX1_countToBeginWith 29 = .ok (.dmul, 1) := by decide +kernel
theorem dX1_countToBeginWith_30 : decode cX1_countToBeginWith 30 = .ok (.dcmp .g, 1) := by decide +kernel
theorem dX1_countToBeginWith_31 : decode cX1_countToBeginWith 31 = .ok (.ifCond .ge 7, 3) := by decide +kernel
theorem dX1_countToBeginWith_34 : decode cX1_countToBeginWith 34 = .ok (.iload_n 2, 1) := by decide +kernel
theorem dX1_countToBeginWith_35 : decode cX1_countToBeginWith 35 = .ok (.goto 4, 3) := by decide +kernel
theorem dX1_countToBeginWith_38 : decode cX1_countToBeginWith 38 = .ok (.iconst 1, 1) := by decide +kernel
theorem dX1_countToBeginWith_39 : decode cX1_countToBeginWith 39 = .ok (.ireturn, 1) := by decide +kernel
theorem dX1_root_0 : decode cX1_root 0 = .ok (.iload_n 0, 1) := by decide +kernel
theorem dX1_root_1 : decode cX1_root 1 = .ok (.i2d, 1) := by decide +kernel
theorem dX1_root_2 : decode cX1_root 2 = .ok (.dstore_n 1, 1) := by decide +kernel
theorem dX1_root_3 : decode cX1_root 3 = .ok (.iconst 0, 1) := by decide +kernel
theorem dX1_root_4 : decode cX1_root 4 = .ok (.istore_n 3, 1) := by decide +kernel
theorem dX1_root_5 : decode cX1_root 5 = .ok (.iload_n 3, 1) := by decide +kernel
theorem dX1_root_6 : decode cX1_root 6 = .ok (.bipush 20, 2) := by decide +kernel
theorem dX1_root_8 : decode cX1_root 8 = .ok (.if_icmp .ge 26, 3) := by decide +kernel
theorem dX1_root_11 : decode cX1_root 11 = .ok (.dload_n 1, 1) := by decide +kernel
theorem dX1_root_12 : decode cX1_root 12 = .ok (.dconst 0, 1) := by decide +kernel
theorem dX1_root_13 : decode cX1_root 13 = .ok (.dcmp .l, 1) := by decide +kernel
theorem dX1_root_14 : decode cX1_root 14 = .ok (.ifCond .le 20, 3) := by decide +kernel
theorem dX1_root_17 : decode cX1_root 17 = .ok (.dload_n 1, 1) := by decide +kernel
theorem dX1_root_18 : decode cX1_root 18 = .ok (.iload_n 0, 1) := by decide +kernel
theorem dX1_root_19 : decode cX1_root 19 = .ok (.i2d, 1) := by decide +kernel
theorem dX1_root_20 : decode cX1_root 20 = .ok (.dload_n 1, 1) := by decide +kernel
theorem dX1_root_21 : decode cX1_root 21 = .ok (.ddiv, 1) := by decide +kernel
theorem dX1_root_22 : decode cX1_root 22 = .ok (.dadd, 1) := by decide +kernel
theorem dX1_root_23 : decode cX1_root 23 = .ok (.ldc2_w 54, 3) := by decide +kernel
theorem dX1_root_26 : decode cX1_root 26 = .ok (.ddiv, 1) := by decide +kernel
theorem dX1_root_27 : decode cX1_root 27 = .ok (.dstore_n 1, 1) := by decide +kernel
theorem dX1_root_28 : decode cX1_root 28 = .ok (.iinc 3 1, 3) := by decide +kernel
theorem dX1_root_31 : decode cX1_root 31 = .ok (.goto (-26), 3) := by decide +kernel
theorem dX1_root_34 : decode cX1_root 34 = .ok (.dload_n 1, 1) := by decide +kernel
theorem dX1_root_35 : decode cX1_root 35 = .ok (.dreturn, 1) := by decide +kernel
set_option maxRecDepth 20000 in
theorem ggX2_init_X6_init : GoodIn wsX2_init wsX6_init := goodIn_r _ [29, 30, 2, 3, 31, 32, 33, 34, 62, 63, 64, 65] (by decide +kernel) (by decide +kernel)
set_option maxRecDepth 20000 in
theorem gX2_init_X6_init_n11 : GoodIn wsX2_init (wsX6_init) := ggX2_init_X6_init
set_option maxRecDepth 20000 in
theorem ggX2_init_X3_init : GoodIn wsX2_init wsX3_init := goodIn_r _ [36, 37, 2, 3, 38, 39, 40, 41, 42, 43, 44, 45, 46, 47, 48, 81, 82, 83, 84, 85, 86, 87] (by decide +kernel) (by decide +kernel)
set_option maxRecDepth 20000 in
theorem gX2_init_X3_init_n20 : GoodIn wsX2_init (wsX3_init) := ggX2_init_X3_init
set_option maxRecDepth 20000 in
theorem ggX2_init_X1_init : GoodIn wsX2_init wsX1_init := goodIn_r _ [50, 51, 2, 3, 52, 53, 54, 55, 56, 57, 58, 59, 60, 61, 88, 89, 90, 91, 92, 93, 94, 95] (by decide +kernel) (by decide +kernel)
set_option maxRecDepth 20000 in
theorem gX2_init_X1_init_n27 : GoodIn wsX2_init (wsX1_init) := ggX2_init_X1_init
theorem dX2_init_0 : decode cX2_init 0 = .ok (.aload_n 0, 1) := by decide +kernel
theorem dX2_init_1 : decode cX2_init 1 = .ok (.invokespecial 3, 3) := by decide +kernel
theorem dX2_init_4 : decode cX2_init 4 = .ok (.aload_n 0, 1) := by decide +kernel
theorem dX2_init_5 : decode cX2_init 5 = .ok (.new 9, 3) := by decide +kernel
theorem dX2_init_8 : decode cX2_init 8 = .ok (.dup, 1) := by decide +kernel
theorem dX2_init_9 : decode cX2_init 9 = .ok (.invokespecial 11, 3) := by decide +kernel
theorem dX2_init_12 : decode cX2_init 12 = .ok (.putfield 12, 3) := by decide +kernel
theorem dX2_init_15 : decode cX2_init 15 = .ok (.aload_n 0, 1) := by decide +kernel
theorem dX2_init_16 : decode cX2_init 16 = .ok (.new 18, 3) := by decide +kernel
theorem dX2_init_19 : decode cX2_init 19 = .ok (.dup, 1) := by decide +kernel
theorem dX2_init_20 : decode cX2_init 20 = .ok (.invokespecial 20, 3) := by decide +kernel
theorem dX2_init_23 : decode cX2_init 23 = .ok (.putfield 21, 3) := by decide +kernel
theorem dX2_init_26 : decode cX2_init 26 = .ok (.aload_n 0, 1) := by decide +kernel
theorem dX2_init_27 : decode cX2_init 27 = .ok (.new 25, 3) := by decide +kernel
theorem dX2_init_30 : decode cX2_init 30 = .ok (.dup, 1) := by decide +kernel
theorem dX2_init_31 : decode cX2_init 31 = .ok (.invokespecial 27, 3) := by decide +kernel
theorem dX2_init_34 : decode cX2_init 34 = .ok (.putfield 28, 3) := by decide +kernel
theorem dX2_init_37 : decode cX2_init 37 = .ok (.aload_n 0, 1) := by decide +kernel
theorem dX2_init_38 : decode cX2_init 38 = .ok (.iconst 0, 1) := by decide +kernel
theorem dX2_init_39 : decode cX2_init 39 = .ok (.putfield 32, 3) := by decide +kernel
theorem dX2_init_42 : decode cX2_init 42 = .ok (.aload_n 0, 1) := by decide +kernel
theorem dX2_init_43 : decode cX2_init 43 = .ok (.sipush 1500, 3) := by decide +kernel
theorem dX2_init_46 : decode cX2_init 46 = .ok (.putfield 36, 3) := by decide +kernel
theorem dX2_init_49 : decode cX2_init 49 = .ok (.aload_n 0, 1) := by decide +kernel
theorem dX2_init_50 : decode cX2_init 50 = .ok (.iconst 0, 1) := by decide +kernel
theorem dX2_init_51 : decode cX2_init 51 = .ok (.putfield 39, 3) := by decide +kernel
theorem dX2_init_54 : decode cX2_init 54 = .ok (.aload_n 0, 1) := by decide +kernel
theorem dX2_init_55 : decode cX2_init 55 = .ok (.aconst_null, 1) := by decide +kernel
theorem dX2_init_56 : decode cX2_init 56 = .ok (.putfield 42, 3) := by decide +kernel
theorem dX2_init_59 : decode cX2_init 59 = .ok (.aload_n 0, 1) := by decide +kernel
theorem dX2_init_60 : decode cX2_init 60 = .ok (.iconst 0, 1) := by decide +kernel
theorem dX2_init_61 : decode cX2_init 61 = .ok (.putfield 46, 3) := by decide +kernel
theorem dX2_init_64 : decode cX2_init 64 = .ok (.aload_n 0, 1) := by decide +kernel
theorem dX2_init_65 : decode cX2_init 65 = .ok (.iconst 0, 1) := by decide +kernel
theorem dX2_init_66 : decode cX2_init 66 = .ok (.putfield 49, 3) := by decide +kernel
theorem dX2_init_69 : decode cX2_init 69 = .ok (.aload_n 0, 1) := by decide +kernel
theorem dX2_init_70 : decode cX2_init 70 = .ok (.iconst 0, 1) := by decide +kernel
theorem dX2_init_71 : decode cX2_init 71 = .ok (.putfield 52, 3) := by decide +kernel
theorem dX2_init_74 : decode cX2_init 74 = .ok (.aload_n 0, 1) := by decide +kernel
theorem dX2_init_75 : decode cX2_init 75 = .ok (.iconst 0, 1) := by decide +kernel
theorem dX2_init_76 : decode cX2_init 76 = .ok (.putfield 55, 3) := by decide +kernel
theorem dX2_init_79 : decode cX2_init 79 = .ok (.aload_n 0, 1) := by decide +kernel
theorem dX2_init_80 : decode cX2_init 80 = .ok (.iconst 0, 1) := by decide +kernel
theorem dX2_init_81 : decode cX2_init 81 = .ok (.putfield 58, 3) := by decide +kernel
theorem dX2_init_84 : decode cX2_init 84 = .ok (.aload_n 0, 1) := by decide +kernel
theorem dX2_init_85 : decode cX2_init 85 = .ok (.iconst 0, 1) := by decide +kernel
theorem dX2_init_86 : decode cX2_init 86 = .ok (.putfield 61, 3) := by decide +kernel
theorem dX2_init_89 : decode cX2_init 89 = .ok (.aload_n 0, 1) := by decide +kernel
theorem dX2_init_90 : decode cX2_init 90 = .ok (.iconst 0, 1) := by decide +kernel
theorem dX2_init_91 : decode cX2_init 91 = .ok (.putfield 64, 3) := by decide +kernel
theorem dX2_init_94 : decode cX2_init 94 = .ok (.aload_n 0, 1) := by decide +kernel
theorem dX2_init_95 : decode cX2_init 95 = .ok (.iload_n 1, 1) := by decide +kernel
theorem dX2_init_96 : decode cX2_init 96 = .ok (.putfield 67, 3) := by decide +kernel
theorem dX2_init_99 : decode cX2_init 99 = .ok (.return_, 1) := by decide +kernel
set_option maxRecDepth 20000 in
theorem ggX2_letsIn_X3_reckon : GoodIn wsX2_letsIn wsX3_reckon := goodIn_r _ [9, 10, 11, 12, 13, 14, 15, 16, 72, 73, 74, 75, 76, 77, 78] (by decide +kernel) (by decide +kernel)
set_option maxRecDepth 20000 in
theorem gX2_letsIn_X3_reckon : GoodIn wsX2_letsIn (wsV RX2 73 RX3 yX3_reckon wsX3_reckon) := goodIn_app (goodIn_of _ (by decide +kernel)) ggX2_letsIn_X3_reckon
set_option maxRecDepth 20000 in
theorem ggX2_letsIn_X3_refuses : GoodIn wsX2_letsIn wsX3_refuses := goodIn_r _ [20, 10, 21, 22, 72, 73, 74, 75, 76, 77, 78] (by decide +kernel) (by decide +kernel)
set_option maxRecDepth 20000 in
theorem gX2_letsIn_X3_refuses : GoodIn wsX2_letsIn (wsV RX2 77 RX3 yX3_refuses wsX3_refuses) := goodIn_app (goodIn_of _ (by decide +kernel)) ggX2_letsIn_X3_refuses
set_option maxRecDepth 20000 in
theorem ggX2_letsIn_X3_hits : GoodIn wsX2_letsIn wsX3_hits := goodIn_r _ [26, 10, 27, 22, 28, 21, 29, 30, 31, 32, 33, 34, 35, 36, 37, 38, 39, 40, 41, 42, 43, 44, 72, 73, 74, 75, 76, 77, 78, 79, 80, 81] (by decide +kernel) (by decide +kernel)
set_option maxRecDepth 20000 in
theorem gX2_letsIn_X3_hits : GoodIn wsX2_letsIn (wsV RX2 81 RX3 yX3_hits wsX3_hits) := goodIn_app (goodIn_of _ (by decide +kernel)) ggX2_letsIn_X3_hits
set_option maxRecDepth 20000 in
theorem ggX2_letsIn_X2_takesMark : GoodIn wsX2_letsIn wsX2_takesMark := goodIn_r _ [49, 50, 51, 52, 82, 83, 84, 85, 86, 87, 88, 89, 53, 54, 55, 56, 57, 58, 59, 60, 61, 62, 63, 64, 65, 66, 67] (by decide +kernel) (by decide +kernel)
set_option maxRecDepth 20000 in
theorem gX2_letsIn_X2_takesMark : GoodIn wsX2_letsIn (wsV RX2 85 RX2 yX2_takesMark wsX2_takesMark) := goodIn_app (goodIn_of _ (by decide +kernel)) ggX2_letsIn_X2_takesMark
theorem dX2_letsIn_0 : decode cX2_letsIn 0 = .ok (.aload_n 0, 1) := by decide +kernel
theorem dX2_letsIn_1 : decode cX2_letsIn 1 = .ok (.getfield 32, 3) := by decide +kernel
theorem dX2_letsIn_4 : decode cX2_letsIn 4 = .ok (.iconst 1, 1) := by decide +kernel
theorem dX2_letsIn_5 : decode cX2_letsIn 5 = .ok (.if_icmp .eq 5, 3) := by decide +kernel
theorem dX2_letsIn_8 : decode cX2_letsIn 8 = .ok (.iconst 1, 1) := by decide +kernel
theorem dX2_letsIn_9 : decode cX2_letsIn 9 = .ok (.ireturn, 1) := by decide +kernel
theorem dX2_letsIn_10 : decode cX2_letsIn 10 = .ok (.aload_n 0, 1) := by decide +kernel
theorem dX2_letsIn_11 : decode cX2_letsIn 11 = .ok (.getfield 21, 3) := by decide +kernel
theorem dX2_letsIn_14 : decode cX2_letsIn 14 = .ok (.aload_n 0, 1) := by decide +kernel
theorem dX2_letsIn_15 : decode cX2_letsIn 15 = .ok (.getfield 12, 3) := by decide +kernel
theorem dX2_letsIn_18 : decode cX2_letsIn 18 = .ok (.getfield 70, 3) := by decide +kernel
theorem dX2_letsIn_21 : decode cX2_letsIn 21 = .ok (.iload_n 2, 1) := by decide +kernel
theorem dX2_letsIn_22 : decode cX2_letsIn 22 = .ok (.invokevirtual 73, 3) := by decide +kernel
theorem dX2_letsIn_25 : decode cX2_letsIn 25 = .ok (.aload_n 0, 1) := by decide +kernel
theorem dX2_letsIn_26 : decode cX2_letsIn 26 = .ok (.getfield 21, 3) := by decide +kernel
theorem dX2_letsIn_29 : decode cX2_letsIn 29 = .ok (.invokevirtual 77, 3) := by decide +kernel
theorem dX2_letsIn_32 : decode cX2_letsIn 32 = .ok (.ifCond .eq 5, 3) := by decide +kernel
theorem dX2_letsIn_35 : decode cX2_letsIn 35 = .ok (.iconst 0, 1) := by decide +kernel
theorem dX2_letsIn_36 : decode cX2_letsIn 36 = .ok (.ireturn, 1) := by decide +kernel
theorem dX2_letsIn_37 : decode cX2_letsIn 37 = .ok (.aload_n 0, 1) := by decide +kernel
theorem dX2_letsIn_38 : decode cX2_letsIn 38 = .ok (.getfield 21, 3) := by decide +kernel
theorem dX2_letsIn_41 : decode cX2_letsIn 41 = .ok (.aload_n 3, 1) := by decide +kernel
theorem dX2_letsIn_42 : decode cX2_letsIn 42 = .ok (.invokevirtual 81, 3) := by decide +kernel
theorem dX2_letsIn_45 : decode cX2_letsIn 45 = .ok (.ifCond .eq 11, 3) := by decide +kernel
theorem dX2_letsIn_48 : decode cX2_letsIn 48 = .ok (.aload_n 0, 1) := by decide +kernel
theorem dX2_letsIn_49 : decode cX2_letsIn 49 = .ok (.aload_n 1, 1) := by decide +kernel
theorem dX2_letsIn_50 : decode cX2_letsIn 50 = .ok (.invokevirtual 85, 3) := by decide +kernel
theorem dX2_letsIn_53 : decode cX2_letsIn 53 = .ok (.ifCond .eq 7, 3) := by decide +kernel
theorem dX2_letsIn_56 : decode cX2_letsIn 56 = .ok (.iconst 1, 1) := by decide +kernel
theorem dX2_letsIn_57 : decode cX2_letsIn 57 = .ok (.goto 4, 3) := by decide +kernel
theorem dX2_letsIn_60 : decode cX2_letsIn 60 = .ok (.iconst 0, 1) := by decide +kernel
theorem dX2_letsIn_61 : decode cX2_letsIn 61 = .ok (.ireturn, 1) := by decide +kernel
set_option maxRecDepth 20000 in
theorem ggX2_letsOut_X1_hits : GoodIn wsX2_letsOut wsX1_hits := goodIn_r _ [10, 11, 12, 13, 14, 15, 16, 17, 18, 9, 19, 20, 21, 22, 23, 24, 25, 26, 27, 28, 29, 30, 31, 67, 68, 69, 70, 71, 72, 73, 74] (by decide +kernel) (by decide +kernel)
set_option maxRecDepth 20000 in
theorem gX2_letsOut_X1_hits : GoodIn wsX2_letsOut (wsV RX2 94 RX1 yX1_hits wsX1_hits) := goodIn_app (goodIn_of _ (by decide +kernel)) ggX2_letsOut_X1_hits
set_option maxRecDepth 20000 in
theorem ggX2_letsOut_X2_takesMark : GoodIn wsX2_letsOut wsX2_takesMark := goodIn_r _ [36, 37, 38, 39, 55, 56, 57, 58, 59, 60, 61, 62, 40, 41, 42, 43, 44, 45, 46, 47, 48, 49, 50, 51, 52, 53, 54] (by decide +kernel) (by decide +kernel)
set_option maxRecDepth 20000 in
theorem gX2_letsOut_X2_takesMark : GoodIn wsX2_letsOut (wsV RX2 85 RX2 yX2_takesMark wsX2_takesMark) := goodIn_app (goodIn_of _ (by decide +kernel)) ggX2_letsOut_X2_takesMark
theorem dX2_letsOut_0 : decode cX2_letsOut 0 = .ok (.aload_n 0, 1) := by decide +kernel
theorem dX2_letsOut_1 : decode cX2_letsOut 1 = .ok (.getfield 32, 3) := by decide +kernel
theorem dX2_letsOut_4 : decode cX2_letsOut 4 = .ok (.iconst 2, 1) := by decide +kernel
theorem dX2_letsOut_5 : decode cX2_letsOut 5 = .ok (.if_icmp .eq 5, 3) := by decide +kernel
theorem dX2_letsOut_8 : decode cX2_letsOut 8 = .ok (.iconst 1, 1) := by decide +kernel
theorem dX2_letsOut_9 : decode cX2_letsOut 9 = .ok (.ireturn, 1) := by decide +kernel
theorem dX2_letsOut_10 : decode cX2_letsOut 10 = .ok (.aload_n 0, 1) := by decide +kernel
theorem dX2_letsOut_11 : decode cX2_letsOut 11 = .ok (.getfield 28, 3) := by decide +kernel
theorem dX2_letsOut_14 : decode cX2_letsOut 14 = .ok (.aload_n 1, 1) := by decide +kernel
theorem dX2_letsOut_15 : decode cX2_letsOut 15 = .ok (.getfield 89, 3) := by decide +kernel
theorem dX2_letsOut_18 : decode cX2_letsOut 18 = .ok (.iload_n 2, 1) := by decide +kernel
theorem dX2_letsOut_19 : decode cX2_letsOut 19 = .ok (.aload_n 0, 1) := by decide +kernel
theorem dX2_letsOut_20 : decode cX2_letsOut 20 = .ok (.getfield 12, 3) := by decide +kernel
theorem dX2_letsOut_23 : decode cX2_letsOut 23 = .ok (.getfield 70, 3) := by decide +kernel
theorem dX2_letsOut_26 : decode cX2_letsOut 26 = .ok (.ifCond .ne 7, 3) := by decide +kernel
theorem dX2_letsOut_29 : decode cX2_letsOut 29 = .ok (.iconst 1, 1) := by decide +kernel
theorem dX2_letsOut_30 : decode cX2_letsOut 30 = .ok (.goto 4, 3) := by decide +kernel
theorem dX2_letsOut_33 : decode cX2_letsOut 33 = .ok (.iconst 0, 1) := by decide +kernel
theorem dX2_letsOut_34 : decode cX2_letsOut 34 = .ok (.invokevirtual 94, 3) := by decide +kernel
theorem dX2_letsOut_37 : decode cX2_letsOut 37 = .ok (.ifCond .eq 11, 3) := by decide +kernel
theorem dX2_letsOut_40 : decode cX2_letsOut 40 = .ok (.aload_n 0, 1) := by decide +kernel
theorem dX2_letsOut_41 : decode cX2_letsOut 41 = .ok (.aload_n 1, 1) := by decide +kernel
theorem dX2_letsOut_42 : decode cX2_letsOut 42 = .ok (.invokevirtual 85, 3) := by decide +kernel
theorem dX2_letsOut_45 : decode cX2_letsOut 45 = .ok (.ifCond .eq 7, 3) := by decide +kernel
theorem dX2_letsOut_48 : decode cX2_letsOut 48 = .ok (.iconst 1, 1) := by decide +kernel
theorem dX2_letsOut_49 : decode cX2_letsOut 49 = .ok (.goto 4, 3) := by decide +kernel
theorem dX2_letsOut_52 : decode cX2_letsOut 52 = .ok (.iconst 0, 1) := by decide +kernel
theorem dX2_letsOut_53 : decode cX2_letsOut 53 = .ok (.ireturn, 1) := by decide +kernel
theorem dX2_takesMark_0 : decode cX2_takesMark 0 = .ok (.aload_n 1, 1) := by decide +kernel
theorem dX2_takesMark_1 : decode cX2_takesMark 1 = .ok (.getfield 97, 3) := by decide +kernel
theorem dX2_takesMark_4 : decode cX2_takesMark 4 = .ok (.ifCond .eq 25, 3) := by decide +kernel
theorem dX2_takesMark_7 : decode cX2_takesMark 7 = .ok (.aload_n 1, 1) := by decide +kernel
theorem dX2_takesMark_8 : decode cX2_takesMark 8 = .ok (.getfield 101, 3) := by decide +kernel
theorem dX2_takesMark_11 : decode cX2_takesMark 11 = .ok (.ifCond .ne 18, 3) := by decide +kernel
theorem dX2_takesMark_14 : decode cX2_takesMark 14 = .ok (.aload_n 1, 1) := by decide +kernel
theorem dX2_takesMark_15 : decode cX2_takesMark 15 = .ok (.iconst 1, 1) := by decide +kernel
theorem dX2_takesMark_16 : decode cX2_takesMark 16 = .ok (.putfield 101, 3) := by decide +kernel
theorem dX2_takesMark_19 : decode cX2_takesMark 19 = .ok (.aload_n 0, 1) := by decide +kernel
theorem dX2_takesMark_20 : decode cX2_takesMark 20 = .ok (.dup, 1) := by decide +kernel
theorem dX2_takesMark_21 : decode cX2_takesMark 21 = .ok (.getfield 64, 3) := by decide +kernel
theorem dX2_takesMark_24 : decode cX2_takesMark 24 = .ok (.iconst 1, 1) := by decide +kernel
theorem dX2_takesMark_25 : decode cX2_takesMark 25 = .ok (.iadd, 1) := by decide +kernel
theorem dX2_takesMark_26 : decode cX2_takesMark 26 = .ok (.putfield 64, 3) := by decide +kernel
theorem dX2_takesMark_29 : decode cX2_takesMark 29 = .ok (.aload_n 1, 1) := by decide +kernel
theorem dX2_takesMark_30 : decode cX2_takesMark 30 = .ok (.getfield 97, 3) := by decide +kernel
theorem dX2_takesMark_33 : decode cX2_takesMark 33 = .ok (.ireturn, 1) := by decide +kernel
theorem dX3_init_0 : decode cX3_init 0 = .ok (.aload_n 0, 1) := by decide +kernel
theorem dX3_init_1 : decode cX3_init 1 = .ok (.invokespecial 1, 3) := by decide +kernel
theorem dX3_init_4 : decode cX3_init 4 = .ok (.aload_n 0, 1) := by decide +kernel
theorem dX3_init_5 : decode cX3_init 5 = .ok (.ldc2_w 7, 3) := by decide +kernel
theorem dX3_init_8 : decode cX3_init 8 = .ok (.putfield 9, 3) := by decide +kernel
theorem dX3_init_11 : decode cX3_init 11 = .ok (.aload_n 0, 1) := by decide +kernel
theorem dX3_init_12 : decode cX3_init 12 = .ok (.ldc2_w 15, 3) := by decide +kernel
theorem dX3_init_15 : decode cX3_init 15 = .ok (.putfield 17, 3) := by decide +kernel
theorem dX3_init_18 : decode cX3_init 18 = .ok (.aload_n 0, 1) := by decide +kernel
theorem dX3_init_19 : decode cX3_init 19 = .ok (.ldc2_w 20, 3) := by decide +kernel
theorem dX3_init_22 : decode cX3_init 22 = .ok (.putfield 22, 3) := by decide +kernel
theorem dX3_init_25 : decode cX3_init 25 = .ok (.aload_n 0, 1) := by decide +kernel
theorem dX3_init_26 : decode cX3_init 26 = .ok (.ldc2_w 25, 3) := by decide +kernel
theorem dX3_init_29 : decode cX3_init 29 = .ok (.putfield 27, 3) := by decide +kernel
theorem dX3_init_32 : decode cX3_init 32 = .ok (.aload_n 0, 1) := by decide +kernel
theorem dX3_init_33 : decode cX3_init 33 = .ok (.dconst 0, 1) := by decide +kernel
theorem dX3_init_34 : decode cX3_init 34 = .ok (.putfield 30, 3) := by decide +kernel
theorem dX3_init_37 : decode cX3_init 37 = .ok (.aload_n 0, 1) := by decide +kernel
theorem dX3_init_38 : decode cX3_init 38 = .ok (.iconst (-1), 1) := by decide +kernel
theorem dX3_init_39 : decode cX3_init 39 = .ok (.putfield 33, 3) := by decide +kernel
theorem dX3_init_42 : decode cX3_init 42 = .ok (.aload_n 0, 1) := by decide +kernel
theorem dX3_init_43 : decode cX3_init 43 = .ok (.iconst 0, 1) := by decide +kernel
theorem dX3_init_44 : decode cX3_init 44 = .ok (.putfield 37, 3) := by decide +kernel
theorem dX3_init_47 : decode cX3_init 47 = .ok (.return_, 1) := by decide +kernel
theorem dX3_tell_0 : decode cX3_tell 0 = .ok (.aload_n 0, 1) := by decide +kernel
theorem dX3_tell_1 : decode cX3_tell 1 = .ok (.dload_n 1, 1) := by decide +kernel
theorem dX3_tell_2 : decode cX3_tell 2 = .ok (.putfield 9, 3) := by decide +kernel
theorem dX3_tell_5 : decode cX3_tell 5 = .ok (.aload_n 0, 1) := by decide +kernel
theorem dX3_tell_6 : decode cX3_tell 6 = .ok (.dload_n 3, 1) := by decide +kernel
theorem dX3_tell_7 : decode cX3_tell 7 = .ok (.putfield 17, 3) := by decide +kernel
theorem dX3_tell_10 : decode cX3_tell 10 = .ok (.aload_n 0, 1) := by decide +kernel
theorem dX3_tell_11 : decode cX3_tell 11 = .ok (.dload 5, 2) := by decide +kernel
theorem dX3_tell_13 : decode cX3_tell 13 = .ok (.putfield 22, 3) := by decide +kernel
theorem dX3_tell_16 : decode cX3_tell 16 = .ok (.aload_n 0, 1) := by decide +kernel
theorem dX3_tell_17 : decode cX3_tell 17 = .ok (.dload 7, 2) := by decide +kernel
theorem dX3_tell_19 : decode cX3_tell 19 = .ok (.putfield 27, 3) := by decide +kernel
theorem dX3_tell_22 : decode cX3_tell 22 = .ok (.return_, 1) := by decide +kernel
theorem dX3_restart_0 : decode cX3_restart 0 = .ok (.aload_n 0, 1) := by decide +kernel
theorem dX3_restart_1 : decode cX3_restart 1 = .ok (.dconst 0, 1) := by decide +kernel
theorem dX3_restart_2 : decode cX3_restart 2 = .ok (.putfield 30, 3) := by decide +kernel
theorem dX3_restart_5 : decode cX3_restart 5 = .ok (.aload_n 0, 1) := by decide +kernel
theorem dX3_restart_6 : decode cX3_restart 6 = .ok (.iconst (-1), 1) := by decide +kernel
theorem dX3_restart_7 : decode cX3_restart 7 = .ok (.putfield 33, 3) := by decide +kernel
theorem dX3_restart_10 : decode cX3_restart 10 = .ok (.aload_n 0, 1) := by decide +kernel
theorem dX3_restart_11 : decode cX3_restart 11 = .ok (.iload_n 1, 1) := by decide +kernel
theorem dX3_restart_12 : decode cX3_restart 12 = .ok (.putfield 37, 3) := by decide +kernel
theorem dX3_restart_15 : decode cX3_restart 15 = .ok (.return_, 1) := by decide +kernel
theorem dX3_reckon_0 : decode cX3_reckon 0 = .ok (.iload_n 1, 1) := by decide +kernel
theorem dX3_reckon_1 : decode cX3_reckon 1 = .ok (.ifCond .le 25, 3) := by decide +kernel
theorem dX3_reckon_4 : decode cX3_reckon 4 = .ok (.aload_n 0, 1) := by decide +kernel
theorem dX3_reckon_5 : decode cX3_reckon 5 = .ok (.aload_n 0, 1) := by decide +kernel
theorem dX3_reckon_6 : decode cX3_reckon 6 = .ok (.getfield 30, 3) := by decide +kernel
theorem dX3_reckon_9 : decode cX3_reckon 9 = .ok (.aload_n 0, 1) := by decide +kernel
theorem dX3_reckon_10 : decode cX3_reckon 10 = .ok (.getfield 27, 3) := by decide +kernel
theorem dX3_reckon_13 : decode cX3_reckon 13 = .ok (.iload_n 1, 1) := by decide +kernel
theorem dX3_reckon_14 : decode cX3_reckon 14 = .ok (.i2d, 1) := by decide +kernel
theorem dX3_reckon_15 : decode cX3_reckon 15 = .ok (.aload_n 0, 1) := by decide +kernel
theorem dX3_reckon_16 : decode cX3_reckon 16 = .ok (.getfield 30, 3) := by decide +kernel
theorem dX3_reckon_19 : decode cX3_reckon 19 = .ok (.dsub, 1) := by decide +kernel
theorem dX3_reckon_20 : decode cX3_reckon 20 = .ok (.dmul, 1) := by decide +kernel
theorem dX3_reckon_21 : decode cX3_reckon 21 = .ok (.dadd, 1) := by decide +kernel
theorem dX3_reckon_22 : decode cX3_reckon 22 = .ok (.putfield 30, 3) := by decide +kernel
theorem dX3_reckon_25 : decode cX3_reckon 25 = .ok (.return_, 1) := by decide +kernel
theorem dX3_reckon_26 : decode cX3_reckon 26 = .ok (.iload_n 2, 1) := by decide +kernel
theorem dX3_reckon_27 : decode cX3_reckon 27 = .ok (.aload_n 0, 1) := by decide +kernel
theorem dX3_reckon_28 : decode cX3_reckon 28 = .ok (.getfield 37, 3) := by decide +kernel
theorem dX3_reckon_31 : decode cX3_reckon 31 = .ok (.isub, 1) := by decide +kernel
theorem dX3_reckon_32 : decode cX3_reckon 32 = .ok (.bipush 100, 2) := by decide +kernel
theorem dX3_reckon_34 : decode cX3_reckon 34 = .ok (.invokestatic 40, 3) := by decide +kernel
theorem dX3_reckon_37 : decode cX3_reckon 37 = .ok (.istore_n 3, 1) := by decide +kernel
theorem dX3_reckon_38 : decode cX3_reckon 38 = .ok (.iconst 0, 1) := by decide +kernel
theorem dX3_reckon_39 : decode cX3_reckon 39 = .ok (.istore 4, 2) := by decide +kernel
theorem dX3_reckon_41 : decode cX3_reckon 41 = .ok (.iload 4, 2) := by decide +kernel
theorem dX3_reckon_43 : decode cX3_reckon 43 = .ok (.iload_n 3, 1) := by decide +kernel
theorem dX3_reckon_44 : decode cX3_reckon 44 = .ok (.if_icmp .ge 24, 3) := by decide +kernel
theorem dX3_reckon_47 : decode cX3_reckon 47 = .ok (.aload_n 0, 1) := by decide +kernel
theorem dX3_reckon_48 : decode cX3_reckon 48 = .ok (.aload_n 0, 1) := by decide +kernel
theorem dX3_reckon_49 : decode cX3_reckon 49 = .ok (.getfield 30, 3) := by decide +kernel
theorem dX3_reckon_52 : decode cX3_reckon 52 = .ok (.dconst 1, 1) := by decide +kernel
theorem dX3_reckon_53 : decode cX3_reckon 53 = .ok (.aload_n 0, 1) := by decide +kernel
theorem dX3_reckon_54 : decode cX3_reckon 54 = .ok (.getfield 27, 3) := by decide +kernel
theorem dX3_reckon_57 : decode cX3_reckon 57 = .ok (.dsub, 1) := by decide +kernel
theorem dX3_reckon_58 : decode cX3_reckon 58 = .ok (.dmul, 1) := by decide +kernel
theorem dX3_reckon_59 : decode cX3_reckon 59 = .ok (.putfield 30, 3) := by decide +kernel
theorem dX3_reckon_62 : decode cX3_reckon 62 = .ok (.iinc 4 1, 3) := by decide +kernel
theorem dX3_reckon_65 : decode cX3_reckon 65 = .ok (.goto (-24), 3) := by decide +kernel
theorem dX3_reckon_68 : decode cX3_reckon 68 = .ok (.aload_n 0, 1) := by decide +kernel
theorem dX3_reckon_69 : decode cX3_reckon 69 = .ok (.iload_n 2, 1) := by decide +kernel
theorem dX3_reckon_70 : decode cX3_reckon 70 = .ok (.putfield 37, 3) := by decide +kernel
theorem dX3_reckon_73 : decode cX3_reckon 73 = .ok (.return_, 1) := by decide +kernel
theorem dX3_refuses_0 : decode cX3_refuses 0 = .ok (.aload_n 0, 1) := by decide +kernel
theorem dX3_refuses_1 : decode cX3_refuses 1 = .ok (.getfield 30, 3) := by decide +kernel
theorem dX3_refuses_4 : decode cX3_refuses 4 = .ok (.aload_n 0, 1) := by decide +kernel
theorem dX3_refuses_5 : decode cX3_refuses 5 = .ok (.getfield 17, 3) := by decide +kernel
theorem dX3_refuses_8 : decode cX3_refuses 8 = .ok (.dcmp .g, 1) := by decide +kernel
theorem dX3_refuses_9 : decode cX3_refuses 9 = .ok (.ifCond .ge 5, 3) := by decide +kernel
theorem dX3_refuses_12 : decode cX3_refuses 12 = .ok (.iconst 0, 1) := by decide +kernel
theorem dX3_refuses_13 : decode cX3_refuses 13 = .ok (.ireturn, 1) := by decide +kernel
theorem dX3_refuses_14 : decode cX3_refuses 14 = .ok (.aload_n 0, 1) := by decide +kernel
theorem dX3_refuses_15 : decode cX3_refuses 15 = .ok (.iconst 0, 1) := by decide +kernel
theorem dX3_refuses_16 : decode cX3_refuses 16 = .ok (.putfield 33, 3) := by decide +kernel
theorem dX3_refuses_19 : decode cX3_refuses 19 = .ok (.iconst 1, 1) := by decide +kernel
theorem dX3_refuses_20 : decode cX3_refuses 20 = .ok (.ireturn, 1) := by decide +kernel
set_option maxRecDepth 20000 in
theorem ggX3_hits_X0_use : GoodIn wsX3_hits wsX0_use := goodIn_r _ [10, 11, 12, 13, 14, 15, 16, 9, 17, 18, 19, 20, 21, 29, 30, 31] (by decide +kernel) (by decide +kernel)
set_option maxRecDepth 20000 in
theorem gX3_hits_X0_use : GoodIn wsX3_hits (wsV RX3 46 RX0 yX0_use wsX0_use) := goodIn_app (goodIn_of _ (by decide +kernel)) ggX3_hits_X0_use
theorem dX3_hits_0 : decode cX3_hits 0 = .ok (.aload_n 0, 1) := by decide +kernel
theorem dX3_hits_1 : decode cX3_hits 1 = .ok (.getfield 30, 3) := by decide +kernel
theorem dX3_hits_4 : decode cX3_hits 4 = .ok (.aload_n 0, 1) := by decide +kernel
theorem dX3_hits_5 : decode cX3_hits 5 = .ok (.getfield 9, 3) := by decide +kernel
theorem dX3_hits_8 : decode cX3_hits 8 = .ok (.dcmp .g, 1) := by decide +kernel
theorem dX3_hits_9 : decode cX3_hits 9 = .ok (.ifCond .ge 10, 3) := by decide +kernel
theorem dX3_hits_12 : decode cX3_hits 12 = .ok (.aload_n 0, 1) := by decide +kernel
theorem dX3_hits_13 : decode cX3_hits 13 = .ok (.iconst (-1), 1) := by decide +kernel
theorem dX3_hits_14 : decode cX3_hits 14 = .ok (.putfield 33, 3) := by decide +kernel
theorem dX3_hits_17 : decode cX3_hits 17 = .ok (.iconst 0, 1) := by decide +kernel
theorem dX3_hits_18 : decode cX3_hits 18 = .ok (.ireturn, 1) := by decide +kernel
theorem dX3_hits_19 : decode cX3_hits 19 = .ok (.aload_n 0, 1) := by decide +kernel
theorem dX3_hits_20 : decode cX3_hits 20 = .ok (.dup, 1) := by decide +kernel
theorem dX3_hits_21 : decode cX3_hits 21 = .ok (.getfield 33, 3) := by decide +kernel
theorem dX3_hits_24 : decode cX3_hits 24 = .ok (.iconst 1, 1) := by decide +kernel
theorem dX3_hits_25 : decode cX3_hits 25 = .ok (.iadd, 1) := by decide +kernel
theorem dX3_hits_26 : decode cX3_hits 26 = .ok (.putfield 33, 3) := by decide +kernel
theorem dX3_hits_29 : decode cX3_hits 29 = .ok (.aload_n 0, 1) := by decide +kernel
theorem dX3_hits_30 : decode cX3_hits 30 = .ok (.getfield 22, 3) := by decide +kernel
theorem dX3_hits_33 : decode cX3_hits 33 = .ok (.aload_n 0, 1) := by decide +kernel
theorem dX3_hits_34 : decode cX3_hits 34 = .ok (.getfield 30, 3) := by decide +kernel
theorem dX3_hits_37 : decode cX3_hits 37 = .ok (.aload_n 0, 1) := by decide +kernel
theorem dX3_hits_38 : decode cX3_hits 38 = .ok (.getfield 9, 3) := by decide +kernel
theorem dX3_hits_41 : decode cX3_hits 41 = .ok (.dsub, 1) := by decide +kernel
theorem dX3_hits_42 : decode cX3_hits 42 = .ok (.dmul, 1) := by decide +kernel
theorem dX3_hits_43 : decode cX3_hits 43 = .ok (.aload_n 0, 1) := by decide +kernel
theorem dX3_hits_44 : decode cX3_hits 44 = .ok (.getfield 17, 3) := by decide +kernel
theorem dX3_hits_47 : decode cX3_hits 47 = .ok (.aload_n 0, 1) := by decide +kernel
theorem dX3_hits_48 : decode cX3_hits 48 = .ok (.getfield 9, 3) := by decide +kernel
theorem dX3_hits_51 : decode cX3_hits 51 = .ok (.dsub, 1) := by decide +kernel
theorem dX3_hits_52 : decode cX3_hits 52 = .ok (.ddiv, 1) := by decide +kernel
theorem dX3_hits_53 : decode cX3_hits 53 = .ok (.dstore_n 2, 1) := by decide +kernel
theorem dX3_hits_54 : decode cX3_hits 54 = .ok (.dconst 1, 1) := by decide +kernel
theorem dX3_hits_55 : decode cX3_hits 55 = .ok (.aload_n 0, 1) := by decide +kernel
theorem dX3_hits_56 : decode cX3_hits 56 = .ok (.getfield 33, 3) := by decide +kernel
theorem dX3_hits_59 : decode cX3_hits 59 = .ok (.i2d, 1) := by decide +kernel
theorem dX3_hits_60 : decode cX3_hits 60 = .ok (.dload_n 2, 1) := by decide +kernel
theorem dX3_hits_61 : decode cX3_hits 61 = .ok (.dmul, 1) := by decide +kernel
theorem dX3_hits_62 : decode cX3_hits 62 = .ok (.dsub, 1) := by decide +kernel
theorem dX3_hits_63 : decode cX3_hits 63 = .ok (.dstore 4, 2) := by decide +kernel
theorem dX3_hits_65 : decode cX3_hits 65 = .ok (.dload 4, 2) := by decide +kernel
theorem dX3_hits_67 : decode cX3_hits 67 = .ok (.dconst 0, 1) := by decide +kernel
theorem dX3_hits_68 : decode cX3_hits 68 = .ok (.dcmp .g, 1) := by decide +kernel
theorem dX3_hits_69 : decode cX3_hits 69 = .ok (.ifCond .le 15, 3) := by decide +kernel
theorem dX3_hits_72 : decode cX3_hits 72 = .ok (.aload_n 1, 1) := by decide +kernel
theorem dX3_hits_73 : decode cX3_hits 73 = .ok (.invokevirtual 46, 3) := by decide +kernel
theorem dX3_hits_76 : decode cX3_hits 76 = .ok (.dload_n 2, 1) := by decide +kernel
theorem dX3_hits_77 : decode cX3_hits 77 = .ok (.dload 4, 2) := by decide +kernel
theorem dX3_hits_79 : decode cX3_hits 79 = .ok (.ddiv, 1) := by decide +kernel
theorem dX3_hits_80 : decode cX3_hits 80 = .ok (.dcmp .g, 1) := by decide +kernel
theorem dX3_hits_81 : decode cX3_hits 81 = .ok (.ifCond .ge 7, 3) := by decide +kernel
theorem dX3_hits_84 : decode cX3_hits 84 = .ok (.iconst 1, 1) := by decide +kernel
theorem dX3_hits_85 : decode cX3_hits 85 = .ok (.goto 4, 3) := by decide +kernel
theorem dX3_hits_88 : decode cX3_hits 88 = .ok (.iconst 0, 1) := by decide +kernel
theorem dX3_hits_89 : decode cX3_hits 89 = .ok (.istore 6, 2) := by decide +kernel
theorem dX3_hits_91 : decode cX3_hits 91 = .ok (.iload 6, 2) := by decide +kernel
theorem dX3_hits_93 : decode cX3_hits 93 = .ok (.ifCond .eq 8, 3) := by decide +kernel
theorem dX3_hits_96 : decode cX3_hits 96 = .ok (.aload_n 0, 1) := by decide +kernel
theorem dX3_hits_97 : decode cX3_hits 97 = .ok (.iconst 0, 1) := by decide +kernel
theorem dX3_hits_98 : decode cX3_hits 98 = .ok (.putfield 33, 3) := by decide +kernel
theorem dX3_hits_101 : decode cX3_hits 101 = .ok (.iload 6, 2) := by decide +kernel
theorem dX3_hits_103 : decode cX3_hits 103 = .ok (.ireturn, 1) := by decide +kernel
theorem dX4_init_0 : decode cX4_init 0 = .ok (.aload_n 0, 1) := by decide +kernel
theorem dX4_init_1 : decode cX4_init 1 = .ok (.invokespecial 1, 3) := by decide +kernel
theorem dX4_init_4 : decode cX4_init 4 = .ok (.aload_n 0, 1) := by decide +kernel
theorem dX4_init_5 : decode cX4_init 5 = .ok (.bipush 32, 2) := by decide +kernel
theorem dX4_init_7 : decode cX4_init 7 = .ok (.anewarray 9, 3) := by decide +kernel
theorem dX4_init_10 : decode cX4_init 10 = .ok (.putfield 11, 3) := by decide +kernel
theorem dX4_init_13 : decode cX4_init 13 = .ok (.aload_n 0, 1) := by decide +kernel
theorem dX4_init_14 : decode cX4_init 14 = .ok (.iconst 0, 1) := by decide +kernel
theorem dX4_init_15 : decode cX4_init 15 = .ok (.putfield 15, 3) := by decide +kernel
theorem dX4_init_18 : decode cX4_init 18 = .ok (.return_, 1) := by decide +kernel
set_option maxRecDepth 20000 in
theorem ggX4_add_X4_place : GoodIn wsX4_add wsX4_place := goodIn_r _ [6] (by decide +kernel) (by decide +kernel)
set_option maxRecDepth 20000 in
theorem gX4_add_X4_place : GoodIn wsX4_add (va_wsS RX4 19 yX4_place wsX4_place) := goodIn_app (goodIn_of _ (by decide +kernel)) ggX4_add_X4_place
theorem dX4_add_0 : decode cX4_add 0 = .ok (.aload_n 0, 1) := by decide +kernel
theorem dX4_add_1 : decode cX4_add 1 = .ok (.dup, 1) := by decide +kernel
theorem dX4_add_2 : decode cX4_add 2 = .ok (.getfield 15, 3) := by decide +kernel
theorem dX4_add_5 : decode cX4_add 5 = .ok (.iconst 1, 1) := by decide +kernel
theorem dX4_add_6 : decode cX4_add 6 = .ok (.iadd, 1) := by decide +kernel
theorem dX4_add_7 : decode cX4_add 7 = .ok (.putfield 15, 3) := by decide +kernel
theorem dX4_add_10 : decode cX4_add 10 = .ok (.aload_n 0, 1) := by decide +kernel
theorem dX4_add_11 : decode cX4_add 11 = .ok (.getfield 11, 3) := by decide +kernel
theorem dX4_add_14 : decode cX4_add 14 = .ok (.aload_n 0, 1) := by decide +kernel
theorem dX4_add_15 : decode cX4_add 15 = .ok (.getfield 15, 3) := by decide +kernel
theorem dX4_add_18 : decode cX4_add 18 = .ok (.invokestatic 19, 3) := by decide +kernel
theorem dX4_add_21 : decode cX4_add 21 = .ok (.aload_n 1, 1) := by decide +kernel
theorem dX4_add_22 : decode cX4_add 22 = .ok (.aastore, 1) := by decide +kernel
theorem dX4_add_23 : decode cX4_add 23 = .ok (.return_, 1) := by decide +kernel
set_option maxRecDepth 20000 in
theorem ggX4_lastBut_X4_place : GoodIn wsX4_lastBut wsX4_place := goodIn_r _ [6] (by decide +kernel) (by decide +kernel)
set_option maxRecDepth 20000 in
theorem gX4_lastBut_X4_place : GoodIn wsX4_lastBut (va_wsS RX4 19 yX4_place wsX4_place) := goodIn_app (goodIn_of _ (by decide +kernel)) ggX4_lastBut_X4_place
theorem dX4_lastBut_0 : decode cX4_lastBut 0 = .ok (.iload_n 1, 1) := by decide +kernel
theorem dX4_lastBut_1 : decode cX4_lastBut 1 = .ok (.ifCond .lt 26, 3) := by decide +kernel
theorem dX4_lastBut_4 : decode cX4_lastBut 4 = .ok (.iload_n 1, 1) := by decide +kernel
theorem dX4_lastBut_5 : decode cX4_lastBut 5 = .ok (.bipush 32, 2) := by decide +kernel
theorem dX4_lastBut_7 : decode cX4_lastBut 7 = .ok (.if_icmp .ge 20, 3) := by decide +kernel
theorem dX4_lastBut_10 : decode cX4_lastBut 10 = .ok (.aload_n 0, 1) := by decide +kernel
theorem dX4_lastBut_11 : decode cX4_lastBut 11 = .ok (.getfield 11, 3) := by decide +kernel
theorem dX4_lastBut_14 : decode cX4_lastBut 14 = .ok (.aload_n 0, 1) := by decide +kernel
theorem dX4_lastBut_15 : decode cX4_lastBut 15 = .ok (.getfield 15, 3) := by decide +kernel
theorem dX4_lastBut_18 : decode cX4_lastBut 18 = .ok (.iload_n 1, 1) := by decide +kernel
theorem dX4_lastBut_19 : decode cX4_lastBut 19 = .ok (.isub, 1) := by decide +kernel
theorem dX4_lastBut_20 : decode cX4_lastBut 20 = .ok (.invokestatic 19, 3) := by decide +kernel
theorem dX4_lastBut_23 : decode cX4_lastBut 23 = .ok (.aaload, 1) := by decide +kernel
theorem dX4_lastBut_24 : decode cX4_lastBut 24 = .ok (.goto 4, 3) := by decide +kernel
theorem dX4_lastBut_27 : decode cX4_lastBut 27 = .ok (.aconst_null, 1) := by decide +kernel
theorem dX4_lastBut_28 : decode cX4_lastBut 28 = .ok (.areturn, 1) := by decide +kernel
theorem dX4_place_0 : decode cX4_place 0 = .ok (.iload_n 0, 1) := by decide +kernel
theorem dX4_place_1 : decode cX4_place 1 = .ok (.bipush 31, 2) := by decide +kernel
theorem dX4_place_3 : decode cX4_place 3 = .ok (.iand, 1) := by decide +kernel
theorem dX4_place_4 : decode cX4_place 4 = .ok (.ireturn, 1) := by decide +kernel
theorem dX5_init_0 : decode cX5_init 0 = .ok (.aload_n 0, 1) := by decide +kernel
theorem dX5_init_1 : decode cX5_init 1 = .ok (.invokespecial 1, 3) := by decide +kernel
theorem dX5_init_4 : decode cX5_init 4 = .ok (.aload_n 0, 1) := by decide +kernel
theorem dX5_init_5 : decode cX5_init 5 = .ok (.iconst 0, 1) := by decide +kernel
theorem dX5_init_6 : decode cX5_init 6 = .ok (.putfield 7, 3) := by decide +kernel
theorem dX5_init_9 : decode cX5_init 9 = .ok (.aload_n 0, 1) := by decide +kernel
theorem dX5_init_10 : decode cX5_init 10 = .ok (.iconst 0, 1) := by decide +kernel
theorem dX5_init_11 : decode cX5_init 11 = .ok (.putfield 13, 3) := by decide +kernel
theorem dX5_init_14 : decode cX5_init 14 = .ok (.aload_n 0, 1) := by decide +kernel
theorem dX5_init_15 : decode cX5_init 15 = .ok (.aconst_null, 1) := by decide +kernel
theorem dX5_init_16 : decode cX5_init 16 = .ok (.putfield 17, 3) := by decide +kernel
theorem dX5_init_19 : decode cX5_init 19 = .ok (.aload_n 0, 1) := by decide +kernel
theorem dX5_init_20 : decode cX5_init 20 = .ok (.iload_n 1, 1) := by decide +kernel
theorem dX5_init_21 : decode cX5_init 21 = .ok (.putfield 21, 3) := by decide +kernel
theorem dX5_init_24 : decode cX5_init 24 = .ok (.aload_n 0, 1) := by decide +kernel
theorem dX5_init_25 : decode cX5_init 25 = .ok (.aload_n 2, 1) := by decide +kernel
theorem dX5_init_26 : decode cX5_init 26 = .ok (.putfield 24, 3) := by decide +kernel
theorem dX5_init_29 : decode cX5_init 29 = .ok (.aload_n 0, 1) := by decide +kernel
theorem dX5_init_30 : decode cX5_init 30 = .ok (.iload_n 3, 1) := by decide +kernel
theorem dX5_init_31 : decode cX5_init 31 = .ok (.putfield 28, 3) := by decide +kernel
theorem dX5_init_34 : decode cX5_init 34 = .ok (.aload_n 0, 1) := by decide +kernel
theorem dX5_init_35 : decode cX5_init 35 = .ok (.iload 4, 2) := by decide +kernel
theorem dX5_init_37 : decode cX5_init 37 = .ok (.putfield 31, 3) := by decide +kernel
theorem dX5_init_40 : decode cX5_init 40 = .ok (.aload_n 0, 1) := by decide +kernel
theorem dX5_init_41 : decode cX5_init 41 = .ok (.iload 5, 2) := by decide +kernel
theorem dX5_init_43 : decode cX5_init 43 = .ok (.putfield 34, 3) := by decide +kernel
theorem dX5_init_46 : decode cX5_init 46 = .ok (.return_, 1) := by decide +kernel
theorem dX6_init_0 : decode cX6_init 0 = .ok (.aload_n 0, 1) := by decide +kernel
theorem dX6_init_1 : decode cX6_init 1 = .ok (.invokespecial 1, 3) := by decide +kernel
theorem dX6_init_4 : decode cX6_init 4 = .ok (.aload_n 0, 1) := by decide +kernel
theorem dX6_init_5 : decode cX6_init 5 = .ok (.aconst_null, 1) := by decide +kernel
theorem dX6_init_6 : decode cX6_init 6 = .ok (.putfield 7, 3) := by decide +kernel
theorem dX6_init_9 : decode cX6_init 9 = .ok (.aload_n 0, 1) := by decide +kernel
theorem dX6_init_10 : decode cX6_init 10 = .ok (.aconst_null, 1) := by decide +kernel
theorem dX6_init_11 : decode cX6_init 11 = .ok (.putfield 13, 3) := by decide +kernel
theorem dX6_init_14 : decode cX6_init 14 = .ok (.aload_n 0, 1) := by decide +kernel
theorem dX6_init_15 : decode cX6_init 15 = .ok (.iconst 0, 1) := by decide +kernel
theorem dX6_init_16 : decode cX6_init 16 = .ok (.putfield 16, 3) := by decide +kernel
theorem dX6_init_19 : decode cX6_init 19 = .ok (.aload_n 0, 1) := by decide +kernel
theorem dX6_init_20 : decode cX6_init 20 = .ok (.iconst 0, 1) := by decide +kernel
theorem dX6_init_21 : decode cX6_init 21 = .ok (.putfield 20, 3) := by decide +kernel
theorem dX6_init_24 : decode cX6_init 24 = .ok (.return_, 1) := by decide +kernel
theorem dX6_add_0 : decode cX6_add 0 = .ok (.aload_n 0, 1) := by decide +kernel
theorem dX6_add_1 : decode cX6_add 1 = .ok (.getfield 13, 3) := by decide +kernel
theorem dX6_add_4 : decode cX6_add 4 = .ok (.ifnonnull 11, 3) := by decide +kernel
theorem dX6_add_7 : decode cX6_add 7 = .ok (.aload_n 0, 1) := by decide +kernel
theorem dX6_add_8 : decode cX6_add 8 = .ok (.aload_n 1, 1) := by decide +kernel
theorem dX6_add_9 : decode cX6_add 9 = .ok (.putfield 7, 3) := by decide +kernel
theorem dX6_add_12 : decode cX6_add 12 = .ok (.goto 11, 3) := by decide +kernel
theorem dX6_add_15 : decode cX6_add 15 = .ok (.aload_n 0, 1) := by decide +kernel
theorem dX6_add_16 : decode cX6_add 16 = .ok (.getfield 13, 3) := by decide +kernel
theorem dX6_add_19 : decode cX6_add 19 = .ok (.aload_n 1, 1) := by decide +kernel
theorem dX6_add_20 : decode cX6_add 20 = .ok (.putfield 23, 3) := by decide +kernel
theorem dX6_add_23 : decode cX6_add 23 = .ok (.aload_n 0, 1) := by decide +kernel
theorem dX6_add_24 : decode cX6_add 24 = .ok (.aload_n 1, 1) := by decide +kernel
theorem dX6_add_25 : decode cX6_add 25 = .ok (.putfield 13, 3) := by decide +kernel
theorem dX6_add_28 : decode cX6_add 28 = .ok (.aload_n 0, 1) := by decide +kernel
theorem dX6_add_29 : decode cX6_add 29 = .ok (.dup, 1) := by decide +kernel
theorem dX6_add_30 : decode cX6_add 30 = .ok (.getfield 16, 3) := by decide +kernel
theorem dX6_add_33 : decode cX6_add 33 = .ok (.iconst 1, 1) := by decide +kernel
theorem dX6_add_34 : decode cX6_add 34 = .ok (.iadd, 1) := by decide +kernel
theorem dX6_add_35 : decode cX6_add 35 = .ok (.putfield 16, 3) := by decide +kernel
theorem dX6_add_38 : decode cX6_add 38 = .ok (.aload_n 0, 1) := by decide +kernel
theorem dX6_add_39 : decode cX6_add 39 = .ok (.dup, 1) := by decide +kernel
theorem dX6_add_40 : decode cX6_add 40 = .ok (.getfield 20, 3) := by decide +kernel
theorem dX6_add_43 : decode cX6_add 43 = .ok (.aload_n 1, 1) := by decide +kernel
theorem dX6_add_44 : decode cX6_add 44 = .ok (.getfield 28, 3) := by decide +kernel
theorem dX6_add_47 : decode cX6_add 47 = .ok (.iadd, 1) := by decide +kernel
theorem dX6_add_48 : decode cX6_add 48 = .ok (.putfield 20, 3) := by decide +kernel
theorem dX6_add_51 : decode cX6_add 51 = .ok (.return_, 1) := by decide +kernel
theorem dX6_removeFirst_0 : decode cX6_removeFirst 0 = .ok (.aload_n 0, 1) := by decide +kernel
theorem dX6_removeFirst_1 : decode cX6_removeFirst 1 = .ok (.getfield 7, 3) := by decide +kernel
theorem dX6_removeFirst_4 : decode cX6_removeFirst 4 = .ok (.astore_n 1, 1) := by decide +kernel
theorem dX6_removeFirst_5 : decode cX6_removeFirst 5 = .ok (.aload_n 1, 1) := by decide +kernel
theorem dX6_removeFirst_6 : decode cX6_removeFirst 6 = .ok (.ifnonnull 4, 3) := by decide +kernel
theorem dX6_removeFirst_9 : decode cX6_removeFirst 9 = .ok (.return_, 1) := by decide +kernel
theorem dX6_removeFirst_10 : decode cX6_removeFirst 10 = .ok (.aload_n 0, 1) := by decide +kernel
theorem dX6_removeFirst_11 : decode cX6_removeFirst 11 = .ok (.aload_n 1, 1) := by decide +kernel
theorem dX6_removeFirst_12 : decode cX6_removeFirst 12 = .ok (.getfield 23, 3) := by decide +kernel
theorem dX6_removeFirst_15 : decode cX6_removeFirst 15 = .ok (.putfield 7, 3) := by decide +kernel
theorem dX6_removeFirst_18 : decode cX6_removeFirst 18 = .ok (.aload_n 0, 1) := by decide +kernel
theorem dX6_removeFirst_19 : decode cX6_removeFirst 19 = .ok (.getfield 7, 3) := by decide +kernel
theorem dX6_removeFirst_22 : decode cX6_removeFirst 22 = .ok (.ifnonnull 8, 3) := by decide +kernel
theorem dX6_removeFirst_25 : decode cX6_removeFirst 25 = .ok (.aload_n 0, 1) := by decide +kernel
theorem dX6_removeFirst_26 : decode cX6_removeFirst 26 = .ok (.aconst_null, 1) := by decide +kernel
theorem dX6_removeFirst_27 : decode cX6_removeFirst 27 = .ok (.putfield 13, 3) := by decide +kernel
theorem dX6_removeFirst_30 : decode cX6_removeFirst 30 = .ok (.aload_n 1, 1) := by decide +kernel
theorem dX6_removeFirst_31 : decode cX6_removeFirst 31 = .ok (.aconst_null, 1) := by decide +kernel
theorem dX6_removeFirst_32 : decode cX6_removeFirst 32 = .ok (.putfield 23, 3) := by decide +kernel
theorem dX6_removeFirst_35 : decode cX6_removeFirst 35 = .ok (.aload_n 0, 1) := by decide +kernel
theorem dX6_removeFirst_36 : decode cX6_removeFirst 36 = .ok (.dup, 1) := by decide +kernel
theorem dX6_removeFirst_37 : decode cX6_removeFirst 37 = .ok (.getfield 16, 3) := by decide +kernel
theorem dX6_removeFirst_40 : decode cX6_removeFirst 40 = .ok (.iconst 1, 1) := by decide +kernel
theorem dX6_removeFirst_41 : decode cX6_removeFirst 41 = .ok (.isub, 1) := by decide +kernel
theorem dX6_removeFirst_42 : decode cX6_removeFirst 42 = .ok (.putfield 16, 3) := by decide +kernel
theorem dX6_removeFirst_45 : decode cX6_removeFirst 45 = .ok (.aload_n 0, 1) := by decide +kernel
theorem dX6_removeFirst_46 : decode cX6_removeFirst 46 = .ok (.dup, 1) := by decide +kernel
theorem dX6_removeFirst_47 : decode cX6_removeFirst 47 = .ok (.getfield 20, 3) := by decide +kernel
theorem dX6_removeFirst_50 : decode cX6_removeFirst 50 = .ok (.aload_n 1, 1) := by decide +kernel
theorem dX6_removeFirst_51 : decode cX6_removeFirst 51 = .ok (.getfield 28, 3) := by decide +kernel
theorem dX6_removeFirst_54 : decode cX6_removeFirst 54 = .ok (.isub, 1) := by decide +kernel
theorem dX6_removeFirst_55 : decode cX6_removeFirst 55 = .ok (.putfield 20, 3) := by decide +kernel
theorem dX6_removeFirst_58 : decode cX6_removeFirst 58 = .ok (.return_, 1) := by decide +kernel
theorem dX7_init_0 : decode cX7_init 0 = .ok (.aload_n 0, 1) := by decide +kernel
theorem dX7_init_1 : decode cX7_init 1 = .ok (.invokespecial 1, 3) := by decide +kernel
theorem dX7_init_4 : decode cX7_init 4 = .ok (.aload_n 0, 1) := by decide +kernel
theorem dX7_init_5 : decode cX7_init 5 = .ok (.aconst_null, 1) := by decide +kernel
theorem dX7_init_6 : decode cX7_init 6 = .ok (.putfield 7, 3) := by decide +kernel
theorem dX7_init_9 : decode cX7_init 9 = .ok (.aload_n 0, 1) := by decide +kernel
theorem dX7_init_10 : decode cX7_init 10 = .ok (.aconst_null, 1) := by decide +kernel
theorem dX7_init_11 : decode cX7_init 11 = .ok (.putfield 13, 3) := by decide +kernel
theorem dX7_init_14 : decode cX7_init 14 = .ok (.aload_n 0, 1) := by decide +kernel
theorem dX7_init_15 : decode cX7_init 15 = .ok (.iconst 0, 1) := by decide +kernel
theorem dX7_init_16 : decode cX7_init 16 = .ok (.putfield 16, 3) := by decide +kernel
theorem dX7_init_19 : decode cX7_init 19 = .ok (.return_, 1) := by decide +kernel
theorem dX7_join_0 : decode cX7_join 0 = .ok (.aload_n 0, 1) := by decide +kernel
theorem dX7_join_1 : decode cX7_join 1 = .ok (.getfield 13, 3) := by decide +kernel
theorem dX7_join_4 : decode cX7_join 4 = .ok (.ifnonnull 11, 3) := by decide +kernel
theorem dX7_join_7 : decode cX7_join 7 = .ok (.aload_n 0, 1) := by decide +kernel
theorem dX7_join_8 : decode cX7_join 8 = .ok (.aload_n 1, 1) := by decide +kernel
theorem dX7_join_9 : decode cX7_join 9 = .ok (.putfield 7, 3) := by decide +kernel
theorem dX7_join_12 : decode cX7_join 12 = .ok (.goto 11, 3) := by decide +kernel
theorem dX7_join_15 : decode cX7_join 15 = .ok (.aload_n 0, 1) := by decide +kernel
theorem dX7_join_16 : decode cX7_join 16 = .ok (.getfield 13, 3) := by decide +kernel
theorem dX7_join_19 : decode cX7_join 19 = .ok (.aload_n 1, 1) := by decide +kernel
theorem dX7_join_20 : decode cX7_join 20 = .ok (.putfield 20, 3) := by decide +kernel
theorem dX7_join_23 : decode cX7_join 23 = .ok (.aload_n 0, 1) := by decide +kernel
theorem dX7_join_24 : decode cX7_join 24 = .ok (.aload_n 1, 1) := by decide +kernel
theorem dX7_join_25 : decode cX7_join 25 = .ok (.putfield 13, 3) := by decide +kernel
theorem dX7_join_28 : decode cX7_join 28 = .ok (.return_, 1) := by decide +kernel
theorem dX7_begin_0 : decode cX7_begin 0 = .ok (.aload_n 0, 1) := by decide +kernel
theorem dX7_begin_1 : decode cX7_begin 1 = .ok (.getfield 7, 3) := by decide +kernel
theorem dX7_begin_4 : decode cX7_begin 4 = .ok (.ifnull 34, 3) := by decide +kernel
theorem dX7_begin_7 : decode cX7_begin 7 = .ok (.aload_n 0, 1) := by decide +kernel
theorem dX7_begin_8 : decode cX7_begin 8 = .ok (.getfield 16, 3) := by decide +kernel
theorem dX7_begin_11 : decode cX7_begin 11 = .ok (.ifCond .ne 27, 3) := by decide +kernel
theorem dX7_begin_14 : decode cX7_begin 14 = .ok (.aload_n 0, 1) := by decide +kernel
theorem dX7_begin_15 : decode cX7_begin 15 = .ok (.getfield 7, 3) := by decide +kernel
theorem dX7_begin_18 : decode cX7_begin 18 = .ok (.dup, 1) := by decide +kernel
theorem dX7_begin_19 : decode cX7_begin 19 = .ok (.getfield 25, 3) := by decide +kernel
theorem dX7_begin_22 : decode cX7_begin 22 = .ok (.aload_n 0, 1) := by decide +kernel
theorem dX7_begin_23 : decode cX7_begin 23 = .ok (.getfield 7, 3) := by decide +kernel
theorem dX7_begin_26 : decode cX7_begin 26 = .ok (.getfield 29, 3) := by decide +kernel
theorem dX7_begin_29 : decode cX7_begin 29 = .ok (.iadd, 1) := by decide +kernel
theorem dX7_begin_30 : decode cX7_begin 30 = .ok (.putfield 25, 3) := by decide +kernel
theorem dX7_begin_33 : decode cX7_begin 33 = .ok (.aload_n 0, 1) := by decide +kernel
theorem dX7_begin_34 : decode cX7_begin 34 = .ok (.iconst 1, 1) := by decide +kernel
theorem dX7_begin_35 : decode cX7_begin 35 = .ok (.putfield 16, 3) := by decide +kernel
theorem dX7_begin_38 : decode cX7_begin 38 = .ok (.return_, 1) := by decide +kernel
set_option maxRecDepth 20000 in
theorem ggX7_passOn_X7_takeFirst : GoodIn wsX7_passOn wsX7_takeFirst := goodIn_r _ [5, 6, 7, 8, 9, 14, 15, 16, 17, 18, 19, 20, 21, 22, 23, 24, 25, 26, 27, 28, 29, 30, 31] (by decide +kernel) (by decide +kernel)
set_option maxRecDepth 20000 in
theorem gX7_passOn_X7_takeFirst : GoodIn wsX7_passOn (wsV RX7 32 RX7 yX7_takeFirst wsX7_takeFirst) := goodIn_app (goodIn_of _ (by decide +kernel)) ggX7_passOn_X7_takeFirst
set_option maxRecDepth 20000 in
theorem ggX7_passOn_X7_join : GoodIn wsX7_passOn wsX7_join := goodIn_r _ [13, 8, 6, 7, 14, 15, 16, 17, 18, 19, 20, 21, 22, 23, 24, 25, 26, 27, 28, 29, 30, 31] (by decide +kernel) (by decide +kernel)
set_option maxRecDepth 20000 in
theorem gX7_passOn_X7_join : GoodIn wsX7_passOn (wsV RX7 36 RX7 yX7_join wsX7_join) := goodIn_app (goodIn_of _ (by decide +kernel)) ggX7_passOn_X7_join
theorem dX7_passOn_0 : decode cX7_passOn 0 = .ok (.aload_n 0, 1) := by decide +kernel
theorem dX7_passOn_1 : decode cX7_passOn 1 = .ok (.invokevirtual 32, 3) := by decide +kernel
theorem dX7_passOn_4 : decode cX7_passOn 4 = .ok (.astore_n 1, 1) := by decide +kernel
theorem dX7_passOn_5 : decode cX7_passOn 5 = .ok (.aload_n 1, 1) := by decide +kernel
theorem dX7_passOn_6 : decode cX7_passOn 6 = .ok (.ifnull 8, 3) := by decide +kernel
theorem dX7_passOn_9 : decode cX7_passOn 9 = .ok (.aload_n 0, 1) := by decide +kernel
theorem dX7_passOn_10 : decode cX7_passOn 10 = .ok (.aload_n 1, 1) := by decide +kernel
theorem dX7_passOn_11 : decode cX7_passOn 11 = .ok (.invokevirtual 36, 3) := by decide +kernel
theorem dX7_passOn_14 : decode cX7_passOn 14 = .ok (.return_, 1) := by decide +kernel
set_option maxRecDepth 20000 in
theorem ggX7_leave_X7_takeFirst : GoodIn wsX7_leave wsX7_takeFirst := goodIn_r _ [6, 7, 8, 9, 10, 26, 27, 28, 11, 12, 13, 14, 15, 16, 17, 18, 19, 20, 21, 22, 23, 24, 25] (by decide +kernel) (by decide +kernel)
set_option maxRecDepth 20000 in
theorem gX7_leave_X7_takeFirst : GoodIn wsX7_leave (wsV RX7 32 RX7 yX7_takeFirst wsX7_takeFirst) := goodIn_app (goodIn_of _ (by decide +kernel)) ggX7_leave_X7_takeFirst
theorem dX7_leave_0 : decode cX7_leave 0 = .ok (.aload_n 0, 1) := by decide +kernel
theorem dX7_leave_1 : decode cX7_leave 1 = .ok (.invokevirtual 32, 3) := by decide +kernel
theorem dX7_leave_4 : decode cX7_leave 4 = .ok (.astore_n 1, 1) := by decide +kernel
theorem dX7_leave_5 : decode cX7_leave 5 = .ok (.aload_n 1, 1) := by decide +kernel
theorem dX7_leave_6 : decode cX7_leave 6 = .ok (.ifnull 8, 3) := by decide +kernel
theorem dX7_leave_9 : decode cX7_leave 9 = .ok (.aload_n 1, 1) := by decide +kernel
theorem dX7_leave_10 : decode cX7_leave 10 = .ok (.iconst 0, 1) := by decide +kernel
theorem dX7_leave_11 : decode cX7_leave 11 = .ok (.putfield 25, 3) := by decide +kernel
theorem dX7_leave_14 : decode cX7_leave 14 = .ok (.return_, 1) := by decide +kernel
theorem dX7_flowAfter_0 : decode cX7_flowAfter 0 = .ok (.iload_n 1, 1) := by decide +kernel
theorem dX7_flowAfter_1 : decode cX7_flowAfter 1 = .ok (.ifCond .ge 7, 3) := by decide +kernel
theorem dX7_flowAfter_4 : decode cX7_flowAfter 4 = .ok (.aconst_null, 1) := by decide +kernel
theorem dX7_flowAfter_5 : decode cX7_flowAfter 5 = .ok (.goto 7, 3) := by decide +kernel
theorem dX7_flowAfter_8 : decode cX7_flowAfter 8 = .ok (.aload_n 0, 1) := by decide +kernel
theorem dX7_flowAfter_9 : decode cX7_flowAfter 9 = .ok (.getfield 7, 3) := by decide +kernel
theorem dX7_flowAfter_12 : decode cX7_flowAfter 12 = .ok (.astore_n 2, 1) := by decide +kernel
theorem dX7_flowAfter_13 : decode cX7_flowAfter 13 = .ok (.iconst 0, 1) := by decide +kernel
theorem dX7_flowAfter_14 : decode cX7_flowAfter 14 = .ok (.istore_n 3, 1) := by decide +kernel
theorem dX7_flowAfter_15 : decode cX7_flowAfter 15 = .ok (.iload_n 3, 1) := by decide +kernel
theorem dX7_flowAfter_16 : decode cX7_flowAfter 16 = .ok (.iload_n 1, 1) := by decide +kernel
theorem dX7_flowAfter_17 : decode cX7_flowAfter 17 = .ok (.if_icmp .ge 18, 3) := by decide +kernel
theorem dX7_flowAfter_20 : decode cX7_flowAfter 20 = .ok (.aload_n 2, 1) := by decide +kernel
theorem dX7_flowAfter_21 : decode cX7_flowAfter 21 = .ok (.ifnull 14, 3) := by decide +kernel
theorem dX7_flowAfter_24 : decode cX7_flowAfter 24 = .ok (.aload_n 2, 1) := by decide +kernel
theorem dX7_flowAfter_25 : decode cX7_flowAfter 25 = .ok (.getfield 20, 3) := by decide +kernel
theorem dX7_flowAfter_28 : decode cX7_flowAfter 28 = .ok (.astore_n 2, 1) := by decide +kernel
theorem dX7_flowAfter_29 : decode cX7_flowAfter 29 = .ok (.iinc 3 1, 3) := by decide +kernel
theorem dX7_flowAfter_32 : decode cX7_flowAfter 32 = .ok (.goto (-17), 3) := by decide +kernel
theorem dX7_flowAfter_35 : decode cX7_flowAfter 35 = .ok (.aload_n 2, 1) := by decide +kernel
theorem dX7_flowAfter_36 : decode cX7_flowAfter 36 = .ok (.areturn, 1) := by decide +kernel
theorem dX7_takeFirst_0 : decode cX7_takeFirst 0 = .ok (.aload_n 0, 1) := by decide +kernel
theorem dX7_takeFirst_1 : decode cX7_takeFirst 1 = .ok (.getfield 7, 3) := by decide +kernel
theorem dX7_takeFirst_4 : decode cX7_takeFirst 4 = .ok (.astore_n 1, 1) := by decide +kernel
theorem dX7_takeFirst_5 : decode cX7_takeFirst 5 = .ok (.aload_n 1, 1) := by decide +kernel
theorem dX7_takeFirst_6 : decode cX7_takeFirst 6 = .ok (.ifnonnull 5, 3) := by decide +kernel
theorem dX7_takeFirst_9 : decode cX7_takeFirst 9 = .ok (.aconst_null, 1) := by decide +kernel
theorem dX7_takeFirst_10 : decode cX7_takeFirst 10 = .ok (.areturn, 1) := by decide +kernel
theorem dX7_takeFirst_11 : decode cX7_takeFirst 11 = .ok (.aload_n 0, 1) := by decide +kernel
theorem dX7_takeFirst_12 : decode cX7_takeFirst 12 = .ok (.aload_n 1, 1) := by decide +kernel
theorem dX7_takeFirst_13 : decode cX7_takeFirst 13 = .ok (.getfield 20, 3) := by decide +kernel
theorem dX7_takeFirst_16 : decode cX7_takeFirst 16 = .ok (.putfield 7, 3) := by decide +kernel
theorem dX7_takeFirst_19 : decode cX7_takeFirst 19 = .ok (.aload_n 0, 1) := by decide +kernel
theorem dX7_takeFirst_20 : decode cX7_takeFirst 20 = .ok (.getfield 7, 3) := by decide +kernel
theorem dX7_takeFirst_23 : decode cX7_takeFirst 23 = .ok (.ifnonnull 8, 3) := by decide +kernel
theorem dX7_takeFirst_26 : decode cX7_takeFirst 26 = .ok (.aload_n 0, 1) := by decide +kernel
theorem dX7_takeFirst_27 : decode cX7_takeFirst 27 = .ok (.aconst_null, 1) := by decide +kernel
theorem dX7_takeFirst_28 : decode cX7_takeFirst 28 = .ok (.putfield 13, 3) := by decide +kernel
theorem dX7_takeFirst_31 : decode cX7_takeFirst 31 = .ok (.aload_n 1, 1) := by decide +kernel
theorem dX7_takeFirst_32 : decode cX7_takeFirst 32 = .ok (.aconst_null, 1) := by decide +kernel
theorem dX7_takeFirst_33 : decode cX7_takeFirst 33 = .ok (.putfield 20, 3) := by decide +kernel
theorem dX7_takeFirst_36 : decode cX7_takeFirst 36 = .ok (.aload_n 0, 1) := by decide +kernel
theorem dX7_takeFirst_37 : decode cX7_takeFirst 37 = .ok (.iconst 0, 1) := by decide +kernel
theorem dX7_takeFirst_38 : decode cX7_takeFirst 38 = .ok (.putfield 16, 3) := by decide +kernel
theorem dX7_takeFirst_41 : decode cX7_takeFirst 41 = .ok (.aload_n 1, 1) := by decide +kernel
theorem dX7_takeFirst_42 : decode cX7_takeFirst 42 = .ok (.areturn, 1) := by decide +kernel
set_option maxRecDepth 20000 in
theorem ggX8_init_X7_init : GoodIn wsX8_init wsX7_init := goodIn_r _ [30, 31, 2, 3, 32, 33, 34, 121, 122, 123] (by decide +kernel) (by decide +kernel)
set_option maxRecDepth 20000 in
theorem gX8_init_X7_init_n17 : GoodIn wsX8_init (wsX7_init) := ggX8_init_X7_init
set_option maxRecDepth 20000 in
theorem ggX8_init_X0_init : GoodIn wsX8_init wsX0_init := goodIn_r _ [36, 37, 2, 3, 38, 39, 40, 41, 124, 125, 126] (by decide +kernel) (by decide +kernel)
set_option maxRecDepth 20000 in
theorem gX8_init_X0_init_n24 : GoodIn wsX8_init (wsX0_init) := ggX8_init_X0_init
set_option maxRecDepth 20000 in
theorem ggX8_init_X4_init : GoodIn wsX8_init wsX4_init := goodIn_r _ [43, 44, 2, 3, 45, 46, 47, 127, 128] (by decide +kernel) (by decide +kernel)
set_option maxRecDepth 20000 in
theorem gX8_init_X4_init_n31 : GoodIn wsX8_init (wsX4_init) := ggX8_init_X4_init
set_option maxRecDepth 20000 in
theorem ggX8_init_X2_init : GoodIn wsX8_init wsX2_init := goodIn_r _ [50, 51, 2, 3, 52, 53, 54, 55, 56, 57, 58, 59, 60, 61, 62, 63, 64, 65, 66, 67, 68, 69, 70, 71, 72, 73, 74, 75, 76, 77, 78, 79, 80, 81, 82, 83, 84, 85, 86, 87, 88, 89, 90, 91, 92, 93, 94, 95, 96, 97, 98, 99, 100, 101, 102, 103, 104, 105, 106, 107, 108, 109, 144, 145, 146, 147, 129, 130, 131, 132, 133, 134, 135, 136, 137, 138, 139, 140, 141, 142, 143, 148, 149, 150, 151, 152, 153, 154, 155, 156, 157, 158, 159, 160, 161, 162] (by decide +kernel) (by decide +kernel)
set_option maxRecDepth 20000 in
theorem gX8_init_X2_init : GoodIn wsX8_init (wsX2_init) := ggX8_init_X2_init
theorem dX8_init_0 : decode cX8_init 0 = .ok (.aload_n 0, 1) := by decide +kernel
theorem dX8_init_1 : decode cX8_init 1 = .ok (.invokespecial 1, 3) := by decide +kernel
theorem dX8_init_4 : decode cX8_init 4 = .ok (.aload_n 0, 1) := by decide +kernel
theorem dX8_init_5 : decode cX8_init 5 = .ok (.bipush 6, 2) := by decide +kernel
theorem dX8_init_7 : decode cX8_init 7 = .ok (.anewarray 9, 3) := by decide +kernel
theorem dX8_init_10 : decode cX8_init 10 = .ok (.putfield 11, 3) := by decide +kernel
theorem dX8_init_13 : decode cX8_init 13 = .ok (.aload_n 0, 1) := by decide +kernel
theorem dX8_init_14 : decode cX8_init 14 = .ok (.new 15, 3) := by decide +kernel
theorem dX8_init_17 : decode cX8_init 17 = .ok (.dup, 1) := by decide +kernel
theorem dX8_init_18 : decode cX8_init 18 = .ok (.invokespecial 17, 3) := by decide +kernel
theorem dX8_init_21 : decode cX8_init 21 = .ok (.putfield 18, 3) := by decide +kernel
theorem dX8_init_24 : decode cX8_init 24 = .ok (.aload_n 0, 1) := by decide +kernel
theorem dX8_init_25 : decode cX8_init 25 = .ok (.new 22, 3) := by decide +kernel
theorem dX8_init_28 : decode cX8_init 28 = .ok (.dup, 1) := by decide +kernel
theorem dX8_init_29 : decode cX8_init 29 = .ok (.invokespecial 24, 3) := by decide +kernel
theorem dX8_init_32 : decode cX8_init 32 = .ok (.putfield 25, 3) := by decide +kernel
theorem dX8_init_35 : decode cX8_init 35 = .ok (.aload_n 0, 1) := by decide +kernel
theorem dX8_init_36 : decode cX8_init 36 = .ok (.new 29, 3) := by decide +kernel
theorem dX8_init_39 : decode cX8_init 39 = .ok (.dup, 1) := by decide +kernel
theorem dX8_init_40 : decode cX8_init 40 = .ok (.invokespecial 31, 3) := by decide +kernel
theorem dX8_init_43 : decode cX8_init 43 = .ok (.putfield 32, 3) := by decide +kernel
theorem dX8_init_46 : decode cX8_init 46 = .ok (.aload_n 0, 1) := by decide +kernel
theorem dX8_init_47 : decode cX8_init 47 = .ok (.iconst 0, 1) := by decide +kernel
theorem dX8_init_48 : decode cX8_init 48 = .ok (.putfield 36, 3) := by decide +kernel
theorem dX8_init_51 : decode cX8_init 51 = .ok (.aload_n 0, 1) := by decide +kernel
theorem dX8_init_52 : decode cX8_init 52 = .ok (.iconst 0, 1) := by decide +kernel
theorem dX8_init_53 : decode cX8_init 53 = .ok (.putfield 40, 3) := by decide +kernel
theorem dX8_init_56 : decode cX8_init 56 = .ok (.aload_n 0, 1) := by decide +kernel
theorem dX8_init_57 : decode cX8_init 57 = .ok (.iconst 0, 1) := by decide +kernel
theorem dX8_init_58 : decode cX8_init 58 = .ok (.putfield 43, 3) := by decide +kernel
theorem dX8_init_61 : decode cX8_init 61 = .ok (.aload_n 0, 1) := by decide +kernel
theorem dX8_init_62 : decode cX8_init 62 = .ok (.iconst 0, 1) := by decide +kernel
theorem dX8_init_63 : decode cX8_init 63 = .ok (.putfield 46, 3) := by decide +kernel
theorem dX8_init_66 : decode cX8_init 66 = .ok (.aload_n 0, 1) := by decide +kernel
theorem dX8_init_67 : decode cX8_init 67 = .ok (.ldc 49, 2) := by decide +kernel
theorem dX8_init_69 : decode cX8_init 69 = .ok (.putfield 50, 3) := by decide +kernel
theorem dX8_init_72 : decode cX8_init 72 = .ok (.aload_n 0, 1) := by decide +kernel
theorem dX8_init_73 : decode cX8_init 73 = .ok (.ldc2_w 53, 3) := by decide +kernel
theorem dX8_init_76 : decode cX8_init 76 = .ok (.putfield 55, 3) := by decide +kernel
theorem dX8_init_79 : decode cX8_init 79 = .ok (.aload_n 0, 1) := by decide +kernel
theorem dX8_init_80 : decode cX8_init 80 = .ok (.dconst 0, 1) := by decide +kernel
theorem dX8_init_81 : decode cX8_init 81 = .ok (.putfield 59, 3) := by decide +kernel
theorem dX8_init_84 : decode cX8_init 84 = .ok (.iconst 0, 1) := by decide +kernel
theorem dX8_init_85 : decode cX8_init 85 = .ok (.istore_n 1, 1) := by decide +kernel
theorem dX8_init_86 : decode cX8_init 86 = .ok (.iload_n 1, 1) := by decide +kernel
theorem dX8_init_87 : decode cX8_init 87 = .ok (.aload_n 0, 1) := by decide +kernel
theorem dX8_init_88 : decode cX8_init 88 = .ok (.getfield 11, 3) := by decide +kernel
theorem dX8_init_91 : decode cX8_init 91 = .ok (.arraylength, 1) := by decide +kernel
theorem dX8_init_92 : decode cX8_init 92 = .ok (.if_icmp .ge 23, 3) := by decide +kernel
theorem dX8_init_95 : decode cX8_init 95 = .ok (.aload_n 0, 1) := by decide +kernel
theorem dX8_init_96 : decode cX8_init 96 = .ok (.getfield 11, 3) := by decide +kernel
theorem dX8_init_99 : decode cX8_init 99 = .ok (.iload_n 1, 1) := by decide +kernel
theorem dX8_init_100 : decode cX8_init 100 = .ok (.new 9, 3) := by decide +kernel
theorem dX8_init_103 : decode cX8_init 103 = .ok (.dup, 1) := by decide +kernel
theorem dX8_init_104 : decode cX8_init 104 = .ok (.iload_n 1, 1) := by decide +kernel
theorem dX8_init_105 : decode cX8_init 105 = .ok (.invokespecial 62, 3) := by decide +kernel
theorem dX8_init_108 : decode cX8_init 108 = .ok (.aastore, 1) := by decide +kernel
theorem dX8_init_109 : decode cX8_init 109 = .ok (.iinc 1 1, 3) := by decide +kernel
theorem dX8_init_112 : decode cX8_init 112 = .ok (.goto (-26), 3) := by decide +kernel
theorem dX8_init_115 : decode cX8_init 115 = .ok (.return_, 1) := by decide +kernel
set_option maxRecDepth 20000 in
theorem ggX8_kind_X8_flowAt : GoodIn wsX8_kind wsX8_flowAt := goodIn_ca (goodIn_r _ [12, 1, 2, 13, 46, 47, 48, 49, 50, 51, 52, 53, 54, 55, 56] (by decide +kernel) (by decide +kernel)) (goodIn_sub (fun _ h => List.mem_cons_of_mem _ (List.mem_append_right _ h)) (by decide +kernel))
set_option maxRecDepth 20000 in
theorem gX8_kind_X8_flowAt : GoodIn wsX8_kind (wsV RX8 65 RX8 yX8_flowAt wsX8_flowAt) := goodIn_app (goodIn_of _ (by decide +kernel)) ggX8_kind_X8_flowAt
set_option maxRecDepth 20000 in
theorem ggX8_kind_X3_restart : GoodIn wsX8_kind wsX3_restart := goodIn_r _ [18, 19, 20, 21, 57, 58, 59, 60, 61, 62, 63] (by decide +kernel) (by decide +kernel)
set_option maxRecDepth 20000 in
theorem gX8_kind_X3_restart : GoodIn wsX8_kind (wsV RX8 88 RX3 yX3_restart wsX3_restart) := goodIn_app (goodIn_of _ (by decide +kernel)) ggX8_kind_X3_restart
set_option maxRecDepth 20000 in
theorem ggX8_kind_X1_restart : GoodIn wsX8_kind wsX1_restart := goodIn_r _ [26, 27, 28, 29, 30, 64, 65, 66, 67, 68, 69, 70, 71] (by decide +kernel) (by decide +kernel)
set_option maxRecDepth 20000 in
theorem gX8_kind_X1_restart : GoodIn wsX8_kind (wsV RX8 97 RX1 yX1_restart wsX1_restart) := goodIn_app (goodIn_of _ (by decide +kernel)) ggX8_kind_X1_restart
theorem dX8_kind_0 : decode cX8_kind 0 = .ok (.aload_n 0, 1) := by decide +kernel
theorem dX8_kind_1 : decode cX8_kind 1 = .ok (.iload_n 1, 1) := by decide +kernel
theorem dX8_kind_2 : decode cX8_kind 2 = .ok (.invokevirtual 65, 3) := by decide +kernel
theorem dX8_kind_5 : decode cX8_kind 5 = .ok (.astore 4, 2) := by decide +kernel
theorem dX8_kind_7 : decode cX8_kind 7 = .ok (.iload_n 2, 1) := by decide +kernel
theorem dX8_kind_8 : decode cX8_kind 8 = .ok (.ifCond .lt 8, 3) := by decide +kernel
theorem dX8_kind_11 : decode cX8_kind 11 = .ok (.iload_n 2, 1) := by decide +kernel
theorem dX8_kind_12 : decode cX8_kind 12 = .ok (.iconst 2, 1) := by decide +kernel
theorem dX8_kind_13 : decode cX8_kind 13 = .ok (.if_icmp .le 13, 3) := by decide +kernel
theorem dX8_kind_16 : decode cX8_kind 16 = .ok (.new 69, 3) := by decide +kernel
theorem dX8_kind_19 : decode cX8_kind 19 = .ok (.dup, 1) := by decide +kernel
theorem dX8_kind_20 : decode cX8_kind 20 = .ok (.ldc 71, 2) := by decide +kernel
theorem dX8_kind_22 : decode cX8_kind 22 = .ok (.invokespecial 73, 3) := by decide +kernel
theorem dX8_kind_25 : decode cX8_kind 25 = .ok (.athrow, 1) := by decide +kernel
theorem dX8_kind_26 : decode cX8_kind 26 = .ok (.iload_n 3, 1) := by decide +kernel
theorem dX8_kind_27 : decode cX8_kind 27 = .ok (.iconst 1, 1) := by decide +kernel
theorem dX8_kind_28 : decode cX8_kind 28 = .ok (.if_icmp .lt 10, 3) := by decide +kernel
theorem dX8_kind_31 : decode cX8_kind 31 = .ok (.iload_n 3, 1) := by decide +kernel
theorem dX8_kind_32 : decode cX8_kind 32 = .ok (.sipush 3000, 3) := by decide +kernel
theorem dX8_kind_35 : decode cX8_kind 35 = .ok (.if_icmp .le 13, 3) := by decide +kernel
theorem dX8_kind_38 : decode cX8_kind 38 = .ok (.new 69, 3) := by decide +kernel
theorem dX8_kind_41 : decode cX8_kind 41 = .ok (.dup, 1) := by decide +kernel
theorem dX8_kind_42 : decode cX8_kind 42 = .ok (.ldc 76, 2) := by decide +kernel
theorem dX8_kind_44 : decode cX8_kind 44 = .ok (.invokespecial 73, 3) := by decide +kernel
theorem dX8_kind_47 : decode cX8_kind 47 = .ok (.athrow, 1) := by decide +kernel
theorem dX8_kind_48 : decode cX8_kind 48 = .ok (.aload 4, 2) := by decide +kernel
theorem dX8_kind_50 : decode cX8_kind 50 = .ok (.iload_n 2, 1) := by decide +kernel
theorem dX8_kind_51 : decode cX8_kind 51 = .ok (.putfield 78, 3) := by decide +kernel
theorem dX8_kind_54 : decode cX8_kind 54 = .ok (.aload 4, 2) := by decide +kernel
theorem dX8_kind_56 : decode cX8_kind 56 = .ok (.iload_n 3, 1) := by decide +kernel
theorem dX8_kind_57 : decode cX8_kind 57 = .ok (.putfield 81, 3) := by decide +kernel
theorem dX8_kind_60 : decode cX8_kind 60 = .ok (.aload 4, 2) := by decide +kernel
theorem dX8_kind_62 : decode cX8_kind 62 = .ok (.getfield 84, 3) := by decide +kernel
theorem dX8_kind_65 : decode cX8_kind 65 = .ok (.aload_n 0, 1) := by decide +kernel
theorem dX8_kind_66 : decode cX8_kind 66 = .ok (.getfield 36, 3) := by decide +kernel
theorem dX8_kind_69 : decode cX8_kind 69 = .ok (.invokevirtual 88, 3) := by decide +kernel
theorem dX8_kind_72 : decode cX8_kind 72 = .ok (.aload 4, 2) := by decide +kernel
theorem dX8_kind_74 : decode cX8_kind 74 = .ok (.getfield 93, 3) := by decide +kernel
theorem dX8_kind_77 : decode cX8_kind 77 = .ok (.invokevirtual 97, 3) := by decide +kernel
theorem dX8_kind_80 : decode cX8_kind 80 = .ok (.return_, 1) := by decide +kernel
set_option maxRecDepth 20000 in
theorem ggX8_mean_X8_flowAt : GoodIn wsX8_mean wsX8_flowAt := goodIn_ca (goodIn_r _ [9, 1, 2, 10, 35, 36, 37, 38, 39, 40, 41, 42, 43, 44, 45] (by decide +kernel) (by decide +kernel)) (goodIn_sub (fun _ h => List.mem_cons_of_mem _ (List.mem_append_right _ h)) (by decide +kernel))
set_option maxRecDepth 20000 in
theorem gX8_mean_X8_flowAt : GoodIn wsX8_mean (wsV RX8 65 RX8 yX8_flowAt wsX8_flowAt) := goodIn_app (goodIn_of _ (by decide +kernel)) ggX8_mean_X8_flowAt
set_option maxRecDepth 20000 in
theorem ggX8_mean_X3_tell : GoodIn wsX8_mean wsX3_tell := goodIn_r _ [15, 16, 17, 18, 19, 46, 47, 48, 49, 50, 51, 52] (by decide +kernel) (by decide +kernel)
set_option maxRecDepth 20000 in
theorem gX8_mean_X3_tell : GoodIn wsX8_mean (wsV RX8 109 RX3 yX3_tell wsX3_tell) := goodIn_app (goodIn_of _ (by decide +kernel)) ggX8_mean_X3_tell
theorem dX8_mean_0 : decode cX8_mean 0 = .ok (.aload_n 0, 1) := by decide +kernel
theorem dX8_mean_1 : decode cX8_mean 1 = .ok (.iload_n 1, 1) := by decide +kernel
theorem dX8_mean_2 : decode cX8_mean 2 = .ok (.invokevirtual 65, 3) := by decide +kernel
theorem dX8_mean_5 : decode cX8_mean 5 = .ok (.astore 10, 2) := by decide +kernel
theorem dX8_mean_7 : decode cX8_mean 7 = .ok (.dload_n 2, 1) := by decide +kernel
theorem dX8_mean_8 : decode cX8_mean 8 = .ok (.dconst 0, 1) := by decide +kernel
theorem dX8_mean_9 : decode cX8_mean 9 = .ok (.dcmp .l, 1) := by decide +kernel
theorem dX8_mean_10 : decode cX8_mean 10 = .ok (.ifCond .lt 19, 3) := by decide +kernel
theorem dX8_mean_13 : decode cX8_mean 13 = .ok (.dload_n 2, 1) := by decide +kernel
theorem dX8_mean_14 : decode cX8_mean 14 = .ok (.dload 4, 2) := by decide +kernel
theorem dX8_mean_16 : decode cX8_mean 16 = .ok (.dcmp .g, 1) := by decide +kernel
theorem dX8_mean_17 : decode cX8_mean 17 = .ok (.ifCond .ge 12, 3) := by decide +kernel
theorem dX8_mean_20 : decode cX8_mean 20 = .ok (.dload 4, 2) := by decide +kernel
theorem dX8_mean_22 : decode cX8_mean 22 = .ok (.ldc2_w 101, 3) := by decide +kernel
theorem dX8_mean_25 : decode cX8_mean 25 = .ok (.dcmp .g, 1) := by decide +kernel
theorem dX8_mean_26 : decode cX8_mean 26 = .ok (.ifCond .le 13, 3) := by decide +kernel
theorem dX8_mean_29 : decode cX8_mean 29 = .ok (.new 69, 3) := by decide +kernel
theorem dX8_mean_32 : decode cX8_mean 32 = .ok (.dup, 1) := by decide +kernel
theorem dX8_mean_33 : decode cX8_mean 33 = .ok (.ldc 103, 2) := by decide +kernel
theorem dX8_mean_35 : decode cX8_mean 35 = .ok (.invokespecial 73, 3) := by decide +kernel
theorem dX8_mean_38 : decode cX8_mean 38 = .ok (.athrow, 1) := by decide +kernel
theorem dX8_mean_39 : decode cX8_mean 39 = .ok (.dload 6, 2) := by decide +kernel
theorem dX8_mean_41 : decode cX8_mean 41 = .ok (.dconst 0, 1) := by decide +kernel
theorem dX8_mean_42 : decode cX8_mean 42 = .ok (.dcmp .l, 1) := by decide +kernel
theorem dX8_mean_43 : decode cX8_mean 43 = .ok (.ifCond .le 10, 3) := by decide +kernel
theorem dX8_mean_46 : decode cX8_mean 46 = .ok (.dload 6, 2) := by decide +kernel
theorem dX8_mean_48 : decode cX8_mean 48 = .ok (.dconst 1, 1) := by decide +kernel
theorem dX8_mean_49 : decode cX8_mean 49 = .ok (.dcmp .g, 1) := by decide +kernel
theorem dX8_mean_50 : decode cX8_mean 50 = .ok (.ifCond .le 13, 3) := by decide +kernel
theorem dX8_mean_53 : decode cX8_mean 53 = .ok (.new 69, 3) := by decide +kernel
theorem dX8_mean_56 : decode cX8_mean 56 = .ok (.dup, 1) := by decide +kernel
theorem dX8_mean_57 : decode cX8_mean 57 = .ok (.ldc 105, 2) := by decide +kernel
theorem dX8_mean_59 : decode cX8_mean 59 = .ok (.invokespecial 73, 3) := by decide +kernel
theorem dX8_mean_62 : decode cX8_mean 62 = .ok (.athrow, 1) := by decide +kernel
theorem dX8_mean_63 : decode cX8_mean 63 = .ok (.dload 8, 2) := by decide +kernel
theorem dX8_mean_65 : decode cX8_mean 65 = .ok (.dconst 0, 1) := by decide +kernel
theorem dX8_mean_66 : decode cX8_mean 66 = .ok (.dcmp .l, 1) := by decide +kernel
theorem dX8_mean_67 : decode cX8_mean 67 = .ok (.ifCond .le 10, 3) := by decide +kernel
theorem dX8_mean_70 : decode cX8_mean 70 = .ok (.dload 8, 2) := by decide +kernel
theorem dX8_mean_72 : decode cX8_mean 72 = .ok (.dconst 1, 1) := by decide +kernel
theorem dX8_mean_73 : decode cX8_mean 73 = .ok (.dcmp .g, 1) := by decide +kernel
theorem dX8_mean_74 : decode cX8_mean 74 = .ok (.ifCond .le 13, 3) := by decide +kernel
theorem dX8_mean_77 : decode cX8_mean 77 = .ok (.new 69, 3) := by decide +kernel
theorem dX8_mean_80 : decode cX8_mean 80 = .ok (.dup, 1) := by decide +kernel
theorem dX8_mean_81 : decode cX8_mean 81 = .ok (.ldc 107, 2) := by decide +kernel
theorem dX8_mean_83 : decode cX8_mean 83 = .ok (.invokespecial 73, 3) := by decide +kernel
theorem dX8_mean_86 : decode cX8_mean 86 = .ok (.athrow, 1) := by decide +kernel
theorem dX8_mean_87 : decode cX8_mean 87 = .ok (.aload 10, 2) := by decide +kernel
theorem dX8_mean_89 : decode cX8_mean 89 = .ok (.getfield 84, 3) := by decide +kernel
theorem dX8_mean_92 : decode cX8_mean 92 = .ok (.dload_n 2, 1) := by decide +kernel
theorem dX8_mean_93 : decode cX8_mean 93 = .ok (.dload 4, 2) := by decide +kernel
theorem dX8_mean_95 : decode cX8_mean 95 = .ok (.dload 6, 2) := by decide +kernel
theorem dX8_mean_97 : decode cX8_mean 97 = .ok (.dload 8, 2) := by decide +kernel
theorem dX8_mean_99 : decode cX8_mean 99 = .ok (.invokevirtual 109, 3) := by decide +kernel
theorem dX8_mean_102 : decode cX8_mean 102 = .ok (.return_, 1) := by decide +kernel
set_option maxRecDepth 20000 in
theorem ggX8_delay_X8_flowAt : GoodIn wsX8_delay wsX8_flowAt := goodIn_ca (goodIn_r _ [9, 1, 2, 10, 33, 34, 35, 36, 37, 38, 39, 40, 41, 42, 43] (by decide +kernel) (by decide +kernel)) (goodIn_sub (fun _ h => List.mem_cons_of_mem _ (List.mem_append_right _ h)) (by decide +kernel))
set_option maxRecDepth 20000 in
theorem gX8_delay_X8_flowAt : GoodIn wsX8_delay (wsV RX8 65 RX8 yX8_flowAt wsX8_flowAt) := goodIn_app (goodIn_of _ (by decide +kernel)) ggX8_delay_X8_flowAt
set_option maxRecDepth 20000 in
theorem ggX8_delay_X1_tell : GoodIn wsX8_delay wsX1_tell := goodIn_r _ [15, 16, 17, 44, 45, 46, 47, 48, 49, 50, 51] (by decide +kernel) (by decide +kernel)
set_option maxRecDepth 20000 in
theorem gX8_delay_X1_tell : GoodIn wsX8_delay (wsV RX8 117 RX1 yX1_tell wsX1_tell) := goodIn_app (goodIn_of _ (by decide +kernel)) ggX8_delay_X1_tell
theorem dX8_delay_0 : decode cX8_delay 0 = .ok (.aload_n 0, 1) := by decide +kernel
theorem dX8_delay_1 : decode cX8_delay 1 = .ok (.iload_n 1, 1) := by decide +kernel
theorem dX8_delay_2 : decode cX8_delay 2 = .ok (.invokevirtual 65, 3) := by decide +kernel
theorem dX8_delay_5 : decode cX8_delay 5 = .ok (.astore 6, 2) := by decide +kernel
theorem dX8_delay_7 : decode cX8_delay 7 = .ok (.dload_n 2, 1) := by decide +kernel
theorem dX8_delay_8 : decode cX8_delay 8 = .ok (.dconst 0, 1) := by decide +kernel
theorem dX8_delay_9 : decode cX8_delay 9 = .ok (.dcmp .l, 1) := by decide +kernel
theorem dX8_delay_10 : decode cX8_delay 10 = .ok (.ifCond .le 19, 3) := by decide +kernel
theorem dX8_delay_13 : decode cX8_delay 13 = .ok (.dload_n 2, 1) := by decide +kernel
theorem dX8_delay_14 : decode cX8_delay 14 = .ok (.dload 4, 2) := by decide +kernel
theorem dX8_delay_16 : decode cX8_delay 16 = .ok (.dcmp .g, 1) := by decide +kernel
theorem dX8_delay_17 : decode cX8_delay 17 = .ok (.ifCond .gt 12, 3) := by decide +kernel
theorem dX8_delay_20 : decode cX8_delay 20 = .ok (.dload 4, 2) := by decide +kernel
theorem dX8_delay_22 : decode cX8_delay 22 = .ok (.ldc2_w 113, 3) := by decide +kernel
theorem dX8_delay_25 : decode cX8_delay 25 = .ok (.dcmp .g, 1) := by decide +kernel
theorem dX8_delay_26 : decode cX8_delay 26 = .ok (.ifCond .le 13, 3) := by decide +kernel
theorem dX8_delay_29 : decode cX8_delay 29 = .ok (.new 69, 3) := by decide +kernel
theorem dX8_delay_32 : decode cX8_delay 32 = .ok (.dup, 1) := by decide +kernel
theorem dX8_delay_33 : decode cX8_delay 33 = .ok (.ldc 115, 2) := by decide +kernel
theorem dX8_delay_35 : decode cX8_delay 35 = .ok (.invokespecial 73, 3) := by decide +kernel
theorem dX8_delay_38 : decode cX8_delay 38 = .ok (.athrow, 1) := by decide +kernel
theorem dX8_delay_39 : decode cX8_delay 39 = .ok (.aload 6, 2) := by decide +kernel
theorem dX8_delay_41 : decode cX8_delay 41 = .ok (.getfield 93, 3) := by decide +kernel
theorem dX8_delay_44 : decode cX8_delay 44 = .ok (.dload_n 2, 1) := by decide +kernel
theorem dX8_delay_45 : decode cX8_delay 45 = .ok (.dload 4, 2) := by decide +kernel
theorem dX8_delay_47 : decode cX8_delay 47 = .ok (.invokevirtual 117, 3) := by decide +kernel
theorem dX8_delay_50 : decode cX8_delay 50 = .ok (.return_, 1) := by decide +kernel
theorem dX8_link_0 : decode cX8_link 0 = .ok (.dload_n 1, 1) := by decide +kernel
theorem dX8_link_1 : decode cX8_link 1 = .ok (.ldc2_w 120, 3) := by decide +kernel
theorem dX8_link_4 : decode cX8_link 4 = .ok (.dcmp .l, 1) := by decide +kernel
theorem dX8_link_5 : decode cX8_link 5 = .ok (.ifCond .lt 11, 3) := by decide +kernel
theorem dX8_link_8 : decode cX8_link 8 = .ok (.dload_n 1, 1) := by decide +kernel
theorem dX8_link_9 : decode cX8_link 9 = .ok (.ldc2_w 113, 3) := by decide +kernel
theorem dX8_link_12 : decode cX8_link 12 = .ok (.dcmp .g, 1) := by decide +kernel
theorem dX8_link_13 : decode cX8_link 13 = .ok (.ifCond .le 13, 3) := by decide +kernel
theorem dX8_link_16 : decode cX8_link 16 = .ok (.new 69, 3) := by decide +kernel
theorem dX8_link_19 : decode cX8_link 19 = .ok (.dup, 1) := by decide +kernel
theorem dX8_link_20 : decode cX8_link 20 = .ok (.ldc 122, 2) := by decide +kernel
theorem dX8_link_22 : decode cX8_link 22 = .ok (.invokespecial 73, 3) := by decide +kernel
theorem dX8_link_25 : decode cX8_link 25 = .ok (.athrow, 1) := by decide +kernel
theorem dX8_link_26 : decode cX8_link 26 = .ok (.iload_n 3, 1) := by decide +kernel
theorem dX8_link_27 : decode cX8_link 27 = .ok (.iconst 1, 1) := by decide +kernel
theorem dX8_link_28 : decode cX8_link 28 = .ok (.if_icmp .lt 9, 3) := by decide +kernel
theorem dX8_link_31 : decode cX8_link 31 = .ok (.iload_n 3, 1) := by decide +kernel
theorem dX8_link_32 : decode cX8_link 32 = .ok (.ldc 49, 2) := by decide +kernel
theorem dX8_link_34 : decode cX8_link 34 = .ok (.if_icmp .le 13, 3) := by decide +kernel
theorem dX8_link_37 : decode cX8_link 37 = .ok (.new 69, 3) := by decide +kernel
theorem dX8_link_40 : decode cX8_link 40 = .ok (.dup, 1) := by decide +kernel
theorem dX8_link_41 : decode cX8_link 41 = .ok (.ldc 124, 2) := by decide +kernel
theorem dX8_link_43 : decode cX8_link 43 = .ok (.invokespecial 73, 3) := by decide +kernel
theorem dX8_link_46 : decode cX8_link 46 = .ok (.athrow, 1) := by decide +kernel
theorem dX8_link_47 : decode cX8_link 47 = .ok (.aload_n 0, 1) := by decide +kernel
theorem dX8_link_48 : decode cX8_link 48 = .ok (.dload_n 1, 1) := by decide +kernel
theorem dX8_link_49 : decode cX8_link 49 = .ok (.putfield 55, 3) := by decide +kernel
theorem dX8_link_52 : decode cX8_link 52 = .ok (.aload_n 0, 1) := by decide +kernel
theorem dX8_link_53 : decode cX8_link 53 = .ok (.iload_n 3, 1) := by decide +kernel
theorem dX8_link_54 : decode cX8_link 54 = .ok (.putfield 50, 3) := by decide +kernel
theorem dX8_link_57 : decode cX8_link 57 = .ok (.return_, 1) := by decide +kernel
set_option maxRecDepth 20000 in
theorem ggX8_coin_X0_isFull : GoodIn wsX8_coin wsX0_isFull := goodIn_r _ [10, 11, 12, 13, 9, 14, 15, 16, 37, 38, 39] (by decide +kernel) (by decide +kernel)
set_option maxRecDepth 20000 in
theorem gX8_coin_X0_isFull : GoodIn wsX8_coin (wsV RX8 128 RX0 yX0_isFull wsX0_isFull) := goodIn_app (goodIn_of _ (by decide +kernel)) ggX8_coin_X0_isFull
set_option maxRecDepth 20000 in
theorem ggX8_coin_X0_add : GoodIn wsX8_coin wsX0_add := goodIn_r _ [20, 21, 15, 22, 23, 9, 24, 37, 38, 39] (by decide +kernel) (by decide +kernel)
set_option maxRecDepth 20000 in
theorem gX8_coin_X0_add : GoodIn wsX8_coin (wsV RX8 137 RX0 yX0_add wsX0_add) := goodIn_app (goodIn_of _ (by decide +kernel)) ggX8_coin_X0_add
set_option maxRecDepth 20000 in
theorem ggX8_coin_X0_waiting : GoodIn wsX8_coin wsX0_waiting := goodIn_r _ [14, 15, 16, 37, 38, 39] (by decide +kernel) (by decide +kernel)
set_option maxRecDepth 20000 in
theorem gX8_coin_X0_waiting : GoodIn wsX8_coin (wsV RX8 141 RX0 yX0_waiting wsX0_waiting) := goodIn_app (goodIn_of _ (by decide +kernel)) ggX8_coin_X0_waiting
theorem dX8_coin_0 : decode cX8_coin 0 = .ok (.dload_n 1, 1) := by decide +kernel
theorem dX8_coin_1 : decode cX8_coin 1 = .ok (.dconst 0, 1) := by decide +kernel
theorem dX8_coin_2 : decode cX8_coin 2 = .ok (.dcmp .l, 1) := by decide +kernel
theorem dX8_coin_3 : decode cX8_coin 3 = .ok (.ifCond .lt 9, 3) := by decide +kernel
theorem dX8_coin_6 : decode cX8_coin 6 = .ok (.dload_n 1, 1) := by decide +kernel
theorem dX8_coin_7 : decode cX8_coin 7 = .ok (.dconst 1, 1) := by decide +kernel
theorem dX8_coin_8 : decode cX8_coin 8 = .ok (.dcmp .g, 1) := by decide +kernel
theorem dX8_coin_9 : decode cX8_coin 9 = .ok (.ifCond .lt 13, 3) := by decide +kernel
theorem dX8_coin_12 : decode cX8_coin 12 = .ok (.new 69, 3) := by decide +kernel
theorem dX8_coin_15 : decode cX8_coin 15 = .ok (.dup, 1) := by decide +kernel
theorem dX8_coin_16 : decode cX8_coin 16 = .ok (.ldc 126, 2) := by decide +kernel
theorem dX8_coin_18 : decode cX8_coin 18 = .ok (.invokespecial 73, 3) := by decide +kernel
theorem dX8_coin_21 : decode cX8_coin 21 = .ok (.athrow, 1) := by decide +kernel
theorem dX8_coin_22 : decode cX8_coin 22 = .ok (.aload_n 0, 1) := by decide +kernel
theorem dX8_coin_23 : decode cX8_coin 23 = .ok (.getfield 25, 3) := by decide +kernel
theorem dX8_coin_26 : decode cX8_coin 26 = .ok (.invokevirtual 128, 3) := by decide +kernel
theorem dX8_coin_29 : decode cX8_coin 29 = .ok (.ifCond .eq 13, 3) := by decide +kernel
theorem dX8_coin_32 : decode cX8_coin 32 = .ok (.new 132, 3) := by decide +kernel
theorem dX8_coin_35 : decode cX8_coin 35 = .ok (.dup, 1) := by decide +kernel
theorem dX8_coin_36 : decode cX8_coin 36 = .ok (.ldc 134, 2) := by decide +kernel
theorem dX8_coin_38 : decode cX8_coin 38 = .ok (.invokespecial 136, 3) := by decide +kernel
theorem dX8_coin_41 : decode cX8_coin 41 = .ok (.athrow, 1) := by decide +kernel
theorem dX8_coin_42 : decode cX8_coin 42 = .ok (.aload_n 0, 1) := by decide +kernel
theorem dX8_coin_43 : decode cX8_coin 43 = .ok (.getfield 25, 3) := by decide +kernel
theorem dX8_coin_46 : decode cX8_coin 46 = .ok (.dload_n 1, 1) := by decide +kernel
theorem dX8_coin_47 : decode cX8_coin 47 = .ok (.invokevirtual 137, 3) := by decide +kernel
theorem dX8_coin_50 : decode cX8_coin 50 = .ok (.aload_n 0, 1) := by decide +kernel
theorem dX8_coin_51 : decode cX8_coin 51 = .ok (.getfield 25, 3) := by decide +kernel
theorem dX8_coin_54 : decode cX8_coin 54 = .ok (.invokevirtual 141, 3) := by decide +kernel
theorem dX8_coin_57 : decode cX8_coin 57 = .ok (.ireturn, 1) := by decide +kernel
set_option maxRecDepth 20000 in
theorem ggX8_come_X8_flowAt : GoodIn wsX8_come wsX8_flowAt := goodIn_ca (goodIn_r _ [20, 1, 2, 21, 128, 129, 130, 131, 132, 133, 134, 135, 136, 137, 138] (by decide +kernel) (by decide +kernel)) (goodIn_sub (fun _ h => List.mem_cons_of_mem _ (List.mem_append_right _ h)) (by decide +kernel))
set_option maxRecDepth 20000 in
theorem gX8_come_X8_flowAt : GoodIn wsX8_come (wsV RX8 65 RX8 yX8_flowAt wsX8_flowAt) := goodIn_app (goodIn_of _ (by decide +kernel)) ggX8_come_X8_flowAt
set_option maxRecDepth 20000 in
theorem ggX8_come_X5_init : GoodIn wsX8_come wsX5_init := goodIn_r _ [24, 25, 26, 27, 28, 29, 30, 31, 32, 33, 34, 35, 120, 121, 122, 123, 124, 125, 126, 127] (by decide +kernel) (by decide +kernel)
set_option maxRecDepth 20000 in
theorem gX8_come_X5_init : GoodIn wsX8_come (wsX5_init) := ggX8_come_X5_init
set_option maxRecDepth 20000 in
theorem ggX8_come_X2_letsIn : GoodIn wsX8_come wsX2_letsIn := goodIn_r _ [40, 41, 42, 43, 44, 45, 46, 47, 48, 49, 50, 51, 52, 53, 54, 55, 56, 57, 58, 59, 60, 61, 62, 63, 64, 65, 66, 67, 68, 69, 70, 71, 72, 73, 74, 75, 76, 77, 78, 79, 80, 81, 82, 83, 84, 85, 86, 87, 39, 88, 89, 90, 91, 139, 140, 141, 142, 143, 144, 145, 146, 147, 148, 149, 150, 151, 152, 153, 154, 155, 156, 157, 158, 159, 160, 161, 162, 163, 164, 165, 166, 167, 120, 121, 122, 123, 124, 125, 126, 127] (by decide +kernel) (by decide +kernel)
set_option maxRecDepth 20000 in
theorem gX8_come_X2_letsIn : GoodIn wsX8_come (wsV RX8 158 RX2 yX2_letsIn wsX2_letsIn) := goodIn_app (goodIn_of _ (by decide +kernel)) ggX8_come_X2_letsIn
set_option maxRecDepth 20000 in
theorem ggX8_come_X8_putIn : GoodIn wsX8_come wsX8_putIn := goodIn_r _ [95, 96, 97, 98, 99, 9, 10, 100, 101, 102, 103, 104, 105, 106, 107, 108, 109, 110, 111, 112, 113, 114, 115, 116, 117, 118, 119, 120, 121, 122, 123, 124, 125, 126, 127, 139, 140, 141, 142, 143, 144, 145, 146, 147, 148, 149, 150, 151, 152, 153, 154, 155, 156, 157, 128, 129, 130, 131, 132, 133, 134, 135, 136, 137, 138, 168, 169, 170] (by decide +kernel) (by decide +kernel)
set_option maxRecDepth 20000 in
theorem gX8_come_X8_putIn : GoodIn wsX8_come (wsV RX8 165 RX8 yX8_putIn wsX8_putIn) := goodIn_app (goodIn_of _ (by decide +kernel)) ggX8_come_X8_putIn
theorem dX8_come_0 : decode cX8_come 0 = .ok (.aload_n 0, 1) := by decide +kernel
theorem dX8_come_1 : decode cX8_come 1 = .ok (.iload_n 1, 1) := by decide +kernel
theorem dX8_come_2 : decode cX8_come 2 = .ok (.invokevirtual 65, 3) := by decide +kernel
theorem dX8_come_5 : decode cX8_come 5 = .ok (.astore 4, 2) := by decide +kernel
theorem dX8_come_7 : decode cX8_come 7 = .ok (.iload_n 2, 1) := by decide +kernel
theorem dX8_come_8 : decode cX8_come 8 = .ok (.iconst 1, 1) := by decide +kernel
theorem dX8_come_9 : decode cX8_come 9 = .ok (.if_icmp .lt 10, 3) := by decide +kernel
theorem dX8_come_12 : decode cX8_come 12 = .ok (.iload_n 2, 1) := by decide +kernel
theorem dX8_come_13 : decode cX8_come 13 = .ok (.sipush 1500, 3) := by decide +kernel
theorem dX8_come_16 : decode cX8_come 16 = .ok (.if_icmp .le 13, 3) := by decide +kernel
theorem dX8_come_19 : decode cX8_come 19 = .ok (.new 69, 3) := by decide +kernel
theorem dX8_come_22 : decode cX8_come 22 = .ok (.dup, 1) := by decide +kernel
theorem dX8_come_23 : decode cX8_come 23 = .ok (.ldc 145, 2) := by decide +kernel
theorem dX8_come_25 : decode cX8_come 25 = .ok (.invokespecial 73, 3) := by decide +kernel
theorem dX8_come_28 : decode cX8_come 28 = .ok (.athrow, 1) := by decide +kernel
theorem dX8_come_29 : decode cX8_come 29 = .ok (.new 147, 3) := by decide +kernel
theorem dX8_come_32 : decode cX8_come 32 = .ok (.dup, 1) := by decide +kernel
theorem dX8_come_33 : decode cX8_come 33 = .ok (.aload_n 0, 1) := by decide +kernel
theorem dX8_come_34 : decode cX8_come 34 = .ok (.getfield 40, 3) := by decide +kernel
theorem dX8_come_37 : decode cX8_come 37 = .ok (.aload 4, 2) := by decide +kernel
theorem dX8_come_39 : decode cX8_come 39 = .ok (.iload_n 2, 1) := by decide +kernel
theorem dX8_come_40 : decode cX8_come 40 = .ok (.aload_n 0, 1) := by decide +kernel
theorem dX8_come_41 : decode cX8_come 41 = .ok (.getfield 36, 3) := by decide +kernel
theorem dX8_come_44 : decode cX8_come 44 = .ok (.iload_n 3, 1) := by decide +kernel
theorem dX8_come_45 : decode cX8_come 45 = .ok (.invokespecial 149, 3) := by decide +kernel
theorem dX8_come_48 : decode cX8_come 48 = .ok (.astore 5, 2) := by decide +kernel
theorem dX8_come_50 : decode cX8_come 50 = .ok (.aload_n 0, 1) := by decide +kernel
theorem dX8_come_51 : decode cX8_come 51 = .ok (.dup, 1) := by decide +kernel
theorem dX8_come_52 : decode cX8_come 52 = .ok (.getfield 40, 3) := by decide +kernel
theorem dX8_come_55 : decode cX8_come 55 = .ok (.iconst 1, 1) := by decide +kernel
theorem dX8_come_56 : decode cX8_come 56 = .ok (.iadd, 1) := by decide +kernel
theorem dX8_come_57 : decode cX8_come 57 = .ok (.putfield 40, 3) := by decide +kernel
theorem dX8_come_60 : decode cX8_come 60 = .ok (.aload 4, 2) := by decide +kernel
theorem dX8_come_62 : decode cX8_come 62 = .ok (.dup, 1) := by decide +kernel
theorem dX8_come_63 : decode cX8_come 63 = .ok (.getfield 152, 3) := by decide +kernel
theorem dX8_come_66 : decode cX8_come 66 = .ok (.iconst 1, 1) := by decide +kernel
theorem dX8_come_67 : decode cX8_come 67 = .ok (.iadd, 1) := by decide +kernel
theorem dX8_come_68 : decode cX8_come 68 = .ok (.putfield 152, 3) := by decide +kernel
theorem dX8_come_71 : decode cX8_come 71 = .ok (.aload_n 0, 1) := by decide +kernel
theorem dX8_come_72 : decode cX8_come 72 = .ok (.getfield 43, 3) := by decide +kernel
theorem dX8_come_75 : decode cX8_come 75 = .ok (.bipush 100, 2) := by decide +kernel
theorem dX8_come_77 : decode cX8_come 77 = .ok (.if_icmp .ge 16, 3) := by decide +kernel
theorem dX8_come_80 : decode cX8_come 80 = .ok (.aload_n 0, 1) := by decide +kernel
theorem dX8_come_81 : decode cX8_come 81 = .ok (.getfield 46, 3) := by decide +kernel
theorem dX8_come_84 : decode cX8_come 84 = .ok (.iload_n 2, 1) := by decide +kernel
theorem dX8_come_85 : decode cX8_come 85 = .ok (.iadd, 1) := by decide +kernel
theorem dX8_come_86 : decode cX8_come 86 = .ok (.aload_n 0, 1) := by decide +kernel
theorem dX8_come_87 : decode cX8_come 87 = .ok (.getfield 50, 3) := by decide +kernel
theorem dX8_come_90 : decode cX8_come 90 = .ok (.if_icmp .le 16, 3) := by decide +kernel
theorem dX8_come_93 : decode cX8_come 93 = .ok (.aload 4, 2) := by decide +kernel
theorem dX8_come_95 : decode cX8_come 95 = .ok (.dup, 1) := by decide +kernel
theorem dX8_come_96 : decode cX8_come 96 = .ok (.getfield 155, 3) := by decide +kernel
theorem dX8_come_99 : decode cX8_come 99 = .ok (.iconst 1, 1) := by decide +kernel
theorem dX8_come_100 : decode cX8_come 100 = .ok (.iadd, 1) := by decide +kernel
theorem dX8_come_101 : decode cX8_come 101 = .ok (.putfield 155, 3) := by decide +kernel
theorem dX8_come_104 : decode cX8_come 104 = .ok (.iconst (-1), 1) := by decide +kernel
theorem dX8_come_105 : decode cX8_come 105 = .ok (.ireturn, 1) := by decide +kernel
theorem dX8_come_106 : decode cX8_come 106 = .ok (.aload 4, 2) := by decide +kernel
theorem dX8_come_108 : decode cX8_come 108 = .ok (.aload 5, 2) := by decide +kernel
theorem dX8_come_110 : decode cX8_come 110 = .ok (.aload_n 0, 1) := by decide +kernel
theorem dX8_come_111 : decode cX8_come 111 = .ok (.getfield 36, 3) := by decide +kernel
theorem dX8_come_114 : decode cX8_come 114 = .ok (.aload_n 0, 1) := by decide +kernel
theorem dX8_come_115 : decode cX8_come 115 = .ok (.getfield 25, 3) := by decide +kernel
theorem dX8_come_118 : decode cX8_come 118 = .ok (.invokevirtual 158, 3) := by decide +kernel
theorem dX8_come_121 : decode cX8_come 121 = .ok (.ifCond .ne 16, 3) := by decide +kernel
theorem dX8_come_124 : decode cX8_come 124 = .ok (.aload 4, 2) := by decide +kernel
theorem dX8_come_126 : decode cX8_come 126 = .ok (.dup, 1) := by decide +kernel
theorem dX8_come_127 : decode cX8_come 127 = .ok (.getfield 162, 3) := by decide +kernel
theorem dX8_come_130 : decode cX8_come 130 = .ok (.iconst 1, 1) := by decide +kernel
theorem dX8_come_131 : decode cX8_come 131 = .ok (.iadd, 1) := by decide +kernel
theorem dX8_come_132 : decode cX8_come 132 = .ok (.putfield 162, 3) := by decide +kernel
theorem dX8_come_135 : decode cX8_come 135 = .ok (.iconst (-1), 1) := by decide +kernel
theorem dX8_come_136 : decode cX8_come 136 = .ok (.ireturn, 1) := by decide +kernel
theorem dX8_come_137 : decode cX8_come 137 = .ok (.aload_n 0, 1) := by decide +kernel
theorem dX8_come_138 : decode cX8_come 138 = .ok (.aload 5, 2) := by decide +kernel
theorem dX8_come_140 : decode cX8_come 140 = .ok (.invokevirtual 165, 3) := by decide +kernel
theorem dX8_come_143 : decode cX8_come 143 = .ok (.aload 5, 2) := by decide +kernel
theorem dX8_come_145 : decode cX8_come 145 = .ok (.getfield 169, 3) := by decide +kernel
theorem dX8_come_148 : decode cX8_come 148 = .ok (.ireturn, 1) := by decide +kernel
set_option maxRecDepth 20000 in
theorem ggX8_tick_X8_oneTick : GoodIn wsX8_tick wsX8_oneTick := goodIn_r _ [7, 8, 9, 10, 11, 12, 6, 13, 14, 15, 16, 17, 18, 19, 20, 21, 22, 23, 24, 25, 26, 27, 28, 29, 30, 31, 32, 33, 34, 35, 36, 37, 38, 39, 40, 41, 42, 43, 44, 45, 46, 47, 48, 49, 50, 51, 52, 53, 54, 55, 56, 57, 58, 59, 60, 61, 62, 63, 64, 65, 66, 67, 68, 69, 70, 71, 72, 73, 74, 75, 76, 77, 78, 79, 80, 81, 82, 83, 84, 85, 86, 87, 88, 89, 90, 91, 92, 93, 94, 95, 96, 97, 98, 99, 100, 101, 102, 103, 104, 105, 106, 107, 108, 109, 110, 111, 112, 113, 114, 115, 116, 117, 118, 119, 120, 121, 122, 123, 124, 125, 126, 127, 128, 129, 130, 131, 132, 133, 134, 135, 136, 137, 138, 139, 140, 141, 142, 143, 144, 145, 146, 147, 148, 149, 150, 151, 152, 153, 154, 155, 156, 157, 158, 159, 160, 161, 162, 163, 164, 165, 166, 167, 168, 169, 170, 171, 172, 173, 174, 175, 176, 177, 178, 179, 180, 181, 182, 183, 184, 185, 186, 187, 188, 189, 190, 191, 192, 193, 194] (by decide +kernel) (by decide +kernel)
set_option maxRecDepth 20000 in
theorem gX8_tick_X8_oneTick : GoodIn wsX8_tick (wsV RX8 174 RX8 yX8_oneTick wsX8_oneTick) := goodIn_app (goodIn_of _ (by decide +kernel)) ggX8_tick_X8_oneTick
theorem dX8_tick_0 : decode cX8_tick 0 = .ok (.iload_n 1, 1) := by decide +kernel
theorem dX8_tick_1 : decode cX8_tick 1 = .ok (.iconst 1, 1) := by decide +kernel
theorem dX8_tick_2 : decode cX8_tick 2 = .ok (.if_icmp .lt 10, 3) := by decide +kernel
theorem dX8_tick_5 : decode cX8_tick 5 = .ok (.iload_n 1, 1) := by decide +kernel
theorem dX8_tick_6 : decode cX8_tick 6 = .ok (.sipush 1000, 3) := by decide +kernel
theorem dX8_tick_9 : decode cX8_tick 9 = .ok (.if_icmp .le 13, 3) := by decide +kernel
theorem dX8_tick_12 : decode cX8_tick 12 = .ok (.new 69, 3) := by decide +kernel
theorem dX8_tick_15 : decode cX8_tick 15 = .ok (.dup, 1) := by decide +kernel
theorem dX8_tick_16 : decode cX8_tick 16 = .ok (.ldc 172, 2) := by decide +kernel
theorem dX8_tick_18 : decode cX8_tick 18 = .ok (.invokespecial 73, 3) := by decide +kernel
theorem dX8_tick_21 : decode cX8_tick 21 = .ok (.athrow, 1) := by decide +kernel
theorem dX8_tick_22 : decode cX8_tick 22 = .ok (.iconst 0, 1) := by decide +kernel
theorem dX8_tick_23 : decode cX8_tick 23 = .ok (.istore_n 2, 1) := by decide +kernel
theorem dX8_tick_24 : decode cX8_tick 24 = .ok (.iconst 0, 1) := by decide +kernel
theorem dX8_tick_25 : decode cX8_tick 25 = .ok (.istore_n 3, 1) := by decide +kernel
theorem dX8_tick_26 : decode cX8_tick 26 = .ok (.iload_n 3, 1) := by decide +kernel
theorem dX8_tick_27 : decode cX8_tick 27 = .ok (.iload_n 1, 1) := by decide +kernel
theorem dX8_tick_28 : decode cX8_tick 28 = .ok (.if_icmp .ge 16, 3) := by decide +kernel
theorem dX8_tick_31 : decode cX8_tick 31 = .ok (.iload_n 2, 1) := by decide +kernel
theorem dX8_tick_32 : decode cX8_tick 32 = .ok (.aload_n 0, 1) := by decide +kernel
theorem dX8_tick_33 : decode cX8_tick 33 = .ok (.invokevirtual 174, 3) := by decide +kernel
theorem dX8_tick_36 : decode cX8_tick 36 = .ok (.iadd, 1) := by decide +kernel
theorem dX8_tick_37 : decode cX8_tick 37 = .ok (.istore_n 2, 1) := by decide +kernel
theorem dX8_tick_38 : decode cX8_tick 38 = .ok (.iinc 3 1, 3) := by decide +kernel
theorem dX8_tick_41 : decode cX8_tick 41 = .ok (.goto (-15), 3) := by decide +kernel
theorem dX8_tick_44 : decode cX8_tick 44 = .ok (.iload_n 2, 1) := by decide +kernel
theorem dX8_tick_45 : decode cX8_tick 45 = .ok (.ireturn, 1) := by decide +kernel
set_option maxRecDepth 20000 in
theorem ggX8_count_X8_flowAt : GoodIn wsX8_count wsX8_flowAt := goodIn_ca (goodIn_r _ [18, 1, 2, 19, 39, 40, 41, 42, 43, 44, 45, 46, 47, 48, 49] (by decide +kernel) (by decide +kernel)) (goodIn_sub (fun _ h => List.mem_cons_of_mem _ (List.mem_append_right _ h)) (by decide +kernel))
set_option maxRecDepth 20000 in
theorem gX8_count_X8_flowAt : GoodIn wsX8_count (wsV RX8 65 RX8 yX8_flowAt wsX8_flowAt) := goodIn_app (goodIn_of _ (by decide +kernel)) ggX8_count_X8_flowAt
theorem dX8_count_0 : decode cX8_count 0 = .ok (.aload_n 0, 1) := by decide +kernel
theorem dX8_count_1 : decode cX8_count 1 = .ok (.iload_n 1, 1) := by decide +kernel
theorem dX8_count_2 : decode cX8_count 2 = .ok (.invokevirtual 65, 3) := by decide +kernel
theorem dX8_count_5 : decode cX8_count 5 = .ok (.astore_n 3, 1) := by decide +kernel
theorem dX8_count_6 : decode cX8_count 6 = .ok (.iload_n 2, 1) := by decide +kernel
theorem dX8_count_7 : decode cX8_count 7 = .ok (.tableswitch 109 0 9 #[53, 58, 63, 68, 73, 78, 83, 91, 99, 104], 53) := by decide +kernel
theorem dX8_count_60 : decode cX8_count 60 = .ok (.aload_n 3, 1) := by decide +kernel
theorem dX8_count_61 : decode cX8_count 61 = .ok (.getfield 152, 3) := by decide +kernel
theorem dX8_count_64 : decode cX8_count 64 = .ok (.ireturn, 1) := by decide +kernel
theorem dX8_count_65 : decode cX8_count 65 = .ok (.aload_n 3, 1) := by decide +kernel
theorem dX8_count_66 : decode cX8_count 66 = .ok (.getfield 177, 3) := by decide +kernel
theorem dX8_count_69 : decode cX8_count 69 = .ok (.ireturn, 1) := by decide +kernel
theorem dX8_count_70 : decode cX8_count 70 = .ok (.aload_n 3, 1) := by decide +kernel
theorem dX8_count_71 : decode cX8_count 71 = .ok (.getfield 155, 3) := by decide +kernel
theorem dX8_count_74 : decode cX8_count 74 = .ok (.ireturn, 1) := by decide +kernel
theorem dX8_count_75 : decode cX8_count 75 = .ok (.aload_n 3, 1) := by decide +kernel
theorem dX8_count_76 : decode cX8_count 76 = .ok (.getfield 162, 3) := by decide +kernel
theorem dX8_count_79 : decode cX8_count 79 = .ok (.ireturn, 1) := by decide +kernel
theorem dX8_count_80 : decode cX8_count 80 = .ok (.aload_n 3, 1) := by decide +kernel
theorem dX8_count_81 : decode cX8_count 81 = .ok (.getfield 180, 3) := by decide +kernel
theorem dX8_count_84 : decode cX8_count 84 = .ok (.ireturn, 1) := by decide +kernel
theorem dX8_count_85 : decode cX8_count 85 = .ok (.aload_n 3, 1) := by decide +kernel
theorem dX8_count_86 : decode cX8_count 86 = .ok (.getfield 183, 3) := by decide +kernel
theorem dX8_count_89 : decode cX8_count 89 = .ok (.ireturn, 1) := by decide +kernel
theorem dX8_count_90 : decode cX8_count 90 = .ok (.aload_n 3, 1) := by decide +kernel
theorem dX8_count_91 : decode cX8_count 91 = .ok (.getfield 186, 3) := by decide +kernel
theorem dX8_count_94 : decode cX8_count 94 = .ok (.getfield 190, 3) := by decide +kernel
theorem dX8_count_97 : decode cX8_count 97 = .ok (.ireturn, 1) := by decide +kernel
theorem dX8_count_98 : decode cX8_count 98 = .ok (.aload_n 3, 1) := by decide +kernel
theorem dX8_count_99 : decode cX8_count 99 = .ok (.getfield 186, 3) := by decide +kernel
theorem dX8_count_102 : decode cX8_count 102 = .ok (.getfield 195, 3) := by decide +kernel
theorem dX8_count_105 : decode cX8_count 105 = .ok (.ireturn, 1) := by decide +kernel
theorem dX8_count_106 : decode cX8_count 106 = .ok (.aload_n 3, 1) := by decide +kernel
theorem dX8_count_107 : decode cX8_count 107 = .ok (.getfield 198, 3) := by decide +kernel
theorem dX8_count_110 : decode cX8_count 110 = .ok (.ireturn, 1) := by decide +kernel
theorem dX8_count_111 : decode cX8_count 111 = .ok (.aload_n 3, 1) := by decide +kernel
theorem dX8_count_112 : decode cX8_count 112 = .ok (.getfield 201, 3) := by decide +kernel
theorem dX8_count_115 : decode cX8_count 115 = .ok (.ireturn, 1) := by decide +kernel
theorem dX8_count_116 : decode cX8_count 116 = .ok (.new 69, 3) := by decide +kernel
theorem dX8_count_119 : decode cX8_count 119 = .ok (.dup, 1) := by decide +kernel
theorem dX8_count_120 : decode cX8_count 120 = .ok (.ldc 204, 2) := by decide +kernel
theorem dX8_count_122 : decode cX8_count 122 = .ok (.invokespecial 73, 3) := by decide +kernel
theorem dX8_count_125 : decode cX8_count 125 = .ok (.athrow, 1) := by decide +kernel
set_option maxRecDepth 20000 in
theorem ggX8_average_X8_flowAt : GoodIn wsX8_average wsX8_flowAt := goodIn_ca (goodIn_r _ [7, 8, 9, 10, 33, 34, 35, 36, 37, 38, 39, 40, 41, 42, 43] (by decide +kernel) (by decide +kernel)) (goodIn_sub (fun _ h => List.mem_cons_of_mem _ (List.mem_append_right _ h)) (by decide +kernel))
set_option maxRecDepth 20000 in
theorem gX8_average_X8_flowAt : GoodIn wsX8_average (wsV RX8 65 RX8 yX8_flowAt wsX8_flowAt) := goodIn_app (goodIn_of _ (by decide +kernel)) ggX8_average_X8_flowAt
theorem dX8_average_0 : decode cX8_average 0 = .ok (.aload_n 0, 1) := by decide +kernel
theorem dX8_average_1 : decode cX8_average 1 = .ok (.iload_n 1, 1) := by decide +kernel
theorem dX8_average_2 : decode cX8_average 2 = .ok (.invokevirtual 65, 3) := by decide +kernel
theorem dX8_average_5 : decode cX8_average 5 = .ok (.getfield 84, 3) := by decide +kernel
theorem dX8_average_8 : decode cX8_average 8 = .ok (.getfield 206, 3) := by decide +kernel
theorem dX8_average_11 : decode cX8_average 11 = .ok (.dreturn, 1) := by decide +kernel
set_option maxRecDepth 20000 in
theorem ggX8_next_X8_flowAt : GoodIn wsX8_next wsX8_flowAt := goodIn_ca (goodIn_r _ [9, 10, 11, 12, 36, 37, 38, 39, 40, 41, 42, 43, 44, 45, 46] (by decide +kernel) (by decide +kernel)) (goodIn_sub (fun _ h => List.mem_cons_of_mem _ (List.mem_append_right _ h)) (by decide +kernel))
set_option maxRecDepth 20000 in
theorem gX8_next_X8_flowAt : GoodIn wsX8_next (wsV RX8 65 RX8 yX8_flowAt wsX8_flowAt) := goodIn_app (goodIn_of _ (by decide +kernel)) ggX8_next_X8_flowAt
theorem dX8_next_0 : decode cX8_next 0 = .ok (.aload_n 0, 1) := by decide +kernel
theorem dX8_next_1 : decode cX8_next 1 = .ok (.iload_n 1, 1) := by decide +kernel
theorem dX8_next_2 : decode cX8_next 2 = .ok (.invokevirtual 65, 3) := by decide +kernel
theorem dX8_next_5 : decode cX8_next 5 = .ok (.getfield 93, 3) := by decide +kernel
theorem dX8_next_8 : decode cX8_next 8 = .ok (.astore_n 2, 1) := by decide +kernel
theorem dX8_next_9 : decode cX8_next 9 = .ok (.aload_n 2, 1) := by decide +kernel
theorem dX8_next_10 : decode cX8_next 10 = .ok (.getfield 209, 3) := by decide +kernel
theorem dX8_next_13 : decode cX8_next 13 = .ok (.ifCond .eq 10, 3) := by decide +kernel
theorem dX8_next_16 : decode cX8_next 16 = .ok (.aload_n 2, 1) := by decide +kernel
theorem dX8_next_17 : decode cX8_next 17 = .ok (.getfield 213, 3) := by decide +kernel
theorem dX8_next_20 : decode cX8_next 20 = .ok (.goto 6, 3) := by decide +kernel
theorem dX8_next_23 : decode cX8_next 23 = .ok (.ldc2_w 216, 3) := by decide +kernel
theorem dX8_next_26 : decode cX8_next 26 = .ok (.dreturn, 1) := by decide +kernel
theorem dX8_free_0 : decode cX8_free 0 = .ok (.aload_n 0, 1) := by decide +kernel
theorem dX8_free_1 : decode cX8_free 1 = .ok (.getfield 59, 3) := by decide +kernel
theorem dX8_free_4 : decode cX8_free 4 = .ok (.dreturn, 1) := by decide +kernel
set_option maxRecDepth 20000 in
theorem ggX8_sent_X4_lastBut : GoodIn wsX8_sent wsX4_lastBut := goodIn_r _ [14, 15, 16, 17, 18, 13, 19, 54, 55] (by decide +kernel) (by decide +kernel)
set_option maxRecDepth 20000 in
theorem gX8_sent_X4_lastBut : GoodIn wsX8_sent (wsV RX8 220 RX4 yX4_lastBut wsX4_lastBut) := goodIn_app (goodIn_of _ (by decide +kernel)) ggX8_sent_X4_lastBut
theorem dX8_sent_0 : decode cX8_sent 0 = .ok (.iload_n 2, 1) := by decide +kernel
theorem dX8_sent_1 : decode cX8_sent 1 = .ok (.ifCond .lt 8, 3) := by decide +kernel
theorem dX8_sent_4 : decode cX8_sent 4 = .ok (.iload_n 2, 1) := by decide +kernel
theorem dX8_sent_5 : decode cX8_sent 5 = .ok (.iconst 4, 1) := by decide +kernel
theorem dX8_sent_6 : decode cX8_sent 6 = .ok (.if_icmp .le 13, 3) := by decide +kernel
theorem dX8_sent_9 : decode cX8_sent 9 = .ok (.new 69, 3) := by decide +kernel
theorem dX8_sent_12 : decode cX8_sent 12 = .ok (.dup, 1) := by decide +kernel
theorem dX8_sent_13 : decode cX8_sent 13 = .ok (.ldc 218, 2) := by decide +kernel
theorem dX8_sent_15 : decode cX8_sent 15 = .ok (.invokespecial 73, 3) := by decide +kernel
theorem dX8_sent_18 : decode cX8_sent 18 = .ok (.athrow, 1) := by decide +kernel
theorem dX8_sent_19 : decode cX8_sent 19 = .ok (.aload_n 0, 1) := by decide +kernel
theorem dX8_sent_20 : decode cX8_sent 20 = .ok (.getfield 32, 3) := by decide +kernel
theorem dX8_sent_23 : decode cX8_sent 23 = .ok (.iload_n 1, 1) := by decide +kernel
theorem dX8_sent_24 : decode cX8_sent 24 = .ok (.invokevirtual 220, 3) := by decide +kernel
theorem dX8_sent_27 : decode cX8_sent 27 = .ok (.astore_n 3, 1) := by decide +kernel
theorem dX8_sent_28 : decode cX8_sent 28 = .ok (.aload_n 3, 1) := by decide +kernel
theorem dX8_sent_29 : decode cX8_sent 29 = .ok (.ifnonnull 5, 3) := by decide +kernel
theorem dX8_sent_32 : decode cX8_sent 32 = .ok (.iconst (-1), 1) := by decide +kernel
theorem dX8_sent_33 : decode cX8_sent 33 = .ok (.ireturn, 1) := by decide +kernel
theorem dX8_sent_34 : decode cX8_sent 34 = .ok (.iload_n 2, 1) := by decide +kernel
theorem dX8_sent_35 : decode cX8_sent 35 = .ok (.tableswitch 52 0 3 #[29, 34, 42, 47], 29) := by decide +kernel
theorem dX8_sent_64 : decode cX8_sent 64 = .ok (.aload_n 3, 1) := by decide +kernel
theorem dX8_sent_65 : decode cX8_sent 65 = .ok (.getfield 169, 3) := by decide +kernel
theorem dX8_sent_68 : decode cX8_sent 68 = .ok (.ireturn, 1) := by decide +kernel
theorem dX8_sent_69 : decode cX8_sent 69 = .ok (.aload_n 3, 1) := by decide +kernel
theorem dX8_sent_70 : decode cX8_sent 70 = .ok (.getfield 224, 3) := by decide +kernel
theorem dX8_sent_73 : decode cX8_sent 73 = .ok (.getfield 228, 3) := by decide +kernel
theorem dX8_sent_76 : decode cX8_sent 76 = .ok (.ireturn, 1) := by decide +kernel
theorem dX8_sent_77 : decode cX8_sent 77 = .ok (.aload_n 3, 1) := by decide +kernel
theorem dX8_sent_78 : decode cX8_sent 78 = .ok (.getfield 231, 3) := by decide +kernel
theorem dX8_sent_81 : decode cX8_sent 81 = .ok (.ireturn, 1) := by decide +kernel
theorem dX8_sent_82 : decode cX8_sent 82 = .ok (.aload_n 3, 1) := by decide +kernel
theorem dX8_sent_83 : decode cX8_sent 83 = .ok (.getfield 232, 3) := by decide +kernel
theorem dX8_sent_86 : decode cX8_sent 86 = .ok (.ireturn, 1) := by decide +kernel
theorem dX8_sent_87 : decode cX8_sent 87 = .ok (.aload_n 3, 1) := by decide +kernel
theorem dX8_sent_88 : decode cX8_sent 88 = .ok (.getfield 235, 3) := by decide +kernel
theorem dX8_sent_91 : decode cX8_sent 91 = .ok (.ifCond .eq 7, 3) := by decide +kernel
theorem dX8_sent_94 : decode cX8_sent 94 = .ok (.iconst 1, 1) := by decide +kernel
theorem dX8_sent_95 : decode cX8_sent 95 = .ok (.goto 4, 3) := by decide +kernel
theorem dX8_sent_98 : decode cX8_sent 98 = .ok (.iconst 0, 1) := by decide +kernel
theorem dX8_sent_99 : decode cX8_sent 99 = .ok (.ireturn, 1) := by decide +kernel
set_option maxRecDepth 20000 in
theorem ggX8_round_X7_flowAfter : GoodIn wsX8_round wsX7_flowAfter := goodIn_r _ [7, 8, 9, 36, 37, 38, 21, 22, 23, 24, 25, 26, 27, 28, 29, 30, 31, 32, 33, 34, 35] (by decide +kernel) (by decide +kernel)
set_option maxRecDepth 20000 in
theorem gX8_round_X7_flowAfter : GoodIn wsX8_round (wsV RX8 237 RX7 yX7_flowAfter wsX7_flowAfter) := goodIn_app (goodIn_of _ (by decide +kernel)) ggX8_round_X7_flowAfter
theorem dX8_round_0 : decode cX8_round 0 = .ok (.aload_n 0, 1) := by decide +kernel
theorem dX8_round_1 : decode cX8_round 1 = .ok (.getfield 18, 3) := by decide +kernel
theorem dX8_round_4 : decode cX8_round 4 = .ok (.iload_n 1, 1) := by decide +kernel
theorem dX8_round_5 : decode cX8_round 5 = .ok (.invokevirtual 237, 3) := by decide +kernel
theorem dX8_round_8 : decode cX8_round 8 = .ok (.astore_n 2, 1) := by decide +kernel
theorem dX8_round_9 : decode cX8_round 9 = .ok (.aload_n 2, 1) := by decide +kernel
theorem dX8_round_10 : decode cX8_round 10 = .ok (.ifnonnull 7, 3) := by decide +kernel
theorem dX8_round_13 : decode cX8_round 13 = .ok (.iconst (-1), 1) := by decide +kernel
theorem dX8_round_14 : decode cX8_round 14 = .ok (.goto 7, 3) := by decide +kernel
theorem dX8_round_17 : decode cX8_round 17 = .ok (.aload_n 2, 1) := by decide +kernel
theorem dX8_round_18 : decode cX8_round 18 = .ok (.getfield 228, 3) := by decide +kernel
theorem dX8_round_21 : decode cX8_round 21 = .ok (.ireturn, 1) := by decide +kernel
theorem dX8_clock_0 : decode cX8_clock 0 = .ok (.aload_n 0, 1) := by decide +kernel
theorem dX8_clock_1 : decode cX8_clock 1 = .ok (.getfield 36, 3) := by decide +kernel
theorem dX8_clock_4 : decode cX8_clock 4 = .ok (.ireturn, 1) := by decide +kernel
theorem dX8_flowAt_0 : decode cX8_flowAt 0 = .ok (.iload_n 1, 1) := by decide +kernel
theorem dX8_flowAt_1 : decode cX8_flowAt 1 = .ok (.ifCond .lt 21, 3) := by decide +kernel
theorem dX8_flowAt_4 : decode cX8_flowAt 4 = .ok (.iload_n 1, 1) := by decide +kernel
theorem dX8_flowAt_5 : decode cX8_flowAt 5 = .ok (.aload_n 0, 1) := by decide +kernel
theorem dX8_flowAt_6 : decode cX8_flowAt 6 = .ok (.getfield 11, 3) := by decide +kernel
theorem dX8_flowAt_9 : decode cX8_flowAt 9 = .ok (.arraylength, 1) := by decide +kernel
theorem dX8_flowAt_10 : decode cX8_flowAt 10 = .ok (.if_icmp .ge 12, 3) := by decide +kernel
theorem dX8_flowAt_13 : decode cX8_flowAt 13 = .ok (.aload_n 0, 1) := by decide +kernel
theorem dX8_flowAt_14 : decode cX8_flowAt 14 = .ok (.getfield 11, 3) := by decide +kernel
theorem dX8_flowAt_17 : decode cX8_flowAt 17 = .ok (.iload_n 1, 1) := by decide +kernel
theorem dX8_flowAt_18 : decode cX8_flowAt 18 = .ok (.aaload, 1) := by decide +kernel
theorem dX8_flowAt_19 : decode cX8_flowAt 19 = .ok (.goto 4, 3) := by decide +kernel
theorem dX8_flowAt_22 : decode cX8_flowAt 22 = .ok (.aconst_null, 1) := by decide +kernel
theorem dX8_flowAt_23 : decode cX8_flowAt 23 = .ok (.astore_n 2, 1) := by decide +kernel
theorem dX8_flowAt_24 : decode cX8_flowAt 24 = .ok (.aload_n 2, 1) := by decide +kernel
theorem dX8_flowAt_25 : decode cX8_flowAt 25 = .ok (.ifnonnull 13, 3) := by decide +kernel
theorem dX8_flowAt_28 : decode cX8_flowAt 28 = .ok (.new 69, 3) := by decide +kernel
theorem dX8_flowAt_31 : decode cX8_flowAt 31 = .ok (.dup, 1) := by decide +kernel
theorem dX8_flowAt_32 : decode cX8_flowAt 32 = .ok (.ldc 240, 2) := by decide +kernel
theorem dX8_flowAt_34 : decode cX8_flowAt 34 = .ok (.invokespecial 73, 3) := by decide +kernel
theorem dX8_flowAt_37 : decode cX8_flowAt 37 = .ok (.athrow, 1) := by decide +kernel
theorem dX8_flowAt_38 : decode cX8_flowAt 38 = .ok (.aload_n 2, 1) := by decide +kernel
theorem dX8_flowAt_39 : decode cX8_flowAt 39 = .ok (.areturn, 1) := by decide +kernel
set_option maxRecDepth 20000 in
theorem ggX8_oneTick_X8_choose : GoodIn wsX8_oneTick wsX8_choose := goodIn_r _ [7, 8, 9, 10, 11, 12, 13, 6, 14, 15, 16, 17, 18, 1, 19, 20, 21, 22, 23, 24, 25, 26, 27, 28, 29, 30, 31, 32, 33, 34, 35, 36, 37, 38, 39, 40, 41, 42, 43, 44, 45, 46, 47, 48, 49, 50, 51, 52, 53, 54, 55, 56, 57, 58, 59, 60, 61, 62, 63, 64, 65, 66, 67, 68, 69, 70, 71, 72, 73, 74, 75, 76, 77, 78, 79, 80, 81, 82, 83, 84, 85, 86, 87, 88, 89, 90, 91, 92, 93, 94, 95, 96, 97, 98, 99, 100, 101, 102, 103, 104, 105, 106, 107, 108, 109, 110, 111, 112, 131, 132, 133, 134, 135, 136, 137, 138, 139, 140, 141, 142, 143, 144, 145, 146, 147, 148, 149, 150, 151, 152, 153, 154, 155, 156, 157, 158, 159, 160, 161, 162, 163, 164, 165, 166, 167, 168, 169, 170, 171, 172, 173, 174, 175, 176, 177, 178, 179, 180, 181, 182, 183, 184, 185, 186] (by decide +kernel) (by decide +kernel)
set_option maxRecDepth 20000 in
theorem gX8_oneTick_X8_choose : GoodIn wsX8_oneTick (wsV RX8 242 RX8 yX8_choose wsX8_choose) := goodIn_app (goodIn_of _ (by decide +kernel)) ggX8_oneTick_X8_choose
set_option maxRecDepth 20000 in
theorem ggX8_oneTick_X8_send : GoodIn wsX8_oneTick wsX8_send := goodIn_r _ [116, 50, 117, 118, 17, 119, 2, 120, 121, 122, 123, 124, 125, 126, 127, 128, 129, 130, 164, 165, 166, 167, 168, 169, 170, 171, 145, 146, 147, 148, 149, 150, 151, 152, 153, 154, 155, 156, 157, 158, 159, 131, 132, 133, 134, 135, 136, 137, 138, 139, 140, 141, 187, 188] (by decide +kernel) (by decide +kernel)
set_option maxRecDepth 20000 in
theorem gX8_oneTick_X8_send : GoodIn wsX8_oneTick (wsV RX8 246 RX8 yX8_send wsX8_send) := goodIn_app (goodIn_of _ (by decide +kernel)) ggX8_oneTick_X8_send
theorem dX8_oneTick_0 : decode cX8_oneTick 0 = .ok (.aload_n 0, 1) := by decide +kernel
theorem dX8_oneTick_1 : decode cX8_oneTick 1 = .ok (.dup, 1) := by decide +kernel
theorem dX8_oneTick_2 : decode cX8_oneTick 2 = .ok (.getfield 36, 3) := by decide +kernel
theorem dX8_oneTick_5 : decode cX8_oneTick 5 = .ok (.iconst 1, 1) := by decide +kernel
theorem dX8_oneTick_6 : decode cX8_oneTick 6 = .ok (.iadd, 1) := by decide +kernel
theorem dX8_oneTick_7 : decode cX8_oneTick 7 = .ok (.putfield 36, 3) := by decide +kernel
theorem dX8_oneTick_10 : decode cX8_oneTick 10 = .ok (.iconst 0, 1) := by decide +kernel
theorem dX8_oneTick_11 : decode cX8_oneTick 11 = .ok (.istore_n 1, 1) := by decide +kernel
theorem dX8_oneTick_12 : decode cX8_oneTick 12 = .ok (.aload_n 0, 1) := by decide +kernel
theorem dX8_oneTick_13 : decode cX8_oneTick 13 = .ok (.getfield 59, 3) := by decide +kernel
theorem dX8_oneTick_16 : decode cX8_oneTick 16 = .ok (.aload_n 0, 1) := by decide +kernel
theorem dX8_oneTick_17 : decode cX8_oneTick 17 = .ok (.getfield 36, 3) := by decide +kernel
theorem dX8_oneTick_20 : decode cX8_oneTick 20 = .ok (.i2d, 1) := by decide +kernel
theorem dX8_oneTick_21 : decode cX8_oneTick 21 = .ok (.dcmp .g, 1) := by decide +kernel
theorem dX8_oneTick_22 : decode cX8_oneTick 22 = .ok (.ifCond .gt 41, 3) := by decide +kernel
theorem dX8_oneTick_25 : decode cX8_oneTick 25 = .ok (.iload_n 1, 1) := by decide +kernel
theorem dX8_oneTick_26 : decode cX8_oneTick 26 = .ok (.bipush 100, 2) := by decide +kernel
theorem dX8_oneTick_28 : decode cX8_oneTick 28 = .ok (.if_icmp .gt 35, 3) := by decide +kernel
theorem dX8_oneTick_31 : decode cX8_oneTick 31 = .ok (.aload_n 0, 1) := by decide +kernel
theorem dX8_oneTick_32 : decode cX8_oneTick 32 = .ok (.invokevirtual 242, 3) := by decide +kernel
theorem dX8_oneTick_35 : decode cX8_oneTick 35 = .ok (.astore_n 2, 1) := by decide +kernel
theorem dX8_oneTick_36 : decode cX8_oneTick 36 = .ok (.aload_n 2, 1) := by decide +kernel
theorem dX8_oneTick_37 : decode cX8_oneTick 37 = .ok (.ifnonnull 15, 3) := by decide +kernel
theorem dX8_oneTick_40 : decode cX8_oneTick 40 = .ok (.aload_n 0, 1) := by decide +kernel
theorem dX8_oneTick_41 : decode cX8_oneTick 41 = .ok (.aload_n 0, 1) := by decide +kernel
theorem dX8_oneTick_42 : decode cX8_oneTick 42 = .ok (.getfield 36, 3) := by decide +kernel
theorem dX8_oneTick_45 : decode cX8_oneTick 45 = .ok (.i2d, 1) := by decide +kernel
theorem dX8_oneTick_46 : decode cX8_oneTick 46 = .ok (.putfield 59, 3) := by decide +kernel
theorem dX8_oneTick_49 : decode cX8_oneTick 49 = .ok (.goto 14, 3) := by decide +kernel
theorem dX8_oneTick_52 : decode cX8_oneTick 52 = .ok (.aload_n 0, 1) := by decide +kernel
theorem dX8_oneTick_53 : decode cX8_oneTick 53 = .ok (.aload_n 2, 1) := by decide +kernel
theorem dX8_oneTick_54 : decode cX8_oneTick 54 = .ok (.invokevirtual 246, 3) := by decide +kernel
theorem dX8_oneTick_57 : decode cX8_oneTick 57 = .ok (.iinc 1 1, 3) := by decide +kernel
theorem dX8_oneTick_60 : decode cX8_oneTick 60 = .ok (.goto (-48), 3) := by decide +kernel
theorem dX8_oneTick_63 : decode cX8_oneTick 63 = .ok (.iload_n 1, 1) := by decide +kernel
theorem dX8_oneTick_64 : decode cX8_oneTick 64 = .ok (.ireturn, 1) := by decide +kernel
set_option maxRecDepth 20000 in
theorem ggX8_send_X4_add : GoodIn wsX8_send wsX4_add := goodIn_r _ [12, 13, 14, 15, 16, 11, 17, 52, 53] (by decide +kernel) (by decide +kernel)
set_option maxRecDepth 20000 in
theorem gX8_send_X4_add : GoodIn wsX8_send (wsV RX8 249 RX4 yX4_add wsX4_add) := goodIn_app (goodIn_of _ (by decide +kernel)) ggX8_send_X4_add
theorem dX8_send_0 : decode cX8_send 0 = .ok (.aload_n 1, 1) := by decide +kernel
theorem dX8_send_1 : decode cX8_send 1 = .ok (.getfield 224, 3) := by decide +kernel
theorem dX8_send_4 : decode cX8_send 4 = .ok (.dup, 1) := by decide +kernel
theorem dX8_send_5 : decode cX8_send 5 = .ok (.getfield 177, 3) := by decide +kernel
theorem dX8_send_8 : decode cX8_send 8 = .ok (.iconst 1, 1) := by decide +kernel
theorem dX8_send_9 : decode cX8_send 9 = .ok (.iadd, 1) := by decide +kernel
theorem dX8_send_10 : decode cX8_send 10 = .ok (.putfield 177, 3) := by decide +kernel
theorem dX8_send_13 : decode cX8_send 13 = .ok (.aload_n 1, 1) := by decide +kernel
theorem dX8_send_14 : decode cX8_send 14 = .ok (.getfield 224, 3) := by decide +kernel
theorem dX8_send_17 : decode cX8_send 17 = .ok (.dup, 1) := by decide +kernel
theorem dX8_send_18 : decode cX8_send 18 = .ok (.getfield 198, 3) := by decide +kernel
theorem dX8_send_21 : decode cX8_send 21 = .ok (.aload_n 1, 1) := by decide +kernel
theorem dX8_send_22 : decode cX8_send 22 = .ok (.getfield 231, 3) := by decide +kernel
theorem dX8_send_25 : decode cX8_send 25 = .ok (.iadd, 1) := by decide +kernel
theorem dX8_send_26 : decode cX8_send 26 = .ok (.putfield 198, 3) := by decide +kernel
theorem dX8_send_29 : decode cX8_send 29 = .ok (.aload_n 0, 1) := by decide +kernel
theorem dX8_send_30 : decode cX8_send 30 = .ok (.getfield 32, 3) := by decide +kernel
theorem dX8_send_33 : decode cX8_send 33 = .ok (.aload_n 1, 1) := by decide +kernel
theorem dX8_send_34 : decode cX8_send 34 = .ok (.invokevirtual 249, 3) := by decide +kernel
theorem dX8_send_37 : decode cX8_send 37 = .ok (.aload_n 0, 1) := by decide +kernel
theorem dX8_send_38 : decode cX8_send 38 = .ok (.aload_n 0, 1) := by decide +kernel
theorem dX8_send_39 : decode cX8_send 39 = .ok (.getfield 59, 3) := by decide +kernel
theorem dX8_send_42 : decode cX8_send 42 = .ok (.aload_n 1, 1) := by decide +kernel
theorem dX8_send_43 : decode cX8_send 43 = .ok (.getfield 231, 3) := by decide +kernel
theorem dX8_send_46 : decode cX8_send 46 = .ok (.i2d, 1) := by decide +kernel
theorem dX8_send_47 : decode cX8_send 47 = .ok (.aload_n 0, 1) := by decide +kernel
theorem dX8_send_48 : decode cX8_send 48 = .ok (.getfield 55, 3) := by decide +kernel
theorem dX8_send_51 : decode cX8_send 51 = .ok (.ddiv, 1) := by decide +kernel
theorem dX8_send_52 : decode cX8_send 52 = .ok (.dadd, 1) := by decide +kernel
theorem dX8_send_53 : decode cX8_send 53 = .ok (.putfield 59, 3) := by decide +kernel
theorem dX8_send_56 : decode cX8_send 56 = .ok (.return_, 1) := by decide +kernel
set_option maxRecDepth 20000 in
theorem ggX8_choose_X8_lookAt : GoodIn wsX8_choose wsX8_lookAt := goodIn_r _ [8, 2, 9, 10, 11, 12, 13, 14, 15, 16, 17, 18, 19, 20, 21, 22, 23, 24, 25, 26, 27, 28, 29, 30, 31, 32, 33, 34, 35, 36, 37, 38, 39, 40, 41, 42, 43, 7, 44, 45, 46, 47, 48, 49, 50, 51, 52, 53, 54, 55, 56, 57, 58, 59, 60, 61, 62, 63, 64, 65, 66, 67, 68, 69, 70, 71, 72, 73, 74, 75, 76, 77, 78, 79, 80, 81, 82, 83, 84, 85, 86, 87, 88, 89, 90, 91, 92, 93, 94, 95, 96, 97, 98, 99, 100, 101, 102, 103, 104, 105, 106, 107, 108, 109, 110, 111, 112, 113, 114, 115, 116, 117, 118, 122, 123, 124, 125, 126, 127, 128, 129, 130, 131, 132, 133, 134, 135, 136, 137, 138, 139, 140, 141, 142, 143, 144, 145, 146, 147, 148, 149, 150, 151, 152, 153, 154, 155, 119, 120, 121, 156, 157, 158, 159, 160, 161, 162, 163] (by decide +kernel) (by decide +kernel)
set_option maxRecDepth 20000 in
theorem gX8_choose_X8_lookAt : GoodIn wsX8_choose (wsV RX8 254 RX8 yX8_lookAt wsX8_lookAt) := goodIn_app (goodIn_of _ (by decide +kernel)) ggX8_choose_X8_lookAt
theorem dX8_choose_0 : decode cX8_choose 0 = .ok (.aconst_null, 1) := by decide +kernel
theorem dX8_choose_1 : decode cX8_choose 1 = .ok (.astore_n 1, 1) := by decide +kernel
theorem dX8_choose_2 : decode cX8_choose 2 = .ok (.iconst 0, 1) := by decide +kernel
theorem dX8_choose_3 : decode cX8_choose 3 = .ok (.istore_n 2, 1) := by decide +kernel
theorem dX8_choose_4 : decode cX8_choose 4 = .ok (.iload_n 2, 1) := by decide +kernel
theorem dX8_choose_5 : decode cX8_choose 5 = .ok (.ldc 49, 2) := by decide +kernel
theorem dX8_choose_7 : decode cX8_choose 7 = .ok (.if_icmp .ge 35, 3) := by decide +kernel
theorem dX8_choose_10 : decode cX8_choose 10 = .ok (.aload_n 1, 1) := by decide +kernel
theorem dX8_choose_11 : decode cX8_choose 11 = .ok (.ifnonnull 31, 3) := by decide +kernel
theorem dX8_choose_14 : decode cX8_choose 14 = .ok (.aload_n 0, 1) := by decide +kernel
theorem dX8_choose_15 : decode cX8_choose 15 = .ok (.getfield 18, 3) := by decide +kernel
theorem dX8_choose_18 : decode cX8_choose 18 = .ok (.getfield 251, 3) := by decide +kernel
theorem dX8_choose_21 : decode cX8_choose 21 = .ok (.ifnull 21, 3) := by decide +kernel
theorem dX8_choose_24 : decode cX8_choose 24 = .ok (.aload_n 0, 1) := by decide +kernel
theorem dX8_choose_25 : decode cX8_choose 25 = .ok (.aload_n 0, 1) := by decide +kernel
theorem dX8_choose_26 : decode cX8_choose 26 = .ok (.getfield 18, 3) := by decide +kernel
theorem dX8_choose_29 : decode cX8_choose 29 = .ok (.getfield 251, 3) := by decide +kernel
theorem dX8_choose_32 : decode cX8_choose 32 = .ok (.invokevirtual 254, 3) := by decide +kernel
theorem dX8_choose_35 : decode cX8_choose 35 = .ok (.astore_n 1, 1) := by decide +kernel
theorem dX8_choose_36 : decode cX8_choose 36 = .ok (.iinc 2 1, 3) := by decide +kernel
theorem dX8_choose_39 : decode cX8_choose 39 = .ok (.goto (-35), 3) := by decide +kernel
theorem dX8_choose_42 : decode cX8_choose 42 = .ok (.aload_n 1, 1) := by decide +kernel
theorem dX8_choose_43 : decode cX8_choose 43 = .ok (.areturn, 1) := by decide +kernel
set_option maxRecDepth 20000 in
theorem ggX8_lookAt_X7_begin : GoodIn wsX8_lookAt wsX7_begin := goodIn_r _ [15, 16, 17, 18, 19, 147, 148, 149, 113, 114, 115, 116, 117, 118, 119, 120, 121, 122, 123, 124, 125, 126, 127] (by decide +kernel) (by decide +kernel)
set_option maxRecDepth 20000 in
theorem gX8_lookAt_X7_begin : GoodIn wsX8_lookAt (wsV RX8 258 RX7 yX7_begin wsX7_begin) := goodIn_app (goodIn_of _ (by decide +kernel)) ggX8_lookAt_X7_begin
set_option maxRecDepth 20000 in
theorem ggX8_lookAt_X7_passOn : GoodIn wsX8_lookAt wsX7_passOn := goodIn_r _ [23, 24, 25, 26, 14, 27, 16, 28, 29, 17, 30, 31, 32, 33, 147, 148, 149, 113, 114, 115, 116, 117, 118, 119, 120, 121, 122, 123, 124, 125, 126, 127] (by decide +kernel) (by decide +kernel)
set_option maxRecDepth 20000 in
theorem gX8_lookAt_X7_passOn : GoodIn wsX8_lookAt (wsV RX8 264 RX7 yX7_passOn wsX7_passOn) := goodIn_app (goodIn_of _ (by decide +kernel)) ggX8_lookAt_X7_passOn
set_option maxRecDepth 20000 in
theorem ggX8_lookAt_X8_takeOut : GoodIn wsX8_lookAt wsX8_takeOut := goodIn_r _ [38, 39, 2, 40, 41, 4, 6, 42, 43, 44, 45, 46, 47, 48, 49, 50, 51, 52, 53, 54, 132, 133, 134, 135, 136, 137, 138, 139, 113, 114, 115, 116, 117, 118, 119, 120, 121, 122, 123, 124, 125, 126, 127, 102, 103, 104, 105, 106, 107, 108, 109, 110, 111, 112, 128, 129, 130, 131] (by decide +kernel) (by decide +kernel)
set_option maxRecDepth 20000 in
theorem gX8_lookAt_X8_takeOut : GoodIn wsX8_lookAt (wsV RX8 267 RX8 yX8_takeOut wsX8_takeOut) := goodIn_app (goodIn_of _ (by decide +kernel)) ggX8_lookAt_X8_takeOut
set_option maxRecDepth 20000 in
theorem ggX8_lookAt_X2_letsOut : GoodIn wsX8_lookAt wsX2_letsOut := goodIn_r _ [59, 60, 61, 62, 63, 64, 65, 66, 67, 68, 69, 70, 71, 72, 73, 74, 75, 76, 77, 78, 79, 80, 81, 82, 83, 84, 85, 86, 87, 88, 89, 90, 91, 92, 93, 58, 94, 95, 96, 97, 113, 114, 115, 116, 117, 118, 119, 120, 121, 122, 123, 124, 125, 126, 127, 132, 133, 134, 135, 136, 137, 138, 139, 128, 129, 130, 131, 150, 151, 152, 153, 154, 155, 156, 157] (by decide +kernel) (by decide +kernel)
set_option maxRecDepth 20000 in
theorem gX8_lookAt_X2_letsOut : GoodIn wsX8_lookAt (wsV RX8 270 RX2 yX2_letsOut wsX2_letsOut) := goodIn_app (goodIn_of _ (by decide +kernel)) ggX8_lookAt_X2_letsOut
set_option maxRecDepth 20000 in
theorem ggX8_lookAt_X7_leave : GoodIn wsX8_lookAt wsX7_leave := goodIn_r _ [101, 18, 24, 25, 26, 14, 27, 16, 28, 29, 17, 113, 114, 115, 116, 117, 118, 119, 120, 121, 122, 123, 124, 125, 126, 127, 147, 148, 149] (by decide +kernel) (by decide +kernel)
set_option maxRecDepth 20000 in
theorem gX8_lookAt_X7_leave : GoodIn wsX8_lookAt (wsV RX8 274 RX7 yX7_leave wsX7_leave) := goodIn_app (goodIn_of _ (by decide +kernel)) ggX8_lookAt_X7_leave
theorem dX8_lookAt_0 : decode cX8_lookAt 0 = .ok (.aload_n 0, 1) := by decide +kernel
theorem dX8_lookAt_1 : decode cX8_lookAt 1 = .ok (.getfield 18, 3) := by decide +kernel
theorem dX8_lookAt_4 : decode cX8_lookAt 4 = .ok (.invokevirtual 258, 3) := by decide +kernel
theorem dX8_lookAt_7 : decode cX8_lookAt 7 = .ok (.aload_n 1, 1) := by decide +kernel
theorem dX8_lookAt_8 : decode cX8_lookAt 8 = .ok (.getfield 186, 3) := by decide +kernel
theorem dX8_lookAt_11 : decode cX8_lookAt 11 = .ok (.getfield 261, 3) := by decide +kernel
theorem dX8_lookAt_14 : decode cX8_lookAt 14 = .ok (.astore_n 2, 1) := by decide +kernel
theorem dX8_lookAt_15 : decode cX8_lookAt 15 = .ok (.aload_n 2, 1) := by decide +kernel
theorem dX8_lookAt_16 : decode cX8_lookAt 16 = .ok (.ifnull 14, 3) := by decide +kernel
theorem dX8_lookAt_19 : decode cX8_lookAt 19 = .ok (.aload_n 2, 1) := by decide +kernel
theorem dX8_lookAt_20 : decode cX8_lookAt 20 = .ok (.getfield 231, 3) := by decide +kernel
theorem dX8_lookAt_23 : decode cX8_lookAt 23 = .ok (.aload_n 1, 1) := by decide +kernel
theorem dX8_lookAt_24 : decode cX8_lookAt 24 = .ok (.getfield 201, 3) := by decide +kernel
theorem dX8_lookAt_27 : decode cX8_lookAt 27 = .ok (.if_icmp .le 12, 3) := by decide +kernel
theorem dX8_lookAt_30 : decode cX8_lookAt 30 = .ok (.aload_n 0, 1) := by decide +kernel
theorem dX8_lookAt_31 : decode cX8_lookAt 31 = .ok (.getfield 18, 3) := by decide +kernel
theorem dX8_lookAt_34 : decode cX8_lookAt 34 = .ok (.invokevirtual 264, 3) := by decide +kernel
theorem dX8_lookAt_37 : decode cX8_lookAt 37 = .ok (.aconst_null, 1) := by decide +kernel
theorem dX8_lookAt_38 : decode cX8_lookAt 38 = .ok (.areturn, 1) := by decide +kernel
theorem dX8_lookAt_39 : decode cX8_lookAt 39 = .ok (.aload_n 0, 1) := by decide +kernel
theorem dX8_lookAt_40 : decode cX8_lookAt 40 = .ok (.aload_n 2, 1) := by decide +kernel
theorem dX8_lookAt_41 : decode cX8_lookAt 41 = .ok (.invokevirtual 267, 3) := by decide +kernel
theorem dX8_lookAt_44 : decode cX8_lookAt 44 = .ok (.aload_n 1, 1) := by decide +kernel
theorem dX8_lookAt_45 : decode cX8_lookAt 45 = .ok (.aload_n 2, 1) := by decide +kernel
theorem dX8_lookAt_46 : decode cX8_lookAt 46 = .ok (.aload_n 0, 1) := by decide +kernel
theorem dX8_lookAt_47 : decode cX8_lookAt 47 = .ok (.getfield 36, 3) := by decide +kernel
theorem dX8_lookAt_50 : decode cX8_lookAt 50 = .ok (.invokevirtual 270, 3) := by decide +kernel
theorem dX8_lookAt_53 : decode cX8_lookAt 53 = .ok (.istore_n 3, 1) := by decide +kernel
theorem dX8_lookAt_54 : decode cX8_lookAt 54 = .ok (.iload_n 3, 1) := by decide +kernel
theorem dX8_lookAt_55 : decode cX8_lookAt 55 = .ok (.ifCond .eq 19, 3) := by decide +kernel
theorem dX8_lookAt_58 : decode cX8_lookAt 58 = .ok (.aload_n 1, 1) := by decide +kernel
theorem dX8_lookAt_59 : decode cX8_lookAt 59 = .ok (.dup, 1) := by decide +kernel
theorem dX8_lookAt_60 : decode cX8_lookAt 60 = .ok (.getfield 201, 3) := by decide +kernel
theorem dX8_lookAt_63 : decode cX8_lookAt 63 = .ok (.aload_n 2, 1) := by decide +kernel
theorem dX8_lookAt_64 : decode cX8_lookAt 64 = .ok (.getfield 231, 3) := by decide +kernel
theorem dX8_lookAt_67 : decode cX8_lookAt 67 = .ok (.isub, 1) := by decide +kernel
theorem dX8_lookAt_68 : decode cX8_lookAt 68 = .ok (.putfield 201, 3) := by decide +kernel
theorem dX8_lookAt_71 : decode cX8_lookAt 71 = .ok (.goto 13, 3) := by decide +kernel
theorem dX8_lookAt_74 : decode cX8_lookAt 74 = .ok (.aload_n 1, 1) := by decide +kernel
theorem dX8_lookAt_75 : decode cX8_lookAt 75 = .ok (.dup, 1) := by decide +kernel
theorem dX8_lookAt_76 : decode cX8_lookAt 76 = .ok (.getfield 180, 3) := by decide +kernel
theorem dX8_lookAt_79 : decode cX8_lookAt 79 = .ok (.iconst 1, 1) := by decide +kernel
theorem dX8_lookAt_80 : decode cX8_lookAt 80 = .ok (.iadd, 1) := by decide +kernel
theorem dX8_lookAt_81 : decode cX8_lookAt 81 = .ok (.putfield 180, 3) := by decide +kernel
theorem dX8_lookAt_84 : decode cX8_lookAt 84 = .ok (.aload_n 1, 1) := by decide +kernel
theorem dX8_lookAt_85 : decode cX8_lookAt 85 = .ok (.getfield 186, 3) := by decide +kernel
theorem dX8_lookAt_88 : decode cX8_lookAt 88 = .ok (.getfield 190, 3) := by decide +kernel
theorem dX8_lookAt_91 : decode cX8_lookAt 91 = .ok (.ifCond .ne 21, 3) := by decide +kernel
theorem dX8_lookAt_94 : decode cX8_lookAt 94 = .ok (.aload_n 0, 1) := by decide +kernel
theorem dX8_lookAt_95 : decode cX8_lookAt 95 = .ok (.getfield 18, 3) := by decide +kernel
theorem dX8_lookAt_98 : decode cX8_lookAt 98 = .ok (.invokevirtual 274, 3) := by decide +kernel
theorem dX8_lookAt_101 : decode cX8_lookAt 101 = .ok (.aload_n 1, 1) := by decide +kernel
theorem dX8_lookAt_102 : decode cX8_lookAt 102 = .ok (.getfield 84, 3) := by decide +kernel
theorem dX8_lookAt_105 : decode cX8_lookAt 105 = .ok (.aload_n 0, 1) := by decide +kernel
theorem dX8_lookAt_106 : decode cX8_lookAt 106 = .ok (.getfield 36, 3) := by decide +kernel
theorem dX8_lookAt_109 : decode cX8_lookAt 109 = .ok (.putfield 277, 3) := by decide +kernel
theorem dX8_lookAt_112 : decode cX8_lookAt 112 = .ok (.iload_n 3, 1) := by decide +kernel
theorem dX8_lookAt_113 : decode cX8_lookAt 113 = .ok (.ifCond .eq 7, 3) := by decide +kernel
theorem dX8_lookAt_116 : decode cX8_lookAt 116 = .ok (.aload_n 2, 1) := by decide +kernel
theorem dX8_lookAt_117 : decode cX8_lookAt 117 = .ok (.goto 4, 3) := by decide +kernel
theorem dX8_lookAt_120 : decode cX8_lookAt 120 = .ok (.aconst_null, 1) := by decide +kernel
theorem dX8_lookAt_121 : decode cX8_lookAt 121 = .ok (.areturn, 1) := by decide +kernel
set_option maxRecDepth 20000 in
theorem ggX8_putIn_X7_join : GoodIn wsX8_putIn wsX7_join := goodIn_r _ [12, 13, 14, 15, 65, 66, 67, 35, 36, 37, 38, 39, 40, 41, 42, 43, 44, 45, 46, 47, 48, 49] (by decide +kernel) (by decide +kernel)
set_option maxRecDepth 20000 in
theorem gX8_putIn_X7_join : GoodIn wsX8_putIn (wsV RX8 280 RX7 yX7_join wsX7_join) := goodIn_app (goodIn_of _ (by decide +kernel)) ggX8_putIn_X7_join
set_option maxRecDepth 20000 in
theorem ggX8_putIn_X6_add : GoodIn wsX8_putIn wsX6_add := goodIn_r _ [20, 21, 22, 23, 24, 25, 26, 50, 51, 52, 53, 27, 28, 29, 30, 31, 32, 33, 34] (by decide +kernel) (by decide +kernel)
set_option maxRecDepth 20000 in
theorem gX8_putIn_X6_add : GoodIn wsX8_putIn (wsV RX8 284 RX6 yX6_add wsX6_add) := goodIn_app (goodIn_of _ (by decide +kernel)) ggX8_putIn_X6_add
theorem dX8_putIn_0 : decode cX8_putIn 0 = .ok (.aload_n 1, 1) := by decide +kernel
theorem dX8_putIn_1 : decode cX8_putIn 1 = .ok (.getfield 224, 3) := by decide +kernel
theorem dX8_putIn_4 : decode cX8_putIn 4 = .ok (.getfield 186, 3) := by decide +kernel
theorem dX8_putIn_7 : decode cX8_putIn 7 = .ok (.getfield 190, 3) := by decide +kernel
theorem dX8_putIn_10 : decode cX8_putIn 10 = .ok (.ifCond .ne 14, 3) := by decide +kernel
theorem dX8_putIn_13 : decode cX8_putIn 13 = .ok (.aload_n 0, 1) := by decide +kernel
theorem dX8_putIn_14 : decode cX8_putIn 14 = .ok (.getfield 18, 3) := by decide +kernel
theorem dX8_putIn_17 : decode cX8_putIn 17 = .ok (.aload_n 1, 1) := by decide +kernel
theorem dX8_putIn_18 : decode cX8_putIn 18 = .ok (.getfield 224, 3) := by decide +kernel
theorem dX8_putIn_21 : decode cX8_putIn 21 = .ok (.invokevirtual 280, 3) := by decide +kernel
theorem dX8_putIn_24 : decode cX8_putIn 24 = .ok (.aload_n 1, 1) := by decide +kernel
theorem dX8_putIn_25 : decode cX8_putIn 25 = .ok (.getfield 224, 3) := by decide +kernel
theorem dX8_putIn_28 : decode cX8_putIn 28 = .ok (.getfield 186, 3) := by decide +kernel
theorem dX8_putIn_31 : decode cX8_putIn 31 = .ok (.aload_n 1, 1) := by decide +kernel
theorem dX8_putIn_32 : decode cX8_putIn 32 = .ok (.invokevirtual 284, 3) := by decide +kernel
theorem dX8_putIn_35 : decode cX8_putIn 35 = .ok (.aload_n 0, 1) := by decide +kernel
theorem dX8_putIn_36 : decode cX8_putIn 36 = .ok (.dup, 1) := by decide +kernel
theorem dX8_putIn_37 : decode cX8_putIn 37 = .ok (.getfield 43, 3) := by decide +kernel
theorem dX8_putIn_40 : decode cX8_putIn 40 = .ok (.iconst 1, 1) := by decide +kernel
theorem dX8_putIn_41 : decode cX8_putIn 41 = .ok (.iadd, 1) := by decide +kernel
theorem dX8_putIn_42 : decode cX8_putIn 42 = .ok (.putfield 43, 3) := by decide +kernel
theorem dX8_putIn_45 : decode cX8_putIn 45 = .ok (.aload_n 0, 1) := by decide +kernel
theorem dX8_putIn_46 : decode cX8_putIn 46 = .ok (.dup, 1) := by decide +kernel
theorem dX8_putIn_47 : decode cX8_putIn 47 = .ok (.getfield 46, 3) := by decide +kernel
theorem dX8_putIn_50 : decode cX8_putIn 50 = .ok (.aload_n 1, 1) := by decide +kernel
theorem dX8_putIn_51 : decode cX8_putIn 51 = .ok (.getfield 231, 3) := by decide +kernel
theorem dX8_putIn_54 : decode cX8_putIn 54 = .ok (.iadd, 1) := by decide +kernel
theorem dX8_putIn_55 : decode cX8_putIn 55 = .ok (.putfield 46, 3) := by decide +kernel
theorem dX8_putIn_58 : decode cX8_putIn 58 = .ok (.return_, 1) := by decide +kernel
set_option maxRecDepth 20000 in
theorem ggX8_takeOut_X6_removeFirst : GoodIn wsX8_takeOut wsX6_removeFirst := goodIn_r _ [13, 14, 15, 16, 17, 18, 19, 54, 55, 56, 57, 20, 21, 22, 23, 24, 25, 26, 27] (by decide +kernel) (by decide +kernel)
set_option maxRecDepth 20000 in
theorem gX8_takeOut_X6_removeFirst : GoodIn wsX8_takeOut (wsV RX8 285 RX6 yX6_removeFirst wsX6_removeFirst) := goodIn_app (goodIn_of _ (by decide +kernel)) ggX8_takeOut_X6_removeFirst
theorem dX8_takeOut_0 : decode cX8_takeOut 0 = .ok (.aload_n 1, 1) := by decide +kernel
theorem dX8_takeOut_1 : decode cX8_takeOut 1 = .ok (.getfield 224, 3) := by decide +kernel
theorem dX8_takeOut_4 : decode cX8_takeOut 4 = .ok (.getfield 186, 3) := by decide +kernel
theorem dX8_takeOut_7 : decode cX8_takeOut 7 = .ok (.invokevirtual 285, 3) := by decide +kernel
theorem dX8_takeOut_10 : decode cX8_takeOut 10 = .ok (.aload_n 0, 1) := by decide +kernel
theorem dX8_takeOut_11 : decode cX8_takeOut 11 = .ok (.dup, 1) := by decide +kernel
theorem dX8_takeOut_12 : decode cX8_takeOut 12 = .ok (.getfield 43, 3) := by decide +kernel
theorem dX8_takeOut_15 : decode cX8_takeOut 15 = .ok (.iconst 1, 1) := by decide +kernel
theorem dX8_takeOut_16 : decode cX8_takeOut 16 = .ok (.isub, 1) := by decide +kernel
theorem dX8_takeOut_17 : decode cX8_takeOut 17 = .ok (.putfield 43, 3) := by decide +kernel
theorem dX8_takeOut_20 : decode cX8_takeOut 20 = .ok (.aload_n 0, 1) := by decide +kernel
theorem dX8_takeOut_21 : decode cX8_takeOut 21 = .ok (.dup, 1) := by decide +kernel
theorem dX8_takeOut_22 : decode cX8_takeOut 22 = .ok (.getfield 46, 3) := by decide +kernel
theorem dX8_takeOut_25 : decode cX8_takeOut 25 = .ok (.aload_n 1, 1) := by decide +kernel
theorem dX8_takeOut_26 : decode cX8_takeOut 26 = .ok (.getfield 231, 3) := by decide +kernel
theorem dX8_takeOut_29 : decode cX8_takeOut 29 = .ok (.isub, 1) := by decide +kernel
theorem dX8_takeOut_30 : decode cX8_takeOut 30 = .ok (.putfield 46, 3) := by decide +kernel
theorem dX8_takeOut_33 : decode cX8_takeOut 33 = .ok (.aload_n 1, 1) := by decide +kernel
theorem dX8_takeOut_34 : decode cX8_takeOut 34 = .ok (.aload_n 0, 1) := by decide +kernel
theorem dX8_takeOut_35 : decode cX8_takeOut 35 = .ok (.getfield 36, 3) := by decide +kernel
theorem dX8_takeOut_38 : decode cX8_takeOut 38 = .ok (.aload_n 1, 1) := by decide +kernel
theorem dX8_takeOut_39 : decode cX8_takeOut 39 = .ok (.getfield 288, 3) := by decide +kernel
theorem dX8_takeOut_42 : decode cX8_takeOut 42 = .ok (.isub, 1) := by decide +kernel
theorem dX8_takeOut_43 : decode cX8_takeOut 43 = .ok (.putfield 232, 3) := by decide +kernel
theorem dX8_takeOut_46 : decode cX8_takeOut 46 = .ok (.return_, 1) := by decide +kernel
