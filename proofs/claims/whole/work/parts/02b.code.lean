theorem dX0_init_0 : decode cX0_init 0 = .ok (.aload_n 0, 1) := by decide +kernel
theorem dX0_init_1 : decode cX0_init 1 = .ok (.invokespecial 3, 3) := by decide +kernel
theorem dX0_init_4 : decode cX0_init 4 = .ok (.aload_n 0, 1) := by decide +kernel
theorem dX0_init_5 : decode cX0_init 5 = .ok (.bipush 60, 2) := by decide +kernel
theorem dX0_init_7 : decode cX0_init 7 = .ok (.newarray .int, 2) := by decide +kernel
theorem dX0_init_9 : decode cX0_init 9 = .ok (.putfield 9, 3) := by decide +kernel
theorem dX0_init_12 : decode cX0_init 12 = .ok (.aload_n 0, 1) := by decide +kernel
theorem dX0_init_13 : decode cX0_init 13 = .ok (.iconst 0, 1) := by decide +kernel
theorem dX0_init_14 : decode cX0_init 14 = .ok (.putfield 15, 3) := by decide +kernel
theorem dX0_init_17 : decode cX0_init 17 = .ok (.aload_n 0, 1) := by decide +kernel
theorem dX0_init_18 : decode cX0_init 18 = .ok (.bipush 60, 2) := by decide +kernel
theorem dX0_init_20 : decode cX0_init 20 = .ok (.newarray .int, 2) := by decide +kernel
theorem dX0_init_22 : decode cX0_init 22 = .ok (.putfield 19, 3) := by decide +kernel
theorem dX0_init_25 : decode cX0_init 25 = .ok (.aload_n 0, 1) := by decide +kernel
theorem dX0_init_26 : decode cX0_init 26 = .ok (.iconst 0, 1) := by decide +kernel
theorem dX0_init_27 : decode cX0_init 27 = .ok (.putfield 22, 3) := by decide +kernel
theorem dX0_init_30 : decode cX0_init 30 = .ok (.aload_n 0, 1) := by decide +kernel
theorem dX0_init_31 : decode cX0_init 31 = .ok (.iconst 0, 1) := by decide +kernel
theorem dX0_init_32 : decode cX0_init 32 = .ok (.putfield 25, 3) := by decide +kernel
theorem dX0_init_35 : decode cX0_init 35 = .ok (.aload_n 0, 1) := by decide +kernel
theorem dX0_init_36 : decode cX0_init 36 = .ok (.iconst 0, 1) := by decide +kernel
theorem dX0_init_37 : decode cX0_init 37 = .ok (.putfield 28, 3) := by decide +kernel
theorem dX0_init_40 : decode cX0_init 40 = .ok (.aload_n 0, 1) := by decide +kernel
theorem dX0_init_41 : decode cX0_init 41 = .ok (.bipush 12, 2) := by decide +kernel
theorem dX0_init_43 : decode cX0_init 43 = .ok (.newarray .int, 2) := by decide +kernel
theorem dX0_init_45 : decode cX0_init 45 = .ok (.putfield 31, 3) := by decide +kernel
theorem dX0_init_48 : decode cX0_init 48 = .ok (.return_, 1) := by decide +kernel
theorem dX0_begin_0 : decode cX0_begin 0 = .ok (.aload_n 0, 1) := by decide +kernel
theorem dX0_begin_1 : decode cX0_begin 1 = .ok (.iconst 0, 1) := by decide +kernel
theorem dX0_begin_2 : decode cX0_begin 2 = .ok (.putfield 15, 3) := by decide +kernel
theorem dX0_begin_5 : decode cX0_begin 5 = .ok (.aload_n 0, 1) := by decide +kernel
theorem dX0_begin_6 : decode cX0_begin 6 = .ok (.iconst 0, 1) := by decide +kernel
theorem dX0_begin_7 : decode cX0_begin 7 = .ok (.putfield 22, 3) := by decide +kernel
theorem dX0_begin_10 : decode cX0_begin 10 = .ok (.aload_n 0, 1) := by decide +kernel
theorem dX0_begin_11 : decode cX0_begin 11 = .ok (.iconst 0, 1) := by decide +kernel
theorem dX0_begin_12 : decode cX0_begin 12 = .ok (.putfield 25, 3) := by decide +kernel
theorem dX0_begin_15 : decode cX0_begin 15 = .ok (.aload_n 0, 1) := by decide +kernel
theorem dX0_begin_16 : decode cX0_begin 16 = .ok (.iconst 0, 1) := by decide +kernel
theorem dX0_begin_17 : decode cX0_begin 17 = .ok (.putfield 28, 3) := by decide +kernel
theorem dX0_begin_20 : decode cX0_begin 20 = .ok (.iconst 0, 1) := by decide +kernel
theorem dX0_begin_21 : decode cX0_begin 21 = .ok (.istore_n 1, 1) := by decide +kernel
theorem dX0_begin_22 : decode cX0_begin 22 = .ok (.iload_n 1, 1) := by decide +kernel
theorem dX0_begin_23 : decode cX0_begin 23 = .ok (.bipush 12, 2) := by decide +kernel
theorem dX0_begin_25 : decode cX0_begin 25 = .ok (.if_icmp .ge 16, 3) := by decide +kernel
theorem dX0_begin_28 : decode cX0_begin 28 = .ok (.aload_n 0, 1) := by decide +kernel
theorem dX0_begin_29 : decode cX0_begin 29 = .ok (.getfield 31, 3) := by decide +kernel
theorem dX0_begin_32 : decode cX0_begin 32 = .ok (.iload_n 1, 1) := by decide +kernel
theorem dX0_begin_33 : decode cX0_begin 33 = .ok (.iconst 0, 1) := by decide +kernel
theorem dX0_begin_34 : decode cX0_begin 34 = .ok (.iastore, 1) := by decide +kernel
theorem dX0_begin_35 : decode cX0_begin 35 = .ok (.iinc 1 1, 3) := by decide +kernel
theorem dX0_begin_38 : decode cX0_begin 38 = .ok (.goto (-16), 3) := by decide +kernel
theorem dX0_begin_41 : decode cX0_begin 41 = .ok (.return_, 1) := by decide +kernel
theorem dX0_inMotion_0 : decode cX0_inMotion 0 = .ok (.iload_n 2, 1) := by decide +kernel
theorem dX0_inMotion_1 : decode cX0_inMotion 1 = .ok (.aload_n 0, 1) := by decide +kernel
theorem dX0_inMotion_2 : decode cX0_inMotion 2 = .ok (.getfield 31, 3) := by decide +kernel
theorem dX0_inMotion_5 : decode cX0_inMotion 5 = .ok (.iload_n 1, 1) := by decide +kernel
theorem dX0_inMotion_6 : decode cX0_inMotion 6 = .ok (.iaload, 1) := by decide +kernel
theorem dX0_inMotion_7 : decode cX0_inMotion 7 = .ok (.if_icmp .ge 7, 3) := by decide +kernel
theorem dX0_inMotion_10 : decode cX0_inMotion 10 = .ok (.iconst 1, 1) := by decide +kernel
theorem dX0_inMotion_11 : decode cX0_inMotion 11 = .ok (.goto 4, 3) := by decide +kernel
theorem dX0_inMotion_14 : decode cX0_inMotion 14 = .ok (.iconst 0, 1) := by decide +kernel
theorem dX0_inMotion_15 : decode cX0_inMotion 15 = .ok (.ireturn, 1) := by decide +kernel
set_option maxRecDepth 20000 in
theorem ggX0_stopAround_X0_inMotion : GoodIn wsX0_stopAround wsX0_inMotion := goodIn_r _ [13, 8, 14, 15, 16, 17, 18, 19, 20] (by decide +kernel) (by decide +kernel)
set_option maxRecDepth 20000 in
theorem gX0_stopAround_X0_inMotion : GoodIn wsX0_stopAround (wsV RX0 43 RX0 yX0_inMotion wsX0_inMotion) := goodIn_app (goodIn_of _ (by decide +kernel)) ggX0_stopAround_X0_inMotion
theorem dX0_stopAround_0 : decode cX0_stopAround 0 = .ok (.iconst 0, 1) := by decide +kernel
theorem dX0_stopAround_1 : decode cX0_stopAround 1 = .ok (.iload_n 1, 1) := by decide +kernel
theorem dX0_stopAround_2 : decode cX0_stopAround 2 = .ok (.iload_n 2, 1) := by decide +kernel
theorem dX0_stopAround_3 : decode cX0_stopAround 3 = .ok (.isub, 1) := by decide +kernel
theorem dX0_stopAround_4 : decode cX0_stopAround 4 = .ok (.invokestatic 34, 3) := by decide +kernel
theorem dX0_stopAround_7 : decode cX0_stopAround 7 = .ok (.istore 4, 2) := by decide +kernel
theorem dX0_stopAround_9 : decode cX0_stopAround 9 = .ok (.bipush 11, 2) := by decide +kernel
theorem dX0_stopAround_11 : decode cX0_stopAround 11 = .ok (.iload_n 1, 1) := by decide +kernel
theorem dX0_stopAround_12 : decode cX0_stopAround 12 = .ok (.iload_n 2, 1) := by decide +kernel
theorem dX0_stopAround_13 : decode cX0_stopAround 13 = .ok (.iadd, 1) := by decide +kernel
theorem dX0_stopAround_14 : decode cX0_stopAround 14 = .ok (.invokestatic 40, 3) := by decide +kernel
theorem dX0_stopAround_17 : decode cX0_stopAround 17 = .ok (.istore 5, 2) := by decide +kernel
theorem dX0_stopAround_19 : decode cX0_stopAround 19 = .ok (.iconst 0, 1) := by decide +kernel
theorem dX0_stopAround_20 : decode cX0_stopAround 20 = .ok (.istore 6, 2) := by decide +kernel
theorem dX0_stopAround_22 : decode cX0_stopAround 22 = .ok (.iload 4, 2) := by decide +kernel
theorem dX0_stopAround_24 : decode cX0_stopAround 24 = .ok (.istore 7, 2) := by decide +kernel
theorem dX0_stopAround_26 : decode cX0_stopAround 26 = .ok (.iload 7, 2) := by decide +kernel
theorem dX0_stopAround_28 : decode cX0_stopAround 28 = .ok (.iload 5, 2) := by decide +kernel
theorem dX0_stopAround_30 : decode cX0_stopAround 30 = .ok (.if_icmp .gt 30, 3) := by decide +kernel
theorem dX0_stopAround_33 : decode cX0_stopAround 33 = .ok (.aload_n 0, 1) := by decide +kernel
theorem dX0_stopAround_34 : decode cX0_stopAround 34 = .ok (.iload 7, 2) := by decide +kernel
theorem dX0_stopAround_36 : decode cX0_stopAround 36 = .ok (.iload_n 3, 1) := by decide +kernel
theorem dX0_stopAround_37 : decode cX0_stopAround 37 = .ok (.invokevirtual 43, 3) := by decide +kernel
theorem dX0_stopAround_40 : decode cX0_stopAround 40 = .ok (.ifCond .eq 14, 3) := by decide +kernel
theorem dX0_stopAround_43 : decode cX0_stopAround 43 = .ok (.aload_n 0, 1) := by decide +kernel
theorem dX0_stopAround_44 : decode cX0_stopAround 44 = .ok (.getfield 31, 3) := by decide +kernel
theorem dX0_stopAround_47 : decode cX0_stopAround 47 = .ok (.iload 7, 2) := by decide +kernel
theorem dX0_stopAround_49 : decode cX0_stopAround 49 = .ok (.iload_n 3, 1) := by decide +kernel
theorem dX0_stopAround_50 : decode cX0_stopAround 50 = .ok (.iastore, 1) := by decide +kernel
theorem dX0_stopAround_51 : decode cX0_stopAround 51 = .ok (.iconst 1, 1) := by decide +kernel
theorem dX0_stopAround_52 : decode cX0_stopAround 52 = .ok (.istore 6, 2) := by decide +kernel
theorem dX0_stopAround_54 : decode cX0_stopAround 54 = .ok (.iinc 7 1, 3) := by decide +kernel
theorem dX0_stopAround_57 : decode cX0_stopAround 57 = .ok (.goto (-31), 3) := by decide +kernel
theorem dX0_stopAround_60 : decode cX0_stopAround 60 = .ok (.iload 6, 2) := by decide +kernel
theorem dX0_stopAround_62 : decode cX0_stopAround 62 = .ok (.ireturn, 1) := by decide +kernel
theorem dX0_addPrinted_0 : decode cX0_addPrinted 0 = .ok (.aload_n 0, 1) := by decide +kernel
theorem dX0_addPrinted_1 : decode cX0_addPrinted 1 = .ok (.getfield 15, 3) := by decide +kernel
theorem dX0_addPrinted_4 : decode cX0_addPrinted 4 = .ok (.bipush 60, 2) := by decide +kernel
theorem dX0_addPrinted_6 : decode cX0_addPrinted 6 = .ok (.if_icmp .ge 23, 3) := by decide +kernel
theorem dX0_addPrinted_9 : decode cX0_addPrinted 9 = .ok (.aload_n 0, 1) := by decide +kernel
theorem dX0_addPrinted_10 : decode cX0_addPrinted 10 = .ok (.getfield 9, 3) := by decide +kernel
theorem dX0_addPrinted_13 : decode cX0_addPrinted 13 = .ok (.aload_n 0, 1) := by decide +kernel
theorem dX0_addPrinted_14 : decode cX0_addPrinted 14 = .ok (.getfield 15, 3) := by decide +kernel
theorem dX0_addPrinted_17 : decode cX0_addPrinted 17 = .ok (.iload_n 1, 1) := by decide +kernel
theorem dX0_addPrinted_18 : decode cX0_addPrinted 18 = .ok (.iastore, 1) := by decide +kernel
theorem dX0_addPrinted_19 : decode cX0_addPrinted 19 = .ok (.aload_n 0, 1) := by decide +kernel
theorem dX0_addPrinted_20 : decode cX0_addPrinted 20 = .ok (.dup, 1) := by decide +kernel
theorem dX0_addPrinted_21 : decode cX0_addPrinted 21 = .ok (.getfield 15, 3) := by decide +kernel
theorem dX0_addPrinted_24 : decode cX0_addPrinted 24 = .ok (.iconst 1, 1) := by decide +kernel
theorem dX0_addPrinted_25 : decode cX0_addPrinted 25 = .ok (.iadd, 1) := by decide +kernel
theorem dX0_addPrinted_26 : decode cX0_addPrinted 26 = .ok (.putfield 15, 3) := by decide +kernel
theorem dX0_addPrinted_29 : decode cX0_addPrinted 29 = .ok (.return_, 1) := by decide +kernel
theorem dX0_addJammed_0 : decode cX0_addJammed 0 = .ok (.aload_n 0, 1) := by decide +kernel
theorem dX0_addJammed_1 : decode cX0_addJammed 1 = .ok (.getfield 22, 3) := by decide +kernel
theorem dX0_addJammed_4 : decode cX0_addJammed 4 = .ok (.bipush 60, 2) := by decide +kernel
theorem dX0_addJammed_6 : decode cX0_addJammed 6 = .ok (.if_icmp .ge 23, 3) := by decide +kernel
theorem dX0_addJammed_9 : decode cX0_addJammed 9 = .ok (.aload_n 0, 1) := by decide +kernel
theorem dX0_addJammed_10 : decode cX0_addJammed 10 = .ok (.getfield 19, 3) := by decide +kernel
theorem dX0_addJammed_13 : decode cX0_addJammed 13 = .ok (.aload_n 0, 1) := by decide +kernel
theorem dX0_addJammed_14 : decode cX0_addJammed 14 = .ok (.getfield 22, 3) := by decide +kernel
theorem dX0_addJammed_17 : decode cX0_addJammed 17 = .ok (.iload_n 1, 1) := by decide +kernel
theorem dX0_addJammed_18 : decode cX0_addJammed 18 = .ok (.iastore, 1) := by decide +kernel
theorem dX0_addJammed_19 : decode cX0_addJammed 19 = .ok (.aload_n 0, 1) := by decide +kernel
theorem dX0_addJammed_20 : decode cX0_addJammed 20 = .ok (.dup, 1) := by decide +kernel
theorem dX0_addJammed_21 : decode cX0_addJammed 21 = .ok (.getfield 22, 3) := by decide +kernel
theorem dX0_addJammed_24 : decode cX0_addJammed 24 = .ok (.iconst 1, 1) := by decide +kernel
theorem dX0_addJammed_25 : decode cX0_addJammed 25 = .ok (.iadd, 1) := by decide +kernel
theorem dX0_addJammed_26 : decode cX0_addJammed 26 = .ok (.putfield 22, 3) := by decide +kernel
theorem dX0_addJammed_29 : decode cX0_addJammed 29 = .ok (.return_, 1) := by decide +kernel
set_option maxRecDepth 20000 in
theorem ggX1_init_X0_init : GoodIn wsX1_init wsX0_init := goodIn_r _ [21, 22, 2, 3, 4, 23, 24, 25, 26, 27, 28, 29, 42, 43, 44, 45, 46, 47, 48] (by decide +kernel) (by decide +kernel)
set_option maxRecDepth 20000 in
theorem gX1_init_X0_init_n43 : GoodIn wsX1_init (wsX0_init) := ggX1_init_X0_init
theorem dX1_init_0 : decode cX1_init 0 = .ok (.aload_n 0, 1) := by decide +kernel
theorem dX1_init_1 : decode cX1_init 1 = .ok (.invokespecial 1, 3) := by decide +kernel
theorem dX1_init_4 : decode cX1_init 4 = .ok (.aload_n 0, 1) := by decide +kernel
theorem dX1_init_5 : decode cX1_init 5 = .ok (.bipush 60, 2) := by decide +kernel
theorem dX1_init_7 : decode cX1_init 7 = .ok (.newarray .int, 2) := by decide +kernel
theorem dX1_init_9 : decode cX1_init 9 = .ok (.putfield 9, 3) := by decide +kernel
theorem dX1_init_12 : decode cX1_init 12 = .ok (.aload_n 0, 1) := by decide +kernel
theorem dX1_init_13 : decode cX1_init 13 = .ok (.iconst 0, 1) := by decide +kernel
theorem dX1_init_14 : decode cX1_init 14 = .ok (.putfield 13, 3) := by decide +kernel
theorem dX1_init_17 : decode cX1_init 17 = .ok (.aload_n 0, 1) := by decide +kernel
theorem dX1_init_18 : decode cX1_init 18 = .ok (.iconst 4, 1) := by decide +kernel
theorem dX1_init_19 : decode cX1_init 19 = .ok (.putfield 17, 3) := by decide +kernel
theorem dX1_init_22 : decode cX1_init 22 = .ok (.aload_n 0, 1) := by decide +kernel
theorem dX1_init_23 : decode cX1_init 23 = .ok (.iconst 2, 1) := by decide +kernel
theorem dX1_init_24 : decode cX1_init 24 = .ok (.putfield 20, 3) := by decide +kernel
theorem dX1_init_27 : decode cX1_init 27 = .ok (.aload_n 0, 1) := by decide +kernel
theorem dX1_init_28 : decode cX1_init 28 = .ok (.bipush 10, 2) := by decide +kernel
theorem dX1_init_30 : decode cX1_init 30 = .ok (.putfield 23, 3) := by decide +kernel
theorem dX1_init_33 : decode cX1_init 33 = .ok (.aload_n 0, 1) := by decide +kernel
theorem dX1_init_34 : decode cX1_init 34 = .ok (.bipush 12, 2) := by decide +kernel
theorem dX1_init_36 : decode cX1_init 36 = .ok (.newarray .int, 2) := by decide +kernel
theorem dX1_init_38 : decode cX1_init 38 = .ok (.putfield 26, 3) := by decide +kernel
theorem dX1_init_41 : decode cX1_init 41 = .ok (.aload_n 0, 1) := by decide +kernel
theorem dX1_init_42 : decode cX1_init 42 = .ok (.bipush 12, 2) := by decide +kernel
theorem dX1_init_44 : decode cX1_init 44 = .ok (.newarray .int, 2) := by decide +kernel
theorem dX1_init_46 : decode cX1_init 46 = .ok (.putfield 29, 3) := by decide +kernel
theorem dX1_init_49 : decode cX1_init 49 = .ok (.iconst 0, 1) := by decide +kernel
theorem dX1_init_50 : decode cX1_init 50 = .ok (.istore_n 1, 1) := by decide +kernel
theorem dX1_init_51 : decode cX1_init 51 = .ok (.iload_n 1, 1) := by decide +kernel
theorem dX1_init_52 : decode cX1_init 52 = .ok (.bipush 12, 2) := by decide +kernel
theorem dX1_init_54 : decode cX1_init 54 = .ok (.if_icmp .ge 23, 3) := by decide +kernel
theorem dX1_init_57 : decode cX1_init 57 = .ok (.aload_n 0, 1) := by decide +kernel
theorem dX1_init_58 : decode cX1_init 58 = .ok (.getfield 26, 3) := by decide +kernel
theorem dX1_init_61 : decode cX1_init 61 = .ok (.iload_n 1, 1) := by decide +kernel
theorem dX1_init_62 : decode cX1_init 62 = .ok (.iload_n 1, 1) := by decide +kernel
theorem dX1_init_63 : decode cX1_init 63 = .ok (.iastore, 1) := by decide +kernel
theorem dX1_init_64 : decode cX1_init 64 = .ok (.aload_n 0, 1) := by decide +kernel
theorem dX1_init_65 : decode cX1_init 65 = .ok (.getfield 29, 3) := by decide +kernel
theorem dX1_init_68 : decode cX1_init 68 = .ok (.iload_n 1, 1) := by decide +kernel
theorem dX1_init_69 : decode cX1_init 69 = .ok (.iload_n 1, 1) := by decide +kernel
theorem dX1_init_70 : decode cX1_init 70 = .ok (.iastore, 1) := by decide +kernel
theorem dX1_init_71 : decode cX1_init 71 = .ok (.iinc 1 1, 3) := by decide +kernel
theorem dX1_init_74 : decode cX1_init 74 = .ok (.goto (-23), 3) := by decide +kernel
theorem dX1_init_77 : decode cX1_init 77 = .ok (.aload_n 0, 1) := by decide +kernel
theorem dX1_init_78 : decode cX1_init 78 = .ok (.bipush 30, 2) := by decide +kernel
theorem dX1_init_80 : decode cX1_init 80 = .ok (.newarray .int, 2) := by decide +kernel
theorem dX1_init_82 : decode cX1_init 82 = .ok (.putfield 32, 3) := by decide +kernel
theorem dX1_init_85 : decode cX1_init 85 = .ok (.aload_n 0, 1) := by decide +kernel
theorem dX1_init_86 : decode cX1_init 86 = .ok (.bipush 30, 2) := by decide +kernel
theorem dX1_init_88 : decode cX1_init 88 = .ok (.newarray .int, 2) := by decide +kernel
theorem dX1_init_90 : decode cX1_init 90 = .ok (.putfield 35, 3) := by decide +kernel
theorem dX1_init_93 : decode cX1_init 93 = .ok (.aload_n 0, 1) := by decide +kernel
theorem dX1_init_94 : decode cX1_init 94 = .ok (.iconst 0, 1) := by decide +kernel
theorem dX1_init_95 : decode cX1_init 95 = .ok (.putfield 38, 3) := by decide +kernel
theorem dX1_init_98 : decode cX1_init 98 = .ok (.aload_n 0, 1) := by decide +kernel
theorem dX1_init_99 : decode cX1_init 99 = .ok (.new 41, 3) := by decide +kernel
theorem dX1_init_102 : decode cX1_init 102 = .ok (.dup, 1) := by decide +kernel
theorem dX1_init_103 : decode cX1_init 103 = .ok (.invokespecial 43, 3) := by decide +kernel
theorem dX1_init_106 : decode cX1_init 106 = .ok (.putfield 44, 3) := by decide +kernel
theorem dX1_init_109 : decode cX1_init 109 = .ok (.aload_n 0, 1) := by decide +kernel
theorem dX1_init_110 : decode cX1_init 110 = .ok (.new 41, 3) := by decide +kernel
theorem dX1_init_113 : decode cX1_init 113 = .ok (.dup, 1) := by decide +kernel
theorem dX1_init_114 : decode cX1_init 114 = .ok (.invokespecial 43, 3) := by decide +kernel
theorem dX1_init_117 : decode cX1_init 117 = .ok (.putfield 48, 3) := by decide +kernel
theorem dX1_init_120 : decode cX1_init 120 = .ok (.return_, 1) := by decide +kernel
theorem dX1_append_0 : decode cX1_append 0 = .ok (.iload_n 1, 1) := by decide +kernel
theorem dX1_append_1 : decode cX1_append 1 = .ok (.bipush 97, 2) := by decide +kernel
theorem dX1_append_3 : decode cX1_append 3 = .ok (.if_icmp .lt 9, 3) := by decide +kernel
theorem dX1_append_6 : decode cX1_append 6 = .ok (.iload_n 1, 1) := by decide +kernel
theorem dX1_append_7 : decode cX1_append 7 = .ok (.bipush 108, 2) := by decide +kernel
theorem dX1_append_9 : decode cX1_append 9 = .ok (.if_icmp .le 6, 3) := by decide +kernel
theorem dX1_append_12 : decode cX1_append 12 = .ok (.ldc 51, 2) := by decide +kernel
theorem dX1_append_14 : decode cX1_append 14 = .ok (.ireturn, 1) := by decide +kernel
theorem dX1_append_15 : decode cX1_append 15 = .ok (.aload_n 0, 1) := by decide +kernel
theorem dX1_append_16 : decode cX1_append 16 = .ok (.getfield 13, 3) := by decide +kernel
theorem dX1_append_19 : decode cX1_append 19 = .ok (.bipush 60, 2) := by decide +kernel
theorem dX1_append_21 : decode cX1_append 21 = .ok (.if_icmp .lt 6, 3) := by decide +kernel
theorem dX1_append_24 : decode cX1_append 24 = .ok (.ldc 52, 2) := by decide +kernel
theorem dX1_append_26 : decode cX1_append 26 = .ok (.ireturn, 1) := by decide +kernel
theorem dX1_append_27 : decode cX1_append 27 = .ok (.aload_n 0, 1) := by decide +kernel
theorem dX1_append_28 : decode cX1_append 28 = .ok (.getfield 9, 3) := by decide +kernel
theorem dX1_append_31 : decode cX1_append 31 = .ok (.aload_n 0, 1) := by decide +kernel
theorem dX1_append_32 : decode cX1_append 32 = .ok (.getfield 13, 3) := by decide +kernel
theorem dX1_append_35 : decode cX1_append 35 = .ok (.iload_n 1, 1) := by decide +kernel
theorem dX1_append_36 : decode cX1_append 36 = .ok (.bipush 97, 2) := by decide +kernel
theorem dX1_append_38 : decode cX1_append 38 = .ok (.isub, 1) := by decide +kernel
theorem dX1_append_39 : decode cX1_append 39 = .ok (.iastore, 1) := by decide +kernel
theorem dX1_append_40 : decode cX1_append 40 = .ok (.aload_n 0, 1) := by decide +kernel
theorem dX1_append_41 : decode cX1_append 41 = .ok (.dup, 1) := by decide +kernel
theorem dX1_append_42 : decode cX1_append 42 = .ok (.getfield 13, 3) := by decide +kernel
theorem dX1_append_45 : decode cX1_append 45 = .ok (.iconst 1, 1) := by decide +kernel
theorem dX1_append_46 : decode cX1_append 46 = .ok (.iadd, 1) := by decide +kernel
theorem dX1_append_47 : decode cX1_append 47 = .ok (.putfield 13, 3) := by decide +kernel
theorem dX1_append_50 : decode cX1_append 50 = .ok (.aload_n 0, 1) := by decide +kernel
theorem dX1_append_51 : decode cX1_append 51 = .ok (.getfield 13, 3) := by decide +kernel
theorem dX1_append_54 : decode cX1_append 54 = .ok (.ireturn, 1) := by decide +kernel
theorem dX1_clearText_0 : decode cX1_clearText 0 = .ok (.aload_n 0, 1) := by decide +kernel
theorem dX1_clearText_1 : decode cX1_clearText 1 = .ok (.getfield 13, 3) := by decide +kernel
theorem dX1_clearText_4 : decode cX1_clearText 4 = .ok (.istore_n 1, 1) := by decide +kernel
theorem dX1_clearText_5 : decode cX1_clearText 5 = .ok (.aload_n 0, 1) := by decide +kernel
theorem dX1_clearText_6 : decode cX1_clearText 6 = .ok (.iconst 0, 1) := by decide +kernel
theorem dX1_clearText_7 : decode cX1_clearText 7 = .ok (.putfield 13, 3) := by decide +kernel
theorem dX1_clearText_10 : decode cX1_clearText 10 = .ok (.iload_n 1, 1) := by decide +kernel
theorem dX1_clearText_11 : decode cX1_clearText 11 = .ok (.ireturn, 1) := by decide +kernel
set_option maxRecDepth 20000 in
theorem ggX1_pairCount_X1_isNumber : GoodIn wsX1_pairCount wsX1_isNumber := goodIn_r _ [7] (by decide +kernel) (by decide +kernel)
set_option maxRecDepth 20000 in
theorem gX1_pairCount_X1_isNumber : GoodIn wsX1_pairCount (va_wsS RX1 53 yX1_isNumber wsX1_isNumber) := goodIn_app (goodIn_of _ (by decide +kernel)) ggX1_pairCount_X1_isNumber
set_option maxRecDepth 20000 in
theorem ggX1_pairCount_X1_isPairOf : GoodIn wsX1_pairCount wsX1_isPairOf := goodIn_r _ [10] (by decide +kernel) (by decide +kernel)
set_option maxRecDepth 20000 in
theorem gX1_pairCount_X1_isPairOf : GoodIn wsX1_pairCount (va_wsS RX1 58 yX1_isPairOf wsX1_isPairOf) := goodIn_app (goodIn_of _ (by decide +kernel)) ggX1_pairCount_X1_isPairOf
theorem dX1_pairCount_0 : decode cX1_pairCount 0 = .ok (.iload_n 1, 1) := by decide +kernel
theorem dX1_pairCount_1 : decode cX1_pairCount 1 = .ok (.invokestatic 53, 3) := by decide +kernel
theorem dX1_pairCount_4 : decode cX1_pairCount 4 = .ok (.ifCond .eq 10, 3) := by decide +kernel
theorem dX1_pairCount_7 : decode cX1_pairCount 7 = .ok (.iload_n 2, 1) := by decide +kernel
theorem dX1_pairCount_8 : decode cX1_pairCount 8 = .ok (.invokestatic 53, 3) := by decide +kernel
theorem dX1_pairCount_11 : decode cX1_pairCount 11 = .ok (.ifCond .ne 6, 3) := by decide +kernel
theorem dX1_pairCount_14 : decode cX1_pairCount 14 = .ok (.ldc 57, 2) := by decide +kernel
theorem dX1_pairCount_16 : decode cX1_pairCount 16 = .ok (.ireturn, 1) := by decide +kernel
theorem dX1_pairCount_17 : decode cX1_pairCount 17 = .ok (.iconst 0, 1) := by decide +kernel
theorem dX1_pairCount_18 : decode cX1_pairCount 18 = .ok (.istore_n 3, 1) := by decide +kernel
theorem dX1_pairCount_19 : decode cX1_pairCount 19 = .ok (.iconst 1, 1) := by decide +kernel
theorem dX1_pairCount_20 : decode cX1_pairCount 20 = .ok (.istore 4, 2) := by decide +kernel
theorem dX1_pairCount_22 : decode cX1_pairCount 22 = .ok (.iload 4, 2) := by decide +kernel
theorem dX1_pairCount_24 : decode cX1_pairCount 24 = .ok (.aload_n 0, 1) := by decide +kernel
theorem dX1_pairCount_25 : decode cX1_pairCount 25 = .ok (.getfield 13, 3) := by decide +kernel
theorem dX1_pairCount_28 : decode cX1_pairCount 28 = .ok (.if_icmp .ge 36, 3) := by decide +kernel
theorem dX1_pairCount_31 : decode cX1_pairCount 31 = .ok (.aload_n 0, 1) := by decide +kernel
theorem dX1_pairCount_32 : decode cX1_pairCount 32 = .ok (.getfield 9, 3) := by decide +kernel
theorem dX1_pairCount_35 : decode cX1_pairCount 35 = .ok (.iload 4, 2) := by decide +kernel
theorem dX1_pairCount_37 : decode cX1_pairCount 37 = .ok (.iconst 1, 1) := by decide +kernel
theorem dX1_pairCount_38 : decode cX1_pairCount 38 = .ok (.isub, 1) := by decide +kernel
theorem dX1_pairCount_39 : decode cX1_pairCount 39 = .ok (.iaload, 1) := by decide +kernel
theorem dX1_pairCount_40 : decode cX1_pairCount 40 = .ok (.aload_n 0, 1) := by decide +kernel
theorem dX1_pairCount_41 : decode cX1_pairCount 41 = .ok (.getfield 9, 3) := by decide +kernel
theorem dX1_pairCount_44 : decode cX1_pairCount 44 = .ok (.iload 4, 2) := by decide +kernel
theorem dX1_pairCount_46 : decode cX1_pairCount 46 = .ok (.iaload, 1) := by decide +kernel
theorem dX1_pairCount_47 : decode cX1_pairCount 47 = .ok (.iload_n 1, 1) := by decide +kernel
theorem dX1_pairCount_48 : decode cX1_pairCount 48 = .ok (.iload_n 2, 1) := by decide +kernel
theorem dX1_pairCount_49 : decode cX1_pairCount 49 = .ok (.invokestatic 58, 3) := by decide +kernel
theorem dX1_pairCount_52 : decode cX1_pairCount 52 = .ok (.ifCond .eq 6, 3) := by decide +kernel
theorem dX1_pairCount_55 : decode cX1_pairCount 55 = .ok (.iinc 3 1, 3) := by decide +kernel
theorem dX1_pairCount_58 : decode cX1_pairCount 58 = .ok (.iinc 4 1, 3) := by decide +kernel
theorem dX1_pairCount_61 : decode cX1_pairCount 61 = .ok (.goto (-39), 3) := by decide +kernel
theorem dX1_pairCount_64 : decode cX1_pairCount 64 = .ok (.iload_n 3, 1) := by decide +kernel
theorem dX1_pairCount_65 : decode cX1_pairCount 65 = .ok (.ireturn, 1) := by decide +kernel
theorem dX1_setTravelTime_0 : decode cX1_setTravelTime 0 = .ok (.iload_n 1, 1) := by decide +kernel
theorem dX1_setTravelTime_1 : decode cX1_setTravelTime 1 = .ok (.iconst 1, 1) := by decide +kernel
theorem dX1_setTravelTime_2 : decode cX1_setTravelTime 2 = .ok (.if_icmp .lt 9, 3) := by decide +kernel
theorem dX1_setTravelTime_5 : decode cX1_setTravelTime 5 = .ok (.iload_n 1, 1) := by decide +kernel
theorem dX1_setTravelTime_6 : decode cX1_setTravelTime 6 = .ok (.bipush 20, 2) := by decide +kernel
theorem dX1_setTravelTime_8 : decode cX1_setTravelTime 8 = .ok (.if_icmp .le 6, 3) := by decide +kernel
theorem dX1_setTravelTime_11 : decode cX1_setTravelTime 11 = .ok (.ldc 57, 2) := by decide +kernel
theorem dX1_setTravelTime_13 : decode cX1_setTravelTime 13 = .ok (.ireturn, 1) := by decide +kernel
theorem dX1_setTravelTime_14 : decode cX1_setTravelTime 14 = .ok (.aload_n 0, 1) := by decide +kernel
theorem dX1_setTravelTime_15 : decode cX1_setTravelTime 15 = .ok (.getfield 17, 3) := by decide +kernel
theorem dX1_setTravelTime_18 : decode cX1_setTravelTime 18 = .ok (.istore_n 2, 1) := by decide +kernel
theorem dX1_setTravelTime_19 : decode cX1_setTravelTime 19 = .ok (.aload_n 0, 1) := by decide +kernel
theorem dX1_setTravelTime_20 : decode cX1_setTravelTime 20 = .ok (.iload_n 1, 1) := by decide +kernel
theorem dX1_setTravelTime_21 : decode cX1_setTravelTime 21 = .ok (.putfield 17, 3) := by decide +kernel
theorem dX1_setTravelTime_24 : decode cX1_setTravelTime 24 = .ok (.iload_n 2, 1) := by decide +kernel
theorem dX1_setTravelTime_25 : decode cX1_setTravelTime 25 = .ok (.ireturn, 1) := by decide +kernel
theorem dX1_setClashDistance_0 : decode cX1_setClashDistance 0 = .ok (.iload_n 1, 1) := by decide +kernel
theorem dX1_setClashDistance_1 : decode cX1_setClashDistance 1 = .ok (.iconst 1, 1) := by decide +kernel
theorem dX1_setClashDistance_2 : decode cX1_setClashDistance 2 = .ok (.if_icmp .lt 8, 3) := by decide +kernel
theorem dX1_setClashDistance_5 : decode cX1_setClashDistance 5 = .ok (.iload_n 1, 1) := by decide +kernel
theorem dX1_setClashDistance_6 : decode cX1_setClashDistance 6 = .ok (.iconst 5, 1) := by decide +kernel
theorem dX1_setClashDistance_7 : decode cX1_setClashDistance 7 = .ok (.if_icmp .le 6, 3) := by decide +kernel
theorem dX1_setClashDistance_10 : decode cX1_setClashDistance 10 = .ok (.ldc 57, 2) := by decide +kernel
theorem dX1_setClashDistance_12 : decode cX1_setClashDistance 12 = .ok (.ireturn, 1) := by decide +kernel
theorem dX1_setClashDistance_13 : decode cX1_setClashDistance 13 = .ok (.aload_n 0, 1) := by decide +kernel
theorem dX1_setClashDistance_14 : decode cX1_setClashDistance 14 = .ok (.getfield 20, 3) := by decide +kernel
theorem dX1_setClashDistance_17 : decode cX1_setClashDistance 17 = .ok (.istore_n 2, 1) := by decide +kernel
theorem dX1_setClashDistance_18 : decode cX1_setClashDistance 18 = .ok (.aload_n 0, 1) := by decide +kernel
theorem dX1_setClashDistance_19 : decode cX1_setClashDistance 19 = .ok (.iload_n 1, 1) := by decide +kernel
theorem dX1_setClashDistance_20 : decode cX1_setClashDistance 20 = .ok (.putfield 20, 3) := by decide +kernel
theorem dX1_setClashDistance_23 : decode cX1_setClashDistance 23 = .ok (.iload_n 2, 1) := by decide +kernel
theorem dX1_setClashDistance_24 : decode cX1_setClashDistance 24 = .ok (.ireturn, 1) := by decide +kernel
theorem dX1_setClearingTime_0 : decode cX1_setClearingTime 0 = .ok (.iload_n 1, 1) := by decide +kernel
theorem dX1_setClearingTime_1 : decode cX1_setClearingTime 1 = .ok (.ifCond .lt 9, 3) := by decide +kernel
theorem dX1_setClearingTime_4 : decode cX1_setClearingTime 4 = .ok (.iload_n 1, 1) := by decide +kernel
theorem dX1_setClearingTime_5 : decode cX1_setClearingTime 5 = .ok (.bipush 50, 2) := by decide +kernel
theorem dX1_setClearingTime_7 : decode cX1_setClearingTime 7 = .ok (.if_icmp .le 6, 3) := by decide +kernel
theorem dX1_setClearingTime_10 : decode cX1_setClearingTime 10 = .ok (.ldc 57, 2) := by decide +kernel
theorem dX1_setClearingTime_12 : decode cX1_setClearingTime 12 = .ok (.ireturn, 1) := by decide +kernel
theorem dX1_setClearingTime_13 : decode cX1_setClearingTime 13 = .ok (.aload_n 0, 1) := by decide +kernel
theorem dX1_setClearingTime_14 : decode cX1_setClearingTime 14 = .ok (.getfield 23, 3) := by decide +kernel
theorem dX1_setClearingTime_17 : decode cX1_setClearingTime 17 = .ok (.istore_n 2, 1) := by decide +kernel
theorem dX1_setClearingTime_18 : decode cX1_setClearingTime 18 = .ok (.aload_n 0, 1) := by decide +kernel
theorem dX1_setClearingTime_19 : decode cX1_setClearingTime 19 = .ok (.iload_n 1, 1) := by decide +kernel
theorem dX1_setClearingTime_20 : decode cX1_setClearingTime 20 = .ok (.putfield 23, 3) := by decide +kernel
theorem dX1_setClearingTime_23 : decode cX1_setClearingTime 23 = .ok (.iload_n 2, 1) := by decide +kernel
theorem dX1_setClearingTime_24 : decode cX1_setClearingTime 24 = .ok (.ireturn, 1) := by decide +kernel
set_option maxRecDepth 20000 in
theorem ggX1_loadLayout_X1_textIsLayout : GoodIn wsX1_loadLayout wsX1_textIsLayout := goodIn_r _ [9, 3, 2, 16, 17, 18, 19, 20, 21, 22, 23, 24, 25, 26, 27] (by decide +kernel) (by decide +kernel)
set_option maxRecDepth 20000 in
theorem gX1_loadLayout_X1_textIsLayout : GoodIn wsX1_loadLayout (wsV RX1 62 RX1 yX1_textIsLayout wsX1_textIsLayout) := goodIn_app (goodIn_of _ (by decide +kernel)) ggX1_loadLayout_X1_textIsLayout
set_option maxRecDepth 20000 in
theorem ggX1_loadLayout_X1_place : GoodIn wsX1_loadLayout wsX1_place := goodIn_r _ [13, 14, 15, 16, 17, 18, 19, 20, 21, 22, 23, 24, 25, 26, 27] (by decide +kernel) (by decide +kernel)
set_option maxRecDepth 20000 in
theorem gX1_loadLayout_X1_place : GoodIn wsX1_loadLayout (wsV RX1 67 RX1 yX1_place wsX1_place) := goodIn_app (goodIn_of _ (by decide +kernel)) ggX1_loadLayout_X1_place
theorem dX1_loadLayout_0 : decode cX1_loadLayout 0 = .ok (.aload_n 0, 1) := by decide +kernel
theorem dX1_loadLayout_1 : decode cX1_loadLayout 1 = .ok (.invokevirtual 62, 3) := by decide +kernel
theorem dX1_loadLayout_4 : decode cX1_loadLayout 4 = .ok (.ifCond .ne 6, 3) := by decide +kernel
theorem dX1_loadLayout_7 : decode cX1_loadLayout 7 = .ok (.ldc 66, 2) := by decide +kernel
theorem dX1_loadLayout_9 : decode cX1_loadLayout 9 = .ok (.ireturn, 1) := by decide +kernel
theorem dX1_loadLayout_10 : decode cX1_loadLayout 10 = .ok (.iconst 0, 1) := by decide +kernel
theorem dX1_loadLayout_11 : decode cX1_loadLayout 11 = .ok (.istore_n 1, 1) := by decide +kernel
theorem dX1_loadLayout_12 : decode cX1_loadLayout 12 = .ok (.iload_n 1, 1) := by decide +kernel
theorem dX1_loadLayout_13 : decode cX1_loadLayout 13 = .ok (.bipush 12, 2) := by decide +kernel
theorem dX1_loadLayout_15 : decode cX1_loadLayout 15 = .ok (.if_icmp .ge 20, 3) := by decide +kernel
theorem dX1_loadLayout_18 : decode cX1_loadLayout 18 = .ok (.aload_n 0, 1) := by decide +kernel
theorem dX1_loadLayout_19 : decode cX1_loadLayout 19 = .ok (.aload_n 0, 1) := by decide +kernel
theorem dX1_loadLayout_20 : decode cX1_loadLayout 20 = .ok (.getfield 9, 3) := by decide +kernel
theorem dX1_loadLayout_23 : decode cX1_loadLayout 23 = .ok (.iload_n 1, 1) := by decide +kernel
theorem dX1_loadLayout_24 : decode cX1_loadLayout 24 = .ok (.iaload, 1) := by decide +kernel
theorem dX1_loadLayout_25 : decode cX1_loadLayout 25 = .ok (.iload_n 1, 1) := by decide +kernel
theorem dX1_loadLayout_26 : decode cX1_loadLayout 26 = .ok (.invokevirtual 67, 3) := by decide +kernel
theorem dX1_loadLayout_29 : decode cX1_loadLayout 29 = .ok (.iinc 1 1, 3) := by decide +kernel
theorem dX1_loadLayout_32 : decode cX1_loadLayout 32 = .ok (.goto (-20), 3) := by decide +kernel
theorem dX1_loadLayout_35 : decode cX1_loadLayout 35 = .ok (.aload_n 0, 1) := by decide +kernel
theorem dX1_loadLayout_36 : decode cX1_loadLayout 36 = .ok (.iconst 0, 1) := by decide +kernel
theorem dX1_loadLayout_37 : decode cX1_loadLayout 37 = .ok (.putfield 13, 3) := by decide +kernel
theorem dX1_loadLayout_40 : decode cX1_loadLayout 40 = .ok (.aload_n 0, 1) := by decide +kernel
theorem dX1_loadLayout_41 : decode cX1_loadLayout 41 = .ok (.iconst 0, 1) := by decide +kernel
theorem dX1_loadLayout_42 : decode cX1_loadLayout 42 = .ok (.putfield 38, 3) := by decide +kernel
theorem dX1_loadLayout_45 : decode cX1_loadLayout 45 = .ok (.bipush 12, 2) := by decide +kernel
theorem dX1_loadLayout_47 : decode cX1_loadLayout 47 = .ok (.ireturn, 1) := by decide +kernel
set_option maxRecDepth 20000 in
theorem ggX1_letterAt_X1_isNumber : GoodIn wsX1_letterAt wsX1_isNumber := goodIn_r _ [6] (by decide +kernel) (by decide +kernel)
set_option maxRecDepth 20000 in
theorem gX1_letterAt_X1_isNumber : GoodIn wsX1_letterAt (va_wsS RX1 53 yX1_isNumber wsX1_isNumber) := goodIn_app (goodIn_of _ (by decide +kernel)) ggX1_letterAt_X1_isNumber
theorem dX1_letterAt_0 : decode cX1_letterAt 0 = .ok (.iload_n 1, 1) := by decide +kernel
theorem dX1_letterAt_1 : decode cX1_letterAt 1 = .ok (.invokestatic 53, 3) := by decide +kernel
theorem dX1_letterAt_4 : decode cX1_letterAt 4 = .ok (.ifCond .eq 12, 3) := by decide +kernel
theorem dX1_letterAt_7 : decode cX1_letterAt 7 = .ok (.aload_n 0, 1) := by decide +kernel
theorem dX1_letterAt_8 : decode cX1_letterAt 8 = .ok (.getfield 26, 3) := by decide +kernel
theorem dX1_letterAt_11 : decode cX1_letterAt 11 = .ok (.iload_n 1, 1) := by decide +kernel
theorem dX1_letterAt_12 : decode cX1_letterAt 12 = .ok (.iaload, 1) := by decide +kernel
theorem dX1_letterAt_13 : decode cX1_letterAt 13 = .ok (.goto 5, 3) := by decide +kernel
theorem dX1_letterAt_16 : decode cX1_letterAt 16 = .ok (.ldc 57, 2) := by decide +kernel
theorem dX1_letterAt_18 : decode cX1_letterAt 18 = .ok (.ireturn, 1) := by decide +kernel
set_option maxRecDepth 20000 in
theorem ggX1_positionOf_X1_isNumber : GoodIn wsX1_positionOf wsX1_isNumber := goodIn_r _ [6] (by decide +kernel) (by decide +kernel)
set_option maxRecDepth 20000 in
theorem gX1_positionOf_X1_isNumber : GoodIn wsX1_positionOf (va_wsS RX1 53 yX1_isNumber wsX1_isNumber) := goodIn_app (goodIn_of _ (by decide +kernel)) ggX1_positionOf_X1_isNumber
theorem dX1_positionOf_0 : decode cX1_positionOf 0 = .ok (.iload_n 1, 1) := by decide +kernel
theorem dX1_positionOf_1 : decode cX1_positionOf 1 = .ok (.invokestatic 53, 3) := by decide +kernel
theorem dX1_positionOf_4 : decode cX1_positionOf 4 = .ok (.ifCond .eq 12, 3) := by decide +kernel
theorem dX1_positionOf_7 : decode cX1_positionOf 7 = .ok (.aload_n 0, 1) := by decide +kernel
theorem dX1_positionOf_8 : decode cX1_positionOf 8 = .ok (.getfield 29, 3) := by decide +kernel
theorem dX1_positionOf_11 : decode cX1_positionOf 11 = .ok (.iload_n 1, 1) := by decide +kernel
theorem dX1_positionOf_12 : decode cX1_positionOf 12 = .ok (.iaload, 1) := by decide +kernel
theorem dX1_positionOf_13 : decode cX1_positionOf 13 = .ok (.goto 5, 3) := by decide +kernel
theorem dX1_positionOf_16 : decode cX1_positionOf 16 = .ok (.ldc 57, 2) := by decide +kernel
theorem dX1_positionOf_18 : decode cX1_positionOf 18 = .ok (.ireturn, 1) := by decide +kernel
set_option maxRecDepth 20000 in
theorem ggX1_swap_X1_swapError : GoodIn wsX1_swap wsX1_swapError := goodIn_r _ [4, 5, 6, 7, 8, 3, 9] (by decide +kernel) (by decide +kernel)
set_option maxRecDepth 20000 in
theorem gX1_swap_X1_swapError : GoodIn wsX1_swap (va_wsS RX1 71 yX1_swapError wsX1_swapError) := goodIn_app (goodIn_of _ (by decide +kernel)) ggX1_swap_X1_swapError
set_option maxRecDepth 20000 in
theorem ggX1_swap_X1_makeSwap : GoodIn wsX1_swap wsX1_makeSwap := goodIn_r _ [13, 14, 15, 16, 17, 18, 19, 3, 20, 21, 22, 23, 24, 25, 26, 27, 28, 29, 30, 49, 50, 51, 52, 53, 54, 55, 56, 57, 58, 59, 60] (by decide +kernel) (by decide +kernel)
set_option maxRecDepth 20000 in
theorem gX1_swap_X1_makeSwap : GoodIn wsX1_swap (wsV RX1 75 RX1 yX1_makeSwap wsX1_makeSwap) := goodIn_app (goodIn_of _ (by decide +kernel)) ggX1_swap_X1_makeSwap
set_option maxRecDepth 20000 in
theorem ggX1_swap_X1_cost : GoodIn wsX1_swap wsX1_cost := goodIn_r _ [34, 35, 36, 37, 38, 39, 3, 40, 26, 41, 42, 43, 44, 45, 46, 47, 48, 49, 50, 51, 52, 53, 54, 55, 56, 57, 58, 59, 60] (by decide +kernel) (by decide +kernel)
set_option maxRecDepth 20000 in
theorem gX1_swap_X1_cost : GoodIn wsX1_swap (wsV RX1 78 RX1 yX1_cost wsX1_cost) := goodIn_app (goodIn_of _ (by decide +kernel)) ggX1_swap_X1_cost
theorem dX1_swap_0 : decode cX1_swap 0 = .ok (.iload_n 1, 1) := by decide +kernel
theorem dX1_swap_1 : decode cX1_swap 1 = .ok (.iload_n 2, 1) := by decide +kernel
theorem dX1_swap_2 : decode cX1_swap 2 = .ok (.invokestatic 71, 3) := by decide +kernel
theorem dX1_swap_5 : decode cX1_swap 5 = .ok (.istore_n 3, 1) := by decide +kernel
theorem dX1_swap_6 : decode cX1_swap 6 = .ok (.iload_n 3, 1) := by decide +kernel
theorem dX1_swap_7 : decode cX1_swap 7 = .ok (.ifCond .eq 5, 3) := by decide +kernel
theorem dX1_swap_10 : decode cX1_swap 10 = .ok (.iload_n 3, 1) := by decide +kernel
theorem dX1_swap_11 : decode cX1_swap 11 = .ok (.ireturn, 1) := by decide +kernel
theorem dX1_swap_12 : decode cX1_swap 12 = .ok (.aload_n 0, 1) := by decide +kernel
theorem dX1_swap_13 : decode cX1_swap 13 = .ok (.iload_n 1, 1) := by decide +kernel
theorem dX1_swap_14 : decode cX1_swap 14 = .ok (.iload_n 2, 1) := by decide +kernel
theorem dX1_swap_15 : decode cX1_swap 15 = .ok (.invokevirtual 75, 3) := by decide +kernel
theorem dX1_swap_18 : decode cX1_swap 18 = .ok (.aload_n 0, 1) := by decide +kernel
theorem dX1_swap_19 : decode cX1_swap 19 = .ok (.invokevirtual 78, 3) := by decide +kernel
theorem dX1_swap_22 : decode cX1_swap 22 = .ok (.ireturn, 1) := by decide +kernel
set_option maxRecDepth 20000 in
theorem ggX1_undo_X1_exchange : GoodIn wsX1_undo wsX1_exchange := goodIn_r _ [9, 10, 11, 12, 13, 8, 14, 15, 34, 35, 36, 37, 38, 39, 40, 41, 42, 43, 44, 45] (by decide +kernel) (by decide +kernel)
set_option maxRecDepth 20000 in
theorem gX1_undo_X1_exchange : GoodIn wsX1_undo (wsV RX1 83 RX1 yX1_exchange wsX1_exchange) := goodIn_app (goodIn_of _ (by decide +kernel)) ggX1_undo_X1_exchange
set_option maxRecDepth 20000 in
theorem ggX1_undo_X1_cost : GoodIn wsX1_undo wsX1_cost := goodIn_r _ [19, 20, 21, 22, 23, 24, 8, 25, 15, 26, 27, 28, 29, 30, 31, 32, 33, 34, 35, 36, 37, 38, 39, 40, 41, 42, 43, 44, 45] (by decide +kernel) (by decide +kernel)
set_option maxRecDepth 20000 in
theorem gX1_undo_X1_cost : GoodIn wsX1_undo (wsV RX1 78 RX1 yX1_cost wsX1_cost) := goodIn_app (goodIn_of _ (by decide +kernel)) ggX1_undo_X1_cost
theorem dX1_undo_0 : decode cX1_undo 0 = .ok (.aload_n 0, 1) := by decide +kernel
theorem dX1_undo_1 : decode cX1_undo 1 = .ok (.getfield 38, 3) := by decide +kernel
theorem dX1_undo_4 : decode cX1_undo 4 = .ok (.ifCond .gt 6, 3) := by decide +kernel
theorem dX1_undo_7 : decode cX1_undo 7 = .ok (.ldc 82, 2) := by decide +kernel
theorem dX1_undo_9 : decode cX1_undo 9 = .ok (.ireturn, 1) := by decide +kernel
theorem dX1_undo_10 : decode cX1_undo 10 = .ok (.aload_n 0, 1) := by decide +kernel
theorem dX1_undo_11 : decode cX1_undo 11 = .ok (.dup, 1) := by decide +kernel
theorem dX1_undo_12 : decode cX1_undo 12 = .ok (.getfield 38, 3) := by decide +kernel
theorem dX1_undo_15 : decode cX1_undo 15 = .ok (.iconst 1, 1) := by decide +kernel
theorem dX1_undo_16 : decode cX1_undo 16 = .ok (.isub, 1) := by decide +kernel
theorem dX1_undo_17 : decode cX1_undo 17 = .ok (.putfield 38, 3) := by decide +kernel
theorem dX1_undo_20 : decode cX1_undo 20 = .ok (.aload_n 0, 1) := by decide +kernel
theorem dX1_undo_21 : decode cX1_undo 21 = .ok (.aload_n 0, 1) := by decide +kernel
theorem dX1_undo_22 : decode cX1_undo 22 = .ok (.getfield 32, 3) := by decide +kernel
theorem dX1_undo_25 : decode cX1_undo 25 = .ok (.aload_n 0, 1) := by decide +kernel
theorem dX1_undo_26 : decode cX1_undo 26 = .ok (.getfield 38, 3) := by decide +kernel
theorem dX1_undo_29 : decode cX1_undo 29 = .ok (.iaload, 1) := by decide +kernel
theorem dX1_undo_30 : decode cX1_undo 30 = .ok (.aload_n 0, 1) := by decide +kernel
theorem dX1_undo_31 : decode cX1_undo 31 = .ok (.getfield 35, 3) := by decide +kernel
theorem dX1_undo_34 : decode cX1_undo 34 = .ok (.aload_n 0, 1) := by decide +kernel
theorem dX1_undo_35 : decode cX1_undo 35 = .ok (.getfield 38, 3) := by decide +kernel
theorem dX1_undo_38 : decode cX1_undo 38 = .ok (.iaload, 1) := by decide +kernel
theorem dX1_undo_39 : decode cX1_undo 39 = .ok (.invokevirtual 83, 3) := by decide +kernel
theorem dX1_undo_42 : decode cX1_undo 42 = .ok (.aload_n 0, 1) := by decide +kernel
theorem dX1_undo_43 : decode cX1_undo 43 = .ok (.invokevirtual 78, 3) := by decide +kernel
theorem dX1_undo_46 : decode cX1_undo 46 = .ok (.ireturn, 1) := by decide +kernel
theorem dX1_undoCount_0 : decode cX1_undoCount 0 = .ok (.aload_n 0, 1) := by decide +kernel
theorem dX1_undoCount_1 : decode cX1_undoCount 1 = .ok (.getfield 38, 3) := by decide +kernel
theorem dX1_undoCount_4 : decode cX1_undoCount 4 = .ok (.ireturn, 1) := by decide +kernel
set_option maxRecDepth 20000 in
theorem ggX1_mirror_X1_exchange : GoodIn wsX1_mirror wsX1_exchange := goodIn_r _ [6, 7, 8, 9, 10, 5, 11, 12, 31, 32, 33, 34, 35, 36, 37, 38, 39, 40, 41, 42] (by decide +kernel) (by decide +kernel)
set_option maxRecDepth 20000 in
theorem gX1_mirror_X1_exchange : GoodIn wsX1_mirror (wsV RX1 83 RX1 yX1_exchange wsX1_exchange) := goodIn_app (goodIn_of _ (by decide +kernel)) ggX1_mirror_X1_exchange
set_option maxRecDepth 20000 in
theorem ggX1_mirror_X1_cost : GoodIn wsX1_mirror wsX1_cost := goodIn_r _ [16, 17, 18, 19, 20, 21, 5, 22, 12, 23, 24, 25, 26, 27, 28, 29, 30, 31, 32, 33, 34, 35, 36, 37, 38, 39, 40, 41, 42] (by decide +kernel) (by decide +kernel)
set_option maxRecDepth 20000 in
theorem gX1_mirror_X1_cost : GoodIn wsX1_mirror (wsV RX1 78 RX1 yX1_cost wsX1_cost) := goodIn_app (goodIn_of _ (by decide +kernel)) ggX1_mirror_X1_cost
theorem dX1_mirror_0 : decode cX1_mirror 0 = .ok (.iconst 0, 1) := by decide +kernel
theorem dX1_mirror_1 : decode cX1_mirror 1 = .ok (.istore_n 1, 1) := by decide +kernel
theorem dX1_mirror_2 : decode cX1_mirror 2 = .ok (.iload_n 1, 1) := by decide +kernel
theorem dX1_mirror_3 : decode cX1_mirror 3 = .ok (.bipush 6, 2) := by decide +kernel
theorem dX1_mirror_5 : decode cX1_mirror 5 = .ok (.if_icmp .ge 18, 3) := by decide +kernel
theorem dX1_mirror_8 : decode cX1_mirror 8 = .ok (.aload_n 0, 1) := by decide +kernel
theorem dX1_mirror_9 : decode cX1_mirror 9 = .ok (.iload_n 1, 1) := by decide +kernel
theorem dX1_mirror_10 : decode cX1_mirror 10 = .ok (.bipush 11, 2) := by decide +kernel
theorem dX1_mirror_12 : decode cX1_mirror 12 = .ok (.iload_n 1, 1) := by decide +kernel
theorem dX1_mirror_13 : decode cX1_mirror 13 = .ok (.isub, 1) := by decide +kernel
theorem dX1_mirror_14 : decode cX1_mirror 14 = .ok (.invokevirtual 83, 3) := by decide +kernel
theorem dX1_mirror_17 : decode cX1_mirror 17 = .ok (.iinc 1 1, 3) := by decide +kernel
theorem dX1_mirror_20 : decode cX1_mirror 20 = .ok (.goto (-18), 3) := by decide +kernel
theorem dX1_mirror_23 : decode cX1_mirror 23 = .ok (.aload_n 0, 1) := by decide +kernel
theorem dX1_mirror_24 : decode cX1_mirror 24 = .ok (.iconst 0, 1) := by decide +kernel
theorem dX1_mirror_25 : decode cX1_mirror 25 = .ok (.putfield 38, 3) := by decide +kernel
theorem dX1_mirror_28 : decode cX1_mirror 28 = .ok (.aload_n 0, 1) := by decide +kernel
theorem dX1_mirror_29 : decode cX1_mirror 29 = .ok (.invokevirtual 78, 3) := by decide +kernel
theorem dX1_mirror_32 : decode cX1_mirror 32 = .ok (.ireturn, 1) := by decide +kernel
set_option maxRecDepth 20000 in
theorem ggX1_cost_X1_closeness : GoodIn wsX1_cost wsX1_closeness := goodIn_r _ [7, 8, 9, 10, 11, 12, 13, 14, 15, 16, 17, 18, 19, 20, 21, 22, 23, 24, 25, 26, 27, 28] (by decide +kernel) (by decide +kernel)
set_option maxRecDepth 20000 in
theorem gX1_cost_X1_closeness : GoodIn wsX1_cost (wsV RX1 86 RX1 yX1_closeness wsX1_closeness) := goodIn_app (goodIn_of _ (by decide +kernel)) ggX1_cost_X1_closeness
theorem dX1_cost_0 : decode cX1_cost 0 = .ok (.iconst 0, 1) := by decide +kernel
theorem dX1_cost_1 : decode cX1_cost 1 = .ok (.istore_n 1, 1) := by decide +kernel
theorem dX1_cost_2 : decode cX1_cost 2 = .ok (.iconst 1, 1) := by decide +kernel
theorem dX1_cost_3 : decode cX1_cost 3 = .ok (.istore_n 2, 1) := by decide +kernel
theorem dX1_cost_4 : decode cX1_cost 4 = .ok (.iload_n 2, 1) := by decide +kernel
theorem dX1_cost_5 : decode cX1_cost 5 = .ok (.aload_n 0, 1) := by decide +kernel
theorem dX1_cost_6 : decode cX1_cost 6 = .ok (.getfield 13, 3) := by decide +kernel
theorem dX1_cost_9 : decode cX1_cost 9 = .ok (.if_icmp .ge 30, 3) := by decide +kernel
theorem dX1_cost_12 : decode cX1_cost 12 = .ok (.iload_n 1, 1) := by decide +kernel
theorem dX1_cost_13 : decode cX1_cost 13 = .ok (.aload_n 0, 1) := by decide +kernel
theorem dX1_cost_14 : decode cX1_cost 14 = .ok (.aload_n 0, 1) := by decide +kernel
theorem dX1_cost_15 : decode cX1_cost 15 = .ok (.getfield 9, 3) := by decide +kernel
theorem dX1_cost_18 : decode cX1_cost 18 = .ok (.iload_n 2, 1) := by decide +kernel
theorem dX1_cost_19 : decode cX1_cost 19 = .ok (.iconst 1, 1) := by decide +kernel
theorem dX1_cost_20 : decode cX1_cost 20 = .ok (.isub, 1) := by decide +kernel
theorem dX1_cost_21 : decode cX1_cost 21 = .ok (.iaload, 1) := by decide +kernel
theorem dX1_cost_22 : decode cX1_cost 22 = .ok (.aload_n 0, 1) := by decide +kernel
theorem dX1_cost_23 : decode cX1_cost 23 = .ok (.getfield 9, 3) := by decide +kernel
theorem dX1_cost_26 : decode cX1_cost 26 = .ok (.iload_n 2, 1) := by decide +kernel
theorem dX1_cost_27 : decode cX1_cost 27 = .ok (.iaload, 1) := by decide +kernel
theorem dX1_cost_28 : decode cX1_cost 28 = .ok (.invokevirtual 86, 3) := by decide +kernel
theorem dX1_cost_31 : decode cX1_cost 31 = .ok (.iadd, 1) := by decide +kernel
theorem dX1_cost_32 : decode cX1_cost 32 = .ok (.istore_n 1, 1) := by decide +kernel
theorem dX1_cost_33 : decode cX1_cost 33 = .ok (.iinc 2 1, 3) := by decide +kernel
theorem dX1_cost_36 : decode cX1_cost 36 = .ok (.goto (-32), 3) := by decide +kernel
theorem dX1_cost_39 : decode cX1_cost 39 = .ok (.iload_n 1, 1) := by decide +kernel
theorem dX1_cost_40 : decode cX1_cost 40 = .ok (.ireturn, 1) := by decide +kernel
set_option maxRecDepth 20000 in
theorem ggX1_gain_X1_swapError : GoodIn wsX1_gain wsX1_swapError := goodIn_r _ [4, 5, 6, 7, 8, 3, 9] (by decide +kernel) (by decide +kernel)
set_option maxRecDepth 20000 in
theorem gX1_gain_X1_swapError : GoodIn wsX1_gain (va_wsS RX1 71 yX1_swapError wsX1_swapError) := goodIn_app (goodIn_of _ (by decide +kernel)) ggX1_gain_X1_swapError
set_option maxRecDepth 20000 in
theorem ggX1_gain_X1_cost : GoodIn wsX1_gain wsX1_cost := goodIn_r _ [13, 14, 15, 16, 17, 18, 3, 19, 20, 21, 22, 23, 24, 25, 26, 27, 28, 42, 43, 44, 45, 46, 47, 48, 49, 50, 51, 52, 53] (by decide +kernel) (by decide +kernel)
set_option maxRecDepth 20000 in
theorem gX1_gain_X1_cost : GoodIn wsX1_gain (wsV RX1 78 RX1 yX1_cost wsX1_cost) := goodIn_app (goodIn_of _ (by decide +kernel)) ggX1_gain_X1_cost
set_option maxRecDepth 20000 in
theorem ggX1_gain_X1_costAfterSwap : GoodIn wsX1_gain wsX1_costAfterSwap := goodIn_r _ [32, 33, 34, 35, 3, 36, 37, 38, 39, 40, 41, 20, 10, 11, 12, 13, 14, 15, 16, 17, 18, 19, 21, 22, 23, 24, 25, 26, 27, 28, 42, 43, 44, 45, 46, 47, 48, 49, 50, 51, 52, 53] (by decide +kernel) (by decide +kernel)
set_option maxRecDepth 20000 in
theorem gX1_gain_X1_costAfterSwap : GoodIn wsX1_gain (wsV RX1 89 RX1 yX1_costAfterSwap wsX1_costAfterSwap) := goodIn_app (goodIn_of _ (by decide +kernel)) ggX1_gain_X1_costAfterSwap
theorem dX1_gain_0 : decode cX1_gain 0 = .ok (.iload_n 1, 1) := by decide +kernel
theorem dX1_gain_1 : decode cX1_gain 1 = .ok (.iload_n 2, 1) := by decide +kernel
theorem dX1_gain_2 : decode cX1_gain 2 = .ok (.invokestatic 71, 3) := by decide +kernel
theorem dX1_gain_5 : decode cX1_gain 5 = .ok (.istore_n 3, 1) := by decide +kernel
theorem dX1_gain_6 : decode cX1_gain 6 = .ok (.iload_n 3, 1) := by decide +kernel
theorem dX1_gain_7 : decode cX1_gain 7 = .ok (.ifCond .eq 5, 3) := by decide +kernel
theorem dX1_gain_10 : decode cX1_gain 10 = .ok (.iload_n 3, 1) := by decide +kernel
theorem dX1_gain_11 : decode cX1_gain 11 = .ok (.ireturn, 1) := by decide +kernel
theorem dX1_gain_12 : decode cX1_gain 12 = .ok (.aload_n 0, 1) := by decide +kernel
theorem dX1_gain_13 : decode cX1_gain 13 = .ok (.invokevirtual 78, 3) := by decide +kernel
theorem dX1_gain_16 : decode cX1_gain 16 = .ok (.aload_n 0, 1) := by decide +kernel
theorem dX1_gain_17 : decode cX1_gain 17 = .ok (.iload_n 1, 1) := by decide +kernel
theorem dX1_gain_18 : decode cX1_gain 18 = .ok (.iload_n 2, 1) := by decide +kernel
theorem dX1_gain_19 : decode cX1_gain 19 = .ok (.invokevirtual 89, 3) := by decide +kernel
theorem dX1_gain_22 : decode cX1_gain 22 = .ok (.isub, 1) := by decide +kernel
theorem dX1_gain_23 : decode cX1_gain 23 = .ok (.ireturn, 1) := by decide +kernel
set_option maxRecDepth 20000 in
theorem ggX1_bestSwap_X1_cost : GoodIn wsX1_bestSwap wsX1_cost := goodIn_r _ [6, 7, 8, 9, 10, 11, 5, 12, 13, 14, 15, 16, 17, 18, 19, 20, 21, 35, 36, 37, 38, 39, 40, 41, 42, 43, 44, 45, 46] (by decide +kernel) (by decide +kernel)
set_option maxRecDepth 20000 in
theorem gX1_bestSwap_X1_cost : GoodIn wsX1_bestSwap (wsV RX1 78 RX1 yX1_cost wsX1_cost) := goodIn_app (goodIn_of _ (by decide +kernel)) ggX1_bestSwap_X1_cost
set_option maxRecDepth 20000 in
theorem ggX1_bestSwap_X1_costAfterSwap : GoodIn wsX1_bestSwap wsX1_costAfterSwap := goodIn_r _ [25, 26, 27, 28, 5, 29, 30, 31, 32, 33, 34, 13, 2, 3, 4, 6, 7, 8, 9, 10, 11, 12, 14, 15, 16, 17, 18, 19, 20, 21, 35, 36, 37, 38, 39, 40, 41, 42, 43, 44, 45, 46] (by decide +kernel) (by decide +kernel)
set_option maxRecDepth 20000 in
theorem gX1_bestSwap_X1_costAfterSwap : GoodIn wsX1_bestSwap (wsV RX1 89 RX1 yX1_costAfterSwap wsX1_costAfterSwap) := goodIn_app (goodIn_of _ (by decide +kernel)) ggX1_bestSwap_X1_costAfterSwap
theorem dX1_bestSwap_0 : decode cX1_bestSwap 0 = .ok (.aload_n 0, 1) := by decide +kernel
theorem dX1_bestSwap_1 : decode cX1_bestSwap 1 = .ok (.invokevirtual 78, 3) := by decide +kernel
theorem dX1_bestSwap_4 : decode cX1_bestSwap 4 = .ok (.istore_n 1, 1) := by decide +kernel
theorem dX1_bestSwap_5 : decode cX1_bestSwap 5 = .ok (.ldc 82, 2) := by decide +kernel
theorem dX1_bestSwap_7 : decode cX1_bestSwap 7 = .ok (.istore_n 2, 1) := by decide +kernel
theorem dX1_bestSwap_8 : decode cX1_bestSwap 8 = .ok (.iconst 0, 1) := by decide +kernel
theorem dX1_bestSwap_9 : decode cX1_bestSwap 9 = .ok (.istore_n 3, 1) := by decide +kernel
theorem dX1_bestSwap_10 : decode cX1_bestSwap 10 = .ok (.iload_n 3, 1) := by decide +kernel
theorem dX1_bestSwap_11 : decode cX1_bestSwap 11 = .ok (.bipush 12, 2) := by decide +kernel
theorem dX1_bestSwap_13 : decode cX1_bestSwap 13 = .ok (.if_icmp .ge 53, 3) := by decide +kernel
theorem dX1_bestSwap_16 : decode cX1_bestSwap 16 = .ok (.iload_n 3, 1) := by decide +kernel
theorem dX1_bestSwap_17 : decode cX1_bestSwap 17 = .ok (.iconst 1, 1) := by decide +kernel
theorem dX1_bestSwap_18 : decode cX1_bestSwap 18 = .ok (.iadd, 1) := by decide +kernel
theorem dX1_bestSwap_19 : decode cX1_bestSwap 19 = .ok (.istore 4, 2) := by decide +kernel
theorem dX1_bestSwap_21 : decode cX1_bestSwap 21 = .ok (.iload 4, 2) := by decide +kernel
theorem dX1_bestSwap_23 : decode cX1_bestSwap 23 = .ok (.bipush 12, 2) := by decide +kernel
theorem dX1_bestSwap_25 : decode cX1_bestSwap 25 = .ok (.if_icmp .ge 35, 3) := by decide +kernel
theorem dX1_bestSwap_28 : decode cX1_bestSwap 28 = .ok (.aload_n 0, 1) := by decide +kernel
theorem dX1_bestSwap_29 : decode cX1_bestSwap 29 = .ok (.iload_n 3, 1) := by decide +kernel
theorem dX1_bestSwap_30 : decode cX1_bestSwap 30 = .ok (.iload 4, 2) := by decide +kernel
theorem dX1_bestSwap_32 : decode cX1_bestSwap 32 = .ok (.invokevirtual 89, 3) := by decide +kernel
theorem dX1_bestSwap_35 : decode cX1_bestSwap 35 = .ok (.istore 5, 2) := by decide +kernel
theorem dX1_bestSwap_37 : decode cX1_bestSwap 37 = .ok (.iload 5, 2) := by decide +kernel
theorem dX1_bestSwap_39 : decode cX1_bestSwap 39 = .ok (.iload_n 1, 1) := by decide +kernel
theorem dX1_bestSwap_40 : decode cX1_bestSwap 40 = .ok (.if_icmp .ge 14, 3) := by decide +kernel
theorem dX1_bestSwap_43 : decode cX1_bestSwap 43 = .ok (.iload 5, 2) := by decide +kernel
theorem dX1_bestSwap_45 : decode cX1_bestSwap 45 = .ok (.istore_n 1, 1) := by decide +kernel
theorem dX1_bestSwap_46 : decode cX1_bestSwap 46 = .ok (.bipush 100, 2) := by decide +kernel
theorem dX1_bestSwap_48 : decode cX1_bestSwap 48 = .ok (.iload_n 3, 1) := by decide +kernel
theorem dX1_bestSwap_49 : decode cX1_bestSwap 49 = .ok (.imul, 1) := by decide +kernel
theorem dX1_bestSwap_50 : decode cX1_bestSwap 50 = .ok (.iload 4, 2) := by decide +kernel
theorem dX1_bestSwap_52 : decode cX1_bestSwap 52 = .ok (.iadd, 1) := by decide +kernel
theorem dX1_bestSwap_53 : decode cX1_bestSwap 53 = .ok (.istore_n 2, 1) := by decide +kernel
theorem dX1_bestSwap_54 : decode cX1_bestSwap 54 = .ok (.iinc 4 1, 3) := by decide +kernel
theorem dX1_bestSwap_57 : decode cX1_bestSwap 57 = .ok (.goto (-36), 3) := by decide +kernel
theorem dX1_bestSwap_60 : decode cX1_bestSwap 60 = .ok (.iinc 3 1, 3) := by decide +kernel
theorem dX1_bestSwap_63 : decode cX1_bestSwap 63 = .ok (.goto (-53), 3) := by decide +kernel
theorem dX1_bestSwap_66 : decode cX1_bestSwap 66 = .ok (.iload_n 2, 1) := by decide +kernel
theorem dX1_bestSwap_67 : decode cX1_bestSwap 67 = .ok (.ireturn, 1) := by decide +kernel
set_option maxRecDepth 20000 in
theorem ggX1_improve_X1_bestSwap : GoodIn wsX1_improve wsX1_bestSwap := goodIn_r _ [7, 2, 8, 9, 10, 6, 11, 12, 13, 14, 15, 16, 17, 18, 19, 20, 21, 22, 23, 24, 25, 26, 27, 28, 29, 30, 31, 32, 33, 34, 35, 36, 37, 38, 39, 51, 52, 53, 54, 55, 56, 57, 58, 59, 60, 61, 62] (by decide +kernel) (by decide +kernel)
set_option maxRecDepth 20000 in
theorem gX1_improve_X1_bestSwap : GoodIn wsX1_improve (wsV RX1 92 RX1 yX1_bestSwap wsX1_bestSwap) := goodIn_app (goodIn_of _ (by decide +kernel)) ggX1_improve_X1_bestSwap
set_option maxRecDepth 20000 in
theorem ggX1_improve_X1_makeSwap : GoodIn wsX1_improve wsX1_makeSwap := goodIn_r _ [43, 44, 45, 46, 31, 32, 33, 6, 34, 35, 36, 37, 38, 39, 18, 47, 48, 49, 50, 51, 52, 53, 54, 55, 56, 57, 58, 59, 60, 61, 62] (by decide +kernel) (by decide +kernel)
set_option maxRecDepth 20000 in
theorem gX1_improve_X1_makeSwap : GoodIn wsX1_improve (wsV RX1 75 RX1 yX1_makeSwap wsX1_makeSwap) := goodIn_app (goodIn_of _ (by decide +kernel)) ggX1_improve_X1_makeSwap
theorem dX1_improve_0 : decode cX1_improve 0 = .ok (.iload_n 1, 1) := by decide +kernel
theorem dX1_improve_1 : decode cX1_improve 1 = .ok (.ifCond .lt 9, 3) := by decide +kernel
theorem dX1_improve_4 : decode cX1_improve 4 = .ok (.iload_n 1, 1) := by decide +kernel
theorem dX1_improve_5 : decode cX1_improve 5 = .ok (.bipush 100, 2) := by decide +kernel
theorem dX1_improve_7 : decode cX1_improve 7 = .ok (.if_icmp .le 6, 3) := by decide +kernel
theorem dX1_improve_10 : decode cX1_improve 10 = .ok (.ldc 57, 2) := by decide +kernel
theorem dX1_improve_12 : decode cX1_improve 12 = .ok (.ireturn, 1) := by decide +kernel
theorem dX1_improve_13 : decode cX1_improve 13 = .ok (.iconst 0, 1) := by decide +kernel
theorem dX1_improve_14 : decode cX1_improve 14 = .ok (.istore_n 2, 1) := by decide +kernel
theorem dX1_improve_15 : decode cX1_improve 15 = .ok (.iload_n 2, 1) := by decide +kernel
theorem dX1_improve_16 : decode cX1_improve 16 = .ok (.iload_n 1, 1) := by decide +kernel
theorem dX1_improve_17 : decode cX1_improve 17 = .ok (.if_icmp .ge 34, 3) := by decide +kernel
theorem dX1_improve_20 : decode cX1_improve 20 = .ok (.aload_n 0, 1) := by decide +kernel
theorem dX1_improve_21 : decode cX1_improve 21 = .ok (.invokevirtual 92, 3) := by decide +kernel
theorem dX1_improve_24 : decode cX1_improve 24 = .ok (.istore_n 3, 1) := by decide +kernel
theorem dX1_improve_25 : decode cX1_improve 25 = .ok (.iload_n 3, 1) := by decide +kernel
theorem dX1_improve_26 : decode cX1_improve 26 = .ok (.ldc 82, 2) := by decide +kernel
theorem dX1_improve_28 : decode cX1_improve 28 = .ok (.if_icmp .ne 5, 3) := by decide +kernel
theorem dX1_improve_31 : decode cX1_improve 31 = .ok (.iload_n 2, 1) := by decide +kernel
theorem dX1_improve_32 : decode cX1_improve 32 = .ok (.ireturn, 1) := by decide +kernel
theorem dX1_improve_33 : decode cX1_improve 33 = .ok (.aload_n 0, 1) := by decide +kernel
theorem dX1_improve_34 : decode cX1_improve 34 = .ok (.iload_n 3, 1) := by decide +kernel
theorem dX1_improve_35 : decode cX1_improve 35 = .ok (.bipush 100, 2) := by decide +kernel
theorem dX1_improve_37 : decode cX1_improve 37 = .ok (.idiv, 1) := by decide +kernel
theorem dX1_improve_38 : decode cX1_improve 38 = .ok (.iload_n 3, 1) := by decide +kernel
theorem dX1_improve_39 : decode cX1_improve 39 = .ok (.bipush 100, 2) := by decide +kernel
theorem dX1_improve_41 : decode cX1_improve 41 = .ok (.irem, 1) := by decide +kernel
theorem dX1_improve_42 : decode cX1_improve 42 = .ok (.invokevirtual 75, 3) := by decide +kernel
theorem dX1_improve_45 : decode cX1_improve 45 = .ok (.iinc 2 1, 3) := by decide +kernel
theorem dX1_improve_48 : decode cX1_improve 48 = .ok (.goto (-33), 3) := by decide +kernel
theorem dX1_improve_51 : decode cX1_improve 51 = .ok (.iload_n 1, 1) := by decide +kernel
theorem dX1_improve_52 : decode cX1_improve 52 = .ok (.ireturn, 1) := by decide +kernel
set_option maxRecDepth 20000 in
theorem ggX1_worstLetter_X1_closenessOf : GoodIn wsX1_worstLetter wsX1_closenessOf := goodIn_r _ [6, 7, 8, 9, 10, 11, 5, 12, 13, 14, 15, 16, 17, 18, 19, 20, 21, 22, 23, 24, 25, 26, 27, 28, 29, 30, 31, 32, 33] (by decide +kernel) (by decide +kernel)
set_option maxRecDepth 20000 in
theorem gX1_worstLetter_X1_closenessOf : GoodIn wsX1_worstLetter (wsV RX1 95 RX1 yX1_closenessOf wsX1_closenessOf) := goodIn_app (goodIn_of _ (by decide +kernel)) ggX1_worstLetter_X1_closenessOf
theorem dX1_worstLetter_0 : decode cX1_worstLetter 0 = .ok (.iconst 0, 1) := by decide +kernel
theorem dX1_worstLetter_1 : decode cX1_worstLetter 1 = .ok (.istore_n 1, 1) := by decide +kernel
theorem dX1_worstLetter_2 : decode cX1_worstLetter 2 = .ok (.ldc 82, 2) := by decide +kernel
theorem dX1_worstLetter_4 : decode cX1_worstLetter 4 = .ok (.istore_n 2, 1) := by decide +kernel
theorem dX1_worstLetter_5 : decode cX1_worstLetter 5 = .ok (.iconst 0, 1) := by decide +kernel
theorem dX1_worstLetter_6 : decode cX1_worstLetter 6 = .ok (.istore_n 3, 1) := by decide +kernel
theorem dX1_worstLetter_7 : decode cX1_worstLetter 7 = .ok (.iload_n 3, 1) := by decide +kernel
theorem dX1_worstLetter_8 : decode cX1_worstLetter 8 = .ok (.bipush 12, 2) := by decide +kernel
theorem dX1_worstLetter_10 : decode cX1_worstLetter 10 = .ok (.if_icmp .ge 27, 3) := by decide +kernel
theorem dX1_worstLetter_13 : decode cX1_worstLetter 13 = .ok (.aload_n 0, 1) := by decide +kernel
theorem dX1_worstLetter_14 : decode cX1_worstLetter 14 = .ok (.iload_n 3, 1) := by decide +kernel
theorem dX1_worstLetter_15 : decode cX1_worstLetter 15 = .ok (.invokevirtual 95, 3) := by decide +kernel
theorem dX1_worstLetter_18 : decode cX1_worstLetter 18 = .ok (.istore 4, 2) := by decide +kernel
theorem dX1_worstLetter_20 : decode cX1_worstLetter 20 = .ok (.iload 4, 2) := by decide +kernel
theorem dX1_worstLetter_22 : decode cX1_worstLetter 22 = .ok (.iload_n 1, 1) := by decide +kernel
theorem dX1_worstLetter_23 : decode cX1_worstLetter 23 = .ok (.if_icmp .le 8, 3) := by decide +kernel
theorem dX1_worstLetter_26 : decode cX1_worstLetter 26 = .ok (.iload 4, 2) := by decide +kernel
theorem dX1_worstLetter_28 : decode cX1_worstLetter 28 = .ok (.istore_n 1, 1) := by decide +kernel
theorem dX1_worstLetter_29 : decode cX1_worstLetter 29 = .ok (.iload_n 3, 1) := by decide +kernel
theorem dX1_worstLetter_30 : decode cX1_worstLetter 30 = .ok (.istore_n 2, 1) := by decide +kernel
theorem dX1_worstLetter_31 : decode cX1_worstLetter 31 = .ok (.iinc 3 1, 3) := by decide +kernel
theorem dX1_worstLetter_34 : decode cX1_worstLetter 34 = .ok (.goto (-27), 3) := by decide +kernel
theorem dX1_worstLetter_37 : decode cX1_worstLetter 37 = .ok (.iload_n 2, 1) := by decide +kernel
theorem dX1_worstLetter_38 : decode cX1_worstLetter 38 = .ok (.ireturn, 1) := by decide +kernel
set_option maxRecDepth 20000 in
theorem ggX1_run_X1_typeText : GoodIn wsX1_run wsX1_typeText := goodIn_r _ [7, 8, 9, 10, 11, 12, 13, 14, 15, 16, 17, 18, 19, 20, 21, 22, 6, 23, 24, 25, 26, 27, 28, 29, 30, 31, 32, 33, 34, 35, 36, 37, 38, 39, 40, 41, 42, 43, 44, 45, 46, 47, 48, 49, 50, 51, 52, 53, 54, 55, 56, 57, 58, 59, 60, 61, 62, 63, 64, 65, 66, 67] (by decide +kernel) (by decide +kernel)
set_option maxRecDepth 20000 in
theorem gX1_run_X1_typeText : GoodIn wsX1_run (wsV RX1 99 RX1 yX1_typeText wsX1_typeText) := goodIn_app (goodIn_of _ (by decide +kernel)) ggX1_run_X1_typeText
theorem dX1_run_0 : decode cX1_run 0 = .ok (.iload_n 1, 1) := by decide +kernel
theorem dX1_run_1 : decode cX1_run 1 = .ok (.iconst 1, 1) := by decide +kernel
theorem dX1_run_2 : decode cX1_run 2 = .ok (.if_icmp .lt 9, 3) := by decide +kernel
theorem dX1_run_5 : decode cX1_run 5 = .ok (.iload_n 1, 1) := by decide +kernel
theorem dX1_run_6 : decode cX1_run 6 = .ok (.bipush 30, 2) := by decide +kernel
theorem dX1_run_8 : decode cX1_run 8 = .ok (.if_icmp .le 6, 3) := by decide +kernel
theorem dX1_run_11 : decode cX1_run 11 = .ok (.ldc 57, 2) := by decide +kernel
theorem dX1_run_13 : decode cX1_run 13 = .ok (.ireturn, 1) := by decide +kernel
theorem dX1_run_14 : decode cX1_run 14 = .ok (.aload_n 0, 1) := by decide +kernel
theorem dX1_run_15 : decode cX1_run 15 = .ok (.aload_n 0, 1) := by decide +kernel
theorem dX1_run_16 : decode cX1_run 16 = .ok (.getfield 44, 3) := by decide +kernel
theorem dX1_run_19 : decode cX1_run 19 = .ok (.iload_n 1, 1) := by decide +kernel
theorem dX1_run_20 : decode cX1_run 20 = .ok (.invokevirtual 99, 3) := by decide +kernel
theorem dX1_run_23 : decode cX1_run 23 = .ok (.aload_n 0, 1) := by decide +kernel
theorem dX1_run_24 : decode cX1_run 24 = .ok (.getfield 44, 3) := by decide +kernel
theorem dX1_run_27 : decode cX1_run 27 = .ok (.getfield 103, 3) := by decide +kernel
theorem dX1_run_30 : decode cX1_run 30 = .ok (.ireturn, 1) := by decide +kernel
theorem dX1_jams_0 : decode cX1_jams 0 = .ok (.aload_n 0, 1) := by decide +kernel
theorem dX1_jams_1 : decode cX1_jams 1 = .ok (.getfield 44, 3) := by decide +kernel
theorem dX1_jams_4 : decode cX1_jams 4 = .ok (.getfield 106, 3) := by decide +kernel
theorem dX1_jams_7 : decode cX1_jams 7 = .ok (.ireturn, 1) := by decide +kernel
theorem dX1_lost_0 : decode cX1_lost 0 = .ok (.aload_n 0, 1) := by decide +kernel
theorem dX1_lost_1 : decode cX1_lost 1 = .ok (.getfield 44, 3) := by decide +kernel
theorem dX1_lost_4 : decode cX1_lost 4 = .ok (.getfield 109, 3) := by decide +kernel
theorem dX1_lost_7 : decode cX1_lost 7 = .ok (.ireturn, 1) := by decide +kernel
theorem dX1_duration_0 : decode cX1_duration 0 = .ok (.aload_n 0, 1) := by decide +kernel
theorem dX1_duration_1 : decode cX1_duration 1 = .ok (.getfield 44, 3) := by decide +kernel
theorem dX1_duration_4 : decode cX1_duration 4 = .ok (.getfield 112, 3) := by decide +kernel
theorem dX1_duration_7 : decode cX1_duration 7 = .ok (.ireturn, 1) := by decide +kernel
theorem dX1_printedLetter_0 : decode cX1_printedLetter 0 = .ok (.iload_n 1, 1) := by decide +kernel
theorem dX1_printedLetter_1 : decode cX1_printedLetter 1 = .ok (.ifCond .lt 14, 3) := by decide +kernel
theorem dX1_printedLetter_4 : decode cX1_printedLetter 4 = .ok (.iload_n 1, 1) := by decide +kernel
theorem dX1_printedLetter_5 : decode cX1_printedLetter 5 = .ok (.aload_n 0, 1) := by decide +kernel
theorem dX1_printedLetter_6 : decode cX1_printedLetter 6 = .ok (.getfield 44, 3) := by decide +kernel
theorem dX1_printedLetter_9 : decode cX1_printedLetter 9 = .ok (.getfield 103, 3) := by decide +kernel
theorem dX1_printedLetter_12 : decode cX1_printedLetter 12 = .ok (.if_icmp .lt 6, 3) := by decide +kernel
theorem dX1_printedLetter_15 : decode cX1_printedLetter 15 = .ok (.ldc 82, 2) := by decide +kernel
theorem dX1_printedLetter_17 : decode cX1_printedLetter 17 = .ok (.ireturn, 1) := by decide +kernel
theorem dX1_printedLetter_18 : decode cX1_printedLetter 18 = .ok (.aload_n 0, 1) := by decide +kernel
theorem dX1_printedLetter_19 : decode cX1_printedLetter 19 = .ok (.getfield 44, 3) := by decide +kernel
theorem dX1_printedLetter_22 : decode cX1_printedLetter 22 = .ok (.getfield 115, 3) := by decide +kernel
theorem dX1_printedLetter_25 : decode cX1_printedLetter 25 = .ok (.iload_n 1, 1) := by decide +kernel
theorem dX1_printedLetter_26 : decode cX1_printedLetter 26 = .ok (.iaload, 1) := by decide +kernel
theorem dX1_printedLetter_27 : decode cX1_printedLetter 27 = .ok (.ireturn, 1) := by decide +kernel
theorem dX1_jammedKeystroke_0 : decode cX1_jammedKeystroke 0 = .ok (.iload_n 1, 1) := by decide +kernel
theorem dX1_jammedKeystroke_1 : decode cX1_jammedKeystroke 1 = .ok (.ifCond .lt 14, 3) := by decide +kernel
theorem dX1_jammedKeystroke_4 : decode cX1_jammedKeystroke 4 = .ok (.iload_n 1, 1) := by decide +kernel
theorem dX1_jammedKeystroke_5 : decode cX1_jammedKeystroke 5 = .ok (.aload_n 0, 1) := by decide +kernel
theorem dX1_jammedKeystroke_6 : decode cX1_jammedKeystroke 6 = .ok (.getfield 44, 3) := by decide +kernel
theorem dX1_jammedKeystroke_9 : decode cX1_jammedKeystroke 9 = .ok (.getfield 106, 3) := by decide +kernel
theorem dX1_jammedKeystroke_12 : decode cX1_jammedKeystroke 12 = .ok (.if_icmp .lt 6, 3) := by decide +kernel
theorem dX1_jammedKeystroke_15 : decode cX1_jammedKeystroke 15 = .ok (.ldc 82, 2) := by decide +kernel
theorem dX1_jammedKeystroke_17 : decode cX1_jammedKeystroke 17 = .ok (.ireturn, 1) := by decide +kernel
theorem dX1_jammedKeystroke_18 : decode cX1_jammedKeystroke 18 = .ok (.aload_n 0, 1) := by decide +kernel
theorem dX1_jammedKeystroke_19 : decode cX1_jammedKeystroke 19 = .ok (.getfield 44, 3) := by decide +kernel
theorem dX1_jammedKeystroke_22 : decode cX1_jammedKeystroke 22 = .ok (.getfield 118, 3) := by decide +kernel
theorem dX1_jammedKeystroke_25 : decode cX1_jammedKeystroke 25 = .ok (.iload_n 1, 1) := by decide +kernel
theorem dX1_jammedKeystroke_26 : decode cX1_jammedKeystroke 26 = .ok (.iaload, 1) := by decide +kernel
theorem dX1_jammedKeystroke_27 : decode cX1_jammedKeystroke 27 = .ok (.ireturn, 1) := by decide +kernel
set_option maxRecDepth 20000 in
theorem ggX1_safeInterval_X1_typeText : GoodIn wsX1_safeInterval wsX1_typeText := goodIn_r _ [7, 8, 9, 10, 11, 12, 13, 14, 15, 16, 17, 18, 19, 20, 21, 22, 6, 23, 24, 25, 26, 27, 28, 29, 30, 31, 32, 33, 34, 35, 36, 37, 38, 39, 40, 41, 42, 43, 44, 45, 46, 47, 48, 49, 50, 51, 52, 53, 54, 55, 56, 57, 58, 59, 60, 61, 62, 63, 64, 65, 66, 67] (by decide +kernel) (by decide +kernel)
set_option maxRecDepth 20000 in
theorem gX1_safeInterval_X1_typeText : GoodIn wsX1_safeInterval (wsV RX1 99 RX1 yX1_typeText wsX1_typeText) := goodIn_app (goodIn_of _ (by decide +kernel)) ggX1_safeInterval_X1_typeText
theorem dX1_safeInterval_0 : decode cX1_safeInterval 0 = .ok (.iconst 1, 1) := by decide +kernel
theorem dX1_safeInterval_1 : decode cX1_safeInterval 1 = .ok (.istore_n 1, 1) := by decide +kernel
theorem dX1_safeInterval_2 : decode cX1_safeInterval 2 = .ok (.iload_n 1, 1) := by decide +kernel
theorem dX1_safeInterval_3 : decode cX1_safeInterval 3 = .ok (.bipush 30, 2) := by decide +kernel
theorem dX1_safeInterval_5 : decode cX1_safeInterval 5 = .ok (.if_icmp .gt 40, 3) := by decide +kernel
theorem dX1_safeInterval_8 : decode cX1_safeInterval 8 = .ok (.aload_n 0, 1) := by decide +kernel
theorem dX1_safeInterval_9 : decode cX1_safeInterval 9 = .ok (.aload_n 0, 1) := by decide +kernel
theorem dX1_safeInterval_10 : decode cX1_safeInterval 10 = .ok (.getfield 48, 3) := by decide +kernel
theorem dX1_safeInterval_13 : decode cX1_safeInterval 13 = .ok (.iload_n 1, 1) := by decide +kernel
theorem dX1_safeInterval_14 : decode cX1_safeInterval 14 = .ok (.invokevirtual 99, 3) := by decide +kernel
theorem dX1_safeInterval_17 : decode cX1_safeInterval 17 = .ok (.aload_n 0, 1) := by decide +kernel
theorem dX1_safeInterval_18 : decode cX1_safeInterval 18 = .ok (.getfield 48, 3) := by decide +kernel
theorem dX1_safeInterval_21 : decode cX1_safeInterval 21 = .ok (.getfield 106, 3) := by decide +kernel
theorem dX1_safeInterval_24 : decode cX1_safeInterval 24 = .ok (.ifCond .ne 15, 3) := by decide +kernel
theorem dX1_safeInterval_27 : decode cX1_safeInterval 27 = .ok (.aload_n 0, 1) := by decide +kernel
theorem dX1_safeInterval_28 : decode cX1_safeInterval 28 = .ok (.getfield 48, 3) := by decide +kernel
theorem dX1_safeInterval_31 : decode cX1_safeInterval 31 = .ok (.getfield 109, 3) := by decide +kernel
theorem dX1_safeInterval_34 : decode cX1_safeInterval 34 = .ok (.ifCond .ne 5, 3) := by decide +kernel
theorem dX1_safeInterval_37 : decode cX1_safeInterval 37 = .ok (.iload_n 1, 1) := by decide +kernel
theorem dX1_safeInterval_38 : decode cX1_safeInterval 38 = .ok (.ireturn, 1) := by decide +kernel
theorem dX1_safeInterval_39 : decode cX1_safeInterval 39 = .ok (.iinc 1 1, 3) := by decide +kernel
theorem dX1_safeInterval_42 : decode cX1_safeInterval 42 = .ok (.goto (-40), 3) := by decide +kernel
theorem dX1_safeInterval_45 : decode cX1_safeInterval 45 = .ok (.ldc 82, 2) := by decide +kernel
theorem dX1_safeInterval_47 : decode cX1_safeInterval 47 = .ok (.ireturn, 1) := by decide +kernel
set_option maxRecDepth 20000 in
theorem ggX1_digest_X1_mix : GoodIn wsX1_digest wsX1_mix := goodIn_r _ [13, 14] (by decide +kernel) (by decide +kernel)
set_option maxRecDepth 20000 in
theorem gX1_digest_X1_mix : GoodIn wsX1_digest (va_wsS RX1 123 yX1_mix wsX1_mix) := goodIn_app (goodIn_of _ (by decide +kernel)) ggX1_digest_X1_mix
set_option maxRecDepth 20000 in
theorem ggX1_digest_X1_mixAll : GoodIn wsX1_digest wsX1_mixAll := goodIn_r _ [17, 10, 11, 12, 13, 14] (by decide +kernel) (by decide +kernel)
set_option maxRecDepth 20000 in
theorem gX1_digest_X1_mixAll : GoodIn wsX1_digest (va_wsS RX1 127 yX1_mixAll wsX1_mixAll) := goodIn_app (goodIn_of _ (by decide +kernel)) ggX1_digest_X1_mixAll
set_option maxRecDepth 20000 in
theorem ggX1_digest_X1_cost : GoodIn wsX1_digest wsX1_cost := goodIn_r _ [21, 2, 3, 22, 23, 24, 12, 25, 26, 27, 28, 29, 30, 5, 31, 32, 33, 100, 101, 102, 103, 104, 105, 106, 107, 108, 109, 110, 111] (by decide +kernel) (by decide +kernel)
set_option maxRecDepth 20000 in
theorem gX1_digest_X1_cost : GoodIn wsX1_digest (wsV RX1 78 RX1 yX1_cost wsX1_cost) := goodIn_app (goodIn_of _ (by decide +kernel)) ggX1_digest_X1_cost
set_option maxRecDepth 20000 in
theorem ggX1_digest_X1_bestSwap : GoodIn wsX1_digest wsX1_bestSwap := goodIn_r _ [37, 38, 18, 19, 20, 12, 21, 2, 3, 22, 23, 24, 25, 26, 27, 28, 29, 30, 5, 31, 32, 33, 39, 40, 41, 42, 43, 44, 45, 46, 7, 47, 48, 49, 50, 100, 101, 102, 103, 104, 105, 106, 107, 108, 109, 110, 111] (by decide +kernel) (by decide +kernel)
set_option maxRecDepth 20000 in
theorem gX1_digest_X1_bestSwap : GoodIn wsX1_digest (wsV RX1 92 RX1 yX1_bestSwap wsX1_bestSwap) := goodIn_app (goodIn_of _ (by decide +kernel)) ggX1_digest_X1_bestSwap
set_option maxRecDepth 20000 in
theorem ggX1_digest_X1_worstLetter : GoodIn wsX1_digest wsX1_worstLetter := goodIn_r _ [54, 38, 55, 56, 57, 12, 58, 2, 3, 22, 23, 24, 25, 26, 27, 28, 29, 30, 5, 31, 32, 33, 100, 101, 102, 103, 104, 105, 106, 107, 108, 109, 110, 111] (by decide +kernel) (by decide +kernel)
set_option maxRecDepth 20000 in
theorem gX1_digest_X1_worstLetter : GoodIn wsX1_digest (wsV RX1 131 RX1 yX1_worstLetter wsX1_worstLetter) := goodIn_app (goodIn_of _ (by decide +kernel)) ggX1_digest_X1_worstLetter
set_option maxRecDepth 20000 in
theorem ggX1_digest_X1_safeInterval : GoodIn wsX1_digest wsX1_safeInterval := goodIn_r _ [62, 63, 38, 64, 65, 66, 12, 67, 2, 4, 6, 68, 69, 70, 71, 72, 73, 74, 75, 76, 77, 78, 79, 80, 3, 26, 5, 81, 82, 83, 84, 85, 86, 87, 32, 29, 33, 88, 89, 90, 91, 92, 93, 94, 95, 96, 97, 98, 99, 100, 101, 102, 103, 104, 105, 106, 107, 108, 109, 110, 111, 112, 113, 114, 115, 116, 117, 118] (by decide +kernel) (by decide +kernel)
set_option maxRecDepth 20000 in
theorem gX1_digest_X1_safeInterval : GoodIn wsX1_digest (wsV RX1 134 RX1 yX1_safeInterval wsX1_safeInterval) := goodIn_app (goodIn_of _ (by decide +kernel)) ggX1_digest_X1_safeInterval
theorem dX1_digest_0 : decode cX1_digest 0 = .ok (.ldc2_w 121, 3) := by decide +kernel
theorem dX1_digest_3 : decode cX1_digest 3 = .ok (.aload_n 0, 1) := by decide +kernel
theorem dX1_digest_4 : decode cX1_digest 4 = .ok (.getfield 13, 3) := by decide +kernel
theorem dX1_digest_7 : decode cX1_digest 7 = .ok (.i2l, 1) := by decide +kernel
theorem dX1_digest_8 : decode cX1_digest 8 = .ok (.invokestatic 123, 3) := by decide +kernel
theorem dX1_digest_11 : decode cX1_digest 11 = .ok (.aload_n 0, 1) := by decide +kernel
theorem dX1_digest_12 : decode cX1_digest 12 = .ok (.getfield 9, 3) := by decide +kernel
theorem dX1_digest_15 : decode cX1_digest 15 = .ok (.aload_n 0, 1) := by decide +kernel
theorem dX1_digest_16 : decode cX1_digest 16 = .ok (.getfield 13, 3) := by decide +kernel
theorem dX1_digest_19 : decode cX1_digest 19 = .ok (.invokestatic 127, 3) := by decide +kernel
theorem dX1_digest_22 : decode cX1_digest 22 = .ok (.lstore_n 1, 1) := by decide +kernel
theorem dX1_digest_23 : decode cX1_digest 23 = .ok (.lload_n 1, 1) := by decide +kernel
theorem dX1_digest_24 : decode cX1_digest 24 = .ok (.aload_n 0, 1) := by decide +kernel
theorem dX1_digest_25 : decode cX1_digest 25 = .ok (.getfield 17, 3) := by decide +kernel
theorem dX1_digest_28 : decode cX1_digest 28 = .ok (.i2l, 1) := by decide +kernel
theorem dX1_digest_29 : decode cX1_digest 29 = .ok (.invokestatic 123, 3) := by decide +kernel
theorem dX1_digest_32 : decode cX1_digest 32 = .ok (.lstore_n 1, 1) := by decide +kernel
theorem dX1_digest_33 : decode cX1_digest 33 = .ok (.lload_n 1, 1) := by decide +kernel
theorem dX1_digest_34 : decode cX1_digest 34 = .ok (.aload_n 0, 1) := by decide +kernel
theorem dX1_digest_35 : decode cX1_digest 35 = .ok (.getfield 20, 3) := by decide +kernel
theorem dX1_digest_38 : decode cX1_digest 38 = .ok (.i2l, 1) := by decide +kernel
theorem dX1_digest_39 : decode cX1_digest 39 = .ok (.invokestatic 123, 3) := by decide +kernel
theorem dX1_digest_42 : decode cX1_digest 42 = .ok (.lstore_n 1, 1) := by decide +kernel
theorem dX1_digest_43 : decode cX1_digest 43 = .ok (.lload_n 1, 1) := by decide +kernel
theorem dX1_digest_44 : decode cX1_digest 44 = .ok (.aload_n 0, 1) := by decide +kernel
theorem dX1_digest_45 : decode cX1_digest 45 = .ok (.getfield 23, 3) := by decide +kernel
theorem dX1_digest_48 : decode cX1_digest 48 = .ok (.i2l, 1) := by decide +kernel
theorem dX1_digest_49 : decode cX1_digest 49 = .ok (.invokestatic 123, 3) := by decide +kernel
theorem dX1_digest_52 : decode cX1_digest 52 = .ok (.lstore_n 1, 1) := by decide +kernel
theorem dX1_digest_53 : decode cX1_digest 53 = .ok (.lload_n 1, 1) := by decide +kernel
theorem dX1_digest_54 : decode cX1_digest 54 = .ok (.aload_n 0, 1) := by decide +kernel
theorem dX1_digest_55 : decode cX1_digest 55 = .ok (.getfield 26, 3) := by decide +kernel
theorem dX1_digest_58 : decode cX1_digest 58 = .ok (.bipush 12, 2) := by decide +kernel
theorem dX1_digest_60 : decode cX1_digest 60 = .ok (.invokestatic 127, 3) := by decide +kernel
theorem dX1_digest_63 : decode cX1_digest 63 = .ok (.lstore_n 1, 1) := by decide +kernel
theorem dX1_digest_64 : decode cX1_digest 64 = .ok (.lload_n 1, 1) := by decide +kernel
theorem dX1_digest_65 : decode cX1_digest 65 = .ok (.aload_n 0, 1) := by decide +kernel
theorem dX1_digest_66 : decode cX1_digest 66 = .ok (.getfield 38, 3) := by decide +kernel
theorem dX1_digest_69 : decode cX1_digest 69 = .ok (.i2l, 1) := by decide +kernel
theorem dX1_digest_70 : decode cX1_digest 70 = .ok (.invokestatic 123, 3) := by decide +kernel
theorem dX1_digest_73 : decode cX1_digest 73 = .ok (.lstore_n 1, 1) := by decide +kernel
theorem dX1_digest_74 : decode cX1_digest 74 = .ok (.lload_n 1, 1) := by decide +kernel
theorem dX1_digest_75 : decode cX1_digest 75 = .ok (.aload_n 0, 1) := by decide +kernel
theorem dX1_digest_76 : decode cX1_digest 76 = .ok (.invokevirtual 78, 3) := by decide +kernel
theorem dX1_digest_79 : decode cX1_digest 79 = .ok (.i2l, 1) := by decide +kernel
theorem dX1_digest_80 : decode cX1_digest 80 = .ok (.invokestatic 123, 3) := by decide +kernel
theorem dX1_digest_83 : decode cX1_digest 83 = .ok (.lstore_n 1, 1) := by decide +kernel
theorem dX1_digest_84 : decode cX1_digest 84 = .ok (.lload_n 1, 1) := by decide +kernel
theorem dX1_digest_85 : decode cX1_digest 85 = .ok (.aload_n 0, 1) := by decide +kernel
theorem dX1_digest_86 : decode cX1_digest 86 = .ok (.invokevirtual 92, 3) := by decide +kernel
theorem dX1_digest_89 : decode cX1_digest 89 = .ok (.i2l, 1) := by decide +kernel
theorem dX1_digest_90 : decode cX1_digest 90 = .ok (.invokestatic 123, 3) := by decide +kernel
theorem dX1_digest_93 : decode cX1_digest 93 = .ok (.lstore_n 1, 1) := by decide +kernel
theorem dX1_digest_94 : decode cX1_digest 94 = .ok (.lload_n 1, 1) := by decide +kernel
theorem dX1_digest_95 : decode cX1_digest 95 = .ok (.aload_n 0, 1) := by decide +kernel
theorem dX1_digest_96 : decode cX1_digest 96 = .ok (.invokevirtual 131, 3) := by decide +kernel
theorem dX1_digest_99 : decode cX1_digest 99 = .ok (.i2l, 1) := by decide +kernel
theorem dX1_digest_100 : decode cX1_digest 100 = .ok (.invokestatic 123, 3) := by decide +kernel
theorem dX1_digest_103 : decode cX1_digest 103 = .ok (.lstore_n 1, 1) := by decide +kernel
theorem dX1_digest_104 : decode cX1_digest 104 = .ok (.lload_n 1, 1) := by decide +kernel
theorem dX1_digest_105 : decode cX1_digest 105 = .ok (.aload_n 0, 1) := by decide +kernel
theorem dX1_digest_106 : decode cX1_digest 106 = .ok (.invokevirtual 134, 3) := by decide +kernel
theorem dX1_digest_109 : decode cX1_digest 109 = .ok (.i2l, 1) := by decide +kernel
theorem dX1_digest_110 : decode cX1_digest 110 = .ok (.invokestatic 123, 3) := by decide +kernel
theorem dX1_digest_113 : decode cX1_digest 113 = .ok (.lstore_n 1, 1) := by decide +kernel
theorem dX1_digest_114 : decode cX1_digest 114 = .ok (.lload_n 1, 1) := by decide +kernel
theorem dX1_digest_115 : decode cX1_digest 115 = .ok (.aload_n 0, 1) := by decide +kernel
theorem dX1_digest_116 : decode cX1_digest 116 = .ok (.getfield 44, 3) := by decide +kernel
theorem dX1_digest_119 : decode cX1_digest 119 = .ok (.getfield 106, 3) := by decide +kernel
theorem dX1_digest_122 : decode cX1_digest 122 = .ok (.i2l, 1) := by decide +kernel
theorem dX1_digest_123 : decode cX1_digest 123 = .ok (.invokestatic 123, 3) := by decide +kernel
theorem dX1_digest_126 : decode cX1_digest 126 = .ok (.lstore_n 1, 1) := by decide +kernel
theorem dX1_digest_127 : decode cX1_digest 127 = .ok (.lload_n 1, 1) := by decide +kernel
theorem dX1_digest_128 : decode cX1_digest 128 = .ok (.aload_n 0, 1) := by decide +kernel
theorem dX1_digest_129 : decode cX1_digest 129 = .ok (.getfield 44, 3) := by decide +kernel
theorem dX1_digest_132 : decode cX1_digest 132 = .ok (.getfield 109, 3) := by decide +kernel
theorem dX1_digest_135 : decode cX1_digest 135 = .ok (.i2l, 1) := by decide +kernel
theorem dX1_digest_136 : decode cX1_digest 136 = .ok (.invokestatic 123, 3) := by decide +kernel
theorem dX1_digest_139 : decode cX1_digest 139 = .ok (.lstore_n 1, 1) := by decide +kernel
theorem dX1_digest_140 : decode cX1_digest 140 = .ok (.lload_n 1, 1) := by decide +kernel
theorem dX1_digest_141 : decode cX1_digest 141 = .ok (.aload_n 0, 1) := by decide +kernel
theorem dX1_digest_142 : decode cX1_digest 142 = .ok (.getfield 44, 3) := by decide +kernel
theorem dX1_digest_145 : decode cX1_digest 145 = .ok (.getfield 112, 3) := by decide +kernel
theorem dX1_digest_148 : decode cX1_digest 148 = .ok (.i2l, 1) := by decide +kernel
theorem dX1_digest_149 : decode cX1_digest 149 = .ok (.invokestatic 123, 3) := by decide +kernel
theorem dX1_digest_152 : decode cX1_digest 152 = .ok (.lstore_n 1, 1) := by decide +kernel
theorem dX1_digest_153 : decode cX1_digest 153 = .ok (.lload_n 1, 1) := by decide +kernel
theorem dX1_digest_154 : decode cX1_digest 154 = .ok (.aload_n 0, 1) := by decide +kernel
theorem dX1_digest_155 : decode cX1_digest 155 = .ok (.getfield 44, 3) := by decide +kernel
theorem dX1_digest_158 : decode cX1_digest 158 = .ok (.getfield 103, 3) := by decide +kernel
theorem dX1_digest_161 : decode cX1_digest 161 = .ok (.i2l, 1) := by decide +kernel
theorem dX1_digest_162 : decode cX1_digest 162 = .ok (.invokestatic 123, 3) := by decide +kernel
theorem dX1_digest_165 : decode cX1_digest 165 = .ok (.lstore_n 1, 1) := by decide +kernel
theorem dX1_digest_166 : decode cX1_digest 166 = .ok (.lload_n 1, 1) := by decide +kernel
theorem dX1_digest_167 : decode cX1_digest 167 = .ok (.aload_n 0, 1) := by decide +kernel
theorem dX1_digest_168 : decode cX1_digest 168 = .ok (.getfield 44, 3) := by decide +kernel
theorem dX1_digest_171 : decode cX1_digest 171 = .ok (.getfield 115, 3) := by decide +kernel
theorem dX1_digest_174 : decode cX1_digest 174 = .ok (.aload_n 0, 1) := by decide +kernel
theorem dX1_digest_175 : decode cX1_digest 175 = .ok (.getfield 44, 3) := by decide +kernel
theorem dX1_digest_178 : decode cX1_digest 178 = .ok (.getfield 103, 3) := by decide +kernel
theorem dX1_digest_181 : decode cX1_digest 181 = .ok (.invokestatic 127, 3) := by decide +kernel
theorem dX1_digest_184 : decode cX1_digest 184 = .ok (.lstore_n 1, 1) := by decide +kernel
theorem dX1_digest_185 : decode cX1_digest 185 = .ok (.lload_n 1, 1) := by decide +kernel
theorem dX1_digest_186 : decode cX1_digest 186 = .ok (.aload_n 0, 1) := by decide +kernel
theorem dX1_digest_187 : decode cX1_digest 187 = .ok (.getfield 44, 3) := by decide +kernel
theorem dX1_digest_190 : decode cX1_digest 190 = .ok (.getfield 118, 3) := by decide +kernel
theorem dX1_digest_193 : decode cX1_digest 193 = .ok (.aload_n 0, 1) := by decide +kernel
theorem dX1_digest_194 : decode cX1_digest 194 = .ok (.getfield 44, 3) := by decide +kernel
theorem dX1_digest_197 : decode cX1_digest 197 = .ok (.getfield 106, 3) := by decide +kernel
theorem dX1_digest_200 : decode cX1_digest 200 = .ok (.invokestatic 127, 3) := by decide +kernel
theorem dX1_digest_203 : decode cX1_digest 203 = .ok (.lreturn, 1) := by decide +kernel
theorem dX1_isNumber_0 : decode cX1_isNumber 0 = .ok (.iload_n 0, 1) := by decide +kernel
theorem dX1_isNumber_1 : decode cX1_isNumber 1 = .ok (.ifCond .lt 13, 3) := by decide +kernel
theorem dX1_isNumber_4 : decode cX1_isNumber 4 = .ok (.iload_n 0, 1) := by decide +kernel
theorem dX1_isNumber_5 : decode cX1_isNumber 5 = .ok (.bipush 12, 2) := by decide +kernel
theorem dX1_isNumber_7 : decode cX1_isNumber 7 = .ok (.if_icmp .ge 7, 3) := by decide +kernel
theorem dX1_isNumber_10 : decode cX1_isNumber 10 = .ok (.iconst 1, 1) := by decide +kernel
theorem dX1_isNumber_11 : decode cX1_isNumber 11 = .ok (.goto 4, 3) := by decide +kernel
theorem dX1_isNumber_14 : decode cX1_isNumber 14 = .ok (.iconst 0, 1) := by decide +kernel
theorem dX1_isNumber_15 : decode cX1_isNumber 15 = .ok (.ireturn, 1) := by decide +kernel
theorem dX1_isPairOf_0 : decode cX1_isPairOf 0 = .ok (.iload_n 0, 1) := by decide +kernel
theorem dX1_isPairOf_1 : decode cX1_isPairOf 1 = .ok (.iload_n 2, 1) := by decide +kernel
theorem dX1_isPairOf_2 : decode cX1_isPairOf 2 = .ok (.if_icmp .ne 8, 3) := by decide +kernel
theorem dX1_isPairOf_5 : decode cX1_isPairOf 5 = .ok (.iload_n 1, 1) := by decide +kernel
theorem dX1_isPairOf_6 : decode cX1_isPairOf 6 = .ok (.iload_n 3, 1) := by decide +kernel
theorem dX1_isPairOf_7 : decode cX1_isPairOf 7 = .ok (.if_icmp .eq 13, 3) := by decide +kernel
theorem dX1_isPairOf_10 : decode cX1_isPairOf 10 = .ok (.iload_n 0, 1) := by decide +kernel
theorem dX1_isPairOf_11 : decode cX1_isPairOf 11 = .ok (.iload_n 3, 1) := by decide +kernel
theorem dX1_isPairOf_12 : decode cX1_isPairOf 12 = .ok (.if_icmp .ne 12, 3) := by decide +kernel
theorem dX1_isPairOf_15 : decode cX1_isPairOf 15 = .ok (.iload_n 1, 1) := by decide +kernel
theorem dX1_isPairOf_16 : decode cX1_isPairOf 16 = .ok (.iload_n 2, 1) := by decide +kernel
theorem dX1_isPairOf_17 : decode cX1_isPairOf 17 = .ok (.if_icmp .ne 7, 3) := by decide +kernel
theorem dX1_isPairOf_20 : decode cX1_isPairOf 20 = .ok (.iconst 1, 1) := by decide +kernel
theorem dX1_isPairOf_21 : decode cX1_isPairOf 21 = .ok (.goto 4, 3) := by decide +kernel
theorem dX1_isPairOf_24 : decode cX1_isPairOf 24 = .ok (.iconst 0, 1) := by decide +kernel
theorem dX1_isPairOf_25 : decode cX1_isPairOf 25 = .ok (.ireturn, 1) := by decide +kernel
theorem dX1_textIsLayout_0 : decode cX1_textIsLayout 0 = .ok (.aload_n 0, 1) := by decide +kernel
theorem dX1_textIsLayout_1 : decode cX1_textIsLayout 1 = .ok (.getfield 13, 3) := by decide +kernel
theorem dX1_textIsLayout_4 : decode cX1_textIsLayout 4 = .ok (.bipush 12, 2) := by decide +kernel
theorem dX1_textIsLayout_6 : decode cX1_textIsLayout 6 = .ok (.if_icmp .eq 5, 3) := by decide +kernel
theorem dX1_textIsLayout_9 : decode cX1_textIsLayout 9 = .ok (.iconst 0, 1) := by decide +kernel
theorem dX1_textIsLayout_10 : decode cX1_textIsLayout 10 = .ok (.ireturn, 1) := by decide +kernel
theorem dX1_textIsLayout_11 : decode cX1_textIsLayout 11 = .ok (.iconst 0, 1) := by decide +kernel
theorem dX1_textIsLayout_12 : decode cX1_textIsLayout 12 = .ok (.istore_n 1, 1) := by decide +kernel
theorem dX1_textIsLayout_13 : decode cX1_textIsLayout 13 = .ok (.iconst 0, 1) := by decide +kernel
theorem dX1_textIsLayout_14 : decode cX1_textIsLayout 14 = .ok (.istore_n 2, 1) := by decide +kernel
theorem dX1_textIsLayout_15 : decode cX1_textIsLayout 15 = .ok (.iload_n 2, 1) := by decide +kernel
theorem dX1_textIsLayout_16 : decode cX1_textIsLayout 16 = .ok (.bipush 12, 2) := by decide +kernel
theorem dX1_textIsLayout_18 : decode cX1_textIsLayout 18 = .ok (.if_icmp .ge 20, 3) := by decide +kernel
theorem dX1_textIsLayout_21 : decode cX1_textIsLayout 21 = .ok (.iload_n 1, 1) := by decide +kernel
theorem dX1_textIsLayout_22 : decode cX1_textIsLayout 22 = .ok (.iconst 1, 1) := by decide +kernel
theorem dX1_textIsLayout_23 : decode cX1_textIsLayout 23 = .ok (.aload_n 0, 1) := by decide +kernel
theorem dX1_textIsLayout_24 : decode cX1_textIsLayout 24 = .ok (.getfield 9, 3) := by decide +kernel
theorem dX1_textIsLayout_27 : decode cX1_textIsLayout 27 = .ok (.iload_n 2, 1) := by decide +kernel
theorem dX1_textIsLayout_28 : decode cX1_textIsLayout 28 = .ok (.iaload, 1) := by decide +kernel
theorem dX1_textIsLayout_29 : decode cX1_textIsLayout 29 = .ok (.ishl, 1) := by decide +kernel
theorem dX1_textIsLayout_30 : decode cX1_textIsLayout 30 = .ok (.ior, 1) := by decide +kernel
theorem dX1_textIsLayout_31 : decode cX1_textIsLayout 31 = .ok (.istore_n 1, 1) := by decide +kernel
theorem dX1_textIsLayout_32 : decode cX1_textIsLayout 32 = .ok (.iinc 2 1, 3) := by decide +kernel
theorem dX1_textIsLayout_35 : decode cX1_textIsLayout 35 = .ok (.goto (-20), 3) := by decide +kernel
theorem dX1_textIsLayout_38 : decode cX1_textIsLayout 38 = .ok (.iload_n 1, 1) := by decide +kernel
theorem dX1_textIsLayout_39 : decode cX1_textIsLayout 39 = .ok (.sipush 4095, 3) := by decide +kernel
theorem dX1_textIsLayout_42 : decode cX1_textIsLayout 42 = .ok (.if_icmp .ne 7, 3) := by decide +kernel
theorem dX1_textIsLayout_45 : decode cX1_textIsLayout 45 = .ok (.iconst 1, 1) := by decide +kernel
theorem dX1_textIsLayout_46 : decode cX1_textIsLayout 46 = .ok (.goto 4, 3) := by decide +kernel
theorem dX1_textIsLayout_49 : decode cX1_textIsLayout 49 = .ok (.iconst 0, 1) := by decide +kernel
theorem dX1_textIsLayout_50 : decode cX1_textIsLayout 50 = .ok (.ireturn, 1) := by decide +kernel
theorem dX1_place_0 : decode cX1_place 0 = .ok (.aload_n 0, 1) := by decide +kernel
theorem dX1_place_1 : decode cX1_place 1 = .ok (.getfield 26, 3) := by decide +kernel
theorem dX1_place_4 : decode cX1_place 4 = .ok (.iload_n 2, 1) := by decide +kernel
theorem dX1_place_5 : decode cX1_place 5 = .ok (.iload_n 1, 1) := by decide +kernel
theorem dX1_place_6 : decode cX1_place 6 = .ok (.iastore, 1) := by decide +kernel
theorem dX1_place_7 : decode cX1_place 7 = .ok (.aload_n 0, 1) := by decide +kernel
theorem dX1_place_8 : decode cX1_place 8 = .ok (.getfield 29, 3) := by decide +kernel
theorem dX1_place_11 : decode cX1_place 11 = .ok (.iload_n 1, 1) := by decide +kernel
theorem dX1_place_12 : decode cX1_place 12 = .ok (.iload_n 2, 1) := by decide +kernel
theorem dX1_place_13 : decode cX1_place 13 = .ok (.iastore, 1) := by decide +kernel
theorem dX1_place_14 : decode cX1_place 14 = .ok (.return_, 1) := by decide +kernel
set_option maxRecDepth 20000 in
theorem ggX1_exchange_X1_place : GoodIn wsX1_exchange wsX1_place := goodIn_r _ [6, 1, 7, 8, 9, 10, 11, 12, 13, 14, 15, 16, 17, 18, 19] (by decide +kernel) (by decide +kernel)
set_option maxRecDepth 20000 in
theorem gX1_exchange_X1_place : GoodIn wsX1_exchange (wsV RX1 67 RX1 yX1_place wsX1_place) := goodIn_app (goodIn_of _ (by decide +kernel)) ggX1_exchange_X1_place
theorem dX1_exchange_0 : decode cX1_exchange 0 = .ok (.aload_n 0, 1) := by decide +kernel
theorem dX1_exchange_1 : decode cX1_exchange 1 = .ok (.getfield 26, 3) := by decide +kernel
theorem dX1_exchange_4 : decode cX1_exchange 4 = .ok (.iload_n 1, 1) := by decide +kernel
theorem dX1_exchange_5 : decode cX1_exchange 5 = .ok (.iaload, 1) := by decide +kernel
theorem dX1_exchange_6 : decode cX1_exchange 6 = .ok (.istore_n 3, 1) := by decide +kernel
theorem dX1_exchange_7 : decode cX1_exchange 7 = .ok (.aload_n 0, 1) := by decide +kernel
theorem dX1_exchange_8 : decode cX1_exchange 8 = .ok (.aload_n 0, 1) := by decide +kernel
theorem dX1_exchange_9 : decode cX1_exchange 9 = .ok (.getfield 26, 3) := by decide +kernel
theorem dX1_exchange_12 : decode cX1_exchange 12 = .ok (.iload_n 2, 1) := by decide +kernel
theorem dX1_exchange_13 : decode cX1_exchange 13 = .ok (.iaload, 1) := by decide +kernel
theorem dX1_exchange_14 : decode cX1_exchange 14 = .ok (.iload_n 1, 1) := by decide +kernel
theorem dX1_exchange_15 : decode cX1_exchange 15 = .ok (.invokevirtual 67, 3) := by decide +kernel
theorem dX1_exchange_18 : decode cX1_exchange 18 = .ok (.aload_n 0, 1) := by decide +kernel
theorem dX1_exchange_19 : decode cX1_exchange 19 = .ok (.iload_n 3, 1) := by decide +kernel
theorem dX1_exchange_20 : decode cX1_exchange 20 = .ok (.iload_n 2, 1) := by decide +kernel
theorem dX1_exchange_21 : decode cX1_exchange 21 = .ok (.invokevirtual 67, 3) := by decide +kernel
theorem dX1_exchange_24 : decode cX1_exchange 24 = .ok (.return_, 1) := by decide +kernel
set_option maxRecDepth 20000 in
theorem ggX1_swapError_X1_isNumber : GoodIn wsX1_swapError wsX1_isNumber := goodIn_r _ [6] (by decide +kernel) (by decide +kernel)
set_option maxRecDepth 20000 in
theorem gX1_swapError_X1_isNumber : GoodIn wsX1_swapError (va_wsS RX1 53 yX1_isNumber wsX1_isNumber) := goodIn_app (goodIn_of _ (by decide +kernel)) ggX1_swapError_X1_isNumber
theorem dX1_swapError_0 : decode cX1_swapError 0 = .ok (.iload_n 0, 1) := by decide +kernel
theorem dX1_swapError_1 : decode cX1_swapError 1 = .ok (.invokestatic 53, 3) := by decide +kernel
theorem dX1_swapError_4 : decode cX1_swapError 4 = .ok (.ifCond .eq 10, 3) := by decide +kernel
theorem dX1_swapError_7 : decode cX1_swapError 7 = .ok (.iload_n 1, 1) := by decide +kernel
theorem dX1_swapError_8 : decode cX1_swapError 8 = .ok (.invokestatic 53, 3) := by decide +kernel
theorem dX1_swapError_11 : decode cX1_swapError 11 = .ok (.ifCond .ne 6, 3) := by decide +kernel
theorem dX1_swapError_14 : decode cX1_swapError 14 = .ok (.ldc 57, 2) := by decide +kernel
theorem dX1_swapError_16 : decode cX1_swapError 16 = .ok (.ireturn, 1) := by decide +kernel
theorem dX1_swapError_17 : decode cX1_swapError 17 = .ok (.iload_n 0, 1) := by decide +kernel
theorem dX1_swapError_18 : decode cX1_swapError 18 = .ok (.iload_n 1, 1) := by decide +kernel
theorem dX1_swapError_19 : decode cX1_swapError 19 = .ok (.if_icmp .ne 8, 3) := by decide +kernel
theorem dX1_swapError_22 : decode cX1_swapError 22 = .ok (.ldc 137, 2) := by decide +kernel
theorem dX1_swapError_24 : decode cX1_swapError 24 = .ok (.goto 4, 3) := by decide +kernel
theorem dX1_swapError_27 : decode cX1_swapError 27 = .ok (.iconst 0, 1) := by decide +kernel
theorem dX1_swapError_28 : decode cX1_swapError 28 = .ok (.ireturn, 1) := by decide +kernel
set_option maxRecDepth 20000 in
theorem ggX1_makeSwap_X1_exchange : GoodIn wsX1_makeSwap wsX1_exchange := goodIn_r _ [8, 9, 10, 11, 12, 7, 13, 14, 19, 20, 21, 22, 23, 24, 25, 26, 27, 28, 29, 30] (by decide +kernel) (by decide +kernel)
set_option maxRecDepth 20000 in
theorem gX1_makeSwap_X1_exchange : GoodIn wsX1_makeSwap (wsV RX1 83 RX1 yX1_exchange wsX1_exchange) := goodIn_app (goodIn_of _ (by decide +kernel)) ggX1_makeSwap_X1_exchange
set_option maxRecDepth 20000 in
theorem ggX1_makeSwap_X1_forgetOldestSwap : GoodIn wsX1_makeSwap wsX1_forgetOldestSwap := goodIn_r _ [18, 2, 3, 1, 19, 20, 21, 22, 23, 24, 25, 26, 27, 28, 29, 30] (by decide +kernel) (by decide +kernel)
set_option maxRecDepth 20000 in
theorem gX1_makeSwap_X1_forgetOldestSwap : GoodIn wsX1_makeSwap (wsV RX1 138 RX1 yX1_forgetOldestSwap wsX1_forgetOldestSwap) := goodIn_app (goodIn_of _ (by decide +kernel)) ggX1_makeSwap_X1_forgetOldestSwap
theorem dX1_makeSwap_0 : decode cX1_makeSwap 0 = .ok (.aload_n 0, 1) := by decide +kernel
theorem dX1_makeSwap_1 : decode cX1_makeSwap 1 = .ok (.iload_n 1, 1) := by decide +kernel
theorem dX1_makeSwap_2 : decode cX1_makeSwap 2 = .ok (.iload_n 2, 1) := by decide +kernel
theorem dX1_makeSwap_3 : decode cX1_makeSwap 3 = .ok (.invokevirtual 83, 3) := by decide +kernel
theorem dX1_makeSwap_6 : decode cX1_makeSwap 6 = .ok (.aload_n 0, 1) := by decide +kernel
theorem dX1_makeSwap_7 : decode cX1_makeSwap 7 = .ok (.getfield 38, 3) := by decide +kernel
theorem dX1_makeSwap_10 : decode cX1_makeSwap 10 = .ok (.bipush 30, 2) := by decide +kernel
theorem dX1_makeSwap_12 : decode cX1_makeSwap 12 = .ok (.if_icmp .lt 7, 3) := by decide +kernel
theorem dX1_makeSwap_15 : decode cX1_makeSwap 15 = .ok (.aload_n 0, 1) := by decide +kernel
theorem dX1_makeSwap_16 : decode cX1_makeSwap 16 = .ok (.invokevirtual 138, 3) := by decide +kernel
theorem dX1_makeSwap_19 : decode cX1_makeSwap 19 = .ok (.aload_n 0, 1) := by decide +kernel
theorem dX1_makeSwap_20 : decode cX1_makeSwap 20 = .ok (.getfield 32, 3) := by decide +kernel
theorem dX1_makeSwap_23 : decode cX1_makeSwap 23 = .ok (.aload_n 0, 1) := by decide +kernel
theorem dX1_makeSwap_24 : decode cX1_makeSwap 24 = .ok (.getfield 38, 3) := by decide +kernel
theorem dX1_makeSwap_27 : decode cX1_makeSwap 27 = .ok (.iload_n 1, 1) := by decide +kernel
theorem dX1_makeSwap_28 : decode cX1_makeSwap 28 = .ok (.iastore, 1) := by decide +kernel
theorem dX1_makeSwap_29 : decode cX1_makeSwap 29 = .ok (.aload_n 0, 1) := by decide +kernel
theorem dX1_makeSwap_30 : decode cX1_makeSwap 30 = .ok (.getfield 35, 3) := by decide +kernel
theorem dX1_makeSwap_33 : decode cX1_makeSwap 33 = .ok (.aload_n 0, 1) := by decide +kernel
theorem dX1_makeSwap_34 : decode cX1_makeSwap 34 = .ok (.getfield 38, 3) := by decide +kernel
theorem dX1_makeSwap_37 : decode cX1_makeSwap 37 = .ok (.iload_n 2, 1) := by decide +kernel
theorem dX1_makeSwap_38 : decode cX1_makeSwap 38 = .ok (.iastore, 1) := by decide +kernel
theorem dX1_makeSwap_39 : decode cX1_makeSwap 39 = .ok (.aload_n 0, 1) := by decide +kernel
theorem dX1_makeSwap_40 : decode cX1_makeSwap 40 = .ok (.dup, 1) := by decide +kernel
theorem dX1_makeSwap_41 : decode cX1_makeSwap 41 = .ok (.getfield 38, 3) := by decide +kernel
theorem dX1_makeSwap_44 : decode cX1_makeSwap 44 = .ok (.iconst 1, 1) := by decide +kernel
theorem dX1_makeSwap_45 : decode cX1_makeSwap 45 = .ok (.iadd, 1) := by decide +kernel
theorem dX1_makeSwap_46 : decode cX1_makeSwap 46 = .ok (.putfield 38, 3) := by decide +kernel
theorem dX1_makeSwap_49 : decode cX1_makeSwap 49 = .ok (.return_, 1) := by decide +kernel
theorem dX1_forgetOldestSwap_0 : decode cX1_forgetOldestSwap 0 = .ok (.iconst 1, 1) := by decide +kernel
theorem dX1_forgetOldestSwap_1 : decode cX1_forgetOldestSwap 1 = .ok (.istore_n 1, 1) := by decide +kernel
theorem dX1_forgetOldestSwap_2 : decode cX1_forgetOldestSwap 2 = .ok (.iload_n 1, 1) := by decide +kernel
theorem dX1_forgetOldestSwap_3 : decode cX1_forgetOldestSwap 3 = .ok (.bipush 30, 2) := by decide +kernel
theorem dX1_forgetOldestSwap_5 : decode cX1_forgetOldestSwap 5 = .ok (.if_icmp .ge 37, 3) := by decide +kernel
theorem dX1_forgetOldestSwap_8 : decode cX1_forgetOldestSwap 8 = .ok (.aload_n 0, 1) := by decide +kernel
theorem dX1_forgetOldestSwap_9 : decode cX1_forgetOldestSwap 9 = .ok (.getfield 32, 3) := by decide +kernel
theorem dX1_forgetOldestSwap_12 : decode cX1_forgetOldestSwap 12 = .ok (.iload_n 1, 1) := by decide +kernel
theorem dX1_forgetOldestSwap_13 : decode cX1_forgetOldestSwap 13 = .ok (.iconst 1, 1) := by decide +kernel
theorem dX1_forgetOldestSwap_14 : decode cX1_forgetOldestSwap 14 = .ok (.isub, 1) := by decide +kernel
theorem dX1_forgetOldestSwap_15 : decode cX1_forgetOldestSwap 15 = .ok (.aload_n 0, 1) := by decide +kernel
theorem dX1_forgetOldestSwap_16 : decode cX1_forgetOldestSwap 16 = .ok (.getfield 32, 3) := by decide +kernel
theorem dX1_forgetOldestSwap_19 : decode cX1_forgetOldestSwap 19 = .ok (.iload_n 1, 1) := by decide +kernel
theorem dX1_forgetOldestSwap_20 : decode cX1_forgetOldestSwap 20 = .ok (.iaload, 1) := by decide +kernel
theorem dX1_forgetOldestSwap_21 : decode cX1_forgetOldestSwap 21 = .ok (.iastore, 1) := by decide +kernel
theorem dX1_forgetOldestSwap_22 : decode cX1_forgetOldestSwap 22 = .ok (.aload_n 0, 1) := by decide +kernel
theorem dX1_forgetOldestSwap_23 : decode cX1_forgetOldestSwap 23 = .ok (.getfield 35, 3) := by decide +kernel
theorem dX1_forgetOldestSwap_26 : decode cX1_forgetOldestSwap 26 = .ok (.iload_n 1, 1) := by decide +kernel
theorem dX1_forgetOldestSwap_27 : decode cX1_forgetOldestSwap 27 = .ok (.iconst 1, 1) := by decide +kernel
theorem dX1_forgetOldestSwap_28 : decode cX1_forgetOldestSwap 28 = .ok (.isub, 1) := by decide +kernel
theorem dX1_forgetOldestSwap_29 : decode cX1_forgetOldestSwap 29 = .ok (.aload_n 0, 1) := by decide +kernel
theorem dX1_forgetOldestSwap_30 : decode cX1_forgetOldestSwap 30 = .ok (.getfield 35, 3) := by decide +kernel
theorem dX1_forgetOldestSwap_33 : decode cX1_forgetOldestSwap 33 = .ok (.iload_n 1, 1) := by decide +kernel
theorem dX1_forgetOldestSwap_34 : decode cX1_forgetOldestSwap 34 = .ok (.iaload, 1) := by decide +kernel
theorem dX1_forgetOldestSwap_35 : decode cX1_forgetOldestSwap 35 = .ok (.iastore, 1) := by decide +kernel
theorem dX1_forgetOldestSwap_36 : decode cX1_forgetOldestSwap 36 = .ok (.iinc 1 1, 3) := by decide +kernel
theorem dX1_forgetOldestSwap_39 : decode cX1_forgetOldestSwap 39 = .ok (.goto (-37), 3) := by decide +kernel
theorem dX1_forgetOldestSwap_42 : decode cX1_forgetOldestSwap 42 = .ok (.aload_n 0, 1) := by decide +kernel
theorem dX1_forgetOldestSwap_43 : decode cX1_forgetOldestSwap 43 = .ok (.bipush 29, 2) := by decide +kernel
theorem dX1_forgetOldestSwap_45 : decode cX1_forgetOldestSwap 45 = .ok (.putfield 38, 3) := by decide +kernel
theorem dX1_forgetOldestSwap_48 : decode cX1_forgetOldestSwap 48 = .ok (.return_, 1) := by decide +kernel
theorem dX1_closeness_0 : decode cX1_closeness 0 = .ok (.iload_n 1, 1) := by decide +kernel
theorem dX1_closeness_1 : decode cX1_closeness 1 = .ok (.iload_n 2, 1) := by decide +kernel
theorem dX1_closeness_2 : decode cX1_closeness 2 = .ok (.if_icmp .ne 5, 3) := by decide +kernel
theorem dX1_closeness_5 : decode cX1_closeness 5 = .ok (.iconst 0, 1) := by decide +kernel
theorem dX1_closeness_6 : decode cX1_closeness 6 = .ok (.ireturn, 1) := by decide +kernel
theorem dX1_closeness_7 : decode cX1_closeness 7 = .ok (.aload_n 0, 1) := by decide +kernel
theorem dX1_closeness_8 : decode cX1_closeness 8 = .ok (.getfield 29, 3) := by decide +kernel
theorem dX1_closeness_11 : decode cX1_closeness 11 = .ok (.iload_n 1, 1) := by decide +kernel
theorem dX1_closeness_12 : decode cX1_closeness 12 = .ok (.iaload, 1) := by decide +kernel
theorem dX1_closeness_13 : decode cX1_closeness 13 = .ok (.aload_n 0, 1) := by decide +kernel
theorem dX1_closeness_14 : decode cX1_closeness 14 = .ok (.getfield 29, 3) := by decide +kernel
theorem dX1_closeness_17 : decode cX1_closeness 17 = .ok (.iload_n 2, 1) := by decide +kernel
theorem dX1_closeness_18 : decode cX1_closeness 18 = .ok (.iaload, 1) := by decide +kernel
theorem dX1_closeness_19 : decode cX1_closeness 19 = .ok (.isub, 1) := by decide +kernel
theorem dX1_closeness_20 : decode cX1_closeness 20 = .ok (.invokestatic 141, 3) := by decide +kernel
theorem dX1_closeness_23 : decode cX1_closeness 23 = .ok (.istore_n 3, 1) := by decide +kernel
theorem dX1_closeness_24 : decode cX1_closeness 24 = .ok (.iconst 0, 1) := by decide +kernel
theorem dX1_closeness_25 : decode cX1_closeness 25 = .ok (.aload_n 0, 1) := by decide +kernel
theorem dX1_closeness_26 : decode cX1_closeness 26 = .ok (.getfield 20, 3) := by decide +kernel
theorem dX1_closeness_29 : decode cX1_closeness 29 = .ok (.iconst 1, 1) := by decide +kernel
theorem dX1_closeness_30 : decode cX1_closeness 30 = .ok (.iadd, 1) := by decide +kernel
theorem dX1_closeness_31 : decode cX1_closeness 31 = .ok (.iload_n 3, 1) := by decide +kernel
theorem dX1_closeness_32 : decode cX1_closeness 32 = .ok (.isub, 1) := by decide +kernel
theorem dX1_closeness_33 : decode cX1_closeness 33 = .ok (.invokestatic 146, 3) := by decide +kernel
theorem dX1_closeness_36 : decode cX1_closeness 36 = .ok (.ireturn, 1) := by decide +kernel
set_option maxRecDepth 20000 in
theorem ggX1_closenessOf_X1_closeness : GoodIn wsX1_closenessOf wsX1_closeness := goodIn_r _ [7, 8, 9, 10, 11, 12, 13, 14, 15, 16, 17, 18, 19, 20, 21, 22, 23, 24, 25, 26, 27, 28] (by decide +kernel) (by decide +kernel)
set_option maxRecDepth 20000 in
theorem gX1_closenessOf_X1_closeness : GoodIn wsX1_closenessOf (wsV RX1 86 RX1 yX1_closeness wsX1_closeness) := goodIn_app (goodIn_of _ (by decide +kernel)) ggX1_closenessOf_X1_closeness
theorem dX1_closenessOf_0 : decode cX1_closenessOf 0 = .ok (.iconst 0, 1) := by decide +kernel
theorem dX1_closenessOf_1 : decode cX1_closenessOf 1 = .ok (.istore_n 2, 1) := by decide +kernel
theorem dX1_closenessOf_2 : decode cX1_closenessOf 2 = .ok (.iconst 1, 1) := by decide +kernel
theorem dX1_closenessOf_3 : decode cX1_closenessOf 3 = .ok (.istore_n 3, 1) := by decide +kernel
theorem dX1_closenessOf_4 : decode cX1_closenessOf 4 = .ok (.iload_n 3, 1) := by decide +kernel
theorem dX1_closenessOf_5 : decode cX1_closenessOf 5 = .ok (.aload_n 0, 1) := by decide +kernel
theorem dX1_closenessOf_6 : decode cX1_closenessOf 6 = .ok (.getfield 13, 3) := by decide +kernel
theorem dX1_closenessOf_9 : decode cX1_closenessOf 9 = .ok (.if_icmp .ge 52, 3) := by decide +kernel
theorem dX1_closenessOf_12 : decode cX1_closenessOf 12 = .ok (.aload_n 0, 1) := by decide +kernel
theorem dX1_closenessOf_13 : decode cX1_closenessOf 13 = .ok (.getfield 9, 3) := by decide +kernel
theorem dX1_closenessOf_16 : decode cX1_closenessOf 16 = .ok (.iload_n 3, 1) := by decide +kernel
theorem dX1_closenessOf_17 : decode cX1_closenessOf 17 = .ok (.iconst 1, 1) := by decide +kernel
theorem dX1_closenessOf_18 : decode cX1_closenessOf 18 = .ok (.isub, 1) := by decide +kernel
theorem dX1_closenessOf_19 : decode cX1_closenessOf 19 = .ok (.iaload, 1) := by decide +kernel
theorem dX1_closenessOf_20 : decode cX1_closenessOf 20 = .ok (.iload_n 1, 1) := by decide +kernel
theorem dX1_closenessOf_21 : decode cX1_closenessOf 21 = .ok (.if_icmp .eq 13, 3) := by decide +kernel
theorem dX1_closenessOf_24 : decode cX1_closenessOf 24 = .ok (.aload_n 0, 1) := by decide +kernel
theorem dX1_closenessOf_25 : decode cX1_closenessOf 25 = .ok (.getfield 9, 3) := by decide +kernel
theorem dX1_closenessOf_28 : decode cX1_closenessOf 28 = .ok (.iload_n 3, 1) := by decide +kernel
theorem dX1_closenessOf_29 : decode cX1_closenessOf 29 = .ok (.iaload, 1) := by decide +kernel
theorem dX1_closenessOf_30 : decode cX1_closenessOf 30 = .ok (.iload_n 1, 1) := by decide +kernel
theorem dX1_closenessOf_31 : decode cX1_closenessOf 31 = .ok (.if_icmp .ne 24, 3) := by decide +kernel
theorem dX1_closenessOf_34 : decode cX1_closenessOf 34 = .ok (.iload_n 2, 1) := by decide +kernel
theorem dX1_closenessOf_35 : decode cX1_closenessOf 35 = .ok (.aload_n 0, 1) := by decide +kernel
theorem dX1_closenessOf_36 : decode cX1_closenessOf 36 = .ok (.aload_n 0, 1) := by decide +kernel
theorem dX1_closenessOf_37 : decode cX1_closenessOf 37 = .ok (.getfield 9, 3) := by decide +kernel
theorem dX1_closenessOf_40 : decode cX1_closenessOf 40 = .ok (.iload_n 3, 1) := by decide +kernel
theorem dX1_closenessOf_41 : decode cX1_closenessOf 41 = .ok (.iconst 1, 1) := by decide +kernel
theorem dX1_closenessOf_42 : decode cX1_closenessOf 42 = .ok (.isub, 1) := by decide +kernel
theorem dX1_closenessOf_43 : decode cX1_closenessOf 43 = .ok (.iaload, 1) := by decide +kernel
theorem dX1_closenessOf_44 : decode cX1_closenessOf 44 = .ok (.aload_n 0, 1) := by decide +kernel
theorem dX1_closenessOf_45 : decode cX1_closenessOf 45 = .ok (.getfield 9, 3) := by decide +kernel
theorem dX1_closenessOf_48 : decode cX1_closenessOf 48 = .ok (.iload_n 3, 1) := by decide +kernel
theorem dX1_closenessOf_49 : decode cX1_closenessOf 49 = .ok (.iaload, 1) := by decide +kernel
theorem dX1_closenessOf_50 : decode cX1_closenessOf 50 = .ok (.invokevirtual 86, 3) := by decide +kernel
theorem dX1_closenessOf_53 : decode cX1_closenessOf 53 = .ok (.iadd, 1) := by decide +kernel
theorem dX1_closenessOf_54 : decode cX1_closenessOf 54 = .ok (.istore_n 2, 1) := by decide +kernel
theorem dX1_closenessOf_55 : decode cX1_closenessOf 55 = .ok (.iinc 3 1, 3) := by decide +kernel
theorem dX1_closenessOf_58 : decode cX1_closenessOf 58 = .ok (.goto (-54), 3) := by decide +kernel
theorem dX1_closenessOf_61 : decode cX1_closenessOf 61 = .ok (.iload_n 2, 1) := by decide +kernel
theorem dX1_closenessOf_62 : decode cX1_closenessOf 62 = .ok (.ireturn, 1) := by decide +kernel
set_option maxRecDepth 20000 in
theorem ggX1_costAfterSwap_X1_exchange : GoodIn wsX1_costAfterSwap wsX1_exchange := goodIn_r _ [5, 6, 7, 8, 9, 4, 10, 11, 30, 31, 32, 33, 34, 35, 36, 37, 38, 39, 40, 41] (by decide +kernel) (by decide +kernel)
set_option maxRecDepth 20000 in
theorem gX1_costAfterSwap_X1_exchange : GoodIn wsX1_costAfterSwap (wsV RX1 83 RX1 yX1_exchange wsX1_exchange) := goodIn_app (goodIn_of _ (by decide +kernel)) ggX1_costAfterSwap_X1_exchange
set_option maxRecDepth 20000 in
theorem ggX1_costAfterSwap_X1_cost : GoodIn wsX1_costAfterSwap wsX1_cost := goodIn_r _ [15, 16, 17, 18, 19, 20, 4, 21, 11, 22, 23, 24, 25, 26, 27, 28, 29, 30, 31, 32, 33, 34, 35, 36, 37, 38, 39, 40, 41] (by decide +kernel) (by decide +kernel)
set_option maxRecDepth 20000 in
theorem gX1_costAfterSwap_X1_cost : GoodIn wsX1_costAfterSwap (wsV RX1 78 RX1 yX1_cost wsX1_cost) := goodIn_app (goodIn_of _ (by decide +kernel)) ggX1_costAfterSwap_X1_cost
theorem dX1_costAfterSwap_0 : decode cX1_costAfterSwap 0 = .ok (.aload_n 0, 1) := by decide +kernel
theorem dX1_costAfterSwap_1 : decode cX1_costAfterSwap 1 = .ok (.iload_n 1, 1) := by decide +kernel
theorem dX1_costAfterSwap_2 : decode cX1_costAfterSwap 2 = .ok (.iload_n 2, 1) := by decide +kernel
theorem dX1_costAfterSwap_3 : decode cX1_costAfterSwap 3 = .ok (.invokevirtual 83, 3) := by decide +kernel
theorem dX1_costAfterSwap_6 : decode cX1_costAfterSwap 6 = .ok (.aload_n 0, 1) := by decide +kernel
theorem dX1_costAfterSwap_7 : decode cX1_costAfterSwap 7 = .ok (.invokevirtual 78, 3) := by decide +kernel
theorem dX1_costAfterSwap_10 : decode cX1_costAfterSwap 10 = .ok (.istore_n 3, 1) := by decide +kernel
theorem dX1_costAfterSwap_11 : decode cX1_costAfterSwap 11 = .ok (.aload_n 0, 1) := by decide +kernel
theorem dX1_costAfterSwap_12 : decode cX1_costAfterSwap 12 = .ok (.iload_n 1, 1) := by decide +kernel
theorem dX1_costAfterSwap_13 : decode cX1_costAfterSwap 13 = .ok (.iload_n 2, 1) := by decide +kernel
theorem dX1_costAfterSwap_14 : decode cX1_costAfterSwap 14 = .ok (.invokevirtual 83, 3) := by decide +kernel
theorem dX1_costAfterSwap_17 : decode cX1_costAfterSwap 17 = .ok (.iload_n 3, 1) := by decide +kernel
theorem dX1_costAfterSwap_18 : decode cX1_costAfterSwap 18 = .ok (.ireturn, 1) := by decide +kernel
set_option maxRecDepth 20000 in
theorem ggX1_typeText_X0_begin : GoodIn wsX1_typeText wsX0_begin := goodIn_r _ [7, 8, 9, 10, 11, 12, 55, 56, 57, 58, 59, 60, 61] (by decide +kernel) (by decide +kernel)
set_option maxRecDepth 20000 in
theorem gX1_typeText_X0_begin_n149 : GoodIn wsX1_typeText (wsX0_begin) := ggX1_typeText_X0_begin
set_option maxRecDepth 20000 in
theorem ggX1_typeText_X1_strike : GoodIn wsX1_typeText wsX1_strike := goodIn_r _ [17, 18, 19, 20, 2, 21, 5, 22, 23, 12, 24, 25, 26, 27, 28, 29, 30, 31, 32, 33, 34, 35, 36, 37, 9, 38, 39, 40, 41, 8, 42, 43, 44, 45, 46, 47, 48, 49, 50, 51, 52, 53, 54, 55, 56, 57, 58, 59, 60, 61] (by decide +kernel) (by decide +kernel)
set_option maxRecDepth 20000 in
theorem gX1_typeText_X1_strike : GoodIn wsX1_typeText (wsV RX1 152 RX1 yX1_strike wsX1_strike) := goodIn_app (goodIn_of _ (by decide +kernel)) ggX1_typeText_X1_strike
theorem dX1_typeText_0 : decode cX1_typeText 0 = .ok (.aload_n 1, 1) := by decide +kernel
theorem dX1_typeText_1 : decode cX1_typeText 1 = .ok (.invokevirtual 149, 3) := by decide +kernel
theorem dX1_typeText_4 : decode cX1_typeText 4 = .ok (.iconst 0, 1) := by decide +kernel
theorem dX1_typeText_5 : decode cX1_typeText 5 = .ok (.istore_n 3, 1) := by decide +kernel
theorem dX1_typeText_6 : decode cX1_typeText 6 = .ok (.iconst 0, 1) := by decide +kernel
theorem dX1_typeText_7 : decode cX1_typeText 7 = .ok (.istore 4, 2) := by decide +kernel
theorem dX1_typeText_9 : decode cX1_typeText 9 = .ok (.iload 4, 2) := by decide +kernel
theorem dX1_typeText_11 : decode cX1_typeText 11 = .ok (.aload_n 0, 1) := by decide +kernel
theorem dX1_typeText_12 : decode cX1_typeText 12 = .ok (.getfield 13, 3) := by decide +kernel
theorem dX1_typeText_15 : decode cX1_typeText 15 = .ok (.if_icmp .ge 47, 3) := by decide +kernel
theorem dX1_typeText_18 : decode cX1_typeText 18 = .ok (.aload_n 0, 1) := by decide +kernel
theorem dX1_typeText_19 : decode cX1_typeText 19 = .ok (.aload_n 1, 1) := by decide +kernel
theorem dX1_typeText_20 : decode cX1_typeText 20 = .ok (.iload 4, 2) := by decide +kernel
theorem dX1_typeText_22 : decode cX1_typeText 22 = .ok (.iload_n 3, 1) := by decide +kernel
theorem dX1_typeText_23 : decode cX1_typeText 23 = .ok (.invokevirtual 152, 3) := by decide +kernel
theorem dX1_typeText_26 : decode cX1_typeText 26 = .ok (.istore 5, 2) := by decide +kernel
theorem dX1_typeText_28 : decode cX1_typeText 28 = .ok (.aload_n 1, 1) := by decide +kernel
theorem dX1_typeText_29 : decode cX1_typeText 29 = .ok (.iload_n 3, 1) := by decide +kernel
theorem dX1_typeText_30 : decode cX1_typeText 30 = .ok (.aload_n 0, 1) := by decide +kernel
theorem dX1_typeText_31 : decode cX1_typeText 31 = .ok (.getfield 17, 3) := by decide +kernel
theorem dX1_typeText_34 : decode cX1_typeText 34 = .ok (.iadd, 1) := by decide +kernel
theorem dX1_typeText_35 : decode cX1_typeText 35 = .ok (.putfield 112, 3) := by decide +kernel
theorem dX1_typeText_38 : decode cX1_typeText 38 = .ok (.iload_n 3, 1) := by decide +kernel
theorem dX1_typeText_39 : decode cX1_typeText 39 = .ok (.iload 5, 2) := by decide +kernel
theorem dX1_typeText_41 : decode cX1_typeText 41 = .ok (.ifCond .eq 12, 3) := by decide +kernel
theorem dX1_typeText_44 : decode cX1_typeText 44 = .ok (.iload_n 2, 1) := by decide +kernel
theorem dX1_typeText_45 : decode cX1_typeText 45 = .ok (.aload_n 0, 1) := by decide +kernel
theorem dX1_typeText_46 : decode cX1_typeText 46 = .ok (.getfield 23, 3) := by decide +kernel
theorem dX1_typeText_49 : decode cX1_typeText 49 = .ok (.iadd, 1) := by decide +kernel
theorem dX1_typeText_50 : decode cX1_typeText 50 = .ok (.goto 4, 3) := by decide +kernel
theorem dX1_typeText_53 : decode cX1_typeText 53 = .ok (.iload_n 2, 1) := by decide +kernel
theorem dX1_typeText_54 : decode cX1_typeText 54 = .ok (.iadd, 1) := by decide +kernel
theorem dX1_typeText_55 : decode cX1_typeText 55 = .ok (.istore_n 3, 1) := by decide +kernel
theorem dX1_typeText_56 : decode cX1_typeText 56 = .ok (.iinc 4 1, 3) := by decide +kernel
theorem dX1_typeText_59 : decode cX1_typeText 59 = .ok (.goto (-50), 3) := by decide +kernel
theorem dX1_typeText_62 : decode cX1_typeText 62 = .ok (.return_, 1) := by decide +kernel
set_option maxRecDepth 20000 in
theorem ggX1_strike_X0_inMotion : GoodIn wsX1_strike wsX0_inMotion := goodIn_r _ [8, 9, 43, 44, 45, 46, 47, 48, 49] (by decide +kernel) (by decide +kernel)
set_option maxRecDepth 20000 in
theorem gX1_strike_X0_inMotion_n156 : GoodIn wsX1_strike (wsX0_inMotion) := ggX1_strike_X0_inMotion
set_option maxRecDepth 20000 in
theorem ggX1_strike_X0_stopAround : GoodIn wsX1_strike wsX0_stopAround := goodIn_r _ [12, 13, 14, 15, 16, 17, 18, 19, 9, 20, 5, 7, 6, 8, 43, 44, 45, 46, 47, 48, 49] (by decide +kernel) (by decide +kernel)
set_option maxRecDepth 20000 in
theorem gX1_strike_X0_stopAround_n160 : GoodIn wsX1_strike (wsX0_stopAround) := ggX1_strike_X0_stopAround
set_option maxRecDepth 20000 in
theorem ggX1_strike_X0_addJammed : GoodIn wsX1_strike wsX0_addJammed := goodIn_r _ [23, 24, 25, 43, 44, 45, 46, 47, 48, 49] (by decide +kernel) (by decide +kernel)
set_option maxRecDepth 20000 in
theorem gX1_strike_X0_addJammed_n164 : GoodIn wsX1_strike (wsX0_addJammed) := ggX1_strike_X0_addJammed
set_option maxRecDepth 20000 in
theorem ggX1_strike_X0_addPrinted : GoodIn wsX1_strike wsX0_addPrinted := goodIn_r _ [28, 29, 30, 43, 44, 45, 46, 47, 48, 49] (by decide +kernel) (by decide +kernel)
set_option maxRecDepth 20000 in
theorem gX1_strike_X0_addPrinted_n168 : GoodIn wsX1_strike (wsX0_addPrinted) := ggX1_strike_X0_addPrinted
theorem dX1_strike_0 : decode cX1_strike 0 = .ok (.aload_n 0, 1) := by decide +kernel
theorem dX1_strike_1 : decode cX1_strike 1 = .ok (.getfield 9, 3) := by decide +kernel
theorem dX1_strike_4 : decode cX1_strike 4 = .ok (.iload_n 2, 1) := by decide +kernel
theorem dX1_strike_5 : decode cX1_strike 5 = .ok (.iaload, 1) := by decide +kernel
theorem dX1_strike_6 : decode cX1_strike 6 = .ok (.istore 4, 2) := by decide +kernel
theorem dX1_strike_8 : decode cX1_strike 8 = .ok (.aload_n 0, 1) := by decide +kernel
theorem dX1_strike_9 : decode cX1_strike 9 = .ok (.getfield 29, 3) := by decide +kernel
theorem dX1_strike_12 : decode cX1_strike 12 = .ok (.iload 4, 2) := by decide +kernel
theorem dX1_strike_14 : decode cX1_strike 14 = .ok (.iaload, 1) := by decide +kernel
theorem dX1_strike_15 : decode cX1_strike 15 = .ok (.istore 5, 2) := by decide +kernel
theorem dX1_strike_17 : decode cX1_strike 17 = .ok (.aload_n 1, 1) := by decide +kernel
theorem dX1_strike_18 : decode cX1_strike 18 = .ok (.iload 5, 2) := by decide +kernel
theorem dX1_strike_20 : decode cX1_strike 20 = .ok (.iload_n 3, 1) := by decide +kernel
theorem dX1_strike_21 : decode cX1_strike 21 = .ok (.invokevirtual 156, 3) := by decide +kernel
theorem dX1_strike_24 : decode cX1_strike 24 = .ok (.ifCond .eq 15, 3) := by decide +kernel
theorem dX1_strike_27 : decode cX1_strike 27 = .ok (.aload_n 1, 1) := by decide +kernel
theorem dX1_strike_28 : decode cX1_strike 28 = .ok (.dup, 1) := by decide +kernel
theorem dX1_strike_29 : decode cX1_strike 29 = .ok (.getfield 109, 3) := by decide +kernel
theorem dX1_strike_32 : decode cX1_strike 32 = .ok (.iconst 1, 1) := by decide +kernel
theorem dX1_strike_33 : decode cX1_strike 33 = .ok (.iadd, 1) := by decide +kernel
theorem dX1_strike_34 : decode cX1_strike 34 = .ok (.putfield 109, 3) := by decide +kernel
theorem dX1_strike_37 : decode cX1_strike 37 = .ok (.iconst 0, 1) := by decide +kernel
theorem dX1_strike_38 : decode cX1_strike 38 = .ok (.ireturn, 1) := by decide +kernel
theorem dX1_strike_39 : decode cX1_strike 39 = .ok (.aload_n 1, 1) := by decide +kernel
theorem dX1_strike_40 : decode cX1_strike 40 = .ok (.iload 5, 2) := by decide +kernel
theorem dX1_strike_42 : decode cX1_strike 42 = .ok (.aload_n 0, 1) := by decide +kernel
theorem dX1_strike_43 : decode cX1_strike 43 = .ok (.getfield 20, 3) := by decide +kernel
theorem dX1_strike_46 : decode cX1_strike 46 = .ok (.iload_n 3, 1) := by decide +kernel
theorem dX1_strike_47 : decode cX1_strike 47 = .ok (.invokevirtual 160, 3) := by decide +kernel
theorem dX1_strike_50 : decode cX1_strike 50 = .ok (.ifCond .eq 10, 3) := by decide +kernel
theorem dX1_strike_53 : decode cX1_strike 53 = .ok (.aload_n 1, 1) := by decide +kernel
theorem dX1_strike_54 : decode cX1_strike 54 = .ok (.iload_n 2, 1) := by decide +kernel
theorem dX1_strike_55 : decode cX1_strike 55 = .ok (.invokevirtual 164, 3) := by decide +kernel
theorem dX1_strike_58 : decode cX1_strike 58 = .ok (.iconst 1, 1) := by decide +kernel
theorem dX1_strike_59 : decode cX1_strike 59 = .ok (.ireturn, 1) := by decide +kernel
theorem dX1_strike_60 : decode cX1_strike 60 = .ok (.aload_n 1, 1) := by decide +kernel
theorem dX1_strike_61 : decode cX1_strike 61 = .ok (.iload 4, 2) := by decide +kernel
theorem dX1_strike_63 : decode cX1_strike 63 = .ok (.invokevirtual 168, 3) := by decide +kernel
theorem dX1_strike_66 : decode cX1_strike 66 = .ok (.aload_n 1, 1) := by decide +kernel
theorem dX1_strike_67 : decode cX1_strike 67 = .ok (.getfield 171, 3) := by decide +kernel
theorem dX1_strike_70 : decode cX1_strike 70 = .ok (.iload 5, 2) := by decide +kernel
theorem dX1_strike_72 : decode cX1_strike 72 = .ok (.iload_n 3, 1) := by decide +kernel
theorem dX1_strike_73 : decode cX1_strike 73 = .ok (.aload_n 0, 1) := by decide +kernel
theorem dX1_strike_74 : decode cX1_strike 74 = .ok (.getfield 17, 3) := by decide +kernel
theorem dX1_strike_77 : decode cX1_strike 77 = .ok (.iadd, 1) := by decide +kernel
theorem dX1_strike_78 : decode cX1_strike 78 = .ok (.iastore, 1) := by decide +kernel
theorem dX1_strike_79 : decode cX1_strike 79 = .ok (.iconst 0, 1) := by decide +kernel
theorem dX1_strike_80 : decode cX1_strike 80 = .ok (.ireturn, 1) := by decide +kernel
theorem dX1_mix_0 : decode cX1_mix 0 = .ok (.ldc2_w 174, 3) := by decide +kernel
theorem dX1_mix_3 : decode cX1_mix 3 = .ok (.lload_n 0, 1) := by decide +kernel
theorem dX1_mix_4 : decode cX1_mix 4 = .ok (.lmul, 1) := by decide +kernel
theorem dX1_mix_5 : decode cX1_mix 5 = .ok (.lload_n 2, 1) := by decide +kernel
theorem dX1_mix_6 : decode cX1_mix 6 = .ok (.ladd, 1) := by decide +kernel
theorem dX1_mix_7 : decode cX1_mix 7 = .ok (.lreturn, 1) := by decide +kernel
set_option maxRecDepth 20000 in
theorem ggX1_mixAll_X1_mix : GoodIn wsX1_mixAll wsX1_mix := goodIn_r _ [4, 5] (by decide +kernel) (by decide +kernel)
set_option maxRecDepth 20000 in
theorem gX1_mixAll_X1_mix : GoodIn wsX1_mixAll (va_wsS RX1 123 yX1_mix wsX1_mix) := goodIn_app (goodIn_of _ (by decide +kernel)) ggX1_mixAll_X1_mix
theorem dX1_mixAll_0 : decode cX1_mixAll 0 = .ok (.lload_n 0, 1) := by decide +kernel
theorem dX1_mixAll_1 : decode cX1_mixAll 1 = .ok (.lstore 4, 2) := by decide +kernel
theorem dX1_mixAll_3 : decode cX1_mixAll 3 = .ok (.iconst 0, 1) := by decide +kernel
theorem dX1_mixAll_4 : decode cX1_mixAll 4 = .ok (.istore 6, 2) := by decide +kernel
theorem dX1_mixAll_6 : decode cX1_mixAll 6 = .ok (.iload 6, 2) := by decide +kernel
theorem dX1_mixAll_8 : decode cX1_mixAll 8 = .ok (.iload_n 3, 1) := by decide +kernel
theorem dX1_mixAll_9 : decode cX1_mixAll 9 = .ok (.if_icmp .ge 28, 3) := by decide +kernel
theorem dX1_mixAll_12 : decode cX1_mixAll 12 = .ok (.iload 6, 2) := by decide +kernel
theorem dX1_mixAll_14 : decode cX1_mixAll 14 = .ok (.aload_n 2, 1) := by decide +kernel
theorem dX1_mixAll_15 : decode cX1_mixAll 15 = .ok (.arraylength, 1) := by decide +kernel
theorem dX1_mixAll_16 : decode cX1_mixAll 16 = .ok (.if_icmp .ge 21, 3) := by decide +kernel
theorem dX1_mixAll_19 : decode cX1_mixAll 19 = .ok (.lload 4, 2) := by decide +kernel
theorem dX1_mixAll_21 : decode cX1_mixAll 21 = .ok (.aload_n 2, 1) := by decide +kernel
theorem dX1_mixAll_22 : decode cX1_mixAll 22 = .ok (.iload 6, 2) := by decide +kernel
theorem dX1_mixAll_24 : decode cX1_mixAll 24 = .ok (.iaload, 1) := by decide +kernel
theorem dX1_mixAll_25 : decode cX1_mixAll 25 = .ok (.i2l, 1) := by decide +kernel
theorem dX1_mixAll_26 : decode cX1_mixAll 26 = .ok (.invokestatic 123, 3) := by decide +kernel
theorem dX1_mixAll_29 : decode cX1_mixAll 29 = .ok (.lstore 4, 2) := by decide +kernel
theorem dX1_mixAll_31 : decode cX1_mixAll 31 = .ok (.iinc 6 1, 3) := by decide +kernel
theorem dX1_mixAll_34 : decode cX1_mixAll 34 = .ok (.goto (-28), 3) := by decide +kernel
theorem dX1_mixAll_37 : decode cX1_mixAll 37 = .ok (.lload 4, 2) := by decide +kernel
theorem dX1_mixAll_39 : decode cX1_mixAll 39 = .ok (.lreturn, 1) := by decide +kernel
