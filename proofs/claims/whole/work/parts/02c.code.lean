theorem dX2_init_0 : decode cX2_init 0 = .ok (.aload_n 0, 1) := by decide +kernel
theorem dX2_init_1 : decode cX2_init 1 = .ok (.invokespecial 1, 3) := by decide +kernel
theorem dX2_init_4 : decode cX2_init 4 = .ok (.aload_n 0, 1) := by decide +kernel
theorem dX2_init_5 : decode cX2_init 5 = .ok (.bipush 60, 2) := by decide +kernel
theorem dX2_init_7 : decode cX2_init 7 = .ok (.newarray .int, 2) := by decide +kernel
theorem dX2_init_9 : decode cX2_init 9 = .ok (.putfield 7, 3) := by decide +kernel
theorem dX2_init_12 : decode cX2_init 12 = .ok (.aload_n 0, 1) := by decide +kernel
theorem dX2_init_13 : decode cX2_init 13 = .ok (.iconst 4, 1) := by decide +kernel
theorem dX2_init_14 : decode cX2_init 14 = .ok (.putfield 13, 3) := by decide +kernel
theorem dX2_init_17 : decode cX2_init 17 = .ok (.aload_n 0, 1) := by decide +kernel
theorem dX2_init_18 : decode cX2_init 18 = .ok (.iconst 2, 1) := by decide +kernel
theorem dX2_init_19 : decode cX2_init 19 = .ok (.putfield 17, 3) := by decide +kernel
theorem dX2_init_22 : decode cX2_init 22 = .ok (.aload_n 0, 1) := by decide +kernel
theorem dX2_init_23 : decode cX2_init 23 = .ok (.bipush 10, 2) := by decide +kernel
theorem dX2_init_25 : decode cX2_init 25 = .ok (.putfield 20, 3) := by decide +kernel
theorem dX2_init_28 : decode cX2_init 28 = .ok (.aload_n 0, 1) := by decide +kernel
theorem dX2_init_29 : decode cX2_init 29 = .ok (.bipush 12, 2) := by decide +kernel
theorem dX2_init_31 : decode cX2_init 31 = .ok (.newarray .int, 2) := by decide +kernel
theorem dX2_init_33 : decode cX2_init 33 = .ok (.putfield 23, 3) := by decide +kernel
theorem dX2_init_36 : decode cX2_init 36 = .ok (.aload_n 0, 1) := by decide +kernel
theorem dX2_init_37 : decode cX2_init 37 = .ok (.bipush 12, 2) := by decide +kernel
theorem dX2_init_39 : decode cX2_init 39 = .ok (.newarray .int, 2) := by decide +kernel
theorem dX2_init_41 : decode cX2_init 41 = .ok (.putfield 26, 3) := by decide +kernel
theorem dX2_init_44 : decode cX2_init 44 = .ok (.aload_n 0, 1) := by decide +kernel
theorem dX2_init_45 : decode cX2_init 45 = .ok (.bipush 31, 2) := by decide +kernel
theorem dX2_init_47 : decode cX2_init 47 = .ok (.newarray .int, 2) := by decide +kernel
theorem dX2_init_49 : decode cX2_init 49 = .ok (.putfield 29, 3) := by decide +kernel
theorem dX2_init_52 : decode cX2_init 52 = .ok (.aload_n 0, 1) := by decide +kernel
theorem dX2_init_53 : decode cX2_init 53 = .ok (.bipush 31, 2) := by decide +kernel
theorem dX2_init_55 : decode cX2_init 55 = .ok (.newarray .int, 2) := by decide +kernel
theorem dX2_init_57 : decode cX2_init 57 = .ok (.putfield 32, 3) := by decide +kernel
theorem dX2_init_60 : decode cX2_init 60 = .ok (.aload_n 0, 1) := by decide +kernel
theorem dX2_init_61 : decode cX2_init 61 = .ok (.bipush 60, 2) := by decide +kernel
theorem dX2_init_63 : decode cX2_init 63 = .ok (.newarray .int, 2) := by decide +kernel
theorem dX2_init_65 : decode cX2_init 65 = .ok (.putfield 35, 3) := by decide +kernel
theorem dX2_init_68 : decode cX2_init 68 = .ok (.aload_n 0, 1) := by decide +kernel
theorem dX2_init_69 : decode cX2_init 69 = .ok (.bipush 60, 2) := by decide +kernel
theorem dX2_init_71 : decode cX2_init 71 = .ok (.newarray .int, 2) := by decide +kernel
theorem dX2_init_73 : decode cX2_init 73 = .ok (.putfield 38, 3) := by decide +kernel
theorem dX2_init_76 : decode cX2_init 76 = .ok (.aload_n 0, 1) := by decide +kernel
theorem dX2_init_77 : decode cX2_init 77 = .ok (.bipush 12, 2) := by decide +kernel
theorem dX2_init_79 : decode cX2_init 79 = .ok (.newarray .int, 2) := by decide +kernel
theorem dX2_init_81 : decode cX2_init 81 = .ok (.putfield 41, 3) := by decide +kernel
theorem dX2_init_84 : decode cX2_init 84 = .ok (.aload_n 0, 1) := by decide +kernel
theorem dX2_init_85 : decode cX2_init 85 = .ok (.bipush 60, 2) := by decide +kernel
theorem dX2_init_87 : decode cX2_init 87 = .ok (.newarray .int, 2) := by decide +kernel
theorem dX2_init_89 : decode cX2_init 89 = .ok (.putfield 44, 3) := by decide +kernel
theorem dX2_init_92 : decode cX2_init 92 = .ok (.iconst 0, 1) := by decide +kernel
theorem dX2_init_93 : decode cX2_init 93 = .ok (.istore_n 1, 1) := by decide +kernel
theorem dX2_init_94 : decode cX2_init 94 = .ok (.iload_n 1, 1) := by decide +kernel
theorem dX2_init_95 : decode cX2_init 95 = .ok (.bipush 12, 2) := by decide +kernel
theorem dX2_init_97 : decode cX2_init 97 = .ok (.if_icmp .ge 23, 3) := by decide +kernel
theorem dX2_init_100 : decode cX2_init 100 = .ok (.aload_n 0, 1) := by decide +kernel
theorem dX2_init_101 : decode cX2_init 101 = .ok (.getfield 23, 3) := by decide +kernel
theorem dX2_init_104 : decode cX2_init 104 = .ok (.iload_n 1, 1) := by decide +kernel
theorem dX2_init_105 : decode cX2_init 105 = .ok (.iload_n 1, 1) := by decide +kernel
theorem dX2_init_106 : decode cX2_init 106 = .ok (.iastore, 1) := by decide +kernel
theorem dX2_init_107 : decode cX2_init 107 = .ok (.aload_n 0, 1) := by decide +kernel
theorem dX2_init_108 : decode cX2_init 108 = .ok (.getfield 26, 3) := by decide +kernel
theorem dX2_init_111 : decode cX2_init 111 = .ok (.iload_n 1, 1) := by decide +kernel
theorem dX2_init_112 : decode cX2_init 112 = .ok (.iload_n 1, 1) := by decide +kernel
theorem dX2_init_113 : decode cX2_init 113 = .ok (.iastore, 1) := by decide +kernel
theorem dX2_init_114 : decode cX2_init 114 = .ok (.iinc 1 1, 3) := by decide +kernel
theorem dX2_init_117 : decode cX2_init 117 = .ok (.goto (-23), 3) := by decide +kernel
theorem dX2_init_120 : decode cX2_init 120 = .ok (.return_, 1) := by decide +kernel
theorem dX2_within_0 : decode cX2_within 0 = .ok (.iload_n 0, 1) := by decide +kernel
theorem dX2_within_1 : decode cX2_within 1 = .ok (.iload_n 1, 1) := by decide +kernel
theorem dX2_within_2 : decode cX2_within 2 = .ok (.if_icmp .lt 12, 3) := by decide +kernel
theorem dX2_within_5 : decode cX2_within 5 = .ok (.iload_n 0, 1) := by decide +kernel
theorem dX2_within_6 : decode cX2_within 6 = .ok (.iload_n 2, 1) := by decide +kernel
theorem dX2_within_7 : decode cX2_within 7 = .ok (.if_icmp .gt 7, 3) := by decide +kernel
theorem dX2_within_10 : decode cX2_within 10 = .ok (.iconst 1, 1) := by decide +kernel
theorem dX2_within_11 : decode cX2_within 11 = .ok (.goto 4, 3) := by decide +kernel
theorem dX2_within_14 : decode cX2_within 14 = .ok (.iconst 0, 1) := by decide +kernel
theorem dX2_within_15 : decode cX2_within 15 = .ok (.ireturn, 1) := by decide +kernel
theorem dX2_apart_0 : decode cX2_apart 0 = .ok (.iload_n 0, 1) := by decide +kernel
theorem dX2_apart_1 : decode cX2_apart 1 = .ok (.iload_n 1, 1) := by decide +kernel
theorem dX2_apart_2 : decode cX2_apart 2 = .ok (.if_icmp .ge 9, 3) := by decide +kernel
theorem dX2_apart_5 : decode cX2_apart 5 = .ok (.iload_n 1, 1) := by decide +kernel
theorem dX2_apart_6 : decode cX2_apart 6 = .ok (.iload_n 0, 1) := by decide +kernel
theorem dX2_apart_7 : decode cX2_apart 7 = .ok (.isub, 1) := by decide +kernel
theorem dX2_apart_8 : decode cX2_apart 8 = .ok (.goto 6, 3) := by decide +kernel
theorem dX2_apart_11 : decode cX2_apart 11 = .ok (.iload_n 0, 1) := by decide +kernel
theorem dX2_apart_12 : decode cX2_apart 12 = .ok (.iload_n 1, 1) := by decide +kernel
theorem dX2_apart_13 : decode cX2_apart 13 = .ok (.isub, 1) := by decide +kernel
theorem dX2_apart_14 : decode cX2_apart 14 = .ok (.ireturn, 1) := by decide +kernel
set_option maxRecDepth 20000 in
theorem ggX2_append_X2_within : GoodIn wsX2_append wsX2_within := goodIn_r _ [8] (by decide +kernel) (by decide +kernel)
set_option maxRecDepth 20000 in
theorem gX2_append_X2_within : GoodIn wsX2_append (va_wsS RX2 47 yX2_within wsX2_within) := goodIn_app (goodIn_of _ (by decide +kernel)) ggX2_append_X2_within
theorem dX2_append_0 : decode cX2_append 0 = .ok (.iload_n 1, 1) := by decide +kernel
theorem dX2_append_1 : decode cX2_append 1 = .ok (.bipush 97, 2) := by decide +kernel
theorem dX2_append_3 : decode cX2_append 3 = .ok (.bipush 108, 2) := by decide +kernel
theorem dX2_append_5 : decode cX2_append 5 = .ok (.invokestatic 47, 3) := by decide +kernel
theorem dX2_append_8 : decode cX2_append 8 = .ok (.ifCond .ne 6, 3) := by decide +kernel
theorem dX2_append_11 : decode cX2_append 11 = .ok (.ldc 51, 2) := by decide +kernel
theorem dX2_append_13 : decode cX2_append 13 = .ok (.ireturn, 1) := by decide +kernel
theorem dX2_append_14 : decode cX2_append 14 = .ok (.aload_n 0, 1) := by decide +kernel
theorem dX2_append_15 : decode cX2_append 15 = .ok (.getfield 52, 3) := by decide +kernel
theorem dX2_append_18 : decode cX2_append 18 = .ok (.bipush 60, 2) := by decide +kernel
theorem dX2_append_20 : decode cX2_append 20 = .ok (.if_icmp .ne 6, 3) := by decide +kernel
theorem dX2_append_23 : decode cX2_append 23 = .ok (.ldc 55, 2) := by decide +kernel
theorem dX2_append_25 : decode cX2_append 25 = .ok (.ireturn, 1) := by decide +kernel
theorem dX2_append_26 : decode cX2_append 26 = .ok (.aload_n 0, 1) := by decide +kernel
theorem dX2_append_27 : decode cX2_append 27 = .ok (.getfield 7, 3) := by decide +kernel
theorem dX2_append_30 : decode cX2_append 30 = .ok (.aload_n 0, 1) := by decide +kernel
theorem dX2_append_31 : decode cX2_append 31 = .ok (.getfield 52, 3) := by decide +kernel
theorem dX2_append_34 : decode cX2_append 34 = .ok (.iload_n 1, 1) := by decide +kernel
theorem dX2_append_35 : decode cX2_append 35 = .ok (.bipush 97, 2) := by decide +kernel
theorem dX2_append_37 : decode cX2_append 37 = .ok (.isub, 1) := by decide +kernel
theorem dX2_append_38 : decode cX2_append 38 = .ok (.iastore, 1) := by decide +kernel
theorem dX2_append_39 : decode cX2_append 39 = .ok (.aload_n 0, 1) := by decide +kernel
theorem dX2_append_40 : decode cX2_append 40 = .ok (.dup, 1) := by decide +kernel
theorem dX2_append_41 : decode cX2_append 41 = .ok (.getfield 52, 3) := by decide +kernel
theorem dX2_append_44 : decode cX2_append 44 = .ok (.iconst 1, 1) := by decide +kernel
theorem dX2_append_45 : decode cX2_append 45 = .ok (.iadd, 1) := by decide +kernel
theorem dX2_append_46 : decode cX2_append 46 = .ok (.putfield 52, 3) := by decide +kernel
theorem dX2_append_49 : decode cX2_append 49 = .ok (.aload_n 0, 1) := by decide +kernel
theorem dX2_append_50 : decode cX2_append 50 = .ok (.getfield 52, 3) := by decide +kernel
theorem dX2_append_53 : decode cX2_append 53 = .ok (.ireturn, 1) := by decide +kernel
theorem dX2_clearText_0 : decode cX2_clearText 0 = .ok (.aload_n 0, 1) := by decide +kernel
theorem dX2_clearText_1 : decode cX2_clearText 1 = .ok (.getfield 52, 3) := by decide +kernel
theorem dX2_clearText_4 : decode cX2_clearText 4 = .ok (.istore_n 1, 1) := by decide +kernel
theorem dX2_clearText_5 : decode cX2_clearText 5 = .ok (.aload_n 0, 1) := by decide +kernel
theorem dX2_clearText_6 : decode cX2_clearText 6 = .ok (.iconst 0, 1) := by decide +kernel
theorem dX2_clearText_7 : decode cX2_clearText 7 = .ok (.putfield 52, 3) := by decide +kernel
theorem dX2_clearText_10 : decode cX2_clearText 10 = .ok (.iload_n 1, 1) := by decide +kernel
theorem dX2_clearText_11 : decode cX2_clearText 11 = .ok (.ireturn, 1) := by decide +kernel
set_option maxRecDepth 20000 in
theorem ggX2_isLetter_X2_within : GoodIn wsX2_isLetter wsX2_within := goodIn_r _ [4] (by decide +kernel) (by decide +kernel)
set_option maxRecDepth 20000 in
theorem gX2_isLetter_X2_within : GoodIn wsX2_isLetter (va_wsS RX2 47 yX2_within wsX2_within) := goodIn_app (goodIn_of _ (by decide +kernel)) ggX2_isLetter_X2_within
theorem dX2_isLetter_0 : decode cX2_isLetter 0 = .ok (.iload_n 0, 1) := by decide +kernel
theorem dX2_isLetter_1 : decode cX2_isLetter 1 = .ok (.iconst 0, 1) := by decide +kernel
theorem dX2_isLetter_2 : decode cX2_isLetter 2 = .ok (.bipush 11, 2) := by decide +kernel
theorem dX2_isLetter_4 : decode cX2_isLetter 4 = .ok (.invokestatic 47, 3) := by decide +kernel
theorem dX2_isLetter_7 : decode cX2_isLetter 7 = .ok (.ireturn, 1) := by decide +kernel
set_option maxRecDepth 20000 in
theorem ggX2_pairCount_X2_isLetter : GoodIn wsX2_pairCount wsX2_isLetter := goodIn_r _ [7, 8, 9, 6, 10] (by decide +kernel) (by decide +kernel)
set_option maxRecDepth 20000 in
theorem gX2_pairCount_X2_isLetter : GoodIn wsX2_pairCount (va_wsS RX2 56 yX2_isLetter wsX2_isLetter) := goodIn_app (goodIn_of _ (by decide +kernel)) ggX2_pairCount_X2_isLetter
theorem dX2_pairCount_0 : decode cX2_pairCount 0 = .ok (.iload_n 1, 1) := by decide +kernel
theorem dX2_pairCount_1 : decode cX2_pairCount 1 = .ok (.invokestatic 56, 3) := by decide +kernel
theorem dX2_pairCount_4 : decode cX2_pairCount 4 = .ok (.ifCond .eq 10, 3) := by decide +kernel
theorem dX2_pairCount_7 : decode cX2_pairCount 7 = .ok (.iload_n 2, 1) := by decide +kernel
theorem dX2_pairCount_8 : decode cX2_pairCount 8 = .ok (.invokestatic 56, 3) := by decide +kernel
theorem dX2_pairCount_11 : decode cX2_pairCount 11 = .ok (.ifCond .ne 6, 3) := by decide +kernel
theorem dX2_pairCount_14 : decode cX2_pairCount 14 = .ok (.ldc 60, 2) := by decide +kernel
theorem dX2_pairCount_16 : decode cX2_pairCount 16 = .ok (.ireturn, 1) := by decide +kernel
theorem dX2_pairCount_17 : decode cX2_pairCount 17 = .ok (.iconst 0, 1) := by decide +kernel
theorem dX2_pairCount_18 : decode cX2_pairCount 18 = .ok (.istore_n 3, 1) := by decide +kernel
theorem dX2_pairCount_19 : decode cX2_pairCount 19 = .ok (.iconst 1, 1) := by decide +kernel
theorem dX2_pairCount_20 : decode cX2_pairCount 20 = .ok (.istore 4, 2) := by decide +kernel
theorem dX2_pairCount_22 : decode cX2_pairCount 22 = .ok (.iload 4, 2) := by decide +kernel
theorem dX2_pairCount_24 : decode cX2_pairCount 24 = .ok (.aload_n 0, 1) := by decide +kernel
theorem dX2_pairCount_25 : decode cX2_pairCount 25 = .ok (.getfield 52, 3) := by decide +kernel
theorem dX2_pairCount_28 : decode cX2_pairCount 28 = .ok (.if_icmp .ge 89, 3) := by decide +kernel
theorem dX2_pairCount_31 : decode cX2_pairCount 31 = .ok (.aload_n 0, 1) := by decide +kernel
theorem dX2_pairCount_32 : decode cX2_pairCount 32 = .ok (.getfield 7, 3) := by decide +kernel
theorem dX2_pairCount_35 : decode cX2_pairCount 35 = .ok (.iload 4, 2) := by decide +kernel
theorem dX2_pairCount_37 : decode cX2_pairCount 37 = .ok (.iconst 1, 1) := by decide +kernel
theorem dX2_pairCount_38 : decode cX2_pairCount 38 = .ok (.isub, 1) := by decide +kernel
theorem dX2_pairCount_39 : decode cX2_pairCount 39 = .ok (.iaload, 1) := by decide +kernel
theorem dX2_pairCount_40 : decode cX2_pairCount 40 = .ok (.iload_n 1, 1) := by decide +kernel
theorem dX2_pairCount_41 : decode cX2_pairCount 41 = .ok (.if_icmp .ne 18, 3) := by decide +kernel
theorem dX2_pairCount_44 : decode cX2_pairCount 44 = .ok (.aload_n 0, 1) := by decide +kernel
theorem dX2_pairCount_45 : decode cX2_pairCount 45 = .ok (.getfield 7, 3) := by decide +kernel
theorem dX2_pairCount_48 : decode cX2_pairCount 48 = .ok (.iload 4, 2) := by decide +kernel
theorem dX2_pairCount_50 : decode cX2_pairCount 50 = .ok (.iaload, 1) := by decide +kernel
theorem dX2_pairCount_51 : decode cX2_pairCount 51 = .ok (.iload_n 2, 1) := by decide +kernel
theorem dX2_pairCount_52 : decode cX2_pairCount 52 = .ok (.if_icmp .ne 7, 3) := by decide +kernel
theorem dX2_pairCount_55 : decode cX2_pairCount 55 = .ok (.iconst 1, 1) := by decide +kernel
theorem dX2_pairCount_56 : decode cX2_pairCount 56 = .ok (.goto 4, 3) := by decide +kernel
theorem dX2_pairCount_59 : decode cX2_pairCount 59 = .ok (.iconst 0, 1) := by decide +kernel
theorem dX2_pairCount_60 : decode cX2_pairCount 60 = .ok (.istore 5, 2) := by decide +kernel
theorem dX2_pairCount_62 : decode cX2_pairCount 62 = .ok (.aload_n 0, 1) := by decide +kernel
theorem dX2_pairCount_63 : decode cX2_pairCount 63 = .ok (.getfield 7, 3) := by decide +kernel
theorem dX2_pairCount_66 : decode cX2_pairCount 66 = .ok (.iload 4, 2) := by decide +kernel
theorem dX2_pairCount_68 : decode cX2_pairCount 68 = .ok (.iconst 1, 1) := by decide +kernel
theorem dX2_pairCount_69 : decode cX2_pairCount 69 = .ok (.isub, 1) := by decide +kernel
theorem dX2_pairCount_70 : decode cX2_pairCount 70 = .ok (.iaload, 1) := by decide +kernel
theorem dX2_pairCount_71 : decode cX2_pairCount 71 = .ok (.iload_n 2, 1) := by decide +kernel
theorem dX2_pairCount_72 : decode cX2_pairCount 72 = .ok (.if_icmp .ne 18, 3) := by decide +kernel
theorem dX2_pairCount_75 : decode cX2_pairCount 75 = .ok (.aload_n 0, 1) := by decide +kernel
theorem dX2_pairCount_76 : decode cX2_pairCount 76 = .ok (.getfield 7, 3) := by decide +kernel
theorem dX2_pairCount_79 : decode cX2_pairCount 79 = .ok (.iload 4, 2) := by decide +kernel
theorem dX2_pairCount_81 : decode cX2_pairCount 81 = .ok (.iaload, 1) := by decide +kernel
theorem dX2_pairCount_82 : decode cX2_pairCount 82 = .ok (.iload_n 1, 1) := by decide +kernel
theorem dX2_pairCount_83 : decode cX2_pairCount 83 = .ok (.if_icmp .ne 7, 3) := by decide +kernel
theorem dX2_pairCount_86 : decode cX2_pairCount 86 = .ok (.iconst 1, 1) := by decide +kernel
theorem dX2_pairCount_87 : decode cX2_pairCount 87 = .ok (.goto 4, 3) := by decide +kernel
theorem dX2_pairCount_90 : decode cX2_pairCount 90 = .ok (.iconst 0, 1) := by decide +kernel
theorem dX2_pairCount_91 : decode cX2_pairCount 91 = .ok (.istore 6, 2) := by decide +kernel
theorem dX2_pairCount_93 : decode cX2_pairCount 93 = .ok (.iload_n 3, 1) := by decide +kernel
theorem dX2_pairCount_94 : decode cX2_pairCount 94 = .ok (.iload 5, 2) := by decide +kernel
theorem dX2_pairCount_96 : decode cX2_pairCount 96 = .ok (.ifCond .ne 8, 3) := by decide +kernel
theorem dX2_pairCount_99 : decode cX2_pairCount 99 = .ok (.iload 6, 2) := by decide +kernel
theorem dX2_pairCount_101 : decode cX2_pairCount 101 = .ok (.ifCond .eq 7, 3) := by decide +kernel
theorem dX2_pairCount_104 : decode cX2_pairCount 104 = .ok (.iconst 1, 1) := by decide +kernel
theorem dX2_pairCount_105 : decode cX2_pairCount 105 = .ok (.goto 4, 3) := by decide +kernel
theorem dX2_pairCount_108 : decode cX2_pairCount 108 = .ok (.iconst 0, 1) := by decide +kernel
theorem dX2_pairCount_109 : decode cX2_pairCount 109 = .ok (.iadd, 1) := by decide +kernel
theorem dX2_pairCount_110 : decode cX2_pairCount 110 = .ok (.istore_n 3, 1) := by decide +kernel
theorem dX2_pairCount_111 : decode cX2_pairCount 111 = .ok (.iinc 4 1, 3) := by decide +kernel
theorem dX2_pairCount_114 : decode cX2_pairCount 114 = .ok (.goto (-92), 3) := by decide +kernel
theorem dX2_pairCount_117 : decode cX2_pairCount 117 = .ok (.iload_n 3, 1) := by decide +kernel
theorem dX2_pairCount_118 : decode cX2_pairCount 118 = .ok (.ireturn, 1) := by decide +kernel
set_option maxRecDepth 20000 in
theorem ggX2_setTravelTime_X2_within : GoodIn wsX2_setTravelTime wsX2_within := goodIn_r _ [6] (by decide +kernel) (by decide +kernel)
set_option maxRecDepth 20000 in
theorem gX2_setTravelTime_X2_within : GoodIn wsX2_setTravelTime (va_wsS RX2 47 yX2_within wsX2_within) := goodIn_app (goodIn_of _ (by decide +kernel)) ggX2_setTravelTime_X2_within
theorem dX2_setTravelTime_0 : decode cX2_setTravelTime 0 = .ok (.iload_n 1, 1) := by decide +kernel
theorem dX2_setTravelTime_1 : decode cX2_setTravelTime 1 = .ok (.iconst 1, 1) := by decide +kernel
theorem dX2_setTravelTime_2 : decode cX2_setTravelTime 2 = .ok (.bipush 20, 2) := by decide +kernel
theorem dX2_setTravelTime_4 : decode cX2_setTravelTime 4 = .ok (.invokestatic 47, 3) := by decide +kernel
theorem dX2_setTravelTime_7 : decode cX2_setTravelTime 7 = .ok (.ifCond .ne 6, 3) := by decide +kernel
theorem dX2_setTravelTime_10 : decode cX2_setTravelTime 10 = .ok (.ldc 60, 2) := by decide +kernel
theorem dX2_setTravelTime_12 : decode cX2_setTravelTime 12 = .ok (.ireturn, 1) := by decide +kernel
theorem dX2_setTravelTime_13 : decode cX2_setTravelTime 13 = .ok (.aload_n 0, 1) := by decide +kernel
theorem dX2_setTravelTime_14 : decode cX2_setTravelTime 14 = .ok (.getfield 13, 3) := by decide +kernel
theorem dX2_setTravelTime_17 : decode cX2_setTravelTime 17 = .ok (.istore_n 2, 1) := by decide +kernel
theorem dX2_setTravelTime_18 : decode cX2_setTravelTime 18 = .ok (.aload_n 0, 1) := by decide +kernel
theorem dX2_setTravelTime_19 : decode cX2_setTravelTime 19 = .ok (.iload_n 1, 1) := by decide +kernel
theorem dX2_setTravelTime_20 : decode cX2_setTravelTime 20 = .ok (.putfield 13, 3) := by decide +kernel
theorem dX2_setTravelTime_23 : decode cX2_setTravelTime 23 = .ok (.iload_n 2, 1) := by decide +kernel
theorem dX2_setTravelTime_24 : decode cX2_setTravelTime 24 = .ok (.ireturn, 1) := by decide +kernel
set_option maxRecDepth 20000 in
theorem ggX2_setClashDistance_X2_within : GoodIn wsX2_setClashDistance wsX2_within := goodIn_r _ [6] (by decide +kernel) (by decide +kernel)
set_option maxRecDepth 20000 in
theorem gX2_setClashDistance_X2_within : GoodIn wsX2_setClashDistance (va_wsS RX2 47 yX2_within wsX2_within) := goodIn_app (goodIn_of _ (by decide +kernel)) ggX2_setClashDistance_X2_within
theorem dX2_setClashDistance_0 : decode cX2_setClashDistance 0 = .ok (.iload_n 1, 1) := by decide +kernel
theorem dX2_setClashDistance_1 : decode cX2_setClashDistance 1 = .ok (.iconst 1, 1) := by decide +kernel
theorem dX2_setClashDistance_2 : decode cX2_setClashDistance 2 = .ok (.iconst 5, 1) := by decide +kernel
theorem dX2_setClashDistance_3 : decode cX2_setClashDistance 3 = .ok (.invokestatic 47, 3) := by decide +kernel
theorem dX2_setClashDistance_6 : decode cX2_setClashDistance 6 = .ok (.ifCond .ne 6, 3) := by decide +kernel
theorem dX2_setClashDistance_9 : decode cX2_setClashDistance 9 = .ok (.ldc 60, 2) := by decide +kernel
theorem dX2_setClashDistance_11 : decode cX2_setClashDistance 11 = .ok (.ireturn, 1) := by decide +kernel
theorem dX2_setClashDistance_12 : decode cX2_setClashDistance 12 = .ok (.aload_n 0, 1) := by decide +kernel
theorem dX2_setClashDistance_13 : decode cX2_setClashDistance 13 = .ok (.getfield 17, 3) := by decide +kernel
theorem dX2_setClashDistance_16 : decode cX2_setClashDistance 16 = .ok (.istore_n 2, 1) := by decide +kernel
theorem dX2_setClashDistance_17 : decode cX2_setClashDistance 17 = .ok (.aload_n 0, 1) := by decide +kernel
theorem dX2_setClashDistance_18 : decode cX2_setClashDistance 18 = .ok (.iload_n 1, 1) := by decide +kernel
theorem dX2_setClashDistance_19 : decode cX2_setClashDistance 19 = .ok (.putfield 17, 3) := by decide +kernel
theorem dX2_setClashDistance_22 : decode cX2_setClashDistance 22 = .ok (.iload_n 2, 1) := by decide +kernel
theorem dX2_setClashDistance_23 : decode cX2_setClashDistance 23 = .ok (.ireturn, 1) := by decide +kernel
set_option maxRecDepth 20000 in
theorem ggX2_setClearingTime_X2_within : GoodIn wsX2_setClearingTime wsX2_within := goodIn_r _ [6] (by decide +kernel) (by decide +kernel)
set_option maxRecDepth 20000 in
theorem gX2_setClearingTime_X2_within : GoodIn wsX2_setClearingTime (va_wsS RX2 47 yX2_within wsX2_within) := goodIn_app (goodIn_of _ (by decide +kernel)) ggX2_setClearingTime_X2_within
theorem dX2_setClearingTime_0 : decode cX2_setClearingTime 0 = .ok (.iload_n 1, 1) := by decide +kernel
theorem dX2_setClearingTime_1 : decode cX2_setClearingTime 1 = .ok (.iconst 0, 1) := by decide +kernel
theorem dX2_setClearingTime_2 : decode cX2_setClearingTime 2 = .ok (.bipush 50, 2) := by decide +kernel
theorem dX2_setClearingTime_4 : decode cX2_setClearingTime 4 = .ok (.invokestatic 47, 3) := by decide +kernel
theorem dX2_setClearingTime_7 : decode cX2_setClearingTime 7 = .ok (.ifCond .ne 6, 3) := by decide +kernel
theorem dX2_setClearingTime_10 : decode cX2_setClearingTime 10 = .ok (.ldc 60, 2) := by decide +kernel
theorem dX2_setClearingTime_12 : decode cX2_setClearingTime 12 = .ok (.ireturn, 1) := by decide +kernel
theorem dX2_setClearingTime_13 : decode cX2_setClearingTime 13 = .ok (.aload_n 0, 1) := by decide +kernel
theorem dX2_setClearingTime_14 : decode cX2_setClearingTime 14 = .ok (.getfield 20, 3) := by decide +kernel
theorem dX2_setClearingTime_17 : decode cX2_setClearingTime 17 = .ok (.istore_n 2, 1) := by decide +kernel
theorem dX2_setClearingTime_18 : decode cX2_setClearingTime 18 = .ok (.aload_n 0, 1) := by decide +kernel
theorem dX2_setClearingTime_19 : decode cX2_setClearingTime 19 = .ok (.iload_n 1, 1) := by decide +kernel
theorem dX2_setClearingTime_20 : decode cX2_setClearingTime 20 = .ok (.putfield 20, 3) := by decide +kernel
theorem dX2_setClearingTime_23 : decode cX2_setClearingTime 23 = .ok (.iload_n 2, 1) := by decide +kernel
theorem dX2_setClearingTime_24 : decode cX2_setClearingTime 24 = .ok (.ireturn, 1) := by decide +kernel
theorem dX2_isLayout_0 : decode cX2_isLayout 0 = .ok (.iconst 0, 1) := by decide +kernel
theorem dX2_isLayout_1 : decode cX2_isLayout 1 = .ok (.istore_n 1, 1) := by decide +kernel
theorem dX2_isLayout_2 : decode cX2_isLayout 2 = .ok (.iconst 0, 1) := by decide +kernel
theorem dX2_isLayout_3 : decode cX2_isLayout 3 = .ok (.istore_n 2, 1) := by decide +kernel
theorem dX2_isLayout_4 : decode cX2_isLayout 4 = .ok (.iload_n 2, 1) := by decide +kernel
theorem dX2_isLayout_5 : decode cX2_isLayout 5 = .ok (.aload_n 0, 1) := by decide +kernel
theorem dX2_isLayout_6 : decode cX2_isLayout 6 = .ok (.getfield 52, 3) := by decide +kernel
theorem dX2_isLayout_9 : decode cX2_isLayout 9 = .ok (.if_icmp .ge 20, 3) := by decide +kernel
theorem dX2_isLayout_12 : decode cX2_isLayout 12 = .ok (.iload_n 1, 1) := by decide +kernel
theorem dX2_isLayout_13 : decode cX2_isLayout 13 = .ok (.iconst 1, 1) := by decide +kernel
theorem dX2_isLayout_14 : decode cX2_isLayout 14 = .ok (.aload_n 0, 1) := by decide +kernel
theorem dX2_isLayout_15 : decode cX2_isLayout 15 = .ok (.getfield 7, 3) := by decide +kernel
theorem dX2_isLayout_18 : decode cX2_isLayout 18 = .ok (.iload_n 2, 1) := by decide +kernel
theorem dX2_isLayout_19 : decode cX2_isLayout 19 = .ok (.iaload, 1) := by decide +kernel
theorem dX2_isLayout_20 : decode cX2_isLayout 20 = .ok (.ishl, 1) := by decide +kernel
theorem dX2_isLayout_21 : decode cX2_isLayout 21 = .ok (.ior, 1) := by decide +kernel
theorem dX2_isLayout_22 : decode cX2_isLayout 22 = .ok (.istore_n 1, 1) := by decide +kernel
theorem dX2_isLayout_23 : decode cX2_isLayout 23 = .ok (.iinc 2 1, 3) := by decide +kernel
theorem dX2_isLayout_26 : decode cX2_isLayout 26 = .ok (.goto (-22), 3) := by decide +kernel
theorem dX2_isLayout_29 : decode cX2_isLayout 29 = .ok (.aload_n 0, 1) := by decide +kernel
theorem dX2_isLayout_30 : decode cX2_isLayout 30 = .ok (.getfield 52, 3) := by decide +kernel
theorem dX2_isLayout_33 : decode cX2_isLayout 33 = .ok (.bipush 12, 2) := by decide +kernel
theorem dX2_isLayout_35 : decode cX2_isLayout 35 = .ok (.if_icmp .ne 14, 3) := by decide +kernel
theorem dX2_isLayout_38 : decode cX2_isLayout 38 = .ok (.iload_n 1, 1) := by decide +kernel
theorem dX2_isLayout_39 : decode cX2_isLayout 39 = .ok (.sipush 4095, 3) := by decide +kernel
theorem dX2_isLayout_42 : decode cX2_isLayout 42 = .ok (.if_icmp .ne 7, 3) := by decide +kernel
theorem dX2_isLayout_45 : decode cX2_isLayout 45 = .ok (.iconst 1, 1) := by decide +kernel
theorem dX2_isLayout_46 : decode cX2_isLayout 46 = .ok (.goto 4, 3) := by decide +kernel
theorem dX2_isLayout_49 : decode cX2_isLayout 49 = .ok (.iconst 0, 1) := by decide +kernel
theorem dX2_isLayout_50 : decode cX2_isLayout 50 = .ok (.ireturn, 1) := by decide +kernel
set_option maxRecDepth 20000 in
theorem ggX2_loadLayout_X2_isLayout : GoodIn wsX2_loadLayout wsX2_isLayout := goodIn_r _ [11, 5, 3, 12, 13, 14, 15, 16, 17, 18, 19, 20, 21, 22, 23, 24, 25, 26, 27, 28, 29, 30, 31] (by decide +kernel) (by decide +kernel)
set_option maxRecDepth 20000 in
theorem gX2_loadLayout_X2_isLayout : GoodIn wsX2_loadLayout (wsV RX2 61 RX2 yX2_isLayout wsX2_isLayout) := goodIn_app (goodIn_of _ (by decide +kernel)) ggX2_loadLayout_X2_isLayout
theorem dX2_loadLayout_0 : decode cX2_loadLayout 0 = .ok (.aload_n 0, 1) := by decide +kernel
theorem dX2_loadLayout_1 : decode cX2_loadLayout 1 = .ok (.invokevirtual 61, 3) := by decide +kernel
theorem dX2_loadLayout_4 : decode cX2_loadLayout 4 = .ok (.ifCond .ne 6, 3) := by decide +kernel
theorem dX2_loadLayout_7 : decode cX2_loadLayout 7 = .ok (.ldc 65, 2) := by decide +kernel
theorem dX2_loadLayout_9 : decode cX2_loadLayout 9 = .ok (.ireturn, 1) := by decide +kernel
theorem dX2_loadLayout_10 : decode cX2_loadLayout 10 = .ok (.iconst 0, 1) := by decide +kernel
theorem dX2_loadLayout_11 : decode cX2_loadLayout 11 = .ok (.istore_n 1, 1) := by decide +kernel
theorem dX2_loadLayout_12 : decode cX2_loadLayout 12 = .ok (.iload_n 1, 1) := by decide +kernel
theorem dX2_loadLayout_13 : decode cX2_loadLayout 13 = .ok (.bipush 12, 2) := by decide +kernel
theorem dX2_loadLayout_15 : decode cX2_loadLayout 15 = .ok (.if_icmp .ge 33, 3) := by decide +kernel
theorem dX2_loadLayout_18 : decode cX2_loadLayout 18 = .ok (.aload_n 0, 1) := by decide +kernel
theorem dX2_loadLayout_19 : decode cX2_loadLayout 19 = .ok (.getfield 26, 3) := by decide +kernel
theorem dX2_loadLayout_22 : decode cX2_loadLayout 22 = .ok (.iload_n 1, 1) := by decide +kernel
theorem dX2_loadLayout_23 : decode cX2_loadLayout 23 = .ok (.aload_n 0, 1) := by decide +kernel
theorem dX2_loadLayout_24 : decode cX2_loadLayout 24 = .ok (.getfield 7, 3) := by decide +kernel
theorem dX2_loadLayout_27 : decode cX2_loadLayout 27 = .ok (.iload_n 1, 1) := by decide +kernel
theorem dX2_loadLayout_28 : decode cX2_loadLayout 28 = .ok (.iaload, 1) := by decide +kernel
theorem dX2_loadLayout_29 : decode cX2_loadLayout 29 = .ok (.iastore, 1) := by decide +kernel
theorem dX2_loadLayout_30 : decode cX2_loadLayout 30 = .ok (.aload_n 0, 1) := by decide +kernel
theorem dX2_loadLayout_31 : decode cX2_loadLayout 31 = .ok (.getfield 23, 3) := by decide +kernel
theorem dX2_loadLayout_34 : decode cX2_loadLayout 34 = .ok (.aload_n 0, 1) := by decide +kernel
theorem dX2_loadLayout_35 : decode cX2_loadLayout 35 = .ok (.getfield 7, 3) := by decide +kernel
theorem dX2_loadLayout_38 : decode cX2_loadLayout 38 = .ok (.iload_n 1, 1) := by decide +kernel
theorem dX2_loadLayout_39 : decode cX2_loadLayout 39 = .ok (.iaload, 1) := by decide +kernel
theorem dX2_loadLayout_40 : decode cX2_loadLayout 40 = .ok (.iload_n 1, 1) := by decide +kernel
theorem dX2_loadLayout_41 : decode cX2_loadLayout 41 = .ok (.iastore, 1) := by decide +kernel
theorem dX2_loadLayout_42 : decode cX2_loadLayout 42 = .ok (.iinc 1 1, 3) := by decide +kernel
theorem dX2_loadLayout_45 : decode cX2_loadLayout 45 = .ok (.goto (-33), 3) := by decide +kernel
theorem dX2_loadLayout_48 : decode cX2_loadLayout 48 = .ok (.aload_n 0, 1) := by decide +kernel
theorem dX2_loadLayout_49 : decode cX2_loadLayout 49 = .ok (.iconst 0, 1) := by decide +kernel
theorem dX2_loadLayout_50 : decode cX2_loadLayout 50 = .ok (.putfield 52, 3) := by decide +kernel
theorem dX2_loadLayout_53 : decode cX2_loadLayout 53 = .ok (.aload_n 0, 1) := by decide +kernel
theorem dX2_loadLayout_54 : decode cX2_loadLayout 54 = .ok (.iconst 0, 1) := by decide +kernel
theorem dX2_loadLayout_55 : decode cX2_loadLayout 55 = .ok (.putfield 66, 3) := by decide +kernel
theorem dX2_loadLayout_58 : decode cX2_loadLayout 58 = .ok (.bipush 12, 2) := by decide +kernel
theorem dX2_loadLayout_60 : decode cX2_loadLayout 60 = .ok (.ireturn, 1) := by decide +kernel
set_option maxRecDepth 20000 in
theorem ggX2_letterAt_X2_within : GoodIn wsX2_letterAt wsX2_within := goodIn_r _ [6] (by decide +kernel) (by decide +kernel)
set_option maxRecDepth 20000 in
theorem gX2_letterAt_X2_within : GoodIn wsX2_letterAt (va_wsS RX2 47 yX2_within wsX2_within) := goodIn_app (goodIn_of _ (by decide +kernel)) ggX2_letterAt_X2_within
theorem dX2_letterAt_0 : decode cX2_letterAt 0 = .ok (.iload_n 1, 1) := by decide +kernel
theorem dX2_letterAt_1 : decode cX2_letterAt 1 = .ok (.iconst 0, 1) := by decide +kernel
theorem dX2_letterAt_2 : decode cX2_letterAt 2 = .ok (.bipush 11, 2) := by decide +kernel
theorem dX2_letterAt_4 : decode cX2_letterAt 4 = .ok (.invokestatic 47, 3) := by decide +kernel
theorem dX2_letterAt_7 : decode cX2_letterAt 7 = .ok (.ifCond .eq 12, 3) := by decide +kernel
theorem dX2_letterAt_10 : decode cX2_letterAt 10 = .ok (.aload_n 0, 1) := by decide +kernel
theorem dX2_letterAt_11 : decode cX2_letterAt 11 = .ok (.getfield 26, 3) := by decide +kernel
theorem dX2_letterAt_14 : decode cX2_letterAt 14 = .ok (.iload_n 1, 1) := by decide +kernel
theorem dX2_letterAt_15 : decode cX2_letterAt 15 = .ok (.iaload, 1) := by decide +kernel
theorem dX2_letterAt_16 : decode cX2_letterAt 16 = .ok (.goto 5, 3) := by decide +kernel
theorem dX2_letterAt_19 : decode cX2_letterAt 19 = .ok (.ldc 60, 2) := by decide +kernel
theorem dX2_letterAt_21 : decode cX2_letterAt 21 = .ok (.ireturn, 1) := by decide +kernel
set_option maxRecDepth 20000 in
theorem ggX2_positionOf_X2_isLetter : GoodIn wsX2_positionOf wsX2_isLetter := goodIn_r _ [6, 7, 8, 5, 9] (by decide +kernel) (by decide +kernel)
set_option maxRecDepth 20000 in
theorem gX2_positionOf_X2_isLetter : GoodIn wsX2_positionOf (va_wsS RX2 56 yX2_isLetter wsX2_isLetter) := goodIn_app (goodIn_of _ (by decide +kernel)) ggX2_positionOf_X2_isLetter
theorem dX2_positionOf_0 : decode cX2_positionOf 0 = .ok (.iload_n 1, 1) := by decide +kernel
theorem dX2_positionOf_1 : decode cX2_positionOf 1 = .ok (.invokestatic 56, 3) := by decide +kernel
theorem dX2_positionOf_4 : decode cX2_positionOf 4 = .ok (.ifCond .eq 12, 3) := by decide +kernel
theorem dX2_positionOf_7 : decode cX2_positionOf 7 = .ok (.aload_n 0, 1) := by decide +kernel
theorem dX2_positionOf_8 : decode cX2_positionOf 8 = .ok (.getfield 23, 3) := by decide +kernel
theorem dX2_positionOf_11 : decode cX2_positionOf 11 = .ok (.iload_n 1, 1) := by decide +kernel
theorem dX2_positionOf_12 : decode cX2_positionOf 12 = .ok (.iaload, 1) := by decide +kernel
theorem dX2_positionOf_13 : decode cX2_positionOf 13 = .ok (.goto 5, 3) := by decide +kernel
theorem dX2_positionOf_16 : decode cX2_positionOf 16 = .ok (.ldc 60, 2) := by decide +kernel
theorem dX2_positionOf_18 : decode cX2_positionOf 18 = .ok (.ireturn, 1) := by decide +kernel
theorem dX2_exchange_0 : decode cX2_exchange 0 = .ok (.aload_n 0, 1) := by decide +kernel
theorem dX2_exchange_1 : decode cX2_exchange 1 = .ok (.getfield 26, 3) := by decide +kernel
theorem dX2_exchange_4 : decode cX2_exchange 4 = .ok (.iload_n 1, 1) := by decide +kernel
theorem dX2_exchange_5 : decode cX2_exchange 5 = .ok (.iaload, 1) := by decide +kernel
theorem dX2_exchange_6 : decode cX2_exchange 6 = .ok (.istore_n 3, 1) := by decide +kernel
theorem dX2_exchange_7 : decode cX2_exchange 7 = .ok (.aload_n 0, 1) := by decide +kernel
theorem dX2_exchange_8 : decode cX2_exchange 8 = .ok (.getfield 26, 3) := by decide +kernel
theorem dX2_exchange_11 : decode cX2_exchange 11 = .ok (.iload_n 1, 1) := by decide +kernel
theorem dX2_exchange_12 : decode cX2_exchange 12 = .ok (.aload_n 0, 1) := by decide +kernel
theorem dX2_exchange_13 : decode cX2_exchange 13 = .ok (.getfield 26, 3) := by decide +kernel
theorem dX2_exchange_16 : decode cX2_exchange 16 = .ok (.iload_n 2, 1) := by decide +kernel
theorem dX2_exchange_17 : decode cX2_exchange 17 = .ok (.iaload, 1) := by decide +kernel
theorem dX2_exchange_18 : decode cX2_exchange 18 = .ok (.iastore, 1) := by decide +kernel
theorem dX2_exchange_19 : decode cX2_exchange 19 = .ok (.aload_n 0, 1) := by decide +kernel
theorem dX2_exchange_20 : decode cX2_exchange 20 = .ok (.getfield 26, 3) := by decide +kernel
theorem dX2_exchange_23 : decode cX2_exchange 23 = .ok (.iload_n 2, 1) := by decide +kernel
theorem dX2_exchange_24 : decode cX2_exchange 24 = .ok (.iload_n 3, 1) := by decide +kernel
theorem dX2_exchange_25 : decode cX2_exchange 25 = .ok (.iastore, 1) := by decide +kernel
theorem dX2_exchange_26 : decode cX2_exchange 26 = .ok (.aload_n 0, 1) := by decide +kernel
theorem dX2_exchange_27 : decode cX2_exchange 27 = .ok (.getfield 23, 3) := by decide +kernel
theorem dX2_exchange_30 : decode cX2_exchange 30 = .ok (.aload_n 0, 1) := by decide +kernel
theorem dX2_exchange_31 : decode cX2_exchange 31 = .ok (.getfield 26, 3) := by decide +kernel
theorem dX2_exchange_34 : decode cX2_exchange 34 = .ok (.iload_n 1, 1) := by decide +kernel
theorem dX2_exchange_35 : decode cX2_exchange 35 = .ok (.iaload, 1) := by decide +kernel
theorem dX2_exchange_36 : decode cX2_exchange 36 = .ok (.iload_n 1, 1) := by decide +kernel
theorem dX2_exchange_37 : decode cX2_exchange 37 = .ok (.iastore, 1) := by decide +kernel
theorem dX2_exchange_38 : decode cX2_exchange 38 = .ok (.aload_n 0, 1) := by decide +kernel
theorem dX2_exchange_39 : decode cX2_exchange 39 = .ok (.getfield 23, 3) := by decide +kernel
theorem dX2_exchange_42 : decode cX2_exchange 42 = .ok (.aload_n 0, 1) := by decide +kernel
theorem dX2_exchange_43 : decode cX2_exchange 43 = .ok (.getfield 26, 3) := by decide +kernel
theorem dX2_exchange_46 : decode cX2_exchange 46 = .ok (.iload_n 2, 1) := by decide +kernel
theorem dX2_exchange_47 : decode cX2_exchange 47 = .ok (.iaload, 1) := by decide +kernel
theorem dX2_exchange_48 : decode cX2_exchange 48 = .ok (.iload_n 2, 1) := by decide +kernel
theorem dX2_exchange_49 : decode cX2_exchange 49 = .ok (.iastore, 1) := by decide +kernel
theorem dX2_exchange_50 : decode cX2_exchange 50 = .ok (.return_, 1) := by decide +kernel
set_option maxRecDepth 20000 in
theorem ggX2_swapNow_X2_exchange : GoodIn wsX2_swapNow wsX2_exchange := goodIn_r _ [8, 9, 10, 11, 12, 13, 14, 15, 16, 17, 18, 19, 20, 21, 22, 23, 24, 25, 26, 27, 28, 29, 30] (by decide +kernel) (by decide +kernel)
set_option maxRecDepth 20000 in
theorem gX2_swapNow_X2_exchange : GoodIn wsX2_swapNow (wsV RX2 69 RX2 yX2_exchange wsX2_exchange) := goodIn_app (goodIn_of _ (by decide +kernel)) ggX2_swapNow_X2_exchange
theorem dX2_swapNow_0 : decode cX2_swapNow 0 = .ok (.aload_n 0, 1) := by decide +kernel
theorem dX2_swapNow_1 : decode cX2_swapNow 1 = .ok (.iload_n 1, 1) := by decide +kernel
theorem dX2_swapNow_2 : decode cX2_swapNow 2 = .ok (.iload_n 2, 1) := by decide +kernel
theorem dX2_swapNow_3 : decode cX2_swapNow 3 = .ok (.invokevirtual 69, 3) := by decide +kernel
theorem dX2_swapNow_6 : decode cX2_swapNow 6 = .ok (.aload_n 0, 1) := by decide +kernel
theorem dX2_swapNow_7 : decode cX2_swapNow 7 = .ok (.getfield 29, 3) := by decide +kernel
theorem dX2_swapNow_10 : decode cX2_swapNow 10 = .ok (.aload_n 0, 1) := by decide +kernel
theorem dX2_swapNow_11 : decode cX2_swapNow 11 = .ok (.getfield 66, 3) := by decide +kernel
theorem dX2_swapNow_14 : decode cX2_swapNow 14 = .ok (.iload_n 1, 1) := by decide +kernel
theorem dX2_swapNow_15 : decode cX2_swapNow 15 = .ok (.iastore, 1) := by decide +kernel
theorem dX2_swapNow_16 : decode cX2_swapNow 16 = .ok (.aload_n 0, 1) := by decide +kernel
theorem dX2_swapNow_17 : decode cX2_swapNow 17 = .ok (.getfield 32, 3) := by decide +kernel
theorem dX2_swapNow_20 : decode cX2_swapNow 20 = .ok (.aload_n 0, 1) := by decide +kernel
theorem dX2_swapNow_21 : decode cX2_swapNow 21 = .ok (.getfield 66, 3) := by decide +kernel
theorem dX2_swapNow_24 : decode cX2_swapNow 24 = .ok (.iload_n 2, 1) := by decide +kernel
theorem dX2_swapNow_25 : decode cX2_swapNow 25 = .ok (.iastore, 1) := by decide +kernel
theorem dX2_swapNow_26 : decode cX2_swapNow 26 = .ok (.aload_n 0, 1) := by decide +kernel
theorem dX2_swapNow_27 : decode cX2_swapNow 27 = .ok (.dup, 1) := by decide +kernel
theorem dX2_swapNow_28 : decode cX2_swapNow 28 = .ok (.getfield 66, 3) := by decide +kernel
theorem dX2_swapNow_31 : decode cX2_swapNow 31 = .ok (.iconst 1, 1) := by decide +kernel
theorem dX2_swapNow_32 : decode cX2_swapNow 32 = .ok (.iadd, 1) := by decide +kernel
theorem dX2_swapNow_33 : decode cX2_swapNow 33 = .ok (.putfield 66, 3) := by decide +kernel
theorem dX2_swapNow_36 : decode cX2_swapNow 36 = .ok (.aload_n 0, 1) := by decide +kernel
theorem dX2_swapNow_37 : decode cX2_swapNow 37 = .ok (.getfield 66, 3) := by decide +kernel
theorem dX2_swapNow_40 : decode cX2_swapNow 40 = .ok (.bipush 30, 2) := by decide +kernel
theorem dX2_swapNow_42 : decode cX2_swapNow 42 = .ok (.if_icmp .le 57, 3) := by decide +kernel
theorem dX2_swapNow_45 : decode cX2_swapNow 45 = .ok (.aload_n 0, 1) := by decide +kernel
theorem dX2_swapNow_46 : decode cX2_swapNow 46 = .ok (.dup, 1) := by decide +kernel
theorem dX2_swapNow_47 : decode cX2_swapNow 47 = .ok (.getfield 66, 3) := by decide +kernel
theorem dX2_swapNow_50 : decode cX2_swapNow 50 = .ok (.iconst 1, 1) := by decide +kernel
theorem dX2_swapNow_51 : decode cX2_swapNow 51 = .ok (.isub, 1) := by decide +kernel
theorem dX2_swapNow_52 : decode cX2_swapNow 52 = .ok (.putfield 66, 3) := by decide +kernel
theorem dX2_swapNow_55 : decode cX2_swapNow 55 = .ok (.iconst 0, 1) := by decide +kernel
theorem dX2_swapNow_56 : decode cX2_swapNow 56 = .ok (.istore_n 3, 1) := by decide +kernel
theorem dX2_swapNow_57 : decode cX2_swapNow 57 = .ok (.iload_n 3, 1) := by decide +kernel
theorem dX2_swapNow_58 : decode cX2_swapNow 58 = .ok (.aload_n 0, 1) := by decide +kernel
theorem dX2_swapNow_59 : decode cX2_swapNow 59 = .ok (.getfield 66, 3) := by decide +kernel
theorem dX2_swapNow_62 : decode cX2_swapNow 62 = .ok (.if_icmp .ge 37, 3) := by decide +kernel
theorem dX2_swapNow_65 : decode cX2_swapNow 65 = .ok (.aload_n 0, 1) := by decide +kernel
theorem dX2_swapNow_66 : decode cX2_swapNow 66 = .ok (.getfield 29, 3) := by decide +kernel
theorem dX2_swapNow_69 : decode cX2_swapNow 69 = .ok (.iload_n 3, 1) := by decide +kernel
theorem dX2_swapNow_70 : decode cX2_swapNow 70 = .ok (.aload_n 0, 1) := by decide +kernel
theorem dX2_swapNow_71 : decode cX2_swapNow 71 = .ok (.getfield 29, 3) := by decide +kernel
theorem dX2_swapNow_74 : decode cX2_swapNow 74 = .ok (.iload_n 3, 1) := by decide +kernel
theorem dX2_swapNow_75 : decode cX2_swapNow 75 = .ok (.iconst 1, 1) := by decide +kernel
theorem dX2_swapNow_76 : decode cX2_swapNow 76 = .ok (.iadd, 1) := by decide +kernel
theorem dX2_swapNow_77 : decode cX2_swapNow 77 = .ok (.iaload, 1) := by decide +kernel
theorem dX2_swapNow_78 : decode cX2_swapNow 78 = .ok (.iastore, 1) := by decide +kernel
theorem dX2_swapNow_79 : decode cX2_swapNow 79 = .ok (.aload_n 0, 1) := by decide +kernel
theorem dX2_swapNow_80 : decode cX2_swapNow 80 = .ok (.getfield 32, 3) := by decide +kernel
theorem dX2_swapNow_83 : decode cX2_swapNow 83 = .ok (.iload_n 3, 1) := by decide +kernel
theorem dX2_swapNow_84 : decode cX2_swapNow 84 = .ok (.aload_n 0, 1) := by decide +kernel
theorem dX2_swapNow_85 : decode cX2_swapNow 85 = .ok (.getfield 32, 3) := by decide +kernel
theorem dX2_swapNow_88 : decode cX2_swapNow 88 = .ok (.iload_n 3, 1) := by decide +kernel
theorem dX2_swapNow_89 : decode cX2_swapNow 89 = .ok (.iconst 1, 1) := by decide +kernel
theorem dX2_swapNow_90 : decode cX2_swapNow 90 = .ok (.iadd, 1) := by decide +kernel
theorem dX2_swapNow_91 : decode cX2_swapNow 91 = .ok (.iaload, 1) := by decide +kernel
theorem dX2_swapNow_92 : decode cX2_swapNow 92 = .ok (.iastore, 1) := by decide +kernel
theorem dX2_swapNow_93 : decode cX2_swapNow 93 = .ok (.iinc 3 1, 3) := by decide +kernel
theorem dX2_swapNow_96 : decode cX2_swapNow 96 = .ok (.goto (-39), 3) := by decide +kernel
theorem dX2_swapNow_99 : decode cX2_swapNow 99 = .ok (.return_, 1) := by decide +kernel
set_option maxRecDepth 20000 in
theorem ggX2_refusal_X2_isLetter : GoodIn wsX2_refusal wsX2_isLetter := goodIn_r _ [6, 7, 8, 5, 9] (by decide +kernel) (by decide +kernel)
set_option maxRecDepth 20000 in
theorem gX2_refusal_X2_isLetter : GoodIn wsX2_refusal (va_wsS RX2 56 yX2_isLetter wsX2_isLetter) := goodIn_app (goodIn_of _ (by decide +kernel)) ggX2_refusal_X2_isLetter
theorem dX2_refusal_0 : decode cX2_refusal 0 = .ok (.iload_n 0, 1) := by decide +kernel
theorem dX2_refusal_1 : decode cX2_refusal 1 = .ok (.invokestatic 56, 3) := by decide +kernel
theorem dX2_refusal_4 : decode cX2_refusal 4 = .ok (.ifCond .eq 10, 3) := by decide +kernel
theorem dX2_refusal_7 : decode cX2_refusal 7 = .ok (.iload_n 1, 1) := by decide +kernel
theorem dX2_refusal_8 : decode cX2_refusal 8 = .ok (.invokestatic 56, 3) := by decide +kernel
theorem dX2_refusal_11 : decode cX2_refusal 11 = .ok (.ifCond .ne 6, 3) := by decide +kernel
theorem dX2_refusal_14 : decode cX2_refusal 14 = .ok (.ldc 60, 2) := by decide +kernel
theorem dX2_refusal_16 : decode cX2_refusal 16 = .ok (.ireturn, 1) := by decide +kernel
theorem dX2_refusal_17 : decode cX2_refusal 17 = .ok (.iload_n 0, 1) := by decide +kernel
theorem dX2_refusal_18 : decode cX2_refusal 18 = .ok (.iload_n 1, 1) := by decide +kernel
theorem dX2_refusal_19 : decode cX2_refusal 19 = .ok (.if_icmp .ne 8, 3) := by decide +kernel
theorem dX2_refusal_22 : decode cX2_refusal 22 = .ok (.ldc 73, 2) := by decide +kernel
theorem dX2_refusal_24 : decode cX2_refusal 24 = .ok (.goto 4, 3) := by decide +kernel
theorem dX2_refusal_27 : decode cX2_refusal 27 = .ok (.iconst 0, 1) := by decide +kernel
theorem dX2_refusal_28 : decode cX2_refusal 28 = .ok (.ireturn, 1) := by decide +kernel
set_option maxRecDepth 20000 in
theorem ggX2_swap_X2_refusal : GoodIn wsX2_swap wsX2_refusal := goodIn_r _ [4, 5, 6, 7, 8, 3, 9, 10, 11, 12] (by decide +kernel) (by decide +kernel)
set_option maxRecDepth 20000 in
theorem gX2_swap_X2_refusal : GoodIn wsX2_swap (va_wsS RX2 74 yX2_refusal wsX2_refusal) := goodIn_app (goodIn_of _ (by decide +kernel)) ggX2_swap_X2_refusal
set_option maxRecDepth 20000 in
theorem ggX2_swap_X2_swapNow : GoodIn wsX2_swap wsX2_swapNow := goodIn_r _ [16, 17, 18, 19, 20, 21, 22, 3, 23, 24, 25, 40, 41, 42, 43, 44, 45, 46, 47, 48, 49, 50, 51, 52, 53, 54, 55, 56, 57, 58, 59] (by decide +kernel) (by decide +kernel)
set_option maxRecDepth 20000 in
theorem gX2_swap_X2_swapNow : GoodIn wsX2_swap (wsV RX2 78 RX2 yX2_swapNow wsX2_swapNow) := goodIn_app (goodIn_of _ (by decide +kernel)) ggX2_swap_X2_swapNow
set_option maxRecDepth 20000 in
theorem ggX2_swap_X2_costNow : GoodIn wsX2_swap wsX2_costNow := goodIn_r _ [29, 30, 31, 32, 33, 34, 3, 35, 36, 25, 37, 38, 39, 40, 41, 42, 43, 44, 45, 46, 47, 48, 49, 50, 51, 52, 53, 54, 55, 56, 57, 58, 59] (by decide +kernel) (by decide +kernel)
set_option maxRecDepth 20000 in
theorem gX2_swap_X2_costNow : GoodIn wsX2_swap (wsV RX2 81 RX2 yX2_costNow wsX2_costNow) := goodIn_app (goodIn_of _ (by decide +kernel)) ggX2_swap_X2_costNow
theorem dX2_swap_0 : decode cX2_swap 0 = .ok (.iload_n 1, 1) := by decide +kernel
theorem dX2_swap_1 : decode cX2_swap 1 = .ok (.iload_n 2, 1) := by decide +kernel
theorem dX2_swap_2 : decode cX2_swap 2 = .ok (.invokestatic 74, 3) := by decide +kernel
theorem dX2_swap_5 : decode cX2_swap 5 = .ok (.istore_n 3, 1) := by decide +kernel
theorem dX2_swap_6 : decode cX2_swap 6 = .ok (.iload_n 3, 1) := by decide +kernel
theorem dX2_swap_7 : decode cX2_swap 7 = .ok (.ifCond .eq 5, 3) := by decide +kernel
theorem dX2_swap_10 : decode cX2_swap 10 = .ok (.iload_n 3, 1) := by decide +kernel
theorem dX2_swap_11 : decode cX2_swap 11 = .ok (.ireturn, 1) := by decide +kernel
theorem dX2_swap_12 : decode cX2_swap 12 = .ok (.aload_n 0, 1) := by decide +kernel
theorem dX2_swap_13 : decode cX2_swap 13 = .ok (.iload_n 1, 1) := by decide +kernel
theorem dX2_swap_14 : decode cX2_swap 14 = .ok (.iload_n 2, 1) := by decide +kernel
theorem dX2_swap_15 : decode cX2_swap 15 = .ok (.invokevirtual 78, 3) := by decide +kernel
theorem dX2_swap_18 : decode cX2_swap 18 = .ok (.aload_n 0, 1) := by decide +kernel
theorem dX2_swap_19 : decode cX2_swap 19 = .ok (.invokevirtual 81, 3) := by decide +kernel
theorem dX2_swap_22 : decode cX2_swap 22 = .ok (.ireturn, 1) := by decide +kernel
set_option maxRecDepth 20000 in
theorem ggX2_undo_X2_exchange : GoodIn wsX2_undo wsX2_exchange := goodIn_r _ [9, 10, 11, 26, 27, 28, 29, 30, 31, 32, 33, 34, 35, 36, 37, 38, 39, 40, 41, 42, 43, 44, 45] (by decide +kernel) (by decide +kernel)
set_option maxRecDepth 20000 in
theorem gX2_undo_X2_exchange : GoodIn wsX2_undo (wsV RX2 69 RX2 yX2_exchange wsX2_exchange) := goodIn_app (goodIn_of _ (by decide +kernel)) ggX2_undo_X2_exchange
set_option maxRecDepth 20000 in
theorem ggX2_undo_X2_costNow : GoodIn wsX2_undo wsX2_costNow := goodIn_r _ [15, 16, 17, 18, 19, 20, 8, 21, 22, 11, 23, 24, 25, 26, 27, 28, 29, 30, 31, 32, 33, 34, 35, 36, 37, 38, 39, 40, 41, 42, 43, 44, 45] (by decide +kernel) (by decide +kernel)
set_option maxRecDepth 20000 in
theorem gX2_undo_X2_costNow : GoodIn wsX2_undo (wsV RX2 81 RX2 yX2_costNow wsX2_costNow) := goodIn_app (goodIn_of _ (by decide +kernel)) ggX2_undo_X2_costNow
theorem dX2_undo_0 : decode cX2_undo 0 = .ok (.aload_n 0, 1) := by decide +kernel
theorem dX2_undo_1 : decode cX2_undo 1 = .ok (.getfield 66, 3) := by decide +kernel
theorem dX2_undo_4 : decode cX2_undo 4 = .ok (.ifCond .ne 6, 3) := by decide +kernel
theorem dX2_undo_7 : decode cX2_undo 7 = .ok (.ldc 85, 2) := by decide +kernel
theorem dX2_undo_9 : decode cX2_undo 9 = .ok (.ireturn, 1) := by decide +kernel
theorem dX2_undo_10 : decode cX2_undo 10 = .ok (.aload_n 0, 1) := by decide +kernel
theorem dX2_undo_11 : decode cX2_undo 11 = .ok (.dup, 1) := by decide +kernel
theorem dX2_undo_12 : decode cX2_undo 12 = .ok (.getfield 66, 3) := by decide +kernel
theorem dX2_undo_15 : decode cX2_undo 15 = .ok (.iconst 1, 1) := by decide +kernel
theorem dX2_undo_16 : decode cX2_undo 16 = .ok (.isub, 1) := by decide +kernel
theorem dX2_undo_17 : decode cX2_undo 17 = .ok (.putfield 66, 3) := by decide +kernel
theorem dX2_undo_20 : decode cX2_undo 20 = .ok (.aload_n 0, 1) := by decide +kernel
theorem dX2_undo_21 : decode cX2_undo 21 = .ok (.aload_n 0, 1) := by decide +kernel
theorem dX2_undo_22 : decode cX2_undo 22 = .ok (.getfield 29, 3) := by decide +kernel
theorem dX2_undo_25 : decode cX2_undo 25 = .ok (.aload_n 0, 1) := by decide +kernel
theorem dX2_undo_26 : decode cX2_undo 26 = .ok (.getfield 66, 3) := by decide +kernel
theorem dX2_undo_29 : decode cX2_undo 29 = .ok (.iaload, 1) := by decide +kernel
theorem dX2_undo_30 : decode cX2_undo 30 = .ok (.aload_n 0, 1) := by decide +kernel
theorem dX2_undo_31 : decode cX2_undo 31 = .ok (.getfield 32, 3) := by decide +kernel
theorem dX2_undo_34 : decode cX2_undo 34 = .ok (.aload_n 0, 1) := by decide +kernel
theorem dX2_undo_35 : decode cX2_undo 35 = .ok (.getfield 66, 3) := by decide +kernel
theorem dX2_undo_38 : decode cX2_undo 38 = .ok (.iaload, 1) := by decide +kernel
theorem dX2_undo_39 : decode cX2_undo 39 = .ok (.invokevirtual 69, 3) := by decide +kernel
theorem dX2_undo_42 : decode cX2_undo 42 = .ok (.aload_n 0, 1) := by decide +kernel
theorem dX2_undo_43 : decode cX2_undo 43 = .ok (.invokevirtual 81, 3) := by decide +kernel
theorem dX2_undo_46 : decode cX2_undo 46 = .ok (.ireturn, 1) := by decide +kernel
theorem dX2_undoCount_0 : decode cX2_undoCount 0 = .ok (.aload_n 0, 1) := by decide +kernel
theorem dX2_undoCount_1 : decode cX2_undoCount 1 = .ok (.getfield 66, 3) := by decide +kernel
theorem dX2_undoCount_4 : decode cX2_undoCount 4 = .ok (.ireturn, 1) := by decide +kernel
set_option maxRecDepth 20000 in
theorem ggX2_mirror_X2_exchange : GoodIn wsX2_mirror wsX2_exchange := goodIn_r _ [6, 7, 8, 23, 24, 25, 26, 27, 28, 29, 30, 31, 32, 33, 34, 35, 36, 37, 38, 39, 40, 41, 42] (by decide +kernel) (by decide +kernel)
set_option maxRecDepth 20000 in
theorem gX2_mirror_X2_exchange : GoodIn wsX2_mirror (wsV RX2 69 RX2 yX2_exchange wsX2_exchange) := goodIn_app (goodIn_of _ (by decide +kernel)) ggX2_mirror_X2_exchange
set_option maxRecDepth 20000 in
theorem ggX2_mirror_X2_costNow : GoodIn wsX2_mirror wsX2_costNow := goodIn_r _ [12, 13, 14, 15, 16, 17, 5, 18, 19, 8, 20, 21, 22, 23, 24, 25, 26, 27, 28, 29, 30, 31, 32, 33, 34, 35, 36, 37, 38, 39, 40, 41, 42] (by decide +kernel) (by decide +kernel)
set_option maxRecDepth 20000 in
theorem gX2_mirror_X2_costNow : GoodIn wsX2_mirror (wsV RX2 81 RX2 yX2_costNow wsX2_costNow) := goodIn_app (goodIn_of _ (by decide +kernel)) ggX2_mirror_X2_costNow
theorem dX2_mirror_0 : decode cX2_mirror 0 = .ok (.iconst 0, 1) := by decide +kernel
theorem dX2_mirror_1 : decode cX2_mirror 1 = .ok (.istore_n 1, 1) := by decide +kernel
theorem dX2_mirror_2 : decode cX2_mirror 2 = .ok (.iload_n 1, 1) := by decide +kernel
theorem dX2_mirror_3 : decode cX2_mirror 3 = .ok (.bipush 6, 2) := by decide +kernel
theorem dX2_mirror_5 : decode cX2_mirror 5 = .ok (.if_icmp .ge 18, 3) := by decide +kernel
theorem dX2_mirror_8 : decode cX2_mirror 8 = .ok (.aload_n 0, 1) := by decide +kernel
theorem dX2_mirror_9 : decode cX2_mirror 9 = .ok (.iload_n 1, 1) := by decide +kernel
theorem dX2_mirror_10 : decode cX2_mirror 10 = .ok (.bipush 11, 2) := by decide +kernel
theorem dX2_mirror_12 : decode cX2_mirror 12 = .ok (.iload_n 1, 1) := by decide +kernel
theorem dX2_mirror_13 : decode cX2_mirror 13 = .ok (.isub, 1) := by decide +kernel
theorem dX2_mirror_14 : decode cX2_mirror 14 = .ok (.invokevirtual 69, 3) := by decide +kernel
theorem dX2_mirror_17 : decode cX2_mirror 17 = .ok (.iinc 1 1, 3) := by decide +kernel
theorem dX2_mirror_20 : decode cX2_mirror 20 = .ok (.goto (-18), 3) := by decide +kernel
theorem dX2_mirror_23 : decode cX2_mirror 23 = .ok (.aload_n 0, 1) := by decide +kernel
theorem dX2_mirror_24 : decode cX2_mirror 24 = .ok (.iconst 0, 1) := by decide +kernel
theorem dX2_mirror_25 : decode cX2_mirror 25 = .ok (.putfield 66, 3) := by decide +kernel
theorem dX2_mirror_28 : decode cX2_mirror 28 = .ok (.aload_n 0, 1) := by decide +kernel
theorem dX2_mirror_29 : decode cX2_mirror 29 = .ok (.invokevirtual 81, 3) := by decide +kernel
theorem dX2_mirror_32 : decode cX2_mirror 32 = .ok (.ireturn, 1) := by decide +kernel
set_option maxRecDepth 20000 in
theorem ggX2_closeness_X2_apart : GoodIn wsX2_closeness wsX2_apart := goodIn_r _ [6] (by decide +kernel) (by decide +kernel)
set_option maxRecDepth 20000 in
theorem gX2_closeness_X2_apart : GoodIn wsX2_closeness (va_wsS RX2 86 yX2_apart wsX2_apart) := goodIn_app (goodIn_of _ (by decide +kernel)) ggX2_closeness_X2_apart
theorem dX2_closeness_0 : decode cX2_closeness 0 = .ok (.aload_n 0, 1) := by decide +kernel
theorem dX2_closeness_1 : decode cX2_closeness 1 = .ok (.getfield 17, 3) := by decide +kernel
theorem dX2_closeness_4 : decode cX2_closeness 4 = .ok (.iconst 1, 1) := by decide +kernel
theorem dX2_closeness_5 : decode cX2_closeness 5 = .ok (.iadd, 1) := by decide +kernel
theorem dX2_closeness_6 : decode cX2_closeness 6 = .ok (.aload_n 0, 1) := by decide +kernel
theorem dX2_closeness_7 : decode cX2_closeness 7 = .ok (.getfield 23, 3) := by decide +kernel
theorem dX2_closeness_10 : decode cX2_closeness 10 = .ok (.iload_n 1, 1) := by decide +kernel
theorem dX2_closeness_11 : decode cX2_closeness 11 = .ok (.iaload, 1) := by decide +kernel
theorem dX2_closeness_12 : decode cX2_closeness 12 = .ok (.aload_n 0, 1) := by decide +kernel
theorem dX2_closeness_13 : decode cX2_closeness 13 = .ok (.getfield 23, 3) := by decide +kernel
theorem dX2_closeness_16 : decode cX2_closeness 16 = .ok (.iload_n 2, 1) := by decide +kernel
theorem dX2_closeness_17 : decode cX2_closeness 17 = .ok (.iaload, 1) := by decide +kernel
theorem dX2_closeness_18 : decode cX2_closeness 18 = .ok (.invokestatic 86, 3) := by decide +kernel
theorem dX2_closeness_21 : decode cX2_closeness 21 = .ok (.isub, 1) := by decide +kernel
theorem dX2_closeness_22 : decode cX2_closeness 22 = .ok (.istore_n 3, 1) := by decide +kernel
theorem dX2_closeness_23 : decode cX2_closeness 23 = .ok (.iload_n 1, 1) := by decide +kernel
theorem dX2_closeness_24 : decode cX2_closeness 24 = .ok (.iload_n 2, 1) := by decide +kernel
theorem dX2_closeness_25 : decode cX2_closeness 25 = .ok (.if_icmp .eq 7, 3) := by decide +kernel
theorem dX2_closeness_28 : decode cX2_closeness 28 = .ok (.iload_n 3, 1) := by decide +kernel
theorem dX2_closeness_29 : decode cX2_closeness 29 = .ok (.ifCond .ge 7, 3) := by decide +kernel
theorem dX2_closeness_32 : decode cX2_closeness 32 = .ok (.iconst 0, 1) := by decide +kernel
theorem dX2_closeness_33 : decode cX2_closeness 33 = .ok (.goto 4, 3) := by decide +kernel
theorem dX2_closeness_36 : decode cX2_closeness 36 = .ok (.iload_n 3, 1) := by decide +kernel
theorem dX2_closeness_37 : decode cX2_closeness 37 = .ok (.ireturn, 1) := by decide +kernel
set_option maxRecDepth 20000 in
theorem ggX2_costNow_X2_closeness : GoodIn wsX2_costNow wsX2_closeness := goodIn_r _ [7, 8, 9, 10, 11, 6, 12, 13, 14, 15, 16, 17, 18, 19, 20, 21, 22, 23, 24, 25, 26, 27, 28, 29, 30, 31, 32] (by decide +kernel) (by decide +kernel)
set_option maxRecDepth 20000 in
theorem gX2_costNow_X2_closeness : GoodIn wsX2_costNow (wsV RX2 89 RX2 yX2_closeness wsX2_closeness) := goodIn_app (goodIn_of _ (by decide +kernel)) ggX2_costNow_X2_closeness
theorem dX2_costNow_0 : decode cX2_costNow 0 = .ok (.iconst 0, 1) := by decide +kernel
theorem dX2_costNow_1 : decode cX2_costNow 1 = .ok (.istore_n 1, 1) := by decide +kernel
theorem dX2_costNow_2 : decode cX2_costNow 2 = .ok (.iconst 1, 1) := by decide +kernel
theorem dX2_costNow_3 : decode cX2_costNow 3 = .ok (.istore_n 2, 1) := by decide +kernel
theorem dX2_costNow_4 : decode cX2_costNow 4 = .ok (.iload_n 2, 1) := by decide +kernel
theorem dX2_costNow_5 : decode cX2_costNow 5 = .ok (.aload_n 0, 1) := by decide +kernel
theorem dX2_costNow_6 : decode cX2_costNow 6 = .ok (.getfield 52, 3) := by decide +kernel
theorem dX2_costNow_9 : decode cX2_costNow 9 = .ok (.if_icmp .ge 30, 3) := by decide +kernel
theorem dX2_costNow_12 : decode cX2_costNow 12 = .ok (.iload_n 1, 1) := by decide +kernel
theorem dX2_costNow_13 : decode cX2_costNow 13 = .ok (.aload_n 0, 1) := by decide +kernel
theorem dX2_costNow_14 : decode cX2_costNow 14 = .ok (.aload_n 0, 1) := by decide +kernel
theorem dX2_costNow_15 : decode cX2_costNow 15 = .ok (.getfield 7, 3) := by decide +kernel
theorem dX2_costNow_18 : decode cX2_costNow 18 = .ok (.iload_n 2, 1) := by decide +kernel
theorem dX2_costNow_19 : decode cX2_costNow 19 = .ok (.iconst 1, 1) := by decide +kernel
theorem dX2_costNow_20 : decode cX2_costNow 20 = .ok (.isub, 1) := by decide +kernel
theorem dX2_costNow_21 : decode cX2_costNow 21 = .ok (.iaload, 1) := by decide +kernel
theorem dX2_costNow_22 : decode cX2_costNow 22 = .ok (.aload_n 0, 1) := by decide +kernel
theorem dX2_costNow_23 : decode cX2_costNow 23 = .ok (.getfield 7, 3) := by decide +kernel
theorem dX2_costNow_26 : decode cX2_costNow 26 = .ok (.iload_n 2, 1) := by decide +kernel
theorem dX2_costNow_27 : decode cX2_costNow 27 = .ok (.iaload, 1) := by decide +kernel
theorem dX2_costNow_28 : decode cX2_costNow 28 = .ok (.invokevirtual 89, 3) := by decide +kernel
theorem dX2_costNow_31 : decode cX2_costNow 31 = .ok (.iadd, 1) := by decide +kernel
theorem dX2_costNow_32 : decode cX2_costNow 32 = .ok (.istore_n 1, 1) := by decide +kernel
theorem dX2_costNow_33 : decode cX2_costNow 33 = .ok (.iinc 2 1, 3) := by decide +kernel
theorem dX2_costNow_36 : decode cX2_costNow 36 = .ok (.goto (-32), 3) := by decide +kernel
theorem dX2_costNow_39 : decode cX2_costNow 39 = .ok (.iload_n 1, 1) := by decide +kernel
theorem dX2_costNow_40 : decode cX2_costNow 40 = .ok (.ireturn, 1) := by decide +kernel
set_option maxRecDepth 20000 in
theorem ggX2_cost_X2_costNow : GoodIn wsX2_cost wsX2_costNow := goodIn_r _ [5, 6, 7, 8, 9, 10, 4, 11, 12, 13, 14, 15, 16, 17, 18, 19, 20, 21, 22, 23, 24, 25, 26, 27, 28, 29, 30, 31, 32, 33, 34, 35, 36] (by decide +kernel) (by decide +kernel)
set_option maxRecDepth 20000 in
theorem gX2_cost_X2_costNow : GoodIn wsX2_cost (wsV RX2 81 RX2 yX2_costNow wsX2_costNow) := goodIn_app (goodIn_of _ (by decide +kernel)) ggX2_cost_X2_costNow
theorem dX2_cost_0 : decode cX2_cost 0 = .ok (.aload_n 0, 1) := by decide +kernel
theorem dX2_cost_1 : decode cX2_cost 1 = .ok (.invokevirtual 81, 3) := by decide +kernel
theorem dX2_cost_4 : decode cX2_cost 4 = .ok (.ireturn, 1) := by decide +kernel
set_option maxRecDepth 20000 in
theorem ggX2_gainNow_X2_costNow : GoodIn wsX2_gainNow wsX2_costNow := goodIn_r _ [5, 6, 7, 8, 9, 10, 4, 11, 12, 13, 14, 15, 16, 22, 23, 24, 25, 26, 27, 28, 29, 30, 31, 32, 33, 34, 35, 36, 37, 38, 39, 40, 41] (by decide +kernel) (by decide +kernel)
set_option maxRecDepth 20000 in
theorem gX2_gainNow_X2_costNow : GoodIn wsX2_gainNow (wsV RX2 81 RX2 yX2_costNow wsX2_costNow) := goodIn_app (goodIn_of _ (by decide +kernel)) ggX2_gainNow_X2_costNow
set_option maxRecDepth 20000 in
theorem ggX2_gainNow_X2_exchange : GoodIn wsX2_gainNow wsX2_exchange := goodIn_r _ [20, 21, 13, 22, 23, 24, 25, 26, 27, 28, 29, 30, 31, 32, 33, 34, 35, 36, 37, 38, 39, 40, 41] (by decide +kernel) (by decide +kernel)
set_option maxRecDepth 20000 in
theorem gX2_gainNow_X2_exchange : GoodIn wsX2_gainNow (wsV RX2 69 RX2 yX2_exchange wsX2_exchange) := goodIn_app (goodIn_of _ (by decide +kernel)) ggX2_gainNow_X2_exchange
theorem dX2_gainNow_0 : decode cX2_gainNow 0 = .ok (.aload_n 0, 1) := by decide +kernel
theorem dX2_gainNow_1 : decode cX2_gainNow 1 = .ok (.invokevirtual 81, 3) := by decide +kernel
theorem dX2_gainNow_4 : decode cX2_gainNow 4 = .ok (.istore_n 3, 1) := by decide +kernel
theorem dX2_gainNow_5 : decode cX2_gainNow 5 = .ok (.aload_n 0, 1) := by decide +kernel
theorem dX2_gainNow_6 : decode cX2_gainNow 6 = .ok (.iload_n 1, 1) := by decide +kernel
theorem dX2_gainNow_7 : decode cX2_gainNow 7 = .ok (.iload_n 2, 1) := by decide +kernel
theorem dX2_gainNow_8 : decode cX2_gainNow 8 = .ok (.invokevirtual 69, 3) := by decide +kernel
theorem dX2_gainNow_11 : decode cX2_gainNow 11 = .ok (.aload_n 0, 1) := by decide +kernel
theorem dX2_gainNow_12 : decode cX2_gainNow 12 = .ok (.invokevirtual 81, 3) := by decide +kernel
theorem dX2_gainNow_15 : decode cX2_gainNow 15 = .ok (.istore 4, 2) := by decide +kernel
theorem dX2_gainNow_17 : decode cX2_gainNow 17 = .ok (.aload_n 0, 1) := by decide +kernel
theorem dX2_gainNow_18 : decode cX2_gainNow 18 = .ok (.iload_n 1, 1) := by decide +kernel
theorem dX2_gainNow_19 : decode cX2_gainNow 19 = .ok (.iload_n 2, 1) := by decide +kernel
theorem dX2_gainNow_20 : decode cX2_gainNow 20 = .ok (.invokevirtual 69, 3) := by decide +kernel
theorem dX2_gainNow_23 : decode cX2_gainNow 23 = .ok (.iload_n 3, 1) := by decide +kernel
theorem dX2_gainNow_24 : decode cX2_gainNow 24 = .ok (.iload 4, 2) := by decide +kernel
theorem dX2_gainNow_26 : decode cX2_gainNow 26 = .ok (.isub, 1) := by decide +kernel
theorem dX2_gainNow_27 : decode cX2_gainNow 27 = .ok (.ireturn, 1) := by decide +kernel
set_option maxRecDepth 20000 in
theorem ggX2_gain_X2_refusal : GoodIn wsX2_gain wsX2_refusal := goodIn_r _ [4, 5, 6, 7, 8, 3, 9, 10, 11, 12] (by decide +kernel) (by decide +kernel)
set_option maxRecDepth 20000 in
theorem gX2_gain_X2_refusal : GoodIn wsX2_gain (va_wsS RX2 74 yX2_refusal wsX2_refusal) := goodIn_app (goodIn_of _ (by decide +kernel)) ggX2_gain_X2_refusal
set_option maxRecDepth 20000 in
theorem ggX2_gain_X2_gainNow : GoodIn wsX2_gain wsX2_gainNow := goodIn_r _ [16, 17, 18, 19, 3, 20, 21, 22, 23, 24, 25, 26, 27, 28, 29, 30, 31, 32, 33, 34, 35, 36, 37, 38, 39, 40, 41, 42, 43, 44, 45, 46, 47, 48, 49, 50, 51, 52, 53, 54, 55, 56] (by decide +kernel) (by decide +kernel)
set_option maxRecDepth 20000 in
theorem gX2_gain_X2_gainNow : GoodIn wsX2_gain (wsV RX2 92 RX2 yX2_gainNow wsX2_gainNow) := goodIn_app (goodIn_of _ (by decide +kernel)) ggX2_gain_X2_gainNow
theorem dX2_gain_0 : decode cX2_gain 0 = .ok (.iload_n 1, 1) := by decide +kernel
theorem dX2_gain_1 : decode cX2_gain 1 = .ok (.iload_n 2, 1) := by decide +kernel
theorem dX2_gain_2 : decode cX2_gain 2 = .ok (.invokestatic 74, 3) := by decide +kernel
theorem dX2_gain_5 : decode cX2_gain 5 = .ok (.istore_n 3, 1) := by decide +kernel
theorem dX2_gain_6 : decode cX2_gain 6 = .ok (.iload_n 3, 1) := by decide +kernel
theorem dX2_gain_7 : decode cX2_gain 7 = .ok (.ifCond .eq 7, 3) := by decide +kernel
theorem dX2_gain_10 : decode cX2_gain 10 = .ok (.iload_n 3, 1) := by decide +kernel
theorem dX2_gain_11 : decode cX2_gain 11 = .ok (.goto 9, 3) := by decide +kernel
theorem dX2_gain_14 : decode cX2_gain 14 = .ok (.aload_n 0, 1) := by decide +kernel
theorem dX2_gain_15 : decode cX2_gain 15 = .ok (.iload_n 1, 1) := by decide +kernel
theorem dX2_gain_16 : decode cX2_gain 16 = .ok (.iload_n 2, 1) := by decide +kernel
theorem dX2_gain_17 : decode cX2_gain 17 = .ok (.invokevirtual 92, 3) := by decide +kernel
theorem dX2_gain_20 : decode cX2_gain 20 = .ok (.ireturn, 1) := by decide +kernel
set_option maxRecDepth 20000 in
theorem ggX2_bestNow_X2_gainNow : GoodIn wsX2_bestNow wsX2_gainNow := goodIn_r _ [6, 7, 8, 9, 5, 10, 11, 12, 13, 14, 15, 16, 17, 18, 19, 20, 21, 22, 23, 24, 25, 26, 27, 28, 29, 30, 31, 32, 33, 34, 35, 36, 37, 38, 39, 40, 41, 42, 43, 44, 45, 46] (by decide +kernel) (by decide +kernel)
set_option maxRecDepth 20000 in
theorem gX2_bestNow_X2_gainNow : GoodIn wsX2_bestNow (wsV RX2 92 RX2 yX2_gainNow wsX2_gainNow) := goodIn_app (goodIn_of _ (by decide +kernel)) ggX2_bestNow_X2_gainNow
theorem dX2_bestNow_0 : decode cX2_bestNow 0 = .ok (.ldc 85, 2) := by decide +kernel
theorem dX2_bestNow_2 : decode cX2_bestNow 2 = .ok (.istore_n 1, 1) := by decide +kernel
theorem dX2_bestNow_3 : decode cX2_bestNow 3 = .ok (.iconst 0, 1) := by decide +kernel
theorem dX2_bestNow_4 : decode cX2_bestNow 4 = .ok (.istore_n 2, 1) := by decide +kernel
theorem dX2_bestNow_5 : decode cX2_bestNow 5 = .ok (.iconst 0, 1) := by decide +kernel
theorem dX2_bestNow_6 : decode cX2_bestNow 6 = .ok (.istore_n 3, 1) := by decide +kernel
theorem dX2_bestNow_7 : decode cX2_bestNow 7 = .ok (.iload_n 3, 1) := by decide +kernel
theorem dX2_bestNow_8 : decode cX2_bestNow 8 = .ok (.bipush 12, 2) := by decide +kernel
theorem dX2_bestNow_10 : decode cX2_bestNow 10 = .ok (.if_icmp .ge 67, 3) := by decide +kernel
theorem dX2_bestNow_13 : decode cX2_bestNow 13 = .ok (.iload_n 3, 1) := by decide +kernel
theorem dX2_bestNow_14 : decode cX2_bestNow 14 = .ok (.iconst 1, 1) := by decide +kernel
theorem dX2_bestNow_15 : decode cX2_bestNow 15 = .ok (.iadd, 1) := by decide +kernel
theorem dX2_bestNow_16 : decode cX2_bestNow 16 = .ok (.istore 4, 2) := by decide +kernel
theorem dX2_bestNow_18 : decode cX2_bestNow 18 = .ok (.iload 4, 2) := by decide +kernel
theorem dX2_bestNow_20 : decode cX2_bestNow 20 = .ok (.bipush 12, 2) := by decide +kernel
theorem dX2_bestNow_22 : decode cX2_bestNow 22 = .ok (.if_icmp .ge 49, 3) := by decide +kernel
theorem dX2_bestNow_25 : decode cX2_bestNow 25 = .ok (.aload_n 0, 1) := by decide +kernel
theorem dX2_bestNow_26 : decode cX2_bestNow 26 = .ok (.iload_n 3, 1) := by decide +kernel
theorem dX2_bestNow_27 : decode cX2_bestNow 27 = .ok (.iload 4, 2) := by decide +kernel
theorem dX2_bestNow_29 : decode cX2_bestNow 29 = .ok (.invokevirtual 92, 3) := by decide +kernel
theorem dX2_bestNow_32 : decode cX2_bestNow 32 = .ok (.istore 5, 2) := by decide +kernel
theorem dX2_bestNow_34 : decode cX2_bestNow 34 = .ok (.iload 5, 2) := by decide +kernel
theorem dX2_bestNow_36 : decode cX2_bestNow 36 = .ok (.iload_n 2, 1) := by decide +kernel
theorem dX2_bestNow_37 : decode cX2_bestNow 37 = .ok (.if_icmp .le 13, 3) := by decide +kernel
theorem dX2_bestNow_40 : decode cX2_bestNow 40 = .ok (.bipush 100, 2) := by decide +kernel
theorem dX2_bestNow_42 : decode cX2_bestNow 42 = .ok (.iload_n 3, 1) := by decide +kernel
theorem dX2_bestNow_43 : decode cX2_bestNow 43 = .ok (.imul, 1) := by decide +kernel
theorem dX2_bestNow_44 : decode cX2_bestNow 44 = .ok (.iload 4, 2) := by decide +kernel
theorem dX2_bestNow_46 : decode cX2_bestNow 46 = .ok (.iadd, 1) := by decide +kernel
theorem dX2_bestNow_47 : decode cX2_bestNow 47 = .ok (.goto 4, 3) := by decide +kernel
theorem dX2_bestNow_50 : decode cX2_bestNow 50 = .ok (.iload_n 1, 1) := by decide +kernel
theorem dX2_bestNow_51 : decode cX2_bestNow 51 = .ok (.istore_n 1, 1) := by decide +kernel
theorem dX2_bestNow_52 : decode cX2_bestNow 52 = .ok (.iload 5, 2) := by decide +kernel
theorem dX2_bestNow_54 : decode cX2_bestNow 54 = .ok (.iload_n 2, 1) := by decide +kernel
theorem dX2_bestNow_55 : decode cX2_bestNow 55 = .ok (.if_icmp .le 8, 3) := by decide +kernel
theorem dX2_bestNow_58 : decode cX2_bestNow 58 = .ok (.iload 5, 2) := by decide +kernel
theorem dX2_bestNow_60 : decode cX2_bestNow 60 = .ok (.goto 4, 3) := by decide +kernel
theorem dX2_bestNow_63 : decode cX2_bestNow 63 = .ok (.iload_n 2, 1) := by decide +kernel
theorem dX2_bestNow_64 : decode cX2_bestNow 64 = .ok (.istore_n 2, 1) := by decide +kernel
theorem dX2_bestNow_65 : decode cX2_bestNow 65 = .ok (.iinc 4 1, 3) := by decide +kernel
theorem dX2_bestNow_68 : decode cX2_bestNow 68 = .ok (.goto (-50), 3) := by decide +kernel
theorem dX2_bestNow_71 : decode cX2_bestNow 71 = .ok (.iinc 3 1, 3) := by decide +kernel
theorem dX2_bestNow_74 : decode cX2_bestNow 74 = .ok (.goto (-67), 3) := by decide +kernel
theorem dX2_bestNow_77 : decode cX2_bestNow 77 = .ok (.iload_n 1, 1) := by decide +kernel
theorem dX2_bestNow_78 : decode cX2_bestNow 78 = .ok (.ireturn, 1) := by decide +kernel
set_option maxRecDepth 20000 in
theorem ggX2_bestSwap_X2_bestNow : GoodIn wsX2_bestSwap wsX2_bestNow := goodIn_r _ [5, 6, 7, 8, 9, 4, 10, 11, 12, 13, 14, 15, 16, 17, 18, 19, 20, 21, 22, 23, 24, 25, 26, 27, 28, 29, 30, 31, 32, 33, 34, 35, 36, 37, 38, 39, 40, 41, 42, 43, 44, 45, 46, 47, 48, 49, 50] (by decide +kernel) (by decide +kernel)
set_option maxRecDepth 20000 in
theorem gX2_bestSwap_X2_bestNow : GoodIn wsX2_bestSwap (wsV RX2 95 RX2 yX2_bestNow wsX2_bestNow) := goodIn_app (goodIn_of _ (by decide +kernel)) ggX2_bestSwap_X2_bestNow
theorem dX2_bestSwap_0 : decode cX2_bestSwap 0 = .ok (.aload_n 0, 1) := by decide +kernel
theorem dX2_bestSwap_1 : decode cX2_bestSwap 1 = .ok (.invokevirtual 95, 3) := by decide +kernel
theorem dX2_bestSwap_4 : decode cX2_bestSwap 4 = .ok (.ireturn, 1) := by decide +kernel
set_option maxRecDepth 20000 in
theorem ggX2_improve_X2_within : GoodIn wsX2_improve wsX2_within := goodIn_r _ [6] (by decide +kernel) (by decide +kernel)
set_option maxRecDepth 20000 in
theorem gX2_improve_X2_within : GoodIn wsX2_improve (va_wsS RX2 47 yX2_within wsX2_within) := goodIn_app (goodIn_of _ (by decide +kernel)) ggX2_improve_X2_within
set_option maxRecDepth 20000 in
theorem ggX2_improve_X2_bestNow : GoodIn wsX2_improve wsX2_bestNow := goodIn_r _ [10, 2, 11, 12, 13, 5, 14, 15, 16, 17, 18, 19, 20, 21, 22, 23, 24, 25, 26, 27, 28, 29, 30, 31, 32, 33, 34, 42, 43, 44, 45, 46, 47, 48, 49, 50, 51, 52, 53, 54, 55, 56, 57, 58, 59, 60, 61] (by decide +kernel) (by decide +kernel)
set_option maxRecDepth 20000 in
theorem gX2_improve_X2_bestNow : GoodIn wsX2_improve (wsV RX2 95 RX2 yX2_bestNow wsX2_bestNow) := goodIn_app (goodIn_of _ (by decide +kernel)) ggX2_improve_X2_bestNow
set_option maxRecDepth 20000 in
theorem ggX2_improve_X2_swapNow : GoodIn wsX2_improve wsX2_swapNow := goodIn_r _ [38, 39, 40, 41, 30, 31, 32, 5, 33, 34, 26, 42, 43, 44, 45, 46, 47, 48, 49, 50, 51, 52, 53, 54, 55, 56, 57, 58, 59, 60, 61] (by decide +kernel) (by decide +kernel)
set_option maxRecDepth 20000 in
theorem gX2_improve_X2_swapNow : GoodIn wsX2_improve (wsV RX2 78 RX2 yX2_swapNow wsX2_swapNow) := goodIn_app (goodIn_of _ (by decide +kernel)) ggX2_improve_X2_swapNow
theorem dX2_improve_0 : decode cX2_improve 0 = .ok (.iload_n 1, 1) := by decide +kernel
theorem dX2_improve_1 : decode cX2_improve 1 = .ok (.iconst 0, 1) := by decide +kernel
theorem dX2_improve_2 : decode cX2_improve 2 = .ok (.bipush 100, 2) := by decide +kernel
theorem dX2_improve_4 : decode cX2_improve 4 = .ok (.invokestatic 47, 3) := by decide +kernel
theorem dX2_improve_7 : decode cX2_improve 7 = .ok (.ifCond .ne 6, 3) := by decide +kernel
theorem dX2_improve_10 : decode cX2_improve 10 = .ok (.ldc 60, 2) := by decide +kernel
theorem dX2_improve_12 : decode cX2_improve 12 = .ok (.ireturn, 1) := by decide +kernel
theorem dX2_improve_13 : decode cX2_improve 13 = .ok (.iconst 0, 1) := by decide +kernel
theorem dX2_improve_14 : decode cX2_improve 14 = .ok (.istore_n 2, 1) := by decide +kernel
theorem dX2_improve_15 : decode cX2_improve 15 = .ok (.iload_n 1, 1) := by decide +kernel
theorem dX2_improve_16 : decode cX2_improve 16 = .ok (.ifCond .ne 8, 3) := by decide +kernel
theorem dX2_improve_19 : decode cX2_improve 19 = .ok (.ldc 85, 2) := by decide +kernel
theorem dX2_improve_21 : decode cX2_improve 21 = .ok (.goto 7, 3) := by decide +kernel
theorem dX2_improve_24 : decode cX2_improve 24 = .ok (.aload_n 0, 1) := by decide +kernel
theorem dX2_improve_25 : decode cX2_improve 25 = .ok (.invokevirtual 95, 3) := by decide +kernel
theorem dX2_improve_28 : decode cX2_improve 28 = .ok (.istore_n 3, 1) := by decide +kernel
theorem dX2_improve_29 : decode cX2_improve 29 = .ok (.iload_n 3, 1) := by decide +kernel
theorem dX2_improve_30 : decode cX2_improve 30 = .ok (.ldc 85, 2) := by decide +kernel
theorem dX2_improve_32 : decode cX2_improve 32 = .ok (.if_icmp .eq 36, 3) := by decide +kernel
theorem dX2_improve_35 : decode cX2_improve 35 = .ok (.aload_n 0, 1) := by decide +kernel
theorem dX2_improve_36 : decode cX2_improve 36 = .ok (.iload_n 3, 1) := by decide +kernel
theorem dX2_improve_37 : decode cX2_improve 37 = .ok (.bipush 100, 2) := by decide +kernel
theorem dX2_improve_39 : decode cX2_improve 39 = .ok (.idiv, 1) := by decide +kernel
theorem dX2_improve_40 : decode cX2_improve 40 = .ok (.iload_n 3, 1) := by decide +kernel
theorem dX2_improve_41 : decode cX2_improve 41 = .ok (.bipush 100, 2) := by decide +kernel
theorem dX2_improve_43 : decode cX2_improve 43 = .ok (.irem, 1) := by decide +kernel
theorem dX2_improve_44 : decode cX2_improve 44 = .ok (.invokevirtual 78, 3) := by decide +kernel
theorem dX2_improve_47 : decode cX2_improve 47 = .ok (.iinc 2 1, 3) := by decide +kernel
theorem dX2_improve_50 : decode cX2_improve 50 = .ok (.iload_n 2, 1) := by decide +kernel
theorem dX2_improve_51 : decode cX2_improve 51 = .ok (.iload_n 1, 1) := by decide +kernel
theorem dX2_improve_52 : decode cX2_improve 52 = .ok (.if_icmp .ne 8, 3) := by decide +kernel
theorem dX2_improve_55 : decode cX2_improve 55 = .ok (.ldc 85, 2) := by decide +kernel
theorem dX2_improve_57 : decode cX2_improve 57 = .ok (.goto 7, 3) := by decide +kernel
theorem dX2_improve_60 : decode cX2_improve 60 = .ok (.aload_n 0, 1) := by decide +kernel
theorem dX2_improve_61 : decode cX2_improve 61 = .ok (.invokevirtual 95, 3) := by decide +kernel
theorem dX2_improve_64 : decode cX2_improve 64 = .ok (.istore_n 3, 1) := by decide +kernel
theorem dX2_improve_65 : decode cX2_improve 65 = .ok (.goto (-36), 3) := by decide +kernel
theorem dX2_improve_68 : decode cX2_improve 68 = .ok (.iload_n 2, 1) := by decide +kernel
theorem dX2_improve_69 : decode cX2_improve 69 = .ok (.ireturn, 1) := by decide +kernel
set_option maxRecDepth 20000 in
theorem ggX2_partOf_X2_closeness : GoodIn wsX2_partOf wsX2_closeness := goodIn_r _ [7, 8, 9, 10, 11, 6, 12, 13, 14, 15, 16, 17, 18, 19, 20, 21, 22, 23, 24, 25, 26, 27, 28, 29, 30, 31, 32] (by decide +kernel) (by decide +kernel)
set_option maxRecDepth 20000 in
theorem gX2_partOf_X2_closeness : GoodIn wsX2_partOf (wsV RX2 89 RX2 yX2_closeness wsX2_closeness) := goodIn_app (goodIn_of _ (by decide +kernel)) ggX2_partOf_X2_closeness
theorem dX2_partOf_0 : decode cX2_partOf 0 = .ok (.iconst 0, 1) := by decide +kernel
theorem dX2_partOf_1 : decode cX2_partOf 1 = .ok (.istore_n 2, 1) := by decide +kernel
theorem dX2_partOf_2 : decode cX2_partOf 2 = .ok (.iconst 1, 1) := by decide +kernel
theorem dX2_partOf_3 : decode cX2_partOf 3 = .ok (.istore_n 3, 1) := by decide +kernel
theorem dX2_partOf_4 : decode cX2_partOf 4 = .ok (.iload_n 3, 1) := by decide +kernel
theorem dX2_partOf_5 : decode cX2_partOf 5 = .ok (.aload_n 0, 1) := by decide +kernel
theorem dX2_partOf_6 : decode cX2_partOf 6 = .ok (.getfield 52, 3) := by decide +kernel
theorem dX2_partOf_9 : decode cX2_partOf 9 = .ok (.if_icmp .ge 56, 3) := by decide +kernel
theorem dX2_partOf_12 : decode cX2_partOf 12 = .ok (.iload_n 2, 1) := by decide +kernel
theorem dX2_partOf_13 : decode cX2_partOf 13 = .ok (.aload_n 0, 1) := by decide +kernel
theorem dX2_partOf_14 : decode cX2_partOf 14 = .ok (.getfield 7, 3) := by decide +kernel
theorem dX2_partOf_17 : decode cX2_partOf 17 = .ok (.iload_n 3, 1) := by decide +kernel
theorem dX2_partOf_18 : decode cX2_partOf 18 = .ok (.iconst 1, 1) := by decide +kernel
theorem dX2_partOf_19 : decode cX2_partOf 19 = .ok (.isub, 1) := by decide +kernel
theorem dX2_partOf_20 : decode cX2_partOf 20 = .ok (.iaload, 1) := by decide +kernel
theorem dX2_partOf_21 : decode cX2_partOf 21 = .ok (.iload_n 1, 1) := by decide +kernel
theorem dX2_partOf_22 : decode cX2_partOf 22 = .ok (.if_icmp .eq 13, 3) := by decide +kernel
theorem dX2_partOf_25 : decode cX2_partOf 25 = .ok (.aload_n 0, 1) := by decide +kernel
theorem dX2_partOf_26 : decode cX2_partOf 26 = .ok (.getfield 7, 3) := by decide +kernel
theorem dX2_partOf_29 : decode cX2_partOf 29 = .ok (.iload_n 3, 1) := by decide +kernel
theorem dX2_partOf_30 : decode cX2_partOf 30 = .ok (.iaload, 1) := by decide +kernel
theorem dX2_partOf_31 : decode cX2_partOf 31 = .ok (.iload_n 1, 1) := by decide +kernel
theorem dX2_partOf_32 : decode cX2_partOf 32 = .ok (.if_icmp .ne 24, 3) := by decide +kernel
theorem dX2_partOf_35 : decode cX2_partOf 35 = .ok (.aload_n 0, 1) := by decide +kernel
theorem dX2_partOf_36 : decode cX2_partOf 36 = .ok (.aload_n 0, 1) := by decide +kernel
theorem dX2_partOf_37 : decode cX2_partOf 37 = .ok (.getfield 7, 3) := by decide +kernel
theorem dX2_partOf_40 : decode cX2_partOf 40 = .ok (.iload_n 3, 1) := by decide +kernel
theorem dX2_partOf_41 : decode cX2_partOf 41 = .ok (.iconst 1, 1) := by decide +kernel
theorem dX2_partOf_42 : decode cX2_partOf 42 = .ok (.isub, 1) := by decide +kernel
theorem dX2_partOf_43 : decode cX2_partOf 43 = .ok (.iaload, 1) := by decide +kernel
theorem dX2_partOf_44 : decode cX2_partOf 44 = .ok (.aload_n 0, 1) := by decide +kernel
theorem dX2_partOf_45 : decode cX2_partOf 45 = .ok (.getfield 7, 3) := by decide +kernel
theorem dX2_partOf_48 : decode cX2_partOf 48 = .ok (.iload_n 3, 1) := by decide +kernel
theorem dX2_partOf_49 : decode cX2_partOf 49 = .ok (.iaload, 1) := by decide +kernel
theorem dX2_partOf_50 : decode cX2_partOf 50 = .ok (.invokevirtual 89, 3) := by decide +kernel
theorem dX2_partOf_53 : decode cX2_partOf 53 = .ok (.goto 4, 3) := by decide +kernel
theorem dX2_partOf_56 : decode cX2_partOf 56 = .ok (.iconst 0, 1) := by decide +kernel
theorem dX2_partOf_57 : decode cX2_partOf 57 = .ok (.iadd, 1) := by decide +kernel
theorem dX2_partOf_58 : decode cX2_partOf 58 = .ok (.istore_n 2, 1) := by decide +kernel
theorem dX2_partOf_59 : decode cX2_partOf 59 = .ok (.iinc 3 1, 3) := by decide +kernel
theorem dX2_partOf_62 : decode cX2_partOf 62 = .ok (.goto (-58), 3) := by decide +kernel
theorem dX2_partOf_65 : decode cX2_partOf 65 = .ok (.iload_n 2, 1) := by decide +kernel
theorem dX2_partOf_66 : decode cX2_partOf 66 = .ok (.ireturn, 1) := by decide +kernel
set_option maxRecDepth 20000 in
theorem ggX2_worstNow_X2_partOf : GoodIn wsX2_worstNow wsX2_partOf := goodIn_r _ [6, 7, 8, 9, 10, 11, 5, 12, 13, 14, 15, 16, 17, 18, 19, 20, 21, 22, 23, 24, 25, 26, 27, 28, 29, 30, 31, 32, 33, 34, 35, 36, 37] (by decide +kernel) (by decide +kernel)
set_option maxRecDepth 20000 in
theorem gX2_worstNow_X2_partOf : GoodIn wsX2_worstNow (wsV RX2 98 RX2 yX2_partOf wsX2_partOf) := goodIn_app (goodIn_of _ (by decide +kernel)) ggX2_worstNow_X2_partOf
theorem dX2_worstNow_0 : decode cX2_worstNow 0 = .ok (.ldc 85, 2) := by decide +kernel
theorem dX2_worstNow_2 : decode cX2_worstNow 2 = .ok (.istore_n 1, 1) := by decide +kernel
theorem dX2_worstNow_3 : decode cX2_worstNow 3 = .ok (.iconst 0, 1) := by decide +kernel
theorem dX2_worstNow_4 : decode cX2_worstNow 4 = .ok (.istore_n 2, 1) := by decide +kernel
theorem dX2_worstNow_5 : decode cX2_worstNow 5 = .ok (.iconst 0, 1) := by decide +kernel
theorem dX2_worstNow_6 : decode cX2_worstNow 6 = .ok (.istore_n 3, 1) := by decide +kernel
theorem dX2_worstNow_7 : decode cX2_worstNow 7 = .ok (.iload_n 3, 1) := by decide +kernel
theorem dX2_worstNow_8 : decode cX2_worstNow 8 = .ok (.bipush 12, 2) := by decide +kernel
theorem dX2_worstNow_10 : decode cX2_worstNow 10 = .ok (.if_icmp .ge 41, 3) := by decide +kernel
theorem dX2_worstNow_13 : decode cX2_worstNow 13 = .ok (.aload_n 0, 1) := by decide +kernel
theorem dX2_worstNow_14 : decode cX2_worstNow 14 = .ok (.iload_n 3, 1) := by decide +kernel
theorem dX2_worstNow_15 : decode cX2_worstNow 15 = .ok (.invokevirtual 98, 3) := by decide +kernel
theorem dX2_worstNow_18 : decode cX2_worstNow 18 = .ok (.istore 4, 2) := by decide +kernel
theorem dX2_worstNow_20 : decode cX2_worstNow 20 = .ok (.iload 4, 2) := by decide +kernel
theorem dX2_worstNow_22 : decode cX2_worstNow 22 = .ok (.iload_n 2, 1) := by decide +kernel
theorem dX2_worstNow_23 : decode cX2_worstNow 23 = .ok (.if_icmp .le 7, 3) := by decide +kernel
theorem dX2_worstNow_26 : decode cX2_worstNow 26 = .ok (.iload_n 3, 1) := by decide +kernel
theorem dX2_worstNow_27 : decode cX2_worstNow 27 = .ok (.goto 4, 3) := by decide +kernel
theorem dX2_worstNow_30 : decode cX2_worstNow 30 = .ok (.iload_n 1, 1) := by decide +kernel
theorem dX2_worstNow_31 : decode cX2_worstNow 31 = .ok (.istore_n 1, 1) := by decide +kernel
theorem dX2_worstNow_32 : decode cX2_worstNow 32 = .ok (.iload 4, 2) := by decide +kernel
theorem dX2_worstNow_34 : decode cX2_worstNow 34 = .ok (.iload_n 2, 1) := by decide +kernel
theorem dX2_worstNow_35 : decode cX2_worstNow 35 = .ok (.if_icmp .le 8, 3) := by decide +kernel
theorem dX2_worstNow_38 : decode cX2_worstNow 38 = .ok (.iload 4, 2) := by decide +kernel
theorem dX2_worstNow_40 : decode cX2_worstNow 40 = .ok (.goto 4, 3) := by decide +kernel
theorem dX2_worstNow_43 : decode cX2_worstNow 43 = .ok (.iload_n 2, 1) := by decide +kernel
theorem dX2_worstNow_44 : decode cX2_worstNow 44 = .ok (.istore_n 2, 1) := by decide +kernel
theorem dX2_worstNow_45 : decode cX2_worstNow 45 = .ok (.iinc 3 1, 3) := by decide +kernel
theorem dX2_worstNow_48 : decode cX2_worstNow 48 = .ok (.goto (-41), 3) := by decide +kernel
theorem dX2_worstNow_51 : decode cX2_worstNow 51 = .ok (.iload_n 1, 1) := by decide +kernel
theorem dX2_worstNow_52 : decode cX2_worstNow 52 = .ok (.ireturn, 1) := by decide +kernel
set_option maxRecDepth 20000 in
theorem ggX2_worstLetter_X2_worstNow : GoodIn wsX2_worstLetter wsX2_worstNow := goodIn_r _ [5, 6, 7, 8, 9, 4, 10, 11, 12, 13, 14, 15, 16, 17, 18, 19, 20, 21, 22, 23, 24, 25, 26, 27, 28, 29, 30, 31, 32, 33, 34, 35, 36, 37, 38, 39, 40, 41] (by decide +kernel) (by decide +kernel)
set_option maxRecDepth 20000 in
theorem gX2_worstLetter_X2_worstNow : GoodIn wsX2_worstLetter (wsV RX2 102 RX2 yX2_worstNow wsX2_worstNow) := goodIn_app (goodIn_of _ (by decide +kernel)) ggX2_worstLetter_X2_worstNow
theorem dX2_worstLetter_0 : decode cX2_worstLetter 0 = .ok (.aload_n 0, 1) := by decide +kernel
theorem dX2_worstLetter_1 : decode cX2_worstLetter 1 = .ok (.invokevirtual 102, 3) := by decide +kernel
theorem dX2_worstLetter_4 : decode cX2_worstLetter 4 = .ok (.ireturn, 1) := by decide +kernel
set_option maxRecDepth 20000 in
theorem ggX2_stroke_X2_apart : GoodIn wsX2_stroke wsX2_apart := goodIn_r _ [8] (by decide +kernel) (by decide +kernel)
set_option maxRecDepth 20000 in
theorem gX2_stroke_X2_apart : GoodIn wsX2_stroke (va_wsS RX2 86 yX2_apart wsX2_apart) := goodIn_app (goodIn_of _ (by decide +kernel)) ggX2_stroke_X2_apart
theorem dX2_stroke_0 : decode cX2_stroke 0 = .ok (.aload_n 0, 1) := by decide +kernel
theorem dX2_stroke_1 : decode cX2_stroke 1 = .ok (.getfield 41, 3) := by decide +kernel
theorem dX2_stroke_4 : decode cX2_stroke 4 = .ok (.iload_n 1, 1) := by decide +kernel
theorem dX2_stroke_5 : decode cX2_stroke 5 = .ok (.iaload, 1) := by decide +kernel
theorem dX2_stroke_6 : decode cX2_stroke 6 = .ok (.iload_n 2, 1) := by decide +kernel
theorem dX2_stroke_7 : decode cX2_stroke 7 = .ok (.if_icmp .le 5, 3) := by decide +kernel
theorem dX2_stroke_10 : decode cX2_stroke 10 = .ok (.iconst 2, 1) := by decide +kernel
theorem dX2_stroke_11 : decode cX2_stroke 11 = .ok (.ireturn, 1) := by decide +kernel
theorem dX2_stroke_12 : decode cX2_stroke 12 = .ok (.iconst 0, 1) := by decide +kernel
theorem dX2_stroke_13 : decode cX2_stroke 13 = .ok (.istore_n 3, 1) := by decide +kernel
theorem dX2_stroke_14 : decode cX2_stroke 14 = .ok (.iconst 0, 1) := by decide +kernel
theorem dX2_stroke_15 : decode cX2_stroke 15 = .ok (.istore 4, 2) := by decide +kernel
theorem dX2_stroke_17 : decode cX2_stroke 17 = .ok (.iload 4, 2) := by decide +kernel
theorem dX2_stroke_19 : decode cX2_stroke 19 = .ok (.bipush 12, 2) := by decide +kernel
theorem dX2_stroke_21 : decode cX2_stroke 21 = .ok (.if_icmp .ge 53, 3) := by decide +kernel
theorem dX2_stroke_24 : decode cX2_stroke 24 = .ok (.aload_n 0, 1) := by decide +kernel
theorem dX2_stroke_25 : decode cX2_stroke 25 = .ok (.getfield 41, 3) := by decide +kernel
theorem dX2_stroke_28 : decode cX2_stroke 28 = .ok (.iload 4, 2) := by decide +kernel
theorem dX2_stroke_30 : decode cX2_stroke 30 = .ok (.iaload, 1) := by decide +kernel
theorem dX2_stroke_31 : decode cX2_stroke 31 = .ok (.iload_n 2, 1) := by decide +kernel
theorem dX2_stroke_32 : decode cX2_stroke 32 = .ok (.if_icmp .le 36, 3) := by decide +kernel
theorem dX2_stroke_35 : decode cX2_stroke 35 = .ok (.aload_n 0, 1) := by decide +kernel
theorem dX2_stroke_36 : decode cX2_stroke 36 = .ok (.getfield 23, 3) := by decide +kernel
theorem dX2_stroke_39 : decode cX2_stroke 39 = .ok (.iload 4, 2) := by decide +kernel
theorem dX2_stroke_41 : decode cX2_stroke 41 = .ok (.iaload, 1) := by decide +kernel
theorem dX2_stroke_42 : decode cX2_stroke 42 = .ok (.aload_n 0, 1) := by decide +kernel
theorem dX2_stroke_43 : decode cX2_stroke 43 = .ok (.getfield 23, 3) := by decide +kernel
theorem dX2_stroke_46 : decode cX2_stroke 46 = .ok (.iload_n 1, 1) := by decide +kernel
theorem dX2_stroke_47 : decode cX2_stroke 47 = .ok (.iaload, 1) := by decide +kernel
theorem dX2_stroke_48 : decode cX2_stroke 48 = .ok (.invokestatic 86, 3) := by decide +kernel
theorem dX2_stroke_51 : decode cX2_stroke 51 = .ok (.aload_n 0, 1) := by decide +kernel
theorem dX2_stroke_52 : decode cX2_stroke 52 = .ok (.getfield 17, 3) := by decide +kernel
theorem dX2_stroke_55 : decode cX2_stroke 55 = .ok (.if_icmp .gt 13, 3) := by decide +kernel
theorem dX2_stroke_58 : decode cX2_stroke 58 = .ok (.aload_n 0, 1) := by decide +kernel
theorem dX2_stroke_59 : decode cX2_stroke 59 = .ok (.getfield 41, 3) := by decide +kernel
theorem dX2_stroke_62 : decode cX2_stroke 62 = .ok (.iload 4, 2) := by decide +kernel
theorem dX2_stroke_64 : decode cX2_stroke 64 = .ok (.iload_n 2, 1) := by decide +kernel
theorem dX2_stroke_65 : decode cX2_stroke 65 = .ok (.iastore, 1) := by decide +kernel
theorem dX2_stroke_66 : decode cX2_stroke 66 = .ok (.iconst 1, 1) := by decide +kernel
theorem dX2_stroke_67 : decode cX2_stroke 67 = .ok (.istore_n 3, 1) := by decide +kernel
theorem dX2_stroke_68 : decode cX2_stroke 68 = .ok (.iinc 4 1, 3) := by decide +kernel
theorem dX2_stroke_71 : decode cX2_stroke 71 = .ok (.goto (-54), 3) := by decide +kernel
theorem dX2_stroke_74 : decode cX2_stroke 74 = .ok (.iload_n 3, 1) := by decide +kernel
theorem dX2_stroke_75 : decode cX2_stroke 75 = .ok (.ifCond .ne 15, 3) := by decide +kernel
theorem dX2_stroke_78 : decode cX2_stroke 78 = .ok (.aload_n 0, 1) := by decide +kernel
theorem dX2_stroke_79 : decode cX2_stroke 79 = .ok (.getfield 41, 3) := by decide +kernel
theorem dX2_stroke_82 : decode cX2_stroke 82 = .ok (.iload_n 1, 1) := by decide +kernel
theorem dX2_stroke_83 : decode cX2_stroke 83 = .ok (.iload_n 2, 1) := by decide +kernel
theorem dX2_stroke_84 : decode cX2_stroke 84 = .ok (.aload_n 0, 1) := by decide +kernel
theorem dX2_stroke_85 : decode cX2_stroke 85 = .ok (.getfield 13, 3) := by decide +kernel
theorem dX2_stroke_88 : decode cX2_stroke 88 = .ok (.iadd, 1) := by decide +kernel
theorem dX2_stroke_89 : decode cX2_stroke 89 = .ok (.iastore, 1) := by decide +kernel
theorem dX2_stroke_90 : decode cX2_stroke 90 = .ok (.iload_n 3, 1) := by decide +kernel
theorem dX2_stroke_91 : decode cX2_stroke 91 = .ok (.ifCond .eq 7, 3) := by decide +kernel
theorem dX2_stroke_94 : decode cX2_stroke 94 = .ok (.iconst 1, 1) := by decide +kernel
theorem dX2_stroke_95 : decode cX2_stroke 95 = .ok (.goto 4, 3) := by decide +kernel
theorem dX2_stroke_98 : decode cX2_stroke 98 = .ok (.iconst 0, 1) := by decide +kernel
theorem dX2_stroke_99 : decode cX2_stroke 99 = .ok (.ireturn, 1) := by decide +kernel
set_option maxRecDepth 20000 in
theorem ggX2_type_X2_stroke : GoodIn wsX2_type wsX2_stroke := goodIn_r _ [11, 1, 12, 13, 14, 15, 16, 10, 17, 18, 19, 20, 21, 22, 23, 24, 25, 26, 27, 28, 29, 30, 31, 32, 33, 34, 35, 36, 37] (by decide +kernel) (by decide +kernel)
set_option maxRecDepth 20000 in
theorem gX2_type_X2_stroke : GoodIn wsX2_type (wsV RX2 105 RX2 yX2_stroke wsX2_stroke) := goodIn_app (goodIn_of _ (by decide +kernel)) ggX2_type_X2_stroke
theorem dX2_type_0 : decode cX2_type 0 = .ok (.iconst 0, 1) := by decide +kernel
theorem dX2_type_1 : decode cX2_type 1 = .ok (.istore_n 2, 1) := by decide +kernel
theorem dX2_type_2 : decode cX2_type 2 = .ok (.iload_n 2, 1) := by decide +kernel
theorem dX2_type_3 : decode cX2_type 3 = .ok (.bipush 12, 2) := by decide +kernel
theorem dX2_type_5 : decode cX2_type 5 = .ok (.if_icmp .ge 16, 3) := by decide +kernel
theorem dX2_type_8 : decode cX2_type 8 = .ok (.aload_n 0, 1) := by decide +kernel
theorem dX2_type_9 : decode cX2_type 9 = .ok (.getfield 41, 3) := by decide +kernel
theorem dX2_type_12 : decode cX2_type 12 = .ok (.iload_n 2, 1) := by decide +kernel
theorem dX2_type_13 : decode cX2_type 13 = .ok (.iconst 0, 1) := by decide +kernel
theorem dX2_type_14 : decode cX2_type 14 = .ok (.iastore, 1) := by decide +kernel
theorem dX2_type_15 : decode cX2_type 15 = .ok (.iinc 2 1, 3) := by decide +kernel
theorem dX2_type_18 : decode cX2_type 18 = .ok (.goto (-16), 3) := by decide +kernel
theorem dX2_type_21 : decode cX2_type 21 = .ok (.iconst 0, 1) := by decide +kernel
theorem dX2_type_22 : decode cX2_type 22 = .ok (.istore_n 2, 1) := by decide +kernel
theorem dX2_type_23 : decode cX2_type 23 = .ok (.iconst 0, 1) := by decide +kernel
theorem dX2_type_24 : decode cX2_type 24 = .ok (.istore_n 3, 1) := by decide +kernel
theorem dX2_type_25 : decode cX2_type 25 = .ok (.iload_n 3, 1) := by decide +kernel
theorem dX2_type_26 : decode cX2_type 26 = .ok (.aload_n 0, 1) := by decide +kernel
theorem dX2_type_27 : decode cX2_type 27 = .ok (.getfield 52, 3) := by decide +kernel
theorem dX2_type_30 : decode cX2_type 30 = .ok (.if_icmp .ge 59, 3) := by decide +kernel
theorem dX2_type_33 : decode cX2_type 33 = .ok (.iload_n 2, 1) := by decide +kernel
theorem dX2_type_34 : decode cX2_type 34 = .ok (.iload_n 3, 1) := by decide +kernel
theorem dX2_type_35 : decode cX2_type 35 = .ok (.ifCond .ne 7, 3) := by decide +kernel
theorem dX2_type_38 : decode cX2_type 38 = .ok (.iconst 0, 1) := by decide +kernel
theorem dX2_type_39 : decode cX2_type 39 = .ok (.goto 25, 3) := by decide +kernel
theorem dX2_type_42 : decode cX2_type 42 = .ok (.iload_n 1, 1) := by decide +kernel
theorem dX2_type_43 : decode cX2_type 43 = .ok (.aload_n 0, 1) := by decide +kernel
theorem dX2_type_44 : decode cX2_type 44 = .ok (.getfield 44, 3) := by decide +kernel
theorem dX2_type_47 : decode cX2_type 47 = .ok (.iload_n 3, 1) := by decide +kernel
theorem dX2_type_48 : decode cX2_type 48 = .ok (.iconst 1, 1) := by decide +kernel
theorem dX2_type_49 : decode cX2_type 49 = .ok (.isub, 1) := by decide +kernel
theorem dX2_type_50 : decode cX2_type 50 = .ok (.iaload, 1) := by decide +kernel
theorem dX2_type_51 : decode cX2_type 51 = .ok (.iconst 1, 1) := by decide +kernel
theorem dX2_type_52 : decode cX2_type 52 = .ok (.if_icmp .ne 10, 3) := by decide +kernel
theorem dX2_type_55 : decode cX2_type 55 = .ok (.aload_n 0, 1) := by decide +kernel
theorem dX2_type_56 : decode cX2_type 56 = .ok (.getfield 20, 3) := by decide +kernel
theorem dX2_type_59 : decode cX2_type 59 = .ok (.goto 4, 3) := by decide +kernel
theorem dX2_type_62 : decode cX2_type 62 = .ok (.iconst 0, 1) := by decide +kernel
theorem dX2_type_63 : decode cX2_type 63 = .ok (.iadd, 1) := by decide +kernel
theorem dX2_type_64 : decode cX2_type 64 = .ok (.iadd, 1) := by decide +kernel
theorem dX2_type_65 : decode cX2_type 65 = .ok (.istore_n 2, 1) := by decide +kernel
theorem dX2_type_66 : decode cX2_type 66 = .ok (.aload_n 0, 1) := by decide +kernel
theorem dX2_type_67 : decode cX2_type 67 = .ok (.getfield 44, 3) := by decide +kernel
theorem dX2_type_70 : decode cX2_type 70 = .ok (.iload_n 3, 1) := by decide +kernel
theorem dX2_type_71 : decode cX2_type 71 = .ok (.aload_n 0, 1) := by decide +kernel
theorem dX2_type_72 : decode cX2_type 72 = .ok (.aload_n 0, 1) := by decide +kernel
theorem dX2_type_73 : decode cX2_type 73 = .ok (.getfield 7, 3) := by decide +kernel
theorem dX2_type_76 : decode cX2_type 76 = .ok (.iload_n 3, 1) := by decide +kernel
theorem dX2_type_77 : decode cX2_type 77 = .ok (.iaload, 1) := by decide +kernel
theorem dX2_type_78 : decode cX2_type 78 = .ok (.iload_n 2, 1) := by decide +kernel
theorem dX2_type_79 : decode cX2_type 79 = .ok (.invokevirtual 105, 3) := by decide +kernel
theorem dX2_type_82 : decode cX2_type 82 = .ok (.iastore, 1) := by decide +kernel
theorem dX2_type_83 : decode cX2_type 83 = .ok (.iinc 3 1, 3) := by decide +kernel
theorem dX2_type_86 : decode cX2_type 86 = .ok (.goto (-61), 3) := by decide +kernel
theorem dX2_type_89 : decode cX2_type 89 = .ok (.aload_n 0, 1) := by decide +kernel
theorem dX2_type_90 : decode cX2_type 90 = .ok (.iload_n 2, 1) := by decide +kernel
theorem dX2_type_91 : decode cX2_type 91 = .ok (.putfield 108, 3) := by decide +kernel
theorem dX2_type_94 : decode cX2_type 94 = .ok (.return_, 1) := by decide +kernel
set_option maxRecDepth 20000 in
theorem ggX2_run_X2_within : GoodIn wsX2_run wsX2_within := goodIn_r _ [16] (by decide +kernel) (by decide +kernel)
set_option maxRecDepth 20000 in
theorem gX2_run_X2_within : GoodIn wsX2_run (va_wsS RX2 47 yX2_within wsX2_within) := goodIn_app (goodIn_of _ (by decide +kernel)) ggX2_run_X2_within
set_option maxRecDepth 20000 in
theorem ggX2_run_X2_type : GoodIn wsX2_run wsX2_type := goodIn_r _ [20, 21, 5, 6, 22, 8, 10, 23, 24, 25, 15, 26, 27, 28, 11, 29, 30, 31, 32, 33, 34, 35, 36, 37, 38, 39, 40, 41, 42, 43, 44, 45, 46, 47, 48, 49, 50, 51] (by decide +kernel) (by decide +kernel)
set_option maxRecDepth 20000 in
theorem gX2_run_X2_type : GoodIn wsX2_run (wsV RX2 111 RX2 yX2_type wsX2_type) := goodIn_app (goodIn_of _ (by decide +kernel)) ggX2_run_X2_type
theorem dX2_run_0 : decode cX2_run 0 = .ok (.iload_n 1, 1) := by decide +kernel
theorem dX2_run_1 : decode cX2_run 1 = .ok (.iconst 1, 1) := by decide +kernel
theorem dX2_run_2 : decode cX2_run 2 = .ok (.bipush 30, 2) := by decide +kernel
theorem dX2_run_4 : decode cX2_run 4 = .ok (.invokestatic 47, 3) := by decide +kernel
theorem dX2_run_7 : decode cX2_run 7 = .ok (.ifCond .ne 6, 3) := by decide +kernel
theorem dX2_run_10 : decode cX2_run 10 = .ok (.ldc 60, 2) := by decide +kernel
theorem dX2_run_12 : decode cX2_run 12 = .ok (.ireturn, 1) := by decide +kernel
theorem dX2_run_13 : decode cX2_run 13 = .ok (.aload_n 0, 1) := by decide +kernel
theorem dX2_run_14 : decode cX2_run 14 = .ok (.iload_n 1, 1) := by decide +kernel
theorem dX2_run_15 : decode cX2_run 15 = .ok (.invokevirtual 111, 3) := by decide +kernel
theorem dX2_run_18 : decode cX2_run 18 = .ok (.aload_n 0, 1) := by decide +kernel
theorem dX2_run_19 : decode cX2_run 19 = .ok (.iconst 0, 1) := by decide +kernel
theorem dX2_run_20 : decode cX2_run 20 = .ok (.putfield 115, 3) := by decide +kernel
theorem dX2_run_23 : decode cX2_run 23 = .ok (.aload_n 0, 1) := by decide +kernel
theorem dX2_run_24 : decode cX2_run 24 = .ok (.iconst 0, 1) := by decide +kernel
theorem dX2_run_25 : decode cX2_run 25 = .ok (.putfield 118, 3) := by decide +kernel
theorem dX2_run_28 : decode cX2_run 28 = .ok (.aload_n 0, 1) := by decide +kernel
theorem dX2_run_29 : decode cX2_run 29 = .ok (.iconst 0, 1) := by decide +kernel
theorem dX2_run_30 : decode cX2_run 30 = .ok (.putfield 121, 3) := by decide +kernel
theorem dX2_run_33 : decode cX2_run 33 = .ok (.iconst 0, 1) := by decide +kernel
theorem dX2_run_34 : decode cX2_run 34 = .ok (.istore_n 2, 1) := by decide +kernel
theorem dX2_run_35 : decode cX2_run 35 = .ok (.iload_n 2, 1) := by decide +kernel
theorem dX2_run_36 : decode cX2_run 36 = .ok (.aload_n 0, 1) := by decide +kernel
theorem dX2_run_37 : decode cX2_run 37 = .ok (.getfield 52, 3) := by decide +kernel
theorem dX2_run_40 : decode cX2_run 40 = .ok (.if_icmp .ge 89, 3) := by decide +kernel
theorem dX2_run_43 : decode cX2_run 43 = .ok (.aload_n 0, 1) := by decide +kernel
theorem dX2_run_44 : decode cX2_run 44 = .ok (.getfield 44, 3) := by decide +kernel
theorem dX2_run_47 : decode cX2_run 47 = .ok (.iload_n 2, 1) := by decide +kernel
theorem dX2_run_48 : decode cX2_run 48 = .ok (.iaload, 1) := by decide +kernel
theorem dX2_run_49 : decode cX2_run 49 = .ok (.ifCond .ne 31, 3) := by decide +kernel
theorem dX2_run_52 : decode cX2_run 52 = .ok (.aload_n 0, 1) := by decide +kernel
theorem dX2_run_53 : decode cX2_run 53 = .ok (.getfield 35, 3) := by decide +kernel
theorem dX2_run_56 : decode cX2_run 56 = .ok (.aload_n 0, 1) := by decide +kernel
theorem dX2_run_57 : decode cX2_run 57 = .ok (.getfield 115, 3) := by decide +kernel
theorem dX2_run_60 : decode cX2_run 60 = .ok (.aload_n 0, 1) := by decide +kernel
theorem dX2_run_61 : decode cX2_run 61 = .ok (.getfield 7, 3) := by decide +kernel
theorem dX2_run_64 : decode cX2_run 64 = .ok (.iload_n 2, 1) := by decide +kernel
theorem dX2_run_65 : decode cX2_run 65 = .ok (.iaload, 1) := by decide +kernel
theorem dX2_run_66 : decode cX2_run 66 = .ok (.iastore, 1) := by decide +kernel
theorem dX2_run_67 : decode cX2_run 67 = .ok (.aload_n 0, 1) := by decide +kernel
theorem dX2_run_68 : decode cX2_run 68 = .ok (.dup, 1) := by decide +kernel
theorem dX2_run_69 : decode cX2_run 69 = .ok (.getfield 115, 3) := by decide +kernel
theorem dX2_run_72 : decode cX2_run 72 = .ok (.iconst 1, 1) := by decide +kernel
theorem dX2_run_73 : decode cX2_run 73 = .ok (.iadd, 1) := by decide +kernel
theorem dX2_run_74 : decode cX2_run 74 = .ok (.putfield 115, 3) := by decide +kernel
theorem dX2_run_77 : decode cX2_run 77 = .ok (.goto 46, 3) := by decide +kernel
theorem dX2_run_80 : decode cX2_run 80 = .ok (.aload_n 0, 1) := by decide +kernel
theorem dX2_run_81 : decode cX2_run 81 = .ok (.getfield 44, 3) := by decide +kernel
theorem dX2_run_84 : decode cX2_run 84 = .ok (.iload_n 2, 1) := by decide +kernel
theorem dX2_run_85 : decode cX2_run 85 = .ok (.iaload, 1) := by decide +kernel
theorem dX2_run_86 : decode cX2_run 86 = .ok (.iconst 1, 1) := by decide +kernel
theorem dX2_run_87 : decode cX2_run 87 = .ok (.if_icmp .ne 26, 3) := by decide +kernel
theorem dX2_run_90 : decode cX2_run 90 = .ok (.aload_n 0, 1) := by decide +kernel
theorem dX2_run_91 : decode cX2_run 91 = .ok (.getfield 38, 3) := by decide +kernel
theorem dX2_run_94 : decode cX2_run 94 = .ok (.aload_n 0, 1) := by decide +kernel
theorem dX2_run_95 : decode cX2_run 95 = .ok (.getfield 118, 3) := by decide +kernel
theorem dX2_run_98 : decode cX2_run 98 = .ok (.iload_n 2, 1) := by decide +kernel
theorem dX2_run_99 : decode cX2_run 99 = .ok (.iastore, 1) := by decide +kernel
theorem dX2_run_100 : decode cX2_run 100 = .ok (.aload_n 0, 1) := by decide +kernel
theorem dX2_run_101 : decode cX2_run 101 = .ok (.dup, 1) := by decide +kernel
theorem dX2_run_102 : decode cX2_run 102 = .ok (.getfield 118, 3) := by decide +kernel
theorem dX2_run_105 : decode cX2_run 105 = .ok (.iconst 1, 1) := by decide +kernel
theorem dX2_run_106 : decode cX2_run 106 = .ok (.iadd, 1) := by decide +kernel
theorem dX2_run_107 : decode cX2_run 107 = .ok (.putfield 118, 3) := by decide +kernel
theorem dX2_run_110 : decode cX2_run 110 = .ok (.goto 13, 3) := by decide +kernel
theorem dX2_run_113 : decode cX2_run 113 = .ok (.aload_n 0, 1) := by decide +kernel
theorem dX2_run_114 : decode cX2_run 114 = .ok (.dup, 1) := by decide +kernel
theorem dX2_run_115 : decode cX2_run 115 = .ok (.getfield 121, 3) := by decide +kernel
theorem dX2_run_118 : decode cX2_run 118 = .ok (.iconst 1, 1) := by decide +kernel
theorem dX2_run_119 : decode cX2_run 119 = .ok (.iadd, 1) := by decide +kernel
theorem dX2_run_120 : decode cX2_run 120 = .ok (.putfield 121, 3) := by decide +kernel
theorem dX2_run_123 : decode cX2_run 123 = .ok (.iinc 2 1, 3) := by decide +kernel
theorem dX2_run_126 : decode cX2_run 126 = .ok (.goto (-91), 3) := by decide +kernel
theorem dX2_run_129 : decode cX2_run 129 = .ok (.aload_n 0, 1) := by decide +kernel
theorem dX2_run_130 : decode cX2_run 130 = .ok (.aload_n 0, 1) := by decide +kernel
theorem dX2_run_131 : decode cX2_run 131 = .ok (.getfield 52, 3) := by decide +kernel
theorem dX2_run_134 : decode cX2_run 134 = .ok (.ifCond .ne 7, 3) := by decide +kernel
theorem dX2_run_137 : decode cX2_run 137 = .ok (.iconst 0, 1) := by decide +kernel
theorem dX2_run_138 : decode cX2_run 138 = .ok (.goto 12, 3) := by decide +kernel
theorem dX2_run_141 : decode cX2_run 141 = .ok (.aload_n 0, 1) := by decide +kernel
theorem dX2_run_142 : decode cX2_run 142 = .ok (.getfield 108, 3) := by decide +kernel
theorem dX2_run_145 : decode cX2_run 145 = .ok (.aload_n 0, 1) := by decide +kernel
theorem dX2_run_146 : decode cX2_run 146 = .ok (.getfield 13, 3) := by decide +kernel
theorem dX2_run_149 : decode cX2_run 149 = .ok (.iadd, 1) := by decide +kernel
theorem dX2_run_150 : decode cX2_run 150 = .ok (.putfield 124, 3) := by decide +kernel
theorem dX2_run_153 : decode cX2_run 153 = .ok (.aload_n 0, 1) := by decide +kernel
theorem dX2_run_154 : decode cX2_run 154 = .ok (.getfield 115, 3) := by decide +kernel
theorem dX2_run_157 : decode cX2_run 157 = .ok (.ireturn, 1) := by decide +kernel
theorem dX2_jams_0 : decode cX2_jams 0 = .ok (.aload_n 0, 1) := by decide +kernel
theorem dX2_jams_1 : decode cX2_jams 1 = .ok (.getfield 118, 3) := by decide +kernel
theorem dX2_jams_4 : decode cX2_jams 4 = .ok (.ireturn, 1) := by decide +kernel
theorem dX2_lost_0 : decode cX2_lost 0 = .ok (.aload_n 0, 1) := by decide +kernel
theorem dX2_lost_1 : decode cX2_lost 1 = .ok (.getfield 121, 3) := by decide +kernel
theorem dX2_lost_4 : decode cX2_lost 4 = .ok (.ireturn, 1) := by decide +kernel
theorem dX2_duration_0 : decode cX2_duration 0 = .ok (.aload_n 0, 1) := by decide +kernel
theorem dX2_duration_1 : decode cX2_duration 1 = .ok (.getfield 124, 3) := by decide +kernel
theorem dX2_duration_4 : decode cX2_duration 4 = .ok (.ireturn, 1) := by decide +kernel
set_option maxRecDepth 20000 in
theorem ggX2_printedLetter_X2_within : GoodIn wsX2_printedLetter wsX2_within := goodIn_r _ [7] (by decide +kernel) (by decide +kernel)
set_option maxRecDepth 20000 in
theorem gX2_printedLetter_X2_within : GoodIn wsX2_printedLetter (va_wsS RX2 47 yX2_within wsX2_within) := goodIn_app (goodIn_of _ (by decide +kernel)) ggX2_printedLetter_X2_within
theorem dX2_printedLetter_0 : decode cX2_printedLetter 0 = .ok (.iload_n 1, 1) := by decide +kernel
theorem dX2_printedLetter_1 : decode cX2_printedLetter 1 = .ok (.iconst 0, 1) := by decide +kernel
theorem dX2_printedLetter_2 : decode cX2_printedLetter 2 = .ok (.aload_n 0, 1) := by decide +kernel
theorem dX2_printedLetter_3 : decode cX2_printedLetter 3 = .ok (.getfield 115, 3) := by decide +kernel
theorem dX2_printedLetter_6 : decode cX2_printedLetter 6 = .ok (.iconst 1, 1) := by decide +kernel
theorem dX2_printedLetter_7 : decode cX2_printedLetter 7 = .ok (.isub, 1) := by decide +kernel
theorem dX2_printedLetter_8 : decode cX2_printedLetter 8 = .ok (.invokestatic 47, 3) := by decide +kernel
theorem dX2_printedLetter_11 : decode cX2_printedLetter 11 = .ok (.ifCond .eq 12, 3) := by decide +kernel
theorem dX2_printedLetter_14 : decode cX2_printedLetter 14 = .ok (.aload_n 0, 1) := by decide +kernel
theorem dX2_printedLetter_15 : decode cX2_printedLetter 15 = .ok (.getfield 35, 3) := by decide +kernel
theorem dX2_printedLetter_18 : decode cX2_printedLetter 18 = .ok (.iload_n 1, 1) := by decide +kernel
theorem dX2_printedLetter_19 : decode cX2_printedLetter 19 = .ok (.iaload, 1) := by decide +kernel
theorem dX2_printedLetter_20 : decode cX2_printedLetter 20 = .ok (.goto 5, 3) := by decide +kernel
theorem dX2_printedLetter_23 : decode cX2_printedLetter 23 = .ok (.ldc 85, 2) := by decide +kernel
theorem dX2_printedLetter_25 : decode cX2_printedLetter 25 = .ok (.ireturn, 1) := by decide +kernel
set_option maxRecDepth 20000 in
theorem ggX2_jammedKeystroke_X2_within : GoodIn wsX2_jammedKeystroke wsX2_within := goodIn_r _ [7] (by decide +kernel) (by decide +kernel)
set_option maxRecDepth 20000 in
theorem gX2_jammedKeystroke_X2_within : GoodIn wsX2_jammedKeystroke (va_wsS RX2 47 yX2_within wsX2_within) := goodIn_app (goodIn_of _ (by decide +kernel)) ggX2_jammedKeystroke_X2_within
theorem dX2_jammedKeystroke_0 : decode cX2_jammedKeystroke 0 = .ok (.iload_n 1, 1) := by decide +kernel
theorem dX2_jammedKeystroke_1 : decode cX2_jammedKeystroke 1 = .ok (.iconst 0, 1) := by decide +kernel
theorem dX2_jammedKeystroke_2 : decode cX2_jammedKeystroke 2 = .ok (.aload_n 0, 1) := by decide +kernel
theorem dX2_jammedKeystroke_3 : decode cX2_jammedKeystroke 3 = .ok (.getfield 118, 3) := by decide +kernel
theorem dX2_jammedKeystroke_6 : decode cX2_jammedKeystroke 6 = .ok (.iconst 1, 1) := by decide +kernel
theorem dX2_jammedKeystroke_7 : decode cX2_jammedKeystroke 7 = .ok (.isub, 1) := by decide +kernel
theorem dX2_jammedKeystroke_8 : decode cX2_jammedKeystroke 8 = .ok (.invokestatic 47, 3) := by decide +kernel
theorem dX2_jammedKeystroke_11 : decode cX2_jammedKeystroke 11 = .ok (.ifCond .eq 12, 3) := by decide +kernel
theorem dX2_jammedKeystroke_14 : decode cX2_jammedKeystroke 14 = .ok (.aload_n 0, 1) := by decide +kernel
theorem dX2_jammedKeystroke_15 : decode cX2_jammedKeystroke 15 = .ok (.getfield 38, 3) := by decide +kernel
theorem dX2_jammedKeystroke_18 : decode cX2_jammedKeystroke 18 = .ok (.iload_n 1, 1) := by decide +kernel
theorem dX2_jammedKeystroke_19 : decode cX2_jammedKeystroke 19 = .ok (.iaload, 1) := by decide +kernel
theorem dX2_jammedKeystroke_20 : decode cX2_jammedKeystroke 20 = .ok (.goto 5, 3) := by decide +kernel
theorem dX2_jammedKeystroke_23 : decode cX2_jammedKeystroke 23 = .ok (.ldc 85, 2) := by decide +kernel
theorem dX2_jammedKeystroke_25 : decode cX2_jammedKeystroke 25 = .ok (.ireturn, 1) := by decide +kernel
set_option maxRecDepth 20000 in
theorem ggX2_isSafe_X2_type : GoodIn wsX2_isSafe wsX2_type := goodIn_r _ [7, 8, 1, 2, 9, 10, 11, 12, 13, 14, 6, 15, 16, 17, 18, 19, 20, 21, 22, 23, 24, 25, 26, 27, 28, 29, 30, 31, 32, 33, 34, 35, 36, 37, 38, 39, 40, 41] (by decide +kernel) (by decide +kernel)
set_option maxRecDepth 20000 in
theorem gX2_isSafe_X2_type : GoodIn wsX2_isSafe (wsV RX2 111 RX2 yX2_type wsX2_type) := goodIn_app (goodIn_of _ (by decide +kernel)) ggX2_isSafe_X2_type
theorem dX2_isSafe_0 : decode cX2_isSafe 0 = .ok (.aload_n 0, 1) := by decide +kernel
theorem dX2_isSafe_1 : decode cX2_isSafe 1 = .ok (.iload_n 1, 1) := by decide +kernel
theorem dX2_isSafe_2 : decode cX2_isSafe 2 = .ok (.invokevirtual 111, 3) := by decide +kernel
theorem dX2_isSafe_5 : decode cX2_isSafe 5 = .ok (.iconst 1, 1) := by decide +kernel
theorem dX2_isSafe_6 : decode cX2_isSafe 6 = .ok (.istore_n 2, 1) := by decide +kernel
theorem dX2_isSafe_7 : decode cX2_isSafe 7 = .ok (.iconst 0, 1) := by decide +kernel
theorem dX2_isSafe_8 : decode cX2_isSafe 8 = .ok (.istore_n 3, 1) := by decide +kernel
theorem dX2_isSafe_9 : decode cX2_isSafe 9 = .ok (.iload_n 3, 1) := by decide +kernel
theorem dX2_isSafe_10 : decode cX2_isSafe 10 = .ok (.aload_n 0, 1) := by decide +kernel
theorem dX2_isSafe_11 : decode cX2_isSafe 11 = .ok (.getfield 52, 3) := by decide +kernel
theorem dX2_isSafe_14 : decode cX2_isSafe 14 = .ok (.if_icmp .ge 28, 3) := by decide +kernel
theorem dX2_isSafe_17 : decode cX2_isSafe 17 = .ok (.iload_n 2, 1) := by decide +kernel
theorem dX2_isSafe_18 : decode cX2_isSafe 18 = .ok (.ifCond .eq 16, 3) := by decide +kernel
theorem dX2_isSafe_21 : decode cX2_isSafe 21 = .ok (.aload_n 0, 1) := by decide +kernel
theorem dX2_isSafe_22 : decode cX2_isSafe 22 = .ok (.getfield 44, 3) := by decide +kernel
theorem dX2_isSafe_25 : decode cX2_isSafe 25 = .ok (.iload_n 3, 1) := by decide +kernel
theorem dX2_isSafe_26 : decode cX2_isSafe 26 = .ok (.iaload, 1) := by decide +kernel
theorem dX2_isSafe_27 : decode cX2_isSafe 27 = .ok (.ifCond .ne 7, 3) := by decide +kernel
theorem dX2_isSafe_30 : decode cX2_isSafe 30 = .ok (.iconst 1, 1) := by decide +kernel
theorem dX2_isSafe_31 : decode cX2_isSafe 31 = .ok (.goto 4, 3) := by decide +kernel
theorem dX2_isSafe_34 : decode cX2_isSafe 34 = .ok (.iconst 0, 1) := by decide +kernel
theorem dX2_isSafe_35 : decode cX2_isSafe 35 = .ok (.istore_n 2, 1) := by decide +kernel
theorem dX2_isSafe_36 : decode cX2_isSafe 36 = .ok (.iinc 3 1, 3) := by decide +kernel
theorem dX2_isSafe_39 : decode cX2_isSafe 39 = .ok (.goto (-30), 3) := by decide +kernel
theorem dX2_isSafe_42 : decode cX2_isSafe 42 = .ok (.iload_n 2, 1) := by decide +kernel
theorem dX2_isSafe_43 : decode cX2_isSafe 43 = .ok (.ireturn, 1) := by decide +kernel
set_option maxRecDepth 20000 in
theorem ggX2_safeNow_X2_isSafe : GoodIn wsX2_safeNow wsX2_isSafe := goodIn_r _ [6, 7, 8, 9, 10, 11, 5, 12, 13, 14, 15, 16, 17, 18, 19, 20, 21, 22, 23, 24, 25, 26, 27, 28, 29, 30, 31, 32, 33, 34, 35, 36, 37, 38, 39, 40, 41, 42, 43, 44, 45, 46] (by decide +kernel) (by decide +kernel)
set_option maxRecDepth 20000 in
theorem gX2_safeNow_X2_isSafe : GoodIn wsX2_safeNow (wsV RX2 127 RX2 yX2_isSafe wsX2_isSafe) := goodIn_app (goodIn_of _ (by decide +kernel)) ggX2_safeNow_X2_isSafe
theorem dX2_safeNow_0 : decode cX2_safeNow 0 = .ok (.iconst 1, 1) := by decide +kernel
theorem dX2_safeNow_1 : decode cX2_safeNow 1 = .ok (.istore_n 1, 1) := by decide +kernel
theorem dX2_safeNow_2 : decode cX2_safeNow 2 = .ok (.iload_n 1, 1) := by decide +kernel
theorem dX2_safeNow_3 : decode cX2_safeNow 3 = .ok (.bipush 30, 2) := by decide +kernel
theorem dX2_safeNow_5 : decode cX2_safeNow 5 = .ok (.if_icmp .gt 19, 3) := by decide +kernel
theorem dX2_safeNow_8 : decode cX2_safeNow 8 = .ok (.aload_n 0, 1) := by decide +kernel
theorem dX2_safeNow_9 : decode cX2_safeNow 9 = .ok (.iload_n 1, 1) := by decide +kernel
theorem dX2_safeNow_10 : decode cX2_safeNow 10 = .ok (.invokevirtual 127, 3) := by decide +kernel
theorem dX2_safeNow_13 : decode cX2_safeNow 13 = .ok (.ifCond .eq 5, 3) := by decide +kernel
theorem dX2_safeNow_16 : decode cX2_safeNow 16 = .ok (.iload_n 1, 1) := by decide +kernel
theorem dX2_safeNow_17 : decode cX2_safeNow 17 = .ok (.ireturn, 1) := by decide +kernel
theorem dX2_safeNow_18 : decode cX2_safeNow 18 = .ok (.iinc 1 1, 3) := by decide +kernel
theorem dX2_safeNow_21 : decode cX2_safeNow 21 = .ok (.goto (-19), 3) := by decide +kernel
theorem dX2_safeNow_24 : decode cX2_safeNow 24 = .ok (.ldc 85, 2) := by decide +kernel
theorem dX2_safeNow_26 : decode cX2_safeNow 26 = .ok (.ireturn, 1) := by decide +kernel
set_option maxRecDepth 20000 in
theorem ggX2_safeInterval_X2_safeNow : GoodIn wsX2_safeInterval wsX2_safeNow := goodIn_r _ [5, 6, 7, 8, 9, 4, 10, 11, 12, 13, 14, 15, 16, 17, 18, 19, 20, 21, 22, 23, 24, 25, 26, 27, 28, 29, 30, 31, 32, 33, 34, 35, 36, 37, 38, 39, 40, 41, 42, 43, 44, 45, 46, 47, 48, 49, 50] (by decide +kernel) (by decide +kernel)
set_option maxRecDepth 20000 in
theorem gX2_safeInterval_X2_safeNow : GoodIn wsX2_safeInterval (wsV RX2 130 RX2 yX2_safeNow wsX2_safeNow) := goodIn_app (goodIn_of _ (by decide +kernel)) ggX2_safeInterval_X2_safeNow
theorem dX2_safeInterval_0 : decode cX2_safeInterval 0 = .ok (.aload_n 0, 1) := by decide +kernel
theorem dX2_safeInterval_1 : decode cX2_safeInterval 1 = .ok (.invokevirtual 130, 3) := by decide +kernel
theorem dX2_safeInterval_4 : decode cX2_safeInterval 4 = .ok (.ireturn, 1) := by decide +kernel
theorem dX2_mix_0 : decode cX2_mix 0 = .ok (.aload_n 0, 1) := by decide +kernel
theorem dX2_mix_1 : decode cX2_mix 1 = .ok (.ldc2_w 133, 3) := by decide +kernel
theorem dX2_mix_4 : decode cX2_mix 4 = .ok (.aload_n 0, 1) := by decide +kernel
theorem dX2_mix_5 : decode cX2_mix 5 = .ok (.getfield 135, 3) := by decide +kernel
theorem dX2_mix_8 : decode cX2_mix 8 = .ok (.lmul, 1) := by decide +kernel
theorem dX2_mix_9 : decode cX2_mix 9 = .ok (.lload_n 1, 1) := by decide +kernel
theorem dX2_mix_10 : decode cX2_mix 10 = .ok (.ladd, 1) := by decide +kernel
theorem dX2_mix_11 : decode cX2_mix 11 = .ok (.putfield 135, 3) := by decide +kernel
theorem dX2_mix_14 : decode cX2_mix 14 = .ok (.return_, 1) := by decide +kernel
set_option maxRecDepth 20000 in
theorem ggX2_digest_X2_mix : GoodIn wsX2_digest wsX2_mix := goodIn_r _ [20, 21, 2, 74, 75, 76, 77, 78, 79, 80, 81, 82, 83, 84, 85, 86, 87, 88, 89, 90, 91, 92, 93] (by decide +kernel) (by decide +kernel)
set_option maxRecDepth 20000 in
theorem gX2_digest_X2_mix : GoodIn wsX2_digest (wsV RX2 141 RX2 yX2_mix wsX2_mix) := goodIn_app (goodIn_of _ (by decide +kernel)) ggX2_digest_X2_mix
set_option maxRecDepth 20000 in
theorem ggX2_digest_X2_costNow : GoodIn wsX2_digest wsX2_costNow := goodIn_r _ [25, 3, 4, 26, 27, 28, 19, 29, 6, 30, 31, 32, 33, 74, 75, 76, 77, 78, 79, 80, 81, 82, 83, 84, 85, 86, 87, 88, 89, 90, 91, 92, 93] (by decide +kernel) (by decide +kernel)
set_option maxRecDepth 20000 in
theorem gX2_digest_X2_costNow : GoodIn wsX2_digest (wsV RX2 81 RX2 yX2_costNow wsX2_costNow) := goodIn_app (goodIn_of _ (by decide +kernel)) ggX2_digest_X2_costNow
set_option maxRecDepth 20000 in
theorem ggX2_digest_X2_bestNow : GoodIn wsX2_digest wsX2_bestNow := goodIn_r _ [37, 38, 39, 40, 41, 19, 42, 22, 23, 24, 25, 3, 4, 26, 27, 28, 29, 6, 30, 31, 32, 33, 43, 44, 45, 46, 8, 74, 75, 76, 77, 78, 79, 80, 81, 82, 83, 84, 85, 86, 87, 88, 89, 90, 91, 92, 93] (by decide +kernel) (by decide +kernel)
set_option maxRecDepth 20000 in
theorem gX2_digest_X2_bestNow : GoodIn wsX2_digest (wsV RX2 95 RX2 yX2_bestNow wsX2_bestNow) := goodIn_app (goodIn_of _ (by decide +kernel)) ggX2_digest_X2_bestNow
set_option maxRecDepth 20000 in
theorem ggX2_digest_X2_worstNow : GoodIn wsX2_digest wsX2_worstNow := goodIn_r _ [50, 38, 51, 52, 53, 19, 54, 3, 4, 26, 27, 28, 29, 6, 30, 31, 32, 33, 74, 75, 76, 77, 78, 79, 80, 81, 82, 83, 84, 85, 86, 87, 88, 89, 90, 91, 92, 93] (by decide +kernel) (by decide +kernel)
set_option maxRecDepth 20000 in
theorem gX2_digest_X2_worstNow : GoodIn wsX2_digest (wsV RX2 102 RX2 yX2_worstNow wsX2_worstNow) := goodIn_app (goodIn_of _ (by decide +kernel)) ggX2_digest_X2_worstNow
set_option maxRecDepth 20000 in
theorem ggX2_digest_X2_safeNow : GoodIn wsX2_digest wsX2_safeNow := goodIn_r _ [58, 38, 59, 60, 61, 19, 62, 3, 63, 64, 65, 66, 67, 68, 7, 4, 69, 70, 71, 72, 73, 30, 6, 5, 31, 32, 33, 74, 75, 76, 77, 78, 79, 80, 81, 82, 83, 84, 85, 86, 87, 88, 89, 90, 91, 92, 93] (by decide +kernel) (by decide +kernel)
set_option maxRecDepth 20000 in
theorem gX2_digest_X2_safeNow : GoodIn wsX2_digest (wsV RX2 130 RX2 yX2_safeNow wsX2_safeNow) := goodIn_app (goodIn_of _ (by decide +kernel)) ggX2_digest_X2_safeNow
theorem dX2_digest_0 : decode cX2_digest 0 = .ok (.aload_n 0, 1) := by decide +kernel
theorem dX2_digest_1 : decode cX2_digest 1 = .ok (.ldc2_w 139, 3) := by decide +kernel
theorem dX2_digest_4 : decode cX2_digest 4 = .ok (.putfield 135, 3) := by decide +kernel
theorem dX2_digest_7 : decode cX2_digest 7 = .ok (.aload_n 0, 1) := by decide +kernel
theorem dX2_digest_8 : decode cX2_digest 8 = .ok (.aload_n 0, 1) := by decide +kernel
theorem dX2_digest_9 : decode cX2_digest 9 = .ok (.getfield 52, 3) := by decide +kernel
theorem dX2_digest_12 : decode cX2_digest 12 = .ok (.i2l, 1) := by decide +kernel
theorem dX2_digest_13 : decode cX2_digest 13 = .ok (.invokevirtual 141, 3) := by decide +kernel
theorem dX2_digest_16 : decode cX2_digest 16 = .ok (.iconst 0, 1) := by decide +kernel
theorem dX2_digest_17 : decode cX2_digest 17 = .ok (.istore_n 1, 1) := by decide +kernel
theorem dX2_digest_18 : decode cX2_digest 18 = .ok (.iload_n 1, 1) := by decide +kernel
theorem dX2_digest_19 : decode cX2_digest 19 = .ok (.aload_n 0, 1) := by decide +kernel
theorem dX2_digest_20 : decode cX2_digest 20 = .ok (.getfield 52, 3) := by decide +kernel
theorem dX2_digest_23 : decode cX2_digest 23 = .ok (.if_icmp .ge 20, 3) := by decide +kernel
theorem dX2_digest_26 : decode cX2_digest 26 = .ok (.aload_n 0, 1) := by decide +kernel
theorem dX2_digest_27 : decode cX2_digest 27 = .ok (.aload_n 0, 1) := by decide +kernel
theorem dX2_digest_28 : decode cX2_digest 28 = .ok (.getfield 7, 3) := by decide +kernel
theorem dX2_digest_31 : decode cX2_digest 31 = .ok (.iload_n 1, 1) := by decide +kernel
theorem dX2_digest_32 : decode cX2_digest 32 = .ok (.iaload, 1) := by decide +kernel
theorem dX2_digest_33 : decode cX2_digest 33 = .ok (.i2l, 1) := by decide +kernel
theorem dX2_digest_34 : decode cX2_digest 34 = .ok (.invokevirtual 141, 3) := by decide +kernel
theorem dX2_digest_37 : decode cX2_digest 37 = .ok (.iinc 1 1, 3) := by decide +kernel
theorem dX2_digest_40 : decode cX2_digest 40 = .ok (.goto (-22), 3) := by decide +kernel
theorem dX2_digest_43 : decode cX2_digest 43 = .ok (.aload_n 0, 1) := by decide +kernel
theorem dX2_digest_44 : decode cX2_digest 44 = .ok (.aload_n 0, 1) := by decide +kernel
theorem dX2_digest_45 : decode cX2_digest 45 = .ok (.getfield 13, 3) := by decide +kernel
theorem dX2_digest_48 : decode cX2_digest 48 = .ok (.i2l, 1) := by decide +kernel
theorem dX2_digest_49 : decode cX2_digest 49 = .ok (.invokevirtual 141, 3) := by decide +kernel
theorem dX2_digest_52 : decode cX2_digest 52 = .ok (.aload_n 0, 1) := by decide +kernel
theorem dX2_digest_53 : decode cX2_digest 53 = .ok (.aload_n 0, 1) := by decide +kernel
theorem dX2_digest_54 : decode cX2_digest 54 = .ok (.getfield 17, 3) := by decide +kernel
theorem dX2_digest_57 : decode cX2_digest 57 = .ok (.i2l, 1) := by decide +kernel
theorem dX2_digest_58 : decode cX2_digest 58 = .ok (.invokevirtual 141, 3) := by decide +kernel
theorem dX2_digest_61 : decode cX2_digest 61 = .ok (.aload_n 0, 1) := by decide +kernel
theorem dX2_digest_62 : decode cX2_digest 62 = .ok (.aload_n 0, 1) := by decide +kernel
theorem dX2_digest_63 : decode cX2_digest 63 = .ok (.getfield 20, 3) := by decide +kernel
theorem dX2_digest_66 : decode cX2_digest 66 = .ok (.i2l, 1) := by decide +kernel
theorem dX2_digest_67 : decode cX2_digest 67 = .ok (.invokevirtual 141, 3) := by decide +kernel
theorem dX2_digest_70 : decode cX2_digest 70 = .ok (.iconst 0, 1) := by decide +kernel
theorem dX2_digest_71 : decode cX2_digest 71 = .ok (.istore_n 1, 1) := by decide +kernel
theorem dX2_digest_72 : decode cX2_digest 72 = .ok (.iload_n 1, 1) := by decide +kernel
theorem dX2_digest_73 : decode cX2_digest 73 = .ok (.bipush 12, 2) := by decide +kernel
theorem dX2_digest_75 : decode cX2_digest 75 = .ok (.if_icmp .ge 20, 3) := by decide +kernel
theorem dX2_digest_78 : decode cX2_digest 78 = .ok (.aload_n 0, 1) := by decide +kernel
theorem dX2_digest_79 : decode cX2_digest 79 = .ok (.aload_n 0, 1) := by decide +kernel
theorem dX2_digest_80 : decode cX2_digest 80 = .ok (.getfield 26, 3) := by decide +kernel
theorem dX2_digest_83 : decode cX2_digest 83 = .ok (.iload_n 1, 1) := by decide +kernel
theorem dX2_digest_84 : decode cX2_digest 84 = .ok (.iaload, 1) := by decide +kernel
theorem dX2_digest_85 : decode cX2_digest 85 = .ok (.i2l, 1) := by decide +kernel
theorem dX2_digest_86 : decode cX2_digest 86 = .ok (.invokevirtual 141, 3) := by decide +kernel
theorem dX2_digest_89 : decode cX2_digest 89 = .ok (.iinc 1 1, 3) := by decide +kernel
theorem dX2_digest_92 : decode cX2_digest 92 = .ok (.goto (-20), 3) := by decide +kernel
theorem dX2_digest_95 : decode cX2_digest 95 = .ok (.aload_n 0, 1) := by decide +kernel
theorem dX2_digest_96 : decode cX2_digest 96 = .ok (.aload_n 0, 1) := by decide +kernel
theorem dX2_digest_97 : decode cX2_digest 97 = .ok (.getfield 66, 3) := by decide +kernel
theorem dX2_digest_100 : decode cX2_digest 100 = .ok (.i2l, 1) := by decide +kernel
theorem dX2_digest_101 : decode cX2_digest 101 = .ok (.invokevirtual 141, 3) := by decide +kernel
theorem dX2_digest_104 : decode cX2_digest 104 = .ok (.aload_n 0, 1) := by decide +kernel
theorem dX2_digest_105 : decode cX2_digest 105 = .ok (.aload_n 0, 1) := by decide +kernel
theorem dX2_digest_106 : decode cX2_digest 106 = .ok (.invokevirtual 81, 3) := by decide +kernel
theorem dX2_digest_109 : decode cX2_digest 109 = .ok (.i2l, 1) := by decide +kernel
theorem dX2_digest_110 : decode cX2_digest 110 = .ok (.invokevirtual 141, 3) := by decide +kernel
theorem dX2_digest_113 : decode cX2_digest 113 = .ok (.aload_n 0, 1) := by decide +kernel
theorem dX2_digest_114 : decode cX2_digest 114 = .ok (.aload_n 0, 1) := by decide +kernel
theorem dX2_digest_115 : decode cX2_digest 115 = .ok (.invokevirtual 95, 3) := by decide +kernel
theorem dX2_digest_118 : decode cX2_digest 118 = .ok (.i2l, 1) := by decide +kernel
theorem dX2_digest_119 : decode cX2_digest 119 = .ok (.invokevirtual 141, 3) := by decide +kernel
theorem dX2_digest_122 : decode cX2_digest 122 = .ok (.aload_n 0, 1) := by decide +kernel
theorem dX2_digest_123 : decode cX2_digest 123 = .ok (.aload_n 0, 1) := by decide +kernel
theorem dX2_digest_124 : decode cX2_digest 124 = .ok (.invokevirtual 102, 3) := by decide +kernel
theorem dX2_digest_127 : decode cX2_digest 127 = .ok (.i2l, 1) := by decide +kernel
theorem dX2_digest_128 : decode cX2_digest 128 = .ok (.invokevirtual 141, 3) := by decide +kernel
theorem dX2_digest_131 : decode cX2_digest 131 = .ok (.aload_n 0, 1) := by decide +kernel
theorem dX2_digest_132 : decode cX2_digest 132 = .ok (.aload_n 0, 1) := by decide +kernel
theorem dX2_digest_133 : decode cX2_digest 133 = .ok (.invokevirtual 130, 3) := by decide +kernel
theorem dX2_digest_136 : decode cX2_digest 136 = .ok (.i2l, 1) := by decide +kernel
theorem dX2_digest_137 : decode cX2_digest 137 = .ok (.invokevirtual 141, 3) := by decide +kernel
theorem dX2_digest_140 : decode cX2_digest 140 = .ok (.aload_n 0, 1) := by decide +kernel
theorem dX2_digest_141 : decode cX2_digest 141 = .ok (.aload_n 0, 1) := by decide +kernel
theorem dX2_digest_142 : decode cX2_digest 142 = .ok (.getfield 118, 3) := by decide +kernel
theorem dX2_digest_145 : decode cX2_digest 145 = .ok (.i2l, 1) := by decide +kernel
theorem dX2_digest_146 : decode cX2_digest 146 = .ok (.invokevirtual 141, 3) := by decide +kernel
theorem dX2_digest_149 : decode cX2_digest 149 = .ok (.aload_n 0, 1) := by decide +kernel
theorem dX2_digest_150 : decode cX2_digest 150 = .ok (.aload_n 0, 1) := by decide +kernel
theorem dX2_digest_151 : decode cX2_digest 151 = .ok (.getfield 121, 3) := by decide +kernel
theorem dX2_digest_154 : decode cX2_digest 154 = .ok (.i2l, 1) := by decide +kernel
theorem dX2_digest_155 : decode cX2_digest 155 = .ok (.invokevirtual 141, 3) := by decide +kernel
theorem dX2_digest_158 : decode cX2_digest 158 = .ok (.aload_n 0, 1) := by decide +kernel
theorem dX2_digest_159 : decode cX2_digest 159 = .ok (.aload_n 0, 1) := by decide +kernel
theorem dX2_digest_160 : decode cX2_digest 160 = .ok (.getfield 124, 3) := by decide +kernel
theorem dX2_digest_163 : decode cX2_digest 163 = .ok (.i2l, 1) := by decide +kernel
theorem dX2_digest_164 : decode cX2_digest 164 = .ok (.invokevirtual 141, 3) := by decide +kernel
theorem dX2_digest_167 : decode cX2_digest 167 = .ok (.aload_n 0, 1) := by decide +kernel
theorem dX2_digest_168 : decode cX2_digest 168 = .ok (.aload_n 0, 1) := by decide +kernel
theorem dX2_digest_169 : decode cX2_digest 169 = .ok (.getfield 115, 3) := by decide +kernel
theorem dX2_digest_172 : decode cX2_digest 172 = .ok (.i2l, 1) := by decide +kernel
theorem dX2_digest_173 : decode cX2_digest 173 = .ok (.invokevirtual 141, 3) := by decide +kernel
theorem dX2_digest_176 : decode cX2_digest 176 = .ok (.iconst 0, 1) := by decide +kernel
theorem dX2_digest_177 : decode cX2_digest 177 = .ok (.istore_n 1, 1) := by decide +kernel
theorem dX2_digest_178 : decode cX2_digest 178 = .ok (.iload_n 1, 1) := by decide +kernel
theorem dX2_digest_179 : decode cX2_digest 179 = .ok (.aload_n 0, 1) := by decide +kernel
theorem dX2_digest_180 : decode cX2_digest 180 = .ok (.getfield 115, 3) := by decide +kernel
theorem dX2_digest_183 : decode cX2_digest 183 = .ok (.if_icmp .ge 20, 3) := by decide +kernel
theorem dX2_digest_186 : decode cX2_digest 186 = .ok (.aload_n 0, 1) := by decide +kernel
theorem dX2_digest_187 : decode cX2_digest 187 = .ok (.aload_n 0, 1) := by decide +kernel
theorem dX2_digest_188 : decode cX2_digest 188 = .ok (.getfield 35, 3) := by decide +kernel
theorem dX2_digest_191 : decode cX2_digest 191 = .ok (.iload_n 1, 1) := by decide +kernel
theorem dX2_digest_192 : decode cX2_digest 192 = .ok (.iaload, 1) := by decide +kernel
theorem dX2_digest_193 : decode cX2_digest 193 = .ok (.i2l, 1) := by decide +kernel
theorem dX2_digest_194 : decode cX2_digest 194 = .ok (.invokevirtual 141, 3) := by decide +kernel
theorem dX2_digest_197 : decode cX2_digest 197 = .ok (.iinc 1 1, 3) := by decide +kernel
theorem dX2_digest_200 : decode cX2_digest 200 = .ok (.goto (-22), 3) := by decide +kernel
theorem dX2_digest_203 : decode cX2_digest 203 = .ok (.iconst 0, 1) := by decide +kernel
theorem dX2_digest_204 : decode cX2_digest 204 = .ok (.istore_n 1, 1) := by decide +kernel
theorem dX2_digest_205 : decode cX2_digest 205 = .ok (.iload_n 1, 1) := by decide +kernel
theorem dX2_digest_206 : decode cX2_digest 206 = .ok (.aload_n 0, 1) := by decide +kernel
theorem dX2_digest_207 : decode cX2_digest 207 = .ok (.getfield 118, 3) := by decide +kernel
theorem dX2_digest_210 : decode cX2_digest 210 = .ok (.if_icmp .ge 20, 3) := by decide +kernel
theorem dX2_digest_213 : decode cX2_digest 213 = .ok (.aload_n 0, 1) := by decide +kernel
theorem dX2_digest_214 : decode cX2_digest 214 = .ok (.aload_n 0, 1) := by decide +kernel
theorem dX2_digest_215 : decode cX2_digest 215 = .ok (.getfield 38, 3) := by decide +kernel
theorem dX2_digest_218 : decode cX2_digest 218 = .ok (.iload_n 1, 1) := by decide +kernel
theorem dX2_digest_219 : decode cX2_digest 219 = .ok (.iaload, 1) := by decide +kernel
theorem dX2_digest_220 : decode cX2_digest 220 = .ok (.i2l, 1) := by decide +kernel
theorem dX2_digest_221 : decode cX2_digest 221 = .ok (.invokevirtual 141, 3) := by decide +kernel
theorem dX2_digest_224 : decode cX2_digest 224 = .ok (.iinc 1 1, 3) := by decide +kernel
theorem dX2_digest_227 : decode cX2_digest 227 = .ok (.goto (-22), 3) := by decide +kernel
theorem dX2_digest_230 : decode cX2_digest 230 = .ok (.aload_n 0, 1) := by decide +kernel
theorem dX2_digest_231 : decode cX2_digest 231 = .ok (.getfield 135, 3) := by decide +kernel
theorem dX2_digest_234 : decode cX2_digest 234 = .ok (.lreturn, 1) := by decide +kernel
theorem dJ9_abs_0f7a4_0 : decode cJ9_abs_0f7a4 0 = .ok (.iload_n 0, 1) := by decide +kernel
theorem dJ9_abs_0f7a4_1 : decode cJ9_abs_0f7a4 1 = .ok (.ifCond .ge 8, 3) := by decide +kernel
theorem dJ9_abs_0f7a4_4 : decode cJ9_abs_0f7a4 4 = .ok (.iload_n 0, 1) := by decide +kernel
theorem dJ9_abs_0f7a4_5 : decode cJ9_abs_0f7a4 5 = .ok (.ineg, 1) := by decide +kernel
theorem dJ9_abs_0f7a4_6 : decode cJ9_abs_0f7a4 6 = .ok (.goto 4, 3) := by decide +kernel
theorem dJ9_abs_0f7a4_9 : decode cJ9_abs_0f7a4 9 = .ok (.iload_n 0, 1) := by decide +kernel
theorem dJ9_abs_0f7a4_10 : decode cJ9_abs_0f7a4 10 = .ok (.ireturn, 1) := by decide +kernel
theorem dJ9_max_7cf53_0 : decode cJ9_max_7cf53 0 = .ok (.iload_n 0, 1) := by decide +kernel
theorem dJ9_max_7cf53_1 : decode cJ9_max_7cf53 1 = .ok (.iload_n 1, 1) := by decide +kernel
theorem dJ9_max_7cf53_2 : decode cJ9_max_7cf53 2 = .ok (.if_icmp .lt 7, 3) := by decide +kernel
theorem dJ9_max_7cf53_5 : decode cJ9_max_7cf53 5 = .ok (.iload_n 0, 1) := by decide +kernel
theorem dJ9_max_7cf53_6 : decode cJ9_max_7cf53 6 = .ok (.goto 4, 3) := by decide +kernel
theorem dJ9_max_7cf53_9 : decode cJ9_max_7cf53 9 = .ok (.iload_n 1, 1) := by decide +kernel
theorem dJ9_max_7cf53_10 : decode cJ9_max_7cf53 10 = .ok (.ireturn, 1) := by decide +kernel
theorem dJ9_min_7cf53_0 : decode cJ9_min_7cf53 0 = .ok (.iload_n 0, 1) := by decide +kernel
theorem dJ9_min_7cf53_1 : decode cJ9_min_7cf53 1 = .ok (.iload_n 1, 1) := by decide +kernel
theorem dJ9_min_7cf53_2 : decode cJ9_min_7cf53 2 = .ok (.if_icmp .gt 7, 3) := by decide +kernel
theorem dJ9_min_7cf53_5 : decode cJ9_min_7cf53 5 = .ok (.iload_n 0, 1) := by decide +kernel
theorem dJ9_min_7cf53_6 : decode cJ9_min_7cf53 6 = .ok (.goto 4, 3) := by decide +kernel
theorem dJ9_min_7cf53_9 : decode cJ9_min_7cf53 9 = .ok (.iload_n 1, 1) := by decide +kernel
theorem dJ9_min_7cf53_10 : decode cJ9_min_7cf53 10 = .ok (.ireturn, 1) := by decide +kernel
set_option maxRecDepth 20000 in
theorem ggL_law_X1_init : GoodIn wsL_law wsX1_init := goodIn_r _ [8, 9, 10, 11, 12, 13, 14, 15, 16, 17, 18, 19, 20, 21, 22, 23, 24, 25, 26, 27, 28, 29, 30, 31, 32, 33, 34, 35, 36, 37, 440, 441, 442, 443, 444, 445, 446, 447, 448, 449, 450, 451, 472, 473, 474, 475, 476, 477, 478] (by decide +kernel) (by decide +kernel)
set_option maxRecDepth 20000 in
theorem gL_law_X1_init : GoodIn wsL_law (wsX1_init) := ggL_law_X1_init
set_option maxRecDepth 20000 in
theorem ggL_law_X2_init : GoodIn wsL_law wsX2_init := goodIn_r _ [40, 41, 10, 11, 12, 42, 43, 44, 45, 46, 47, 48, 49, 50, 51, 52, 53, 452, 453, 454, 455, 456, 457, 458, 459, 460, 461, 462, 463, 464, 465, 466, 467, 468, 469, 470, 471] (by decide +kernel) (by decide +kernel)
set_option maxRecDepth 20000 in
theorem gL_law_X2_init : GoodIn wsL_law (wsX2_init) := ggL_law_X2_init
set_option maxRecDepth 20000 in
theorem ggL_law_X1_append : GoodIn wsL_law wsX1_append := goodIn_r _ [57, 58, 14, 59, 13, 440, 441, 442, 443, 444, 445, 446, 447, 448, 449, 450, 451] (by decide +kernel) (by decide +kernel)
set_option maxRecDepth 20000 in
theorem gL_law_X1_append : GoodIn wsL_law (wsV RL 13 RX1 yX1_append wsX1_append) := goodIn_app (goodIn_of _ (by decide +kernel)) ggL_law_X1_append
set_option maxRecDepth 20000 in
theorem ggL_law_X2_append : GoodIn wsL_law wsX2_append := goodIn_r _ [63, 64, 65, 66, 42, 67, 68, 5, 69, 452, 453, 454, 455, 456, 457, 458, 459, 460, 461, 462, 463, 464, 465, 466, 467, 468, 469, 470, 471] (by decide +kernel) (by decide +kernel)
set_option maxRecDepth 20000 in
theorem gL_law_X2_append : GoodIn wsL_law (wsV RL 17 RX2 yX2_append wsX2_append) := goodIn_app (goodIn_of _ (by decide +kernel)) ggL_law_X2_append
set_option maxRecDepth 20000 in
theorem ggL_law_X1_clearText : GoodIn wsL_law wsX1_clearText := goodIn_r _ [73, 14, 440, 441, 442, 443, 444, 445, 446, 447, 448, 449, 450, 451] (by decide +kernel) (by decide +kernel)
set_option maxRecDepth 20000 in
theorem gL_law_X1_clearText : GoodIn wsL_law (wsV RL 18 RX1 yX1_clearText wsX1_clearText) := goodIn_app (goodIn_of _ (by decide +kernel)) ggL_law_X1_clearText
set_option maxRecDepth 20000 in
theorem ggL_law_X2_clearText : GoodIn wsL_law wsX2_clearText := goodIn_r _ [77, 65, 452, 453, 454, 455, 456, 457, 458, 459, 460, 461, 462, 463, 464, 465, 466, 467, 468, 469, 470, 471] (by decide +kernel) (by decide +kernel)
set_option maxRecDepth 20000 in
theorem gL_law_X2_clearText : GoodIn wsL_law (wsV RL 22 RX2 yX2_clearText wsX2_clearText) := goodIn_app (goodIn_of _ (by decide +kernel)) ggL_law_X2_clearText
set_option maxRecDepth 20000 in
theorem ggL_law_X1_pairCount : GoodIn wsL_law wsX1_pairCount := goodIn_r _ [81, 82, 14, 13, 83, 84, 2, 85, 86, 87, 88, 440, 441, 442, 443, 444, 445, 446, 447, 448, 449, 450, 451] (by decide +kernel) (by decide +kernel)
set_option maxRecDepth 20000 in
theorem gL_law_X1_pairCount : GoodIn wsL_law (wsV RL 23 RX1 yX1_pairCount wsX1_pairCount) := goodIn_app (goodIn_of _ (by decide +kernel)) ggL_law_X1_pairCount
set_option maxRecDepth 20000 in
theorem ggL_law_X2_pairCount : GoodIn wsL_law wsX2_pairCount := goodIn_r _ [92, 93, 65, 42, 94, 95, 5, 96, 67, 68, 69, 452, 453, 454, 455, 456, 457, 458, 459, 460, 461, 462, 463, 464, 465, 466, 467, 468, 469, 470, 471] (by decide +kernel) (by decide +kernel)
set_option maxRecDepth 20000 in
theorem gL_law_X2_pairCount : GoodIn wsL_law (wsV RL 27 RX2 yX2_pairCount wsX2_pairCount) := goodIn_app (goodIn_of _ (by decide +kernel)) ggL_law_X2_pairCount
set_option maxRecDepth 20000 in
theorem ggL_law_X1_setTravelTime : GoodIn wsL_law wsX1_setTravelTime := goodIn_r _ [100, 82, 15, 440, 441, 442, 443, 444, 445, 446, 447, 448, 449, 450, 451] (by decide +kernel) (by decide +kernel)
set_option maxRecDepth 20000 in
theorem gL_law_X1_setTravelTime : GoodIn wsL_law (wsV RL 28 RX1 yX1_setTravelTime wsX1_setTravelTime) := goodIn_app (goodIn_of _ (by decide +kernel)) ggL_law_X1_setTravelTime
set_option maxRecDepth 20000 in
theorem ggL_law_X2_setTravelTime : GoodIn wsL_law wsX2_setTravelTime := goodIn_r _ [104, 93, 43, 67, 68, 5, 69, 452, 453, 454, 455, 456, 457, 458, 459, 460, 461, 462, 463, 464, 465, 466, 467, 468, 469, 470, 471] (by decide +kernel) (by decide +kernel)
set_option maxRecDepth 20000 in
theorem gL_law_X2_setTravelTime : GoodIn wsL_law (wsV RL 31 RX2 yX2_setTravelTime wsX2_setTravelTime) := goodIn_app (goodIn_of _ (by decide +kernel)) ggL_law_X2_setTravelTime
set_option maxRecDepth 20000 in
theorem ggL_law_X1_setClashDistance : GoodIn wsL_law wsX1_setClashDistance := goodIn_r _ [108, 82, 16, 440, 441, 442, 443, 444, 445, 446, 447, 448, 449, 450, 451] (by decide +kernel) (by decide +kernel)
set_option maxRecDepth 20000 in
theorem gL_law_X1_setClashDistance : GoodIn wsL_law (wsV RL 32 RX1 yX1_setClashDistance wsX1_setClashDistance) := goodIn_app (goodIn_of _ (by decide +kernel)) ggL_law_X1_setClashDistance
set_option maxRecDepth 20000 in
theorem ggL_law_X2_setClashDistance : GoodIn wsL_law wsX2_setClashDistance := goodIn_r _ [112, 93, 44, 67, 68, 5, 69, 452, 453, 454, 455, 456, 457, 458, 459, 460, 461, 462, 463, 464, 465, 466, 467, 468, 469, 470, 471] (by decide +kernel) (by decide +kernel)
set_option maxRecDepth 20000 in
theorem gL_law_X2_setClashDistance : GoodIn wsL_law (wsV RL 35 RX2 yX2_setClashDistance wsX2_setClashDistance) := goodIn_app (goodIn_of _ (by decide +kernel)) ggL_law_X2_setClashDistance
set_option maxRecDepth 20000 in
theorem ggL_law_X1_setClearingTime : GoodIn wsL_law wsX1_setClearingTime := goodIn_r _ [116, 82, 17, 440, 441, 442, 443, 444, 445, 446, 447, 448, 449, 450, 451] (by decide +kernel) (by decide +kernel)
set_option maxRecDepth 20000 in
theorem gL_law_X1_setClearingTime : GoodIn wsL_law (wsV RL 36 RX1 yX1_setClearingTime wsX1_setClearingTime) := goodIn_app (goodIn_of _ (by decide +kernel)) ggL_law_X1_setClearingTime
set_option maxRecDepth 20000 in
theorem ggL_law_X2_setClearingTime : GoodIn wsL_law wsX2_setClearingTime := goodIn_r _ [120, 93, 45, 67, 68, 5, 69, 452, 453, 454, 455, 456, 457, 458, 459, 460, 461, 462, 463, 464, 465, 466, 467, 468, 469, 470, 471] (by decide +kernel) (by decide +kernel)
set_option maxRecDepth 20000 in
theorem gL_law_X2_setClearingTime : GoodIn wsL_law (wsV RL 39 RX2 yX2_setClearingTime wsX2_setClearingTime) := goodIn_app (goodIn_of _ (by decide +kernel)) ggL_law_X2_setClearingTime
set_option maxRecDepth 20000 in
theorem ggL_law_X1_loadLayout : GoodIn wsL_law wsX1_loadLayout := goodIn_r _ [124, 125, 13, 14, 22, 126, 127, 128, 2, 129, 130, 131, 132, 133, 18, 19, 440, 441, 442, 443, 444, 445, 446, 447, 448, 449, 450, 451] (by decide +kernel) (by decide +kernel)
set_option maxRecDepth 20000 in
theorem gL_law_X1_loadLayout : GoodIn wsL_law (wsV RL 40 RX1 yX1_loadLayout wsX1_loadLayout) := goodIn_app (goodIn_of _ (by decide +kernel)) ggL_law_X1_loadLayout
set_option maxRecDepth 20000 in
theorem ggL_law_X2_loadLayout : GoodIn wsL_law wsX2_loadLayout := goodIn_r _ [137, 138, 47, 42, 46, 65, 139, 140, 141, 142, 5, 143, 452, 453, 454, 455, 456, 457, 458, 459, 460, 461, 462, 463, 464, 465, 466, 467, 468, 469, 470, 471] (by decide +kernel) (by decide +kernel)
set_option maxRecDepth 20000 in
theorem gL_law_X2_loadLayout : GoodIn wsL_law (wsV RL 43 RX2 yX2_loadLayout wsX2_loadLayout) := goodIn_app (goodIn_of _ (by decide +kernel)) ggL_law_X2_loadLayout
set_option maxRecDepth 20000 in
theorem ggL_law_X1_letterAt : GoodIn wsL_law wsX1_letterAt := goodIn_r _ [147, 18, 82, 83, 84, 2, 85, 440, 441, 442, 443, 444, 445, 446, 447, 448, 449, 450, 451] (by decide +kernel) (by decide +kernel)
set_option maxRecDepth 20000 in
theorem gL_law_X1_letterAt : GoodIn wsL_law (wsV RL 44 RX1 yX1_letterAt wsX1_letterAt) := goodIn_app (goodIn_of _ (by decide +kernel)) ggL_law_X1_letterAt
set_option maxRecDepth 20000 in
theorem ggL_law_X2_letterAt : GoodIn wsL_law wsX2_letterAt := goodIn_r _ [151, 47, 93, 67, 68, 5, 69, 452, 453, 454, 455, 456, 457, 458, 459, 460, 461, 462, 463, 464, 465, 466, 467, 468, 469, 470, 471] (by decide +kernel) (by decide +kernel)
set_option maxRecDepth 20000 in
theorem gL_law_X2_letterAt : GoodIn wsL_law (wsV RL 47 RX2 yX2_letterAt wsX2_letterAt) := goodIn_app (goodIn_of _ (by decide +kernel)) ggL_law_X2_letterAt
set_option maxRecDepth 20000 in
theorem ggL_law_X1_positionOf : GoodIn wsL_law wsX1_positionOf := goodIn_r _ [155, 19, 82, 83, 84, 2, 85, 440, 441, 442, 443, 444, 445, 446, 447, 448, 449, 450, 451] (by decide +kernel) (by decide +kernel)
set_option maxRecDepth 20000 in
theorem gL_law_X1_positionOf : GoodIn wsL_law (wsV RL 48 RX1 yX1_positionOf wsX1_positionOf) := goodIn_app (goodIn_of _ (by decide +kernel)) ggL_law_X1_positionOf
set_option maxRecDepth 20000 in
theorem ggL_law_X2_positionOf : GoodIn wsL_law wsX2_positionOf := goodIn_r _ [159, 46, 93, 94, 95, 5, 96, 67, 68, 69, 452, 453, 454, 455, 456, 457, 458, 459, 460, 461, 462, 463, 464, 465, 466, 467, 468, 469, 470, 471] (by decide +kernel) (by decide +kernel)
set_option maxRecDepth 20000 in
theorem gL_law_X2_positionOf : GoodIn wsL_law (wsV RL 51 RX2 yX2_positionOf wsX2_positionOf) := goodIn_app (goodIn_of _ (by decide +kernel)) ggL_law_X2_positionOf
set_option maxRecDepth 20000 in
theorem ggL_law_X1_swap : GoodIn wsL_law wsX1_swap := goodIn_r _ [163, 164, 165, 2, 166, 82, 167, 83, 84, 85, 168, 169, 170, 171, 22, 20, 21, 172, 173, 174, 175, 18, 130, 131, 132, 133, 19, 176, 177, 178, 179, 180, 181, 182, 183, 14, 13, 184, 185, 186, 187, 188, 189, 190, 191, 16, 192, 193, 194, 440, 441, 442, 443, 444, 445, 446, 447, 448, 449, 450, 451] (by decide +kernel) (by decide +kernel)
set_option maxRecDepth 20000 in
theorem gL_law_X1_swap : GoodIn wsL_law (wsV RL 52 RX1 yX1_swap wsX1_swap) := goodIn_app (goodIn_of _ (by decide +kernel)) ggL_law_X1_swap
set_option maxRecDepth 20000 in
theorem ggL_law_X2_swap : GoodIn wsL_law wsX2_swap := goodIn_r _ [198, 199, 200, 5, 201, 93, 202, 94, 95, 96, 67, 68, 69, 203, 204, 205, 206, 48, 139, 49, 207, 208, 209, 210, 47, 46, 211, 212, 213, 214, 65, 42, 215, 216, 217, 218, 44, 219, 220, 221, 452, 453, 454, 455, 456, 457, 458, 459, 460, 461, 462, 463, 464, 465, 466, 467, 468, 469, 470, 471] (by decide +kernel) (by decide +kernel)
set_option maxRecDepth 20000 in
theorem gL_law_X2_swap : GoodIn wsL_law (wsV RL 55 RX2 yX2_swap wsX2_swap) := goodIn_app (goodIn_of _ (by decide +kernel)) ggL_law_X2_swap
set_option maxRecDepth 20000 in
theorem ggL_law_X1_undo : GoodIn wsL_law wsX1_undo := goodIn_r _ [225, 22, 226, 20, 21, 172, 173, 174, 2, 175, 18, 130, 131, 132, 133, 19, 180, 181, 182, 183, 14, 13, 184, 185, 186, 187, 188, 189, 190, 191, 16, 192, 193, 194, 440, 441, 442, 443, 444, 445, 446, 447, 448, 449, 450, 451] (by decide +kernel) (by decide +kernel)
set_option maxRecDepth 20000 in
theorem gL_law_X1_undo : GoodIn wsL_law (wsV RL 56 RX1 yX1_undo wsX1_undo) := goodIn_app (goodIn_of _ (by decide +kernel)) ggL_law_X1_undo
set_option maxRecDepth 20000 in
theorem ggL_law_X2_undo : GoodIn wsL_law wsX2_undo := goodIn_r _ [230, 139, 231, 48, 49, 207, 208, 209, 5, 210, 47, 46, 211, 212, 213, 214, 65, 42, 215, 216, 217, 218, 44, 219, 220, 221, 452, 453, 454, 455, 456, 457, 458, 459, 460, 461, 462, 463, 464, 465, 466, 467, 468, 469, 470, 471] (by decide +kernel) (by decide +kernel)
set_option maxRecDepth 20000 in
theorem gL_law_X2_undo : GoodIn wsL_law (wsV RL 59 RX2 yX2_undo wsX2_undo) := goodIn_app (goodIn_of _ (by decide +kernel)) ggL_law_X2_undo
set_option maxRecDepth 20000 in
theorem ggL_law_X1_undoCount : GoodIn wsL_law wsX1_undoCount := goodIn_r _ [235, 22, 440, 441, 442, 443, 444, 445, 446, 447, 448, 449, 450, 451] (by decide +kernel) (by decide +kernel)
set_option maxRecDepth 20000 in
theorem gL_law_X1_undoCount : GoodIn wsL_law (wsV RL 60 RX1 yX1_undoCount wsX1_undoCount) := goodIn_app (goodIn_of _ (by decide +kernel)) ggL_law_X1_undoCount
set_option maxRecDepth 20000 in
theorem ggL_law_X2_undoCount : GoodIn wsL_law wsX2_undoCount := goodIn_r _ [239, 139, 452, 453, 454, 455, 456, 457, 458, 459, 460, 461, 462, 463, 464, 465, 466, 467, 468, 469, 470, 471] (by decide +kernel) (by decide +kernel)
set_option maxRecDepth 20000 in
theorem gL_law_X2_undoCount : GoodIn wsL_law (wsV RL 63 RX2 yX2_undoCount wsX2_undoCount) := goodIn_app (goodIn_of _ (by decide +kernel)) ggL_law_X2_undoCount
set_option maxRecDepth 20000 in
theorem ggL_law_X1_mirror : GoodIn wsL_law wsX1_mirror := goodIn_r _ [243, 22, 172, 173, 174, 2, 175, 18, 130, 131, 132, 133, 19, 180, 181, 182, 183, 14, 13, 184, 185, 186, 187, 188, 189, 190, 191, 16, 192, 193, 194, 440, 441, 442, 443, 444, 445, 446, 447, 448, 449, 450, 451] (by decide +kernel) (by decide +kernel)
set_option maxRecDepth 20000 in
theorem gL_law_X1_mirror : GoodIn wsL_law (wsV RL 64 RX1 yX1_mirror wsX1_mirror) := goodIn_app (goodIn_of _ (by decide +kernel)) ggL_law_X1_mirror
set_option maxRecDepth 20000 in
theorem ggL_law_X2_mirror : GoodIn wsL_law wsX2_mirror := goodIn_r _ [247, 139, 207, 208, 209, 5, 210, 47, 46, 211, 212, 213, 214, 65, 42, 215, 216, 217, 218, 44, 219, 220, 221, 452, 453, 454, 455, 456, 457, 458, 459, 460, 461, 462, 463, 464, 465, 466, 467, 468, 469, 470, 471] (by decide +kernel) (by decide +kernel)
set_option maxRecDepth 20000 in
theorem gL_law_X2_mirror : GoodIn wsL_law (wsV RL 67 RX2 yX2_mirror wsX2_mirror) := goodIn_app (goodIn_of _ (by decide +kernel)) ggL_law_X2_mirror
set_option maxRecDepth 20000 in
theorem ggL_law_X1_cost : GoodIn wsL_law wsX1_cost := goodIn_r _ [183, 14, 13, 184, 185, 186, 2, 187, 19, 188, 189, 190, 191, 16, 192, 193, 194, 440, 441, 442, 443, 444, 445, 446, 447, 448, 449, 450, 451] (by decide +kernel) (by decide +kernel)
set_option maxRecDepth 20000 in
theorem gL_law_X1_cost : GoodIn wsL_law (wsV RL 68 RX1 yX1_cost wsX1_cost) := goodIn_app (goodIn_of _ (by decide +kernel)) ggL_law_X1_cost
set_option maxRecDepth 20000 in
theorem ggL_law_X2_cost : GoodIn wsL_law wsX2_cost := goodIn_r _ [252, 211, 212, 213, 5, 214, 65, 42, 215, 216, 217, 218, 44, 46, 219, 220, 221, 452, 453, 454, 455, 456, 457, 458, 459, 460, 461, 462, 463, 464, 465, 466, 467, 468, 469, 470, 471] (by decide +kernel) (by decide +kernel)
set_option maxRecDepth 20000 in
theorem gL_law_X2_cost : GoodIn wsL_law (wsV RL 71 RX2 yX2_cost wsX2_cost) := goodIn_app (goodIn_of _ (by decide +kernel)) ggL_law_X2_cost
set_option maxRecDepth 20000 in
theorem ggL_law_X1_gain : GoodIn wsL_law wsX1_gain := goodIn_r _ [256, 164, 165, 2, 166, 82, 167, 83, 84, 85, 180, 181, 182, 183, 14, 13, 184, 185, 186, 187, 19, 188, 189, 190, 191, 16, 192, 193, 194, 257, 258, 259, 260, 172, 173, 174, 175, 18, 130, 131, 132, 133, 440, 441, 442, 443, 444, 445, 446, 447, 448, 449, 450, 451] (by decide +kernel) (by decide +kernel)
set_option maxRecDepth 20000 in
theorem gL_law_X1_gain : GoodIn wsL_law (wsV RL 72 RX1 yX1_gain wsX1_gain) := goodIn_app (goodIn_of _ (by decide +kernel)) ggL_law_X1_gain
set_option maxRecDepth 20000 in
theorem ggL_law_X2_gain : GoodIn wsL_law wsX2_gain := goodIn_r _ [264, 199, 200, 5, 201, 93, 202, 94, 95, 96, 67, 68, 69, 265, 266, 267, 268, 211, 212, 213, 214, 65, 42, 215, 216, 217, 218, 44, 46, 219, 220, 221, 207, 208, 209, 210, 47, 452, 453, 454, 455, 456, 457, 458, 459, 460, 461, 462, 463, 464, 465, 466, 467, 468, 469, 470, 471] (by decide +kernel) (by decide +kernel)
set_option maxRecDepth 20000 in
theorem gL_law_X2_gain : GoodIn wsL_law (wsV RL 75 RX2 yX2_gain wsX2_gain) := goodIn_app (goodIn_of _ (by decide +kernel)) ggL_law_X2_gain
set_option maxRecDepth 20000 in
theorem ggL_law_X1_bestSwap : GoodIn wsL_law wsX1_bestSwap := goodIn_r _ [272, 226, 180, 181, 182, 2, 183, 14, 13, 184, 185, 186, 187, 19, 188, 189, 190, 191, 16, 192, 193, 194, 257, 258, 259, 260, 172, 173, 174, 175, 18, 130, 131, 132, 133, 440, 441, 442, 443, 444, 445, 446, 447, 448, 449, 450, 451] (by decide +kernel) (by decide +kernel)
set_option maxRecDepth 20000 in
theorem gL_law_X1_bestSwap : GoodIn wsL_law (wsV RL 76 RX1 yX1_bestSwap wsX1_bestSwap) := goodIn_app (goodIn_of _ (by decide +kernel)) ggL_law_X1_bestSwap
set_option maxRecDepth 20000 in
theorem ggL_law_X2_bestSwap : GoodIn wsL_law wsX2_bestSwap := goodIn_r _ [276, 277, 278, 279, 5, 280, 231, 265, 266, 267, 268, 211, 212, 213, 214, 65, 42, 215, 216, 217, 218, 44, 46, 219, 220, 221, 207, 208, 209, 210, 47, 452, 453, 454, 455, 456, 457, 458, 459, 460, 461, 462, 463, 464, 465, 466, 467, 468, 469, 470, 471] (by decide +kernel) (by decide +kernel)
set_option maxRecDepth 20000 in
theorem gL_law_X2_bestSwap : GoodIn wsL_law (wsV RL 79 RX2 yX2_bestSwap wsX2_bestSwap) := goodIn_app (goodIn_of _ (by decide +kernel)) ggL_law_X2_bestSwap
set_option maxRecDepth 20000 in
theorem ggL_law_X1_improve : GoodIn wsL_law wsX1_improve := goodIn_r _ [284, 82, 226, 285, 270, 271, 2, 272, 180, 181, 182, 183, 14, 13, 184, 185, 186, 187, 19, 188, 189, 190, 191, 16, 192, 193, 194, 257, 258, 259, 260, 172, 173, 174, 175, 18, 130, 131, 132, 133, 168, 169, 170, 171, 22, 20, 21, 176, 177, 178, 179, 440, 441, 442, 443, 444, 445, 446, 447, 448, 449, 450, 451] (by decide +kernel) (by decide +kernel)
set_option maxRecDepth 20000 in
theorem gL_law_X1_improve : GoodIn wsL_law (wsV RL 80 RX1 yX1_improve wsX1_improve) := goodIn_app (goodIn_of _ (by decide +kernel)) ggL_law_X1_improve
set_option maxRecDepth 20000 in
theorem ggL_law_X2_improve : GoodIn wsL_law wsX2_improve := goodIn_r _ [289, 93, 231, 67, 68, 5, 69, 277, 278, 279, 280, 265, 266, 267, 268, 211, 212, 213, 214, 65, 42, 215, 216, 217, 218, 44, 46, 219, 220, 221, 207, 208, 209, 210, 47, 203, 204, 205, 206, 48, 139, 49, 452, 453, 454, 455, 456, 457, 458, 459, 460, 461, 462, 463, 464, 465, 466, 467, 468, 469, 470, 471] (by decide +kernel) (by decide +kernel)
set_option maxRecDepth 20000 in
theorem gL_law_X2_improve : GoodIn wsL_law (wsV RL 83 RX2 yX2_improve wsX2_improve) := goodIn_app (goodIn_of _ (by decide +kernel)) ggL_law_X2_improve
set_option maxRecDepth 20000 in
theorem ggL_law_X1_worstLetter : GoodIn wsL_law wsX1_worstLetter := goodIn_r _ [293, 226, 294, 295, 296, 2, 297, 14, 13, 184, 185, 186, 187, 19, 188, 189, 190, 191, 16, 192, 193, 194, 440, 441, 442, 443, 444, 445, 446, 447, 448, 449, 450, 451] (by decide +kernel) (by decide +kernel)
set_option maxRecDepth 20000 in
theorem gL_law_X1_worstLetter : GoodIn wsL_law (wsV RL 84 RX1 yX1_worstLetter wsX1_worstLetter) := goodIn_app (goodIn_of _ (by decide +kernel)) ggL_law_X1_worstLetter
set_option maxRecDepth 20000 in
theorem ggL_law_X2_worstLetter : GoodIn wsL_law wsX2_worstLetter := goodIn_r _ [301, 302, 303, 304, 5, 305, 231, 306, 307, 308, 309, 65, 42, 215, 216, 217, 218, 44, 46, 219, 220, 221, 452, 453, 454, 455, 456, 457, 458, 459, 460, 461, 462, 463, 464, 465, 466, 467, 468, 469, 470, 471] (by decide +kernel) (by decide +kernel)
set_option maxRecDepth 20000 in
theorem gL_law_X2_worstLetter : GoodIn wsL_law (wsV RL 87 RX2 yX2_worstLetter wsX2_worstLetter) := goodIn_app (goodIn_of _ (by decide +kernel)) ggL_law_X2_worstLetter
set_option maxRecDepth 20000 in
theorem ggL_law_X1_run : GoodIn wsL_law wsX1_run := goodIn_r _ [313, 82, 26, 314, 315, 316, 2, 317, 14, 15, 17, 318, 25, 319, 320, 32, 34, 35, 36, 37, 321, 322, 323, 324, 13, 19, 16, 325, 326, 327, 328, 329, 330, 331, 193, 190, 194, 332, 333, 334, 335, 336, 337, 338, 33, 339, 340, 341, 31, 440, 441, 442, 443, 444, 445, 446, 447, 448, 449, 450, 451, 472, 473, 474, 475, 476, 477, 478] (by decide +kernel) (by decide +kernel)
set_option maxRecDepth 20000 in
theorem gL_law_X1_run : GoodIn wsL_law (wsV RL 88 RX1 yX1_run wsX1_run) := goodIn_app (goodIn_of _ (by decide +kernel)) ggL_law_X1_run
set_option maxRecDepth 20000 in
theorem ggL_law_X2_run : GoodIn wsL_law wsX2_run := goodIn_r _ [345, 93, 346, 347, 348, 65, 53, 50, 42, 51, 349, 43, 350, 67, 68, 5, 69, 351, 352, 353, 354, 52, 45, 355, 356, 357, 358, 46, 44, 219, 220, 221, 452, 453, 454, 455, 456, 457, 458, 459, 460, 461, 462, 463, 464, 465, 466, 467, 468, 469, 470, 471] (by decide +kernel) (by decide +kernel)
set_option maxRecDepth 20000 in
theorem gL_law_X2_run : GoodIn wsL_law (wsV RL 91 RX2 yX2_run wsX2_run) := goodIn_app (goodIn_of _ (by decide +kernel)) ggL_law_X2_run
set_option maxRecDepth 20000 in
theorem ggL_law_X1_jams : GoodIn wsL_law wsX1_jams := goodIn_r _ [362, 26, 440, 441, 442, 443, 444, 445, 446, 447, 448, 449, 450, 451, 472, 473, 474, 475, 476, 477, 478] (by decide +kernel) (by decide +kernel)
set_option maxRecDepth 20000 in
theorem gL_law_X1_jams : GoodIn wsL_law (wsV RL 92 RX1 yX1_jams wsX1_jams) := goodIn_app (goodIn_of _ (by decide +kernel)) ggL_law_X1_jams
set_option maxRecDepth 20000 in
theorem ggL_law_X2_jams : GoodIn wsL_law wsX2_jams := goodIn_r _ [366, 347, 452, 453, 454, 455, 456, 457, 458, 459, 460, 461, 462, 463, 464, 465, 466, 467, 468, 469, 470, 471] (by decide +kernel) (by decide +kernel)
set_option maxRecDepth 20000 in
theorem gL_law_X2_jams : GoodIn wsL_law (wsV RL 95 RX2 yX2_jams wsX2_jams) := goodIn_app (goodIn_of _ (by decide +kernel)) ggL_law_X2_jams
set_option maxRecDepth 20000 in
theorem ggL_law_X1_lost : GoodIn wsL_law wsX1_lost := goodIn_r _ [370, 26, 440, 441, 442, 443, 444, 445, 446, 447, 448, 449, 450, 451, 472, 473, 474, 475, 476, 477, 478] (by decide +kernel) (by decide +kernel)
set_option maxRecDepth 20000 in
theorem gL_law_X1_lost : GoodIn wsL_law (wsV RL 96 RX1 yX1_lost wsX1_lost) := goodIn_app (goodIn_of _ (by decide +kernel)) ggL_law_X1_lost
set_option maxRecDepth 20000 in
theorem ggL_law_X2_lost : GoodIn wsL_law wsX2_lost := goodIn_r _ [374, 348, 452, 453, 454, 455, 456, 457, 458, 459, 460, 461, 462, 463, 464, 465, 466, 467, 468, 469, 470, 471] (by decide +kernel) (by decide +kernel)
set_option maxRecDepth 20000 in
theorem gL_law_X2_lost : GoodIn wsL_law (wsV RL 99 RX2 yX2_lost wsX2_lost) := goodIn_app (goodIn_of _ (by decide +kernel)) ggL_law_X2_lost
set_option maxRecDepth 20000 in
theorem ggL_law_X1_duration : GoodIn wsL_law wsX1_duration := goodIn_r _ [378, 26, 440, 441, 442, 443, 444, 445, 446, 447, 448, 449, 450, 451, 472, 473, 474, 475, 476, 477, 478] (by decide +kernel) (by decide +kernel)
set_option maxRecDepth 20000 in
theorem gL_law_X1_duration : GoodIn wsL_law (wsV RL 100 RX1 yX1_duration wsX1_duration) := goodIn_app (goodIn_of _ (by decide +kernel)) ggL_law_X1_duration
set_option maxRecDepth 20000 in
theorem ggL_law_X2_duration : GoodIn wsL_law wsX2_duration := goodIn_r _ [382, 350, 452, 453, 454, 455, 456, 457, 458, 459, 460, 461, 462, 463, 464, 465, 466, 467, 468, 469, 470, 471] (by decide +kernel) (by decide +kernel)
set_option maxRecDepth 20000 in
theorem gL_law_X2_duration : GoodIn wsL_law (wsV RL 103 RX2 yX2_duration wsX2_duration) := goodIn_app (goodIn_of _ (by decide +kernel)) ggL_law_X2_duration
set_option maxRecDepth 20000 in
theorem ggL_law_X1_printedLetter : GoodIn wsL_law wsX1_printedLetter := goodIn_r _ [386, 26, 226, 440, 441, 442, 443, 444, 445, 446, 447, 448, 449, 450, 451, 472, 473, 474, 475, 476, 477, 478] (by decide +kernel) (by decide +kernel)
set_option maxRecDepth 20000 in
theorem gL_law_X1_printedLetter : GoodIn wsL_law (wsV RL 104 RX1 yX1_printedLetter wsX1_printedLetter) := goodIn_app (goodIn_of _ (by decide +kernel)) ggL_law_X1_printedLetter
set_option maxRecDepth 20000 in
theorem ggL_law_X2_printedLetter : GoodIn wsL_law wsX2_printedLetter := goodIn_r _ [390, 346, 50, 231, 67, 68, 5, 69, 452, 453, 454, 455, 456, 457, 458, 459, 460, 461, 462, 463, 464, 465, 466, 467, 468, 469, 470, 471] (by decide +kernel) (by decide +kernel)
set_option maxRecDepth 20000 in
theorem gL_law_X2_printedLetter : GoodIn wsL_law (wsV RL 107 RX2 yX2_printedLetter wsX2_printedLetter) := goodIn_app (goodIn_of _ (by decide +kernel)) ggL_law_X2_printedLetter
set_option maxRecDepth 20000 in
theorem ggL_law_X1_jammedKeystroke : GoodIn wsL_law wsX1_jammedKeystroke := goodIn_r _ [394, 26, 226, 440, 441, 442, 443, 444, 445, 446, 447, 448, 449, 450, 451, 472, 473, 474, 475, 476, 477, 478] (by decide +kernel) (by decide +kernel)
set_option maxRecDepth 20000 in
theorem gL_law_X1_jammedKeystroke : GoodIn wsL_law (wsV RL 108 RX1 yX1_jammedKeystroke wsX1_jammedKeystroke) := goodIn_app (goodIn_of _ (by decide +kernel)) ggL_law_X1_jammedKeystroke
set_option maxRecDepth 20000 in
theorem ggL_law_X2_jammedKeystroke : GoodIn wsL_law wsX2_jammedKeystroke := goodIn_r _ [398, 347, 51, 231, 67, 68, 5, 69, 452, 453, 454, 455, 456, 457, 458, 459, 460, 461, 462, 463, 464, 465, 466, 467, 468, 469, 470, 471] (by decide +kernel) (by decide +kernel)
set_option maxRecDepth 20000 in
theorem gL_law_X2_jammedKeystroke : GoodIn wsL_law (wsV RL 111 RX2 yX2_jammedKeystroke wsX2_jammedKeystroke) := goodIn_app (goodIn_of _ (by decide +kernel)) ggL_law_X2_jammedKeystroke
set_option maxRecDepth 20000 in
theorem ggL_law_X1_safeInterval : GoodIn wsL_law wsX1_safeInterval := goodIn_r _ [402, 27, 226, 314, 315, 316, 2, 317, 14, 15, 17, 318, 25, 319, 320, 32, 34, 35, 36, 37, 321, 322, 323, 324, 13, 19, 16, 325, 326, 327, 328, 329, 330, 331, 193, 190, 194, 332, 333, 334, 335, 336, 337, 338, 33, 339, 340, 341, 31, 440, 441, 442, 443, 444, 445, 446, 447, 448, 449, 450, 451, 472, 473, 474, 475, 476, 477, 478] (by decide +kernel) (by decide +kernel)
set_option maxRecDepth 20000 in
theorem gL_law_X1_safeInterval : GoodIn wsL_law (wsV RL 112 RX1 yX1_safeInterval wsX1_safeInterval) := goodIn_app (goodIn_of _ (by decide +kernel)) ggL_law_X1_safeInterval
set_option maxRecDepth 20000 in
theorem ggL_law_X2_safeInterval : GoodIn wsL_law wsX2_safeInterval := goodIn_r _ [406, 407, 408, 409, 5, 410, 231, 411, 412, 413, 414, 65, 53, 351, 352, 353, 354, 52, 45, 42, 349, 355, 356, 357, 358, 46, 44, 43, 219, 220, 221, 452, 453, 454, 455, 456, 457, 458, 459, 460, 461, 462, 463, 464, 465, 466, 467, 468, 469, 470, 471] (by decide +kernel) (by decide +kernel)
set_option maxRecDepth 20000 in
theorem gL_law_X2_safeInterval : GoodIn wsL_law (wsV RL 115 RX2 yX2_safeInterval wsX2_safeInterval) := goodIn_app (goodIn_of _ (by decide +kernel)) ggL_law_X2_safeInterval
set_option maxRecDepth 20000 in
theorem ggL_law_X1_digest : GoodIn wsL_law wsX1_digest := goodIn_r _ [418, 419, 14, 13, 15, 16, 17, 18, 22, 26, 420, 421, 2, 422, 423, 424, 425, 426, 180, 181, 182, 183, 184, 185, 186, 187, 19, 188, 189, 190, 191, 192, 193, 194, 285, 270, 271, 272, 226, 257, 258, 259, 260, 172, 173, 174, 175, 130, 131, 132, 133, 427, 291, 292, 293, 294, 295, 296, 297, 428, 400, 401, 402, 27, 314, 315, 316, 317, 318, 25, 319, 320, 32, 34, 35, 36, 37, 321, 322, 323, 324, 325, 326, 327, 328, 329, 330, 331, 332, 333, 334, 335, 336, 337, 338, 33, 339, 340, 341, 31, 440, 441, 442, 443, 444, 445, 446, 447, 448, 449, 450, 451, 472, 473, 474, 475, 476, 477, 478] (by decide +kernel) (by decide +kernel)
set_option maxRecDepth 20000 in
theorem gL_law_X1_digest : GoodIn wsL_law (wsV RL 116 RX1 yX1_digest wsX1_digest) := goodIn_app (goodIn_of _ (by decide +kernel)) ggL_law_X1_digest
set_option maxRecDepth 20000 in
theorem ggL_law_X2_digest : GoodIn wsL_law wsX2_digest := goodIn_r _ [432, 433, 434, 65, 42, 43, 44, 45, 47, 139, 347, 348, 350, 346, 50, 51, 435, 436, 437, 5, 438, 439, 211, 212, 213, 214, 215, 216, 217, 218, 46, 219, 220, 221, 277, 278, 279, 280, 231, 265, 266, 267, 268, 207, 208, 209, 210, 302, 303, 304, 305, 306, 307, 308, 309, 407, 408, 409, 410, 411, 412, 413, 414, 53, 351, 352, 353, 354, 52, 349, 355, 356, 357, 358, 452, 453, 454, 455, 456, 457, 458, 459, 460, 461, 462, 463, 464, 465, 466, 467, 468, 469, 470, 471] (by decide +kernel) (by decide +kernel)
set_option maxRecDepth 20000 in
theorem gL_law_X2_digest : GoodIn wsL_law (wsV RL 120 RX2 yX2_digest wsX2_digest) := goodIn_app (goodIn_of _ (by decide +kernel)) ggL_law_X2_digest
