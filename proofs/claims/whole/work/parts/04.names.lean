theorem dX2_init_0 : decode cX2_init 0 = .ok (.aload_n 0, 1) := by decide +kernel
theorem dX2_init_1 : decode cX2_init 1 = .ok (.invokespecial 1, 3) := by decide +kernel
theorem dX2_init_4 : decode cX2_init 4 = .ok (.aload_n 0, 1) := by decide +kernel
theorem dX2_init_5 : decode cX2_init 5 = .ok (.bipush 12, 2) := by decide +kernel
theorem dX2_init_7 : decode cX2_init 7 = .ok (.newarray .int, 2) := by decide +kernel
theorem dX2_init_9 : decode cX2_init 9 = .ok (.putfield 7, 3) := by decide +kernel
theorem dX2_init_12 : decode cX2_init 12 = .ok (.aload_n 0, 1) := by decide +kernel
theorem dX2_init_13 : decode cX2_init 13 = .ok (.bipush 12, 2) := by decide +kernel
theorem dX2_init_15 : decode cX2_init 15 = .ok (.newarray .boolean, 2) := by decide +kernel
theorem dX2_init_17 : decode cX2_init 17 = .ok (.putfield 13, 3) := by decide +kernel
theorem dX2_init_20 : decode cX2_init 20 = .ok (.aload_n 0, 1) := by decide +kernel
theorem dX2_init_21 : decode cX2_init 21 = .ok (.bipush 16, 2) := by decide +kernel
theorem dX2_init_23 : decode cX2_init 23 = .ok (.newarray .int, 2) := by decide +kernel
theorem dX2_init_25 : decode cX2_init 25 = .ok (.putfield 17, 3) := by decide +kernel
theorem dX2_init_28 : decode cX2_init 28 = .ok (.aload_n 0, 1) := by decide +kernel
theorem dX2_init_29 : decode cX2_init 29 = .ok (.bipush 16, 2) := by decide +kernel
theorem dX2_init_31 : decode cX2_init 31 = .ok (.newarray .int, 2) := by decide +kernel
theorem dX2_init_33 : decode cX2_init 33 = .ok (.putfield 20, 3) := by decide +kernel
theorem dX2_init_36 : decode cX2_init 36 = .ok (.return_, 1) := by decide +kernel
theorem dX2_thrown_0 : decode cX2_thrown 0 = .ok (.aload_n 0, 1) := by decide +kernel
theorem dX2_thrown_1 : decode cX2_thrown 1 = .ok (.getfield 23, 3) := by decide +kernel
theorem dX2_thrown_4 : decode cX2_thrown 4 = .ok (.ireturn, 1) := by decide +kernel
theorem dX2_isThrown_0 : decode cX2_isThrown 0 = .ok (.aload_n 0, 1) := by decide +kernel
theorem dX2_isThrown_1 : decode cX2_isThrown 1 = .ok (.iload_n 1, 1) := by decide +kernel
theorem dX2_isThrown_2 : decode cX2_isThrown 2 = .ok (.ifCond .eq 7, 3) := by decide +kernel
theorem dX2_isThrown_5 : decode cX2_isThrown 5 = .ok (.iload_n 2, 1) := by decide +kernel
theorem dX2_isThrown_6 : decode cX2_isThrown 6 = .ok (.goto 4, 3) := by decide +kernel
theorem dX2_isThrown_9 : decode cX2_isThrown 9 = .ok (.iconst 0, 1) := by decide +kernel
theorem dX2_isThrown_10 : decode cX2_isThrown 10 = .ok (.putfield 23, 3) := by decide +kernel
theorem dX2_isThrown_13 : decode cX2_isThrown 13 = .ok (.iload_n 1, 1) := by decide +kernel
theorem dX2_isThrown_14 : decode cX2_isThrown 14 = .ok (.ireturn, 1) := by decide +kernel
theorem dX2_isPlace_0 : decode cX2_isPlace 0 = .ok (.iload_n 0, 1) := by decide +kernel
theorem dX2_isPlace_1 : decode cX2_isPlace 1 = .ok (.ifCond .lt 13, 3) := by decide +kernel
theorem dX2_isPlace_4 : decode cX2_isPlace 4 = .ok (.iload_n 0, 1) := by decide +kernel
theorem dX2_isPlace_5 : decode cX2_isPlace 5 = .ok (.bipush 12, 2) := by decide +kernel
theorem dX2_isPlace_7 : decode cX2_isPlace 7 = .ok (.if_icmp .ge 7, 3) := by decide +kernel
theorem dX2_isPlace_10 : decode cX2_isPlace 10 = .ok (.iconst 1, 1) := by decide +kernel
theorem dX2_isPlace_11 : decode cX2_isPlace 11 = .ok (.goto 4, 3) := by decide +kernel
theorem dX2_isPlace_14 : decode cX2_isPlace 14 = .ok (.iconst 0, 1) := by decide +kernel
theorem dX2_isPlace_15 : decode cX2_isPlace 15 = .ok (.ireturn, 1) := by decide +kernel
set_option maxRecDepth 20000 in
theorem ggX2_isBad_X2_isPlace : GoodIn wsX2_isBad wsX2_isPlace := goodIn_r _ [5] (by decide +kernel) (by decide +kernel)
set_option maxRecDepth 20000 in
theorem gX2_isBad_X2_isPlace : GoodIn wsX2_isBad (va_wsS RX2 27 yX2_isPlace wsX2_isPlace) := goodIn_app (goodIn_of _ (by decide +kernel)) ggX2_isBad_X2_isPlace
set_option maxRecDepth 20000 in
theorem ggX2_isBad_X2_isThrown : GoodIn wsX2_isBad wsX2_isThrown := goodIn_r _ [9, 10, 11, 12, 13, 14, 15, 16] (by decide +kernel) (by decide +kernel)
set_option maxRecDepth 20000 in
theorem gX2_isBad_X2_isThrown : GoodIn wsX2_isBad (wsV RX2 31 RX2 yX2_isThrown wsX2_isThrown) := goodIn_app (goodIn_of _ (by decide +kernel)) ggX2_isBad_X2_isThrown
theorem dX2_isBad_0 : decode cX2_isBad 0 = .ok (.aload_n 0, 1) := by decide +kernel
theorem dX2_isBad_1 : decode cX2_isBad 1 = .ok (.iload_n 1, 1) := by decide +kernel
theorem dX2_isBad_2 : decode cX2_isBad 2 = .ok (.invokestatic 27, 3) := by decide +kernel
theorem dX2_isBad_5 : decode cX2_isBad 5 = .ok (.ifCond .eq 25, 3) := by decide +kernel
theorem dX2_isBad_8 : decode cX2_isBad 8 = .ok (.iload_n 2, 1) := by decide +kernel
theorem dX2_isBad_9 : decode cX2_isBad 9 = .ok (.invokestatic 27, 3) := by decide +kernel
theorem dX2_isBad_12 : decode cX2_isBad 12 = .ok (.ifCond .eq 18, 3) := by decide +kernel
theorem dX2_isBad_15 : decode cX2_isBad 15 = .ok (.iload_n 3, 1) := by decide +kernel
theorem dX2_isBad_16 : decode cX2_isBad 16 = .ok (.invokestatic 27, 3) := by decide +kernel
theorem dX2_isBad_19 : decode cX2_isBad 19 = .ok (.ifCond .eq 11, 3) := by decide +kernel
theorem dX2_isBad_22 : decode cX2_isBad 22 = .ok (.iload 4, 2) := by decide +kernel
theorem dX2_isBad_24 : decode cX2_isBad 24 = .ok (.invokestatic 27, 3) := by decide +kernel
theorem dX2_isBad_27 : decode cX2_isBad 27 = .ok (.ifCond .ne 7, 3) := by decide +kernel
theorem dX2_isBad_30 : decode cX2_isBad 30 = .ok (.iconst 1, 1) := by decide +kernel
theorem dX2_isBad_31 : decode cX2_isBad 31 = .ok (.goto 4, 3) := by decide +kernel
theorem dX2_isBad_34 : decode cX2_isBad 34 = .ok (.iconst 0, 1) := by decide +kernel
theorem dX2_isBad_35 : decode cX2_isBad 35 = .ok (.iconst 1, 1) := by decide +kernel
theorem dX2_isBad_36 : decode cX2_isBad 36 = .ok (.invokevirtual 31, 3) := by decide +kernel
theorem dX2_isBad_39 : decode cX2_isBad 39 = .ok (.ifCond .ne 26, 3) := by decide +kernel
theorem dX2_isBad_42 : decode cX2_isBad 42 = .ok (.aload_n 0, 1) := by decide +kernel
theorem dX2_isBad_43 : decode cX2_isBad 43 = .ok (.aload_n 0, 1) := by decide +kernel
theorem dX2_isBad_44 : decode cX2_isBad 44 = .ok (.getfield 7, 3) := by decide +kernel
theorem dX2_isBad_47 : decode cX2_isBad 47 = .ok (.iload 4, 2) := by decide +kernel
theorem dX2_isBad_49 : decode cX2_isBad 49 = .ok (.iaload, 1) := by decide +kernel
theorem dX2_isBad_50 : decode cX2_isBad 50 = .ok (.ifCond .ne 7, 3) := by decide +kernel
theorem dX2_isBad_53 : decode cX2_isBad 53 = .ok (.iconst 1, 1) := by decide +kernel
theorem dX2_isBad_54 : decode cX2_isBad 54 = .ok (.goto 4, 3) := by decide +kernel
theorem dX2_isBad_57 : decode cX2_isBad 57 = .ok (.iconst 0, 1) := by decide +kernel
theorem dX2_isBad_58 : decode cX2_isBad 58 = .ok (.iconst 2, 1) := by decide +kernel
theorem dX2_isBad_59 : decode cX2_isBad 59 = .ok (.invokevirtual 31, 3) := by decide +kernel
theorem dX2_isBad_62 : decode cX2_isBad 62 = .ok (.ifCond .eq 7, 3) := by decide +kernel
theorem dX2_isBad_65 : decode cX2_isBad 65 = .ok (.iconst 1, 1) := by decide +kernel
theorem dX2_isBad_66 : decode cX2_isBad 66 = .ok (.goto 4, 3) := by decide +kernel
theorem dX2_isBad_69 : decode cX2_isBad 69 = .ok (.iconst 0, 1) := by decide +kernel
theorem dX2_isBad_70 : decode cX2_isBad 70 = .ok (.ireturn, 1) := by decide +kernel
theorem dX2_size_0 : decode cX2_size 0 = .ok (.iload_n 0, 1) := by decide +kernel
theorem dX2_size_1 : decode cX2_size 1 = .ok (.ifCond .ge 8, 3) := by decide +kernel
theorem dX2_size_4 : decode cX2_size 4 = .ok (.iload_n 0, 1) := by decide +kernel
theorem dX2_size_5 : decode cX2_size 5 = .ok (.ineg, 1) := by decide +kernel
theorem dX2_size_6 : decode cX2_size 6 = .ok (.goto 4, 3) := by decide +kernel
theorem dX2_size_9 : decode cX2_size 9 = .ok (.iload_n 0, 1) := by decide +kernel
theorem dX2_size_10 : decode cX2_size 10 = .ok (.ireturn, 1) := by decide +kernel
set_option maxRecDepth 20000 in
theorem ggX2_bitsOf_X2_size : GoodIn wsX2_bitsOf wsX2_size := goodIn_r _ [7] (by decide +kernel) (by decide +kernel)
set_option maxRecDepth 20000 in
theorem gX2_bitsOf_X2_size : GoodIn wsX2_bitsOf (va_wsS RX2 37 yX2_size wsX2_size) := goodIn_app (goodIn_of _ (by decide +kernel)) ggX2_bitsOf_X2_size
theorem dX2_bitsOf_0 : decode cX2_bitsOf 0 = .ok (.iload_n 0, 1) := by decide +kernel
theorem dX2_bitsOf_1 : decode cX2_bitsOf 1 = .ok (.ifCond .ne 15, 3) := by decide +kernel
theorem dX2_bitsOf_4 : decode cX2_bitsOf 4 = .ok (.iload_n 1, 1) := by decide +kernel
theorem dX2_bitsOf_5 : decode cX2_bitsOf 5 = .ok (.ifCond .eq 9, 3) := by decide +kernel
theorem dX2_bitsOf_8 : decode cX2_bitsOf 8 = .ok (.ldc2_w 35, 3) := by decide +kernel
theorem dX2_bitsOf_11 : decode cX2_bitsOf 11 = .ok (.goto 4, 3) := by decide +kernel
theorem dX2_bitsOf_14 : decode cX2_bitsOf 14 = .ok (.lconst 0, 1) := by decide +kernel
theorem dX2_bitsOf_15 : decode cX2_bitsOf 15 = .ok (.lreturn, 1) := by decide +kernel
theorem dX2_bitsOf_16 : decode cX2_bitsOf 16 = .ok (.iconst 0, 1) := by decide +kernel
theorem dX2_bitsOf_17 : decode cX2_bitsOf 17 = .ok (.istore_n 2, 1) := by decide +kernel
theorem dX2_bitsOf_18 : decode cX2_bitsOf 18 = .ok (.iconst 1, 1) := by decide +kernel
theorem dX2_bitsOf_19 : decode cX2_bitsOf 19 = .ok (.istore_n 3, 1) := by decide +kernel
theorem dX2_bitsOf_20 : decode cX2_bitsOf 20 = .ok (.iconst 2, 1) := by decide +kernel
theorem dX2_bitsOf_21 : decode cX2_bitsOf 21 = .ok (.iload_n 3, 1) := by decide +kernel
theorem dX2_bitsOf_22 : decode cX2_bitsOf 22 = .ok (.imul, 1) := by decide +kernel
theorem dX2_bitsOf_23 : decode cX2_bitsOf 23 = .ok (.iload_n 0, 1) := by decide +kernel
theorem dX2_bitsOf_24 : decode cX2_bitsOf 24 = .ok (.invokestatic 37, 3) := by decide +kernel
theorem dX2_bitsOf_27 : decode cX2_bitsOf 27 = .ok (.if_icmp .gt 13, 3) := by decide +kernel
theorem dX2_bitsOf_30 : decode cX2_bitsOf 30 = .ok (.iload_n 3, 1) := by decide +kernel
theorem dX2_bitsOf_31 : decode cX2_bitsOf 31 = .ok (.iconst 2, 1) := by decide +kernel
theorem dX2_bitsOf_32 : decode cX2_bitsOf 32 = .ok (.imul, 1) := by decide +kernel
theorem dX2_bitsOf_33 : decode cX2_bitsOf 33 = .ok (.istore_n 3, 1) := by decide +kernel
theorem dX2_bitsOf_34 : decode cX2_bitsOf 34 = .ok (.iinc 2 1, 3) := by decide +kernel
theorem dX2_bitsOf_37 : decode cX2_bitsOf 37 = .ok (.goto (-17), 3) := by decide +kernel
theorem dX2_bitsOf_40 : decode cX2_bitsOf 40 = .ok (.ldc2_w 41, 3) := by decide +kernel
theorem dX2_bitsOf_43 : decode cX2_bitsOf 43 = .ok (.iload_n 2, 1) := by decide +kernel
theorem dX2_bitsOf_44 : decode cX2_bitsOf 44 = .ok (.i2l, 1) := by decide +kernel
theorem dX2_bitsOf_45 : decode cX2_bitsOf 45 = .ok (.ladd, 1) := by decide +kernel
theorem dX2_bitsOf_46 : decode cX2_bitsOf 46 = .ok (.lstore 4, 2) := by decide +kernel
theorem dX2_bitsOf_48 : decode cX2_bitsOf 48 = .ok (.iload_n 0, 1) := by decide +kernel
theorem dX2_bitsOf_49 : decode cX2_bitsOf 49 = .ok (.invokestatic 37, 3) := by decide +kernel
theorem dX2_bitsOf_52 : decode cX2_bitsOf 52 = .ok (.iload_n 3, 1) := by decide +kernel
theorem dX2_bitsOf_53 : decode cX2_bitsOf 53 = .ok (.isub, 1) := by decide +kernel
theorem dX2_bitsOf_54 : decode cX2_bitsOf 54 = .ok (.istore 6, 2) := by decide +kernel
theorem dX2_bitsOf_56 : decode cX2_bitsOf 56 = .ok (.iconst 0, 1) := by decide +kernel
theorem dX2_bitsOf_57 : decode cX2_bitsOf 57 = .ok (.istore 7, 2) := by decide +kernel
theorem dX2_bitsOf_59 : decode cX2_bitsOf 59 = .ok (.iload 7, 2) := by decide +kernel
theorem dX2_bitsOf_61 : decode cX2_bitsOf 61 = .ok (.bipush 52, 2) := by decide +kernel
theorem dX2_bitsOf_63 : decode cX2_bitsOf 63 = .ok (.if_icmp .ge 52, 3) := by decide +kernel
theorem dX2_bitsOf_66 : decode cX2_bitsOf 66 = .ok (.iload 6, 2) := by decide +kernel
theorem dX2_bitsOf_68 : decode cX2_bitsOf 68 = .ok (.iconst 2, 1) := by decide +kernel
theorem dX2_bitsOf_69 : decode cX2_bitsOf 69 = .ok (.imul, 1) := by decide +kernel
theorem dX2_bitsOf_70 : decode cX2_bitsOf 70 = .ok (.istore 6, 2) := by decide +kernel
theorem dX2_bitsOf_72 : decode cX2_bitsOf 72 = .ok (.ldc2_w 43, 3) := by decide +kernel
theorem dX2_bitsOf_75 : decode cX2_bitsOf 75 = .ok (.lload 4, 2) := by decide +kernel
theorem dX2_bitsOf_77 : decode cX2_bitsOf 77 = .ok (.lmul, 1) := by decide +kernel
theorem dX2_bitsOf_78 : decode cX2_bitsOf 78 = .ok (.iload 6, 2) := by decide +kernel
theorem dX2_bitsOf_80 : decode cX2_bitsOf 80 = .ok (.iload_n 3, 1) := by decide +kernel
theorem dX2_bitsOf_81 : decode cX2_bitsOf 81 = .ok (.if_icmp .lt 7, 3) := by decide +kernel
theorem dX2_bitsOf_84 : decode cX2_bitsOf 84 = .ok (.lconst 1, 1) := by decide +kernel
theorem dX2_bitsOf_85 : decode cX2_bitsOf 85 = .ok (.goto 4, 3) := by decide +kernel
theorem dX2_bitsOf_88 : decode cX2_bitsOf 88 = .ok (.lconst 0, 1) := by decide +kernel
theorem dX2_bitsOf_89 : decode cX2_bitsOf 89 = .ok (.ladd, 1) := by decide +kernel
theorem dX2_bitsOf_90 : decode cX2_bitsOf 90 = .ok (.lstore 4, 2) := by decide +kernel
theorem dX2_bitsOf_92 : decode cX2_bitsOf 92 = .ok (.iload 6, 2) := by decide +kernel
theorem dX2_bitsOf_94 : decode cX2_bitsOf 94 = .ok (.iload_n 3, 1) := by decide +kernel
theorem dX2_bitsOf_95 : decode cX2_bitsOf 95 = .ok (.if_icmp .lt 10, 3) := by decide +kernel
theorem dX2_bitsOf_98 : decode cX2_bitsOf 98 = .ok (.iload 6, 2) := by decide +kernel
theorem dX2_bitsOf_100 : decode cX2_bitsOf 100 = .ok (.iload_n 3, 1) := by decide +kernel
theorem dX2_bitsOf_101 : decode cX2_bitsOf 101 = .ok (.isub, 1) := by decide +kernel
theorem dX2_bitsOf_102 : decode cX2_bitsOf 102 = .ok (.goto 5, 3) := by decide +kernel
theorem dX2_bitsOf_105 : decode cX2_bitsOf 105 = .ok (.iload 6, 2) := by decide +kernel
theorem dX2_bitsOf_107 : decode cX2_bitsOf 107 = .ok (.istore 6, 2) := by decide +kernel
theorem dX2_bitsOf_109 : decode cX2_bitsOf 109 = .ok (.iinc 7 1, 3) := by decide +kernel
theorem dX2_bitsOf_112 : decode cX2_bitsOf 112 = .ok (.goto (-53), 3) := by decide +kernel
theorem dX2_bitsOf_115 : decode cX2_bitsOf 115 = .ok (.iload_n 0, 1) := by decide +kernel
theorem dX2_bitsOf_116 : decode cX2_bitsOf 116 = .ok (.ifCond .ge 12, 3) := by decide +kernel
theorem dX2_bitsOf_119 : decode cX2_bitsOf 119 = .ok (.lload 4, 2) := by decide +kernel
theorem dX2_bitsOf_121 : decode cX2_bitsOf 121 = .ok (.ldc2_w 35, 3) := by decide +kernel
theorem dX2_bitsOf_124 : decode cX2_bitsOf 124 = .ok (.ladd, 1) := by decide +kernel
theorem dX2_bitsOf_125 : decode cX2_bitsOf 125 = .ok (.goto 5, 3) := by decide +kernel
theorem dX2_bitsOf_128 : decode cX2_bitsOf 128 = .ok (.lload 4, 2) := by decide +kernel
theorem dX2_bitsOf_130 : decode cX2_bitsOf 130 = .ok (.lreturn, 1) := by decide +kernel
set_option maxRecDepth 20000 in
theorem ggX2_lays_X2_bitsOf : GoodIn wsX2_lays wsX2_bitsOf := goodIn_r _ [6, 7, 8, 9, 10, 11, 5, 12] (by decide +kernel) (by decide +kernel)
set_option maxRecDepth 20000 in
theorem gX2_lays_X2_bitsOf : GoodIn wsX2_lays (va_wsS RX2 45 yX2_bitsOf wsX2_bitsOf) := goodIn_app (goodIn_of _ (by decide +kernel)) ggX2_lays_X2_bitsOf
theorem dX2_lays_0 : decode cX2_lays 0 = .ok (.aload_n 0, 1) := by decide +kernel
theorem dX2_lays_1 : decode cX2_lays 1 = .ok (.getfield 7, 3) := by decide +kernel
theorem dX2_lays_4 : decode cX2_lays 4 = .ok (.iload_n 1, 1) := by decide +kernel
theorem dX2_lays_5 : decode cX2_lays 5 = .ok (.iload_n 2, 1) := by decide +kernel
theorem dX2_lays_6 : decode cX2_lays 6 = .ok (.iastore, 1) := by decide +kernel
theorem dX2_lays_7 : decode cX2_lays 7 = .ok (.aload_n 0, 1) := by decide +kernel
theorem dX2_lays_8 : decode cX2_lays 8 = .ok (.getfield 13, 3) := by decide +kernel
theorem dX2_lays_11 : decode cX2_lays 11 = .ok (.iload_n 1, 1) := by decide +kernel
theorem dX2_lays_12 : decode cX2_lays 12 = .ok (.iload_n 2, 1) := by decide +kernel
theorem dX2_lays_13 : decode cX2_lays 13 = .ok (.ifCond .ne 11, 3) := by decide +kernel
theorem dX2_lays_16 : decode cX2_lays 16 = .ok (.iload_n 3, 1) := by decide +kernel
theorem dX2_lays_17 : decode cX2_lays 17 = .ok (.ifCond .eq 7, 3) := by decide +kernel
theorem dX2_lays_20 : decode cX2_lays 20 = .ok (.iconst 1, 1) := by decide +kernel
theorem dX2_lays_21 : decode cX2_lays 21 = .ok (.goto 4, 3) := by decide +kernel
theorem dX2_lays_24 : decode cX2_lays 24 = .ok (.iconst 0, 1) := by decide +kernel
theorem dX2_lays_25 : decode cX2_lays 25 = .ok (.bastore, 1) := by decide +kernel
theorem dX2_lays_26 : decode cX2_lays 26 = .ok (.iload_n 2, 1) := by decide +kernel
theorem dX2_lays_27 : decode cX2_lays 27 = .ok (.iload_n 3, 1) := by decide +kernel
theorem dX2_lays_28 : decode cX2_lays 28 = .ok (.invokestatic 45, 3) := by decide +kernel
theorem dX2_lays_31 : decode cX2_lays 31 = .ok (.lreturn, 1) := by decide +kernel
set_option maxRecDepth 20000 in
theorem ggX2_put_X2_isPlace : GoodIn wsX2_put wsX2_isPlace := goodIn_r _ [6] (by decide +kernel) (by decide +kernel)
set_option maxRecDepth 20000 in
theorem gX2_put_X2_isPlace : GoodIn wsX2_put (va_wsS RX2 27 yX2_isPlace wsX2_isPlace) := goodIn_app (goodIn_of _ (by decide +kernel)) ggX2_put_X2_isPlace
set_option maxRecDepth 20000 in
theorem ggX2_put_X2_isThrown : GoodIn wsX2_put wsX2_isThrown := goodIn_r _ [10, 11, 21, 22, 23, 24, 25, 26] (by decide +kernel) (by decide +kernel)
set_option maxRecDepth 20000 in
theorem gX2_put_X2_isThrown : GoodIn wsX2_put (wsV RX2 31 RX2 yX2_isThrown wsX2_isThrown) := goodIn_app (goodIn_of _ (by decide +kernel)) ggX2_put_X2_isThrown
set_option maxRecDepth 20000 in
theorem ggX2_put_X2_bitsOf : GoodIn wsX2_put wsX2_bitsOf := goodIn_r _ [14, 15, 16, 17, 18, 19, 5, 20] (by decide +kernel) (by decide +kernel)
set_option maxRecDepth 20000 in
theorem gX2_put_X2_bitsOf : GoodIn wsX2_put (va_wsS RX2 45 yX2_bitsOf wsX2_bitsOf) := goodIn_app (goodIn_of _ (by decide +kernel)) ggX2_put_X2_bitsOf
theorem dX2_put_0 : decode cX2_put 0 = .ok (.aload_n 0, 1) := by decide +kernel
theorem dX2_put_1 : decode cX2_put 1 = .ok (.iload_n 1, 1) := by decide +kernel
theorem dX2_put_2 : decode cX2_put 2 = .ok (.invokestatic 27, 3) := by decide +kernel
theorem dX2_put_5 : decode cX2_put 5 = .ok (.ifCond .ne 7, 3) := by decide +kernel
theorem dX2_put_8 : decode cX2_put 8 = .ok (.iconst 1, 1) := by decide +kernel
theorem dX2_put_9 : decode cX2_put 9 = .ok (.goto 4, 3) := by decide +kernel
theorem dX2_put_12 : decode cX2_put 12 = .ok (.iconst 0, 1) := by decide +kernel
theorem dX2_put_13 : decode cX2_put 13 = .ok (.iconst 1, 1) := by decide +kernel
theorem dX2_put_14 : decode cX2_put 14 = .ok (.invokevirtual 31, 3) := by decide +kernel
theorem dX2_put_17 : decode cX2_put 17 = .ok (.ifCond .ne 28, 3) := by decide +kernel
theorem dX2_put_20 : decode cX2_put 20 = .ok (.aload_n 0, 1) := by decide +kernel
theorem dX2_put_21 : decode cX2_put 21 = .ok (.iload_n 2, 1) := by decide +kernel
theorem dX2_put_22 : decode cX2_put 22 = .ok (.bipush (-127), 2) := by decide +kernel
theorem dX2_put_24 : decode cX2_put 24 = .ok (.if_icmp .lt 9, 3) := by decide +kernel
theorem dX2_put_27 : decode cX2_put 27 = .ok (.iload_n 2, 1) := by decide +kernel
theorem dX2_put_28 : decode cX2_put 28 = .ok (.bipush 127, 2) := by decide +kernel
theorem dX2_put_30 : decode cX2_put 30 = .ok (.if_icmp .le 7, 3) := by decide +kernel
theorem dX2_put_33 : decode cX2_put 33 = .ok (.iconst 1, 1) := by decide +kernel
theorem dX2_put_34 : decode cX2_put 34 = .ok (.goto 4, 3) := by decide +kernel
theorem dX2_put_37 : decode cX2_put 37 = .ok (.iconst 0, 1) := by decide +kernel
theorem dX2_put_38 : decode cX2_put 38 = .ok (.iconst 2, 1) := by decide +kernel
theorem dX2_put_39 : decode cX2_put 39 = .ok (.invokevirtual 31, 3) := by decide +kernel
theorem dX2_put_42 : decode cX2_put 42 = .ok (.ifCond .eq 5, 3) := by decide +kernel
theorem dX2_put_45 : decode cX2_put 45 = .ok (.lconst 0, 1) := by decide +kernel
theorem dX2_put_46 : decode cX2_put 46 = .ok (.lreturn, 1) := by decide +kernel
theorem dX2_put_47 : decode cX2_put 47 = .ok (.aload_n 0, 1) := by decide +kernel
theorem dX2_put_48 : decode cX2_put 48 = .ok (.getfield 7, 3) := by decide +kernel
theorem dX2_put_51 : decode cX2_put 51 = .ok (.iload_n 1, 1) := by decide +kernel
theorem dX2_put_52 : decode cX2_put 52 = .ok (.iaload, 1) := by decide +kernel
theorem dX2_put_53 : decode cX2_put 53 = .ok (.aload_n 0, 1) := by decide +kernel
theorem dX2_put_54 : decode cX2_put 54 = .ok (.getfield 13, 3) := by decide +kernel
theorem dX2_put_57 : decode cX2_put 57 = .ok (.iload_n 1, 1) := by decide +kernel
theorem dX2_put_58 : decode cX2_put 58 = .ok (.baload, 1) := by decide +kernel
theorem dX2_put_59 : decode cX2_put 59 = .ok (.invokestatic 45, 3) := by decide +kernel
theorem dX2_put_62 : decode cX2_put 62 = .ok (.lstore_n 3, 1) := by decide +kernel
theorem dX2_put_63 : decode cX2_put 63 = .ok (.aload_n 0, 1) := by decide +kernel
theorem dX2_put_64 : decode cX2_put 64 = .ok (.getfield 7, 3) := by decide +kernel
theorem dX2_put_67 : decode cX2_put 67 = .ok (.iload_n 1, 1) := by decide +kernel
theorem dX2_put_68 : decode cX2_put 68 = .ok (.iload_n 2, 1) := by decide +kernel
theorem dX2_put_69 : decode cX2_put 69 = .ok (.iastore, 1) := by decide +kernel
theorem dX2_put_70 : decode cX2_put 70 = .ok (.aload_n 0, 1) := by decide +kernel
theorem dX2_put_71 : decode cX2_put 71 = .ok (.getfield 13, 3) := by decide +kernel
theorem dX2_put_74 : decode cX2_put 74 = .ok (.iload_n 1, 1) := by decide +kernel
theorem dX2_put_75 : decode cX2_put 75 = .ok (.iconst 0, 1) := by decide +kernel
theorem dX2_put_76 : decode cX2_put 76 = .ok (.bastore, 1) := by decide +kernel
theorem dX2_put_77 : decode cX2_put 77 = .ok (.lload_n 3, 1) := by decide +kernel
theorem dX2_put_78 : decode cX2_put 78 = .ok (.lreturn, 1) := by decide +kernel
set_option maxRecDepth 20000 in
theorem ggX2_putBelow_X2_isPlace : GoodIn wsX2_putBelow wsX2_isPlace := goodIn_r _ [6] (by decide +kernel) (by decide +kernel)
set_option maxRecDepth 20000 in
theorem gX2_putBelow_X2_isPlace : GoodIn wsX2_putBelow (va_wsS RX2 27 yX2_isPlace wsX2_isPlace) := goodIn_app (goodIn_of _ (by decide +kernel)) ggX2_putBelow_X2_isPlace
set_option maxRecDepth 20000 in
theorem ggX2_putBelow_X2_isThrown : GoodIn wsX2_putBelow wsX2_isThrown := goodIn_r _ [10, 11, 21, 22, 23, 24, 25, 26] (by decide +kernel) (by decide +kernel)
set_option maxRecDepth 20000 in
theorem gX2_putBelow_X2_isThrown : GoodIn wsX2_putBelow (wsV RX2 31 RX2 yX2_isThrown wsX2_isThrown) := goodIn_app (goodIn_of _ (by decide +kernel)) ggX2_putBelow_X2_isThrown
set_option maxRecDepth 20000 in
theorem ggX2_putBelow_X2_bitsOf : GoodIn wsX2_putBelow wsX2_bitsOf := goodIn_r _ [14, 15, 16, 17, 18, 19, 5, 20] (by decide +kernel) (by decide +kernel)
set_option maxRecDepth 20000 in
theorem gX2_putBelow_X2_bitsOf : GoodIn wsX2_putBelow (va_wsS RX2 45 yX2_bitsOf wsX2_bitsOf) := goodIn_app (goodIn_of _ (by decide +kernel)) ggX2_putBelow_X2_bitsOf
theorem dX2_putBelow_0 : decode cX2_putBelow 0 = .ok (.aload_n 0, 1) := by decide +kernel
theorem dX2_putBelow_1 : decode cX2_putBelow 1 = .ok (.iload_n 1, 1) := by decide +kernel
theorem dX2_putBelow_2 : decode cX2_putBelow 2 = .ok (.invokestatic 27, 3) := by decide +kernel
theorem dX2_putBelow_5 : decode cX2_putBelow 5 = .ok (.ifCond .ne 7, 3) := by decide +kernel
theorem dX2_putBelow_8 : decode cX2_putBelow 8 = .ok (.iconst 1, 1) := by decide +kernel
theorem dX2_putBelow_9 : decode cX2_putBelow 9 = .ok (.goto 4, 3) := by decide +kernel
theorem dX2_putBelow_12 : decode cX2_putBelow 12 = .ok (.iconst 0, 1) := by decide +kernel
theorem dX2_putBelow_13 : decode cX2_putBelow 13 = .ok (.iconst 1, 1) := by decide +kernel
theorem dX2_putBelow_14 : decode cX2_putBelow 14 = .ok (.invokevirtual 31, 3) := by decide +kernel
theorem dX2_putBelow_17 : decode cX2_putBelow 17 = .ok (.ifCond .eq 5, 3) := by decide +kernel
theorem dX2_putBelow_20 : decode cX2_putBelow 20 = .ok (.lconst 0, 1) := by decide +kernel
theorem dX2_putBelow_21 : decode cX2_putBelow 21 = .ok (.lreturn, 1) := by decide +kernel
theorem dX2_putBelow_22 : decode cX2_putBelow 22 = .ok (.aload_n 0, 1) := by decide +kernel
theorem dX2_putBelow_23 : decode cX2_putBelow 23 = .ok (.getfield 7, 3) := by decide +kernel
theorem dX2_putBelow_26 : decode cX2_putBelow 26 = .ok (.iload_n 1, 1) := by decide +kernel
theorem dX2_putBelow_27 : decode cX2_putBelow 27 = .ok (.iaload, 1) := by decide +kernel
theorem dX2_putBelow_28 : decode cX2_putBelow 28 = .ok (.aload_n 0, 1) := by decide +kernel
theorem dX2_putBelow_29 : decode cX2_putBelow 29 = .ok (.getfield 13, 3) := by decide +kernel
theorem dX2_putBelow_32 : decode cX2_putBelow 32 = .ok (.iload_n 1, 1) := by decide +kernel
theorem dX2_putBelow_33 : decode cX2_putBelow 33 = .ok (.baload, 1) := by decide +kernel
theorem dX2_putBelow_34 : decode cX2_putBelow 34 = .ok (.invokestatic 45, 3) := by decide +kernel
theorem dX2_putBelow_37 : decode cX2_putBelow 37 = .ok (.lstore_n 2, 1) := by decide +kernel
theorem dX2_putBelow_38 : decode cX2_putBelow 38 = .ok (.aload_n 0, 1) := by decide +kernel
theorem dX2_putBelow_39 : decode cX2_putBelow 39 = .ok (.getfield 7, 3) := by decide +kernel
theorem dX2_putBelow_42 : decode cX2_putBelow 42 = .ok (.iload_n 1, 1) := by decide +kernel
theorem dX2_putBelow_43 : decode cX2_putBelow 43 = .ok (.iconst 0, 1) := by decide +kernel
theorem dX2_putBelow_44 : decode cX2_putBelow 44 = .ok (.iastore, 1) := by decide +kernel
theorem dX2_putBelow_45 : decode cX2_putBelow 45 = .ok (.aload_n 0, 1) := by decide +kernel
theorem dX2_putBelow_46 : decode cX2_putBelow 46 = .ok (.getfield 13, 3) := by decide +kernel
theorem dX2_putBelow_49 : decode cX2_putBelow 49 = .ok (.iload_n 1, 1) := by decide +kernel
theorem dX2_putBelow_50 : decode cX2_putBelow 50 = .ok (.iconst 1, 1) := by decide +kernel
theorem dX2_putBelow_51 : decode cX2_putBelow 51 = .ok (.bastore, 1) := by decide +kernel
theorem dX2_putBelow_52 : decode cX2_putBelow 52 = .ok (.lload_n 2, 1) := by decide +kernel
theorem dX2_putBelow_53 : decode cX2_putBelow 53 = .ok (.lreturn, 1) := by decide +kernel
set_option maxRecDepth 20000 in
theorem ggX2_turn_X2_isPlace : GoodIn wsX2_turn wsX2_isPlace := goodIn_r _ [6] (by decide +kernel) (by decide +kernel)
set_option maxRecDepth 20000 in
theorem gX2_turn_X2_isPlace : GoodIn wsX2_turn (va_wsS RX2 27 yX2_isPlace wsX2_isPlace) := goodIn_app (goodIn_of _ (by decide +kernel)) ggX2_turn_X2_isPlace
set_option maxRecDepth 20000 in
theorem ggX2_turn_X2_isThrown : GoodIn wsX2_turn wsX2_isThrown := goodIn_r _ [10, 11, 25, 26, 27, 28, 29, 30] (by decide +kernel) (by decide +kernel)
set_option maxRecDepth 20000 in
theorem gX2_turn_X2_isThrown : GoodIn wsX2_turn (wsV RX2 31 RX2 yX2_isThrown wsX2_isThrown) := goodIn_app (goodIn_of _ (by decide +kernel)) ggX2_turn_X2_isThrown
set_option maxRecDepth 20000 in
theorem ggX2_turn_X2_lays : GoodIn wsX2_turn wsX2_lays := goodIn_ca (goodIn_r _ [15, 1, 2, 16, 17, 5, 18, 19, 20, 21, 22, 23, 24, 25, 26, 27, 28, 29, 30] (by decide +kernel) (by decide +kernel)) (goodIn_sub (fun _ h => List.mem_cons_of_mem _ (List.mem_append_right _ h)) (by decide +kernel))
set_option maxRecDepth 20000 in
theorem gX2_turn_X2_lays : GoodIn wsX2_turn (wsV RX2 49 RX2 yX2_lays wsX2_lays) := goodIn_app (goodIn_of _ (by decide +kernel)) ggX2_turn_X2_lays
theorem dX2_turn_0 : decode cX2_turn 0 = .ok (.aload_n 0, 1) := by decide +kernel
theorem dX2_turn_1 : decode cX2_turn 1 = .ok (.iload_n 1, 1) := by decide +kernel
theorem dX2_turn_2 : decode cX2_turn 2 = .ok (.invokestatic 27, 3) := by decide +kernel
theorem dX2_turn_5 : decode cX2_turn 5 = .ok (.ifCond .ne 7, 3) := by decide +kernel
theorem dX2_turn_8 : decode cX2_turn 8 = .ok (.iconst 1, 1) := by decide +kernel
theorem dX2_turn_9 : decode cX2_turn 9 = .ok (.goto 4, 3) := by decide +kernel
theorem dX2_turn_12 : decode cX2_turn 12 = .ok (.iconst 0, 1) := by decide +kernel
theorem dX2_turn_13 : decode cX2_turn 13 = .ok (.iconst 1, 1) := by decide +kernel
theorem dX2_turn_14 : decode cX2_turn 14 = .ok (.invokevirtual 31, 3) := by decide +kernel
theorem dX2_turn_17 : decode cX2_turn 17 = .ok (.ifCond .eq 5, 3) := by decide +kernel
theorem dX2_turn_20 : decode cX2_turn 20 = .ok (.lconst 0, 1) := by decide +kernel
theorem dX2_turn_21 : decode cX2_turn 21 = .ok (.lreturn, 1) := by decide +kernel
theorem dX2_turn_22 : decode cX2_turn 22 = .ok (.aload_n 0, 1) := by decide +kernel
theorem dX2_turn_23 : decode cX2_turn 23 = .ok (.iload_n 1, 1) := by decide +kernel
theorem dX2_turn_24 : decode cX2_turn 24 = .ok (.aload_n 0, 1) := by decide +kernel
theorem dX2_turn_25 : decode cX2_turn 25 = .ok (.getfield 7, 3) := by decide +kernel
theorem dX2_turn_28 : decode cX2_turn 28 = .ok (.iload_n 1, 1) := by decide +kernel
theorem dX2_turn_29 : decode cX2_turn 29 = .ok (.iaload, 1) := by decide +kernel
theorem dX2_turn_30 : decode cX2_turn 30 = .ok (.ineg, 1) := by decide +kernel
theorem dX2_turn_31 : decode cX2_turn 31 = .ok (.aload_n 0, 1) := by decide +kernel
theorem dX2_turn_32 : decode cX2_turn 32 = .ok (.getfield 13, 3) := by decide +kernel
theorem dX2_turn_35 : decode cX2_turn 35 = .ok (.iload_n 1, 1) := by decide +kernel
theorem dX2_turn_36 : decode cX2_turn 36 = .ok (.baload, 1) := by decide +kernel
theorem dX2_turn_37 : decode cX2_turn 37 = .ok (.ifCond .ne 7, 3) := by decide +kernel
theorem dX2_turn_40 : decode cX2_turn 40 = .ok (.iconst 1, 1) := by decide +kernel
theorem dX2_turn_41 : decode cX2_turn 41 = .ok (.goto 4, 3) := by decide +kernel
theorem dX2_turn_44 : decode cX2_turn 44 = .ok (.iconst 0, 1) := by decide +kernel
theorem dX2_turn_45 : decode cX2_turn 45 = .ok (.invokevirtual 49, 3) := by decide +kernel
theorem dX2_turn_48 : decode cX2_turn 48 = .ok (.lreturn, 1) := by decide +kernel
set_option maxRecDepth 20000 in
theorem ggX2_eighths_X2_isPlace : GoodIn wsX2_eighths wsX2_isPlace := goodIn_r _ [5] (by decide +kernel) (by decide +kernel)
set_option maxRecDepth 20000 in
theorem gX2_eighths_X2_isPlace : GoodIn wsX2_eighths (va_wsS RX2 27 yX2_isPlace wsX2_isPlace) := goodIn_app (goodIn_of _ (by decide +kernel)) ggX2_eighths_X2_isPlace
set_option maxRecDepth 20000 in
theorem ggX2_eighths_X2_isThrown : GoodIn wsX2_eighths wsX2_isThrown := goodIn_r _ [9, 10, 11, 12, 13, 14, 15, 16] (by decide +kernel) (by decide +kernel)
set_option maxRecDepth 20000 in
theorem gX2_eighths_X2_isThrown : GoodIn wsX2_eighths (wsV RX2 31 RX2 yX2_isThrown wsX2_isThrown) := goodIn_app (goodIn_of _ (by decide +kernel)) ggX2_eighths_X2_isThrown
theorem dX2_eighths_0 : decode cX2_eighths 0 = .ok (.aload_n 0, 1) := by decide +kernel
theorem dX2_eighths_1 : decode cX2_eighths 1 = .ok (.iload_n 1, 1) := by decide +kernel
theorem dX2_eighths_2 : decode cX2_eighths 2 = .ok (.invokestatic 27, 3) := by decide +kernel
theorem dX2_eighths_5 : decode cX2_eighths 5 = .ok (.ifCond .ne 7, 3) := by decide +kernel
theorem dX2_eighths_8 : decode cX2_eighths 8 = .ok (.iconst 1, 1) := by decide +kernel
theorem dX2_eighths_9 : decode cX2_eighths 9 = .ok (.goto 4, 3) := by decide +kernel
theorem dX2_eighths_12 : decode cX2_eighths 12 = .ok (.iconst 0, 1) := by decide +kernel
theorem dX2_eighths_13 : decode cX2_eighths 13 = .ok (.iconst 1, 1) := by decide +kernel
theorem dX2_eighths_14 : decode cX2_eighths 14 = .ok (.invokevirtual 31, 3) := by decide +kernel
theorem dX2_eighths_17 : decode cX2_eighths 17 = .ok (.ifCond .eq 7, 3) := by decide +kernel
theorem dX2_eighths_20 : decode cX2_eighths 20 = .ok (.iconst 0, 1) := by decide +kernel
theorem dX2_eighths_21 : decode cX2_eighths 21 = .ok (.goto 9, 3) := by decide +kernel
theorem dX2_eighths_24 : decode cX2_eighths 24 = .ok (.aload_n 0, 1) := by decide +kernel
theorem dX2_eighths_25 : decode cX2_eighths 25 = .ok (.getfield 7, 3) := by decide +kernel
theorem dX2_eighths_28 : decode cX2_eighths 28 = .ok (.iload_n 1, 1) := by decide +kernel
theorem dX2_eighths_29 : decode cX2_eighths 29 = .ok (.iaload, 1) := by decide +kernel
theorem dX2_eighths_30 : decode cX2_eighths 30 = .ok (.ireturn, 1) := by decide +kernel
set_option maxRecDepth 20000 in
theorem ggX2_bits_X2_isPlace : GoodIn wsX2_bits wsX2_isPlace := goodIn_r _ [6] (by decide +kernel) (by decide +kernel)
set_option maxRecDepth 20000 in
theorem gX2_bits_X2_isPlace : GoodIn wsX2_bits (va_wsS RX2 27 yX2_isPlace wsX2_isPlace) := goodIn_app (goodIn_of _ (by decide +kernel)) ggX2_bits_X2_isPlace
set_option maxRecDepth 20000 in
theorem ggX2_bits_X2_isThrown : GoodIn wsX2_bits wsX2_isThrown := goodIn_r _ [10, 11, 21, 22, 23, 24, 25, 26] (by decide +kernel) (by decide +kernel)
set_option maxRecDepth 20000 in
theorem gX2_bits_X2_isThrown : GoodIn wsX2_bits (wsV RX2 31 RX2 yX2_isThrown wsX2_isThrown) := goodIn_app (goodIn_of _ (by decide +kernel)) ggX2_bits_X2_isThrown
set_option maxRecDepth 20000 in
theorem ggX2_bits_X2_bitsOf : GoodIn wsX2_bits wsX2_bitsOf := goodIn_r _ [14, 15, 16, 17, 18, 19, 5, 20] (by decide +kernel) (by decide +kernel)
set_option maxRecDepth 20000 in
theorem gX2_bits_X2_bitsOf : GoodIn wsX2_bits (va_wsS RX2 45 yX2_bitsOf wsX2_bitsOf) := goodIn_app (goodIn_of _ (by decide +kernel)) ggX2_bits_X2_bitsOf
theorem dX2_bits_0 : decode cX2_bits 0 = .ok (.aload_n 0, 1) := by decide +kernel
theorem dX2_bits_1 : decode cX2_bits 1 = .ok (.iload_n 1, 1) := by decide +kernel
theorem dX2_bits_2 : decode cX2_bits 2 = .ok (.invokestatic 27, 3) := by decide +kernel
theorem dX2_bits_5 : decode cX2_bits 5 = .ok (.ifCond .ne 7, 3) := by decide +kernel
theorem dX2_bits_8 : decode cX2_bits 8 = .ok (.iconst 1, 1) := by decide +kernel
theorem dX2_bits_9 : decode cX2_bits 9 = .ok (.goto 4, 3) := by decide +kernel
theorem dX2_bits_12 : decode cX2_bits 12 = .ok (.iconst 0, 1) := by decide +kernel
theorem dX2_bits_13 : decode cX2_bits 13 = .ok (.iconst 1, 1) := by decide +kernel
theorem dX2_bits_14 : decode cX2_bits 14 = .ok (.invokevirtual 31, 3) := by decide +kernel
theorem dX2_bits_17 : decode cX2_bits 17 = .ok (.ifCond .eq 7, 3) := by decide +kernel
theorem dX2_bits_20 : decode cX2_bits 20 = .ok (.lconst 0, 1) := by decide +kernel
theorem dX2_bits_21 : decode cX2_bits 21 = .ok (.goto 18, 3) := by decide +kernel
theorem dX2_bits_24 : decode cX2_bits 24 = .ok (.aload_n 0, 1) := by decide +kernel
theorem dX2_bits_25 : decode cX2_bits 25 = .ok (.getfield 7, 3) := by decide +kernel
theorem dX2_bits_28 : decode cX2_bits 28 = .ok (.iload_n 1, 1) := by decide +kernel
theorem dX2_bits_29 : decode cX2_bits 29 = .ok (.iaload, 1) := by decide +kernel
theorem dX2_bits_30 : decode cX2_bits 30 = .ok (.aload_n 0, 1) := by decide +kernel
theorem dX2_bits_31 : decode cX2_bits 31 = .ok (.getfield 13, 3) := by decide +kernel
theorem dX2_bits_34 : decode cX2_bits 34 = .ok (.iload_n 1, 1) := by decide +kernel
theorem dX2_bits_35 : decode cX2_bits 35 = .ok (.baload, 1) := by decide +kernel
theorem dX2_bits_36 : decode cX2_bits 36 = .ok (.invokestatic 45, 3) := by decide +kernel
theorem dX2_bits_39 : decode cX2_bits 39 = .ok (.lreturn, 1) := by decide +kernel
set_option maxRecDepth 20000 in
theorem ggX2_number_X2_isPlace : GoodIn wsX2_number wsX2_isPlace := goodIn_r _ [8] (by decide +kernel) (by decide +kernel)
set_option maxRecDepth 20000 in
theorem gX2_number_X2_isPlace : GoodIn wsX2_number (va_wsS RX2 27 yX2_isPlace wsX2_isPlace) := goodIn_app (goodIn_of _ (by decide +kernel)) ggX2_number_X2_isPlace
set_option maxRecDepth 20000 in
theorem ggX2_number_X2_isThrown : GoodIn wsX2_number wsX2_isThrown := goodIn_r _ [12, 13, 14, 15, 16, 17, 18, 19] (by decide +kernel) (by decide +kernel)
set_option maxRecDepth 20000 in
theorem gX2_number_X2_isThrown : GoodIn wsX2_number (wsV RX2 31 RX2 yX2_isThrown wsX2_isThrown) := goodIn_app (goodIn_of _ (by decide +kernel)) ggX2_number_X2_isThrown
theorem dX2_number_0 : decode cX2_number 0 = .ok (.aload_n 0, 1) := by decide +kernel
theorem dX2_number_1 : decode cX2_number 1 = .ok (.iload_n 1, 1) := by decide +kernel
theorem dX2_number_2 : decode cX2_number 2 = .ok (.invokestatic 27, 3) := by decide +kernel
theorem dX2_number_5 : decode cX2_number 5 = .ok (.ifCond .ne 7, 3) := by decide +kernel
theorem dX2_number_8 : decode cX2_number 8 = .ok (.iconst 1, 1) := by decide +kernel
theorem dX2_number_9 : decode cX2_number 9 = .ok (.goto 4, 3) := by decide +kernel
theorem dX2_number_12 : decode cX2_number 12 = .ok (.iconst 0, 1) := by decide +kernel
theorem dX2_number_13 : decode cX2_number 13 = .ok (.iconst 1, 1) := by decide +kernel
theorem dX2_number_14 : decode cX2_number 14 = .ok (.invokevirtual 31, 3) := by decide +kernel
theorem dX2_number_17 : decode cX2_number 17 = .ok (.ifCond .eq 5, 3) := by decide +kernel
theorem dX2_number_20 : decode cX2_number 20 = .ok (.dconst 0, 1) := by decide +kernel
theorem dX2_number_21 : decode cX2_number 21 = .ok (.dreturn, 1) := by decide +kernel
theorem dX2_number_22 : decode cX2_number 22 = .ok (.aload_n 0, 1) := by decide +kernel
theorem dX2_number_23 : decode cX2_number 23 = .ok (.getfield 13, 3) := by decide +kernel
theorem dX2_number_26 : decode cX2_number 26 = .ok (.iload_n 1, 1) := by decide +kernel
theorem dX2_number_27 : decode cX2_number 27 = .ok (.baload, 1) := by decide +kernel
theorem dX2_number_28 : decode cX2_number 28 = .ok (.ifCond .eq 9, 3) := by decide +kernel
theorem dX2_number_31 : decode cX2_number 31 = .ok (.ldc2_w 53, 3) := by decide +kernel
theorem dX2_number_34 : decode cX2_number 34 = .ok (.goto 14, 3) := by decide +kernel
theorem dX2_number_37 : decode cX2_number 37 = .ok (.aload_n 0, 1) := by decide +kernel
theorem dX2_number_38 : decode cX2_number 38 = .ok (.getfield 7, 3) := by decide +kernel
theorem dX2_number_41 : decode cX2_number 41 = .ok (.iload_n 1, 1) := by decide +kernel
theorem dX2_number_42 : decode cX2_number 42 = .ok (.iaload, 1) := by decide +kernel
theorem dX2_number_43 : decode cX2_number 43 = .ok (.i2d, 1) := by decide +kernel
theorem dX2_number_44 : decode cX2_number 44 = .ok (.ldc2_w 55, 3) := by decide +kernel
theorem dX2_number_47 : decode cX2_number 47 = .ok (.ddiv, 1) := by decide +kernel
theorem dX2_number_48 : decode cX2_number 48 = .ok (.dreturn, 1) := by decide +kernel
set_option maxRecDepth 20000 in
theorem ggX2_nearest_X2_size : GoodIn wsX2_nearest wsX2_size := goodIn_r _ [4] (by decide +kernel) (by decide +kernel)
set_option maxRecDepth 20000 in
theorem gX2_nearest_X2_size : GoodIn wsX2_nearest (va_wsS RX2 37 yX2_size wsX2_size) := goodIn_app (goodIn_of _ (by decide +kernel)) ggX2_nearest_X2_size
theorem dX2_nearest_0 : decode cX2_nearest 0 = .ok (.iconst 0, 1) := by decide +kernel
theorem dX2_nearest_1 : decode cX2_nearest 1 = .ok (.istore_n 2, 1) := by decide +kernel
theorem dX2_nearest_2 : decode cX2_nearest 2 = .ok (.bipush (-127), 2) := by decide +kernel
theorem dX2_nearest_4 : decode cX2_nearest 4 = .ok (.istore_n 3, 1) := by decide +kernel
theorem dX2_nearest_5 : decode cX2_nearest 5 = .ok (.iload_n 3, 1) := by decide +kernel
theorem dX2_nearest_6 : decode cX2_nearest 6 = .ok (.bipush 127, 2) := by decide +kernel
theorem dX2_nearest_8 : decode cX2_nearest 8 = .ok (.if_icmp .gt 55, 3) := by decide +kernel
theorem dX2_nearest_11 : decode cX2_nearest 11 = .ok (.iload_n 0, 1) := by decide +kernel
theorem dX2_nearest_12 : decode cX2_nearest 12 = .ok (.iload_n 3, 1) := by decide +kernel
theorem dX2_nearest_13 : decode cX2_nearest 13 = .ok (.iload_n 1, 1) := by decide +kernel
theorem dX2_nearest_14 : decode cX2_nearest 14 = .ok (.imul, 1) := by decide +kernel
theorem dX2_nearest_15 : decode cX2_nearest 15 = .ok (.isub, 1) := by decide +kernel
theorem dX2_nearest_16 : decode cX2_nearest 16 = .ok (.invokestatic 37, 3) := by decide +kernel
theorem dX2_nearest_19 : decode cX2_nearest 19 = .ok (.istore 4, 2) := by decide +kernel
theorem dX2_nearest_21 : decode cX2_nearest 21 = .ok (.iload_n 0, 1) := by decide +kernel
theorem dX2_nearest_22 : decode cX2_nearest 22 = .ok (.iload_n 2, 1) := by decide +kernel
theorem dX2_nearest_23 : decode cX2_nearest 23 = .ok (.iload_n 1, 1) := by decide +kernel
theorem dX2_nearest_24 : decode cX2_nearest 24 = .ok (.imul, 1) := by decide +kernel
theorem dX2_nearest_25 : decode cX2_nearest 25 = .ok (.isub, 1) := by decide +kernel
theorem dX2_nearest_26 : decode cX2_nearest 26 = .ok (.invokestatic 37, 3) := by decide +kernel
theorem dX2_nearest_29 : decode cX2_nearest 29 = .ok (.istore 5, 2) := by decide +kernel
theorem dX2_nearest_31 : decode cX2_nearest 31 = .ok (.iload 4, 2) := by decide +kernel
theorem dX2_nearest_33 : decode cX2_nearest 33 = .ok (.iload 5, 2) := by decide +kernel
theorem dX2_nearest_35 : decode cX2_nearest 35 = .ok (.if_icmp .lt 16, 3) := by decide +kernel
theorem dX2_nearest_38 : decode cX2_nearest 38 = .ok (.iload 4, 2) := by decide +kernel
theorem dX2_nearest_40 : decode cX2_nearest 40 = .ok (.iload 5, 2) := by decide +kernel
theorem dX2_nearest_42 : decode cX2_nearest 42 = .ok (.if_icmp .ne 13, 3) := by decide +kernel
theorem dX2_nearest_45 : decode cX2_nearest 45 = .ok (.iload_n 3, 1) := by decide +kernel
theorem dX2_nearest_46 : decode cX2_nearest 46 = .ok (.iconst 2, 1) := by decide +kernel
theorem dX2_nearest_47 : decode cX2_nearest 47 = .ok (.irem, 1) := by decide +kernel
theorem dX2_nearest_48 : decode cX2_nearest 48 = .ok (.ifCond .ne 7, 3) := by decide +kernel
theorem dX2_nearest_51 : decode cX2_nearest 51 = .ok (.iload_n 3, 1) := by decide +kernel
theorem dX2_nearest_52 : decode cX2_nearest 52 = .ok (.goto 4, 3) := by decide +kernel
theorem dX2_nearest_55 : decode cX2_nearest 55 = .ok (.iload_n 2, 1) := by decide +kernel
theorem dX2_nearest_56 : decode cX2_nearest 56 = .ok (.istore_n 2, 1) := by decide +kernel
theorem dX2_nearest_57 : decode cX2_nearest 57 = .ok (.iinc 3 1, 3) := by decide +kernel
theorem dX2_nearest_60 : decode cX2_nearest 60 = .ok (.goto (-55), 3) := by decide +kernel
theorem dX2_nearest_63 : decode cX2_nearest 63 = .ok (.iload_n 2, 1) := by decide +kernel
theorem dX2_nearest_64 : decode cX2_nearest 64 = .ok (.ireturn, 1) := by decide +kernel
set_option maxRecDepth 20000 in
theorem ggX2_left_X2_nearest : GoodIn wsX2_left wsX2_nearest := goodIn_r _ [5, 6, 7, 4, 8] (by decide +kernel) (by decide +kernel)
set_option maxRecDepth 20000 in
theorem gX2_left_X2_nearest : GoodIn wsX2_left (va_wsS RX2 57 yX2_nearest wsX2_nearest) := goodIn_app (goodIn_of _ (by decide +kernel)) ggX2_left_X2_nearest
theorem dX2_left_0 : decode cX2_left 0 = .ok (.aload_n 0, 1) := by decide +kernel
theorem dX2_left_1 : decode cX2_left 1 = .ok (.getfield 7, 3) := by decide +kernel
theorem dX2_left_4 : decode cX2_left 4 = .ok (.iload_n 1, 1) := by decide +kernel
theorem dX2_left_5 : decode cX2_left 5 = .ok (.iaload, 1) := by decide +kernel
theorem dX2_left_6 : decode cX2_left 6 = .ok (.aload_n 0, 1) := by decide +kernel
theorem dX2_left_7 : decode cX2_left 7 = .ok (.getfield 7, 3) := by decide +kernel
theorem dX2_left_10 : decode cX2_left 10 = .ok (.iload_n 1, 1) := by decide +kernel
theorem dX2_left_11 : decode cX2_left 11 = .ok (.iaload, 1) := by decide +kernel
theorem dX2_left_12 : decode cX2_left 12 = .ok (.aload_n 0, 1) := by decide +kernel
theorem dX2_left_13 : decode cX2_left 13 = .ok (.getfield 7, 3) := by decide +kernel
theorem dX2_left_16 : decode cX2_left 16 = .ok (.iload_n 2, 1) := by decide +kernel
theorem dX2_left_17 : decode cX2_left 17 = .ok (.iaload, 1) := by decide +kernel
theorem dX2_left_18 : decode cX2_left 18 = .ok (.invokestatic 57, 3) := by decide +kernel
theorem dX2_left_21 : decode cX2_left 21 = .ok (.aload_n 0, 1) := by decide +kernel
theorem dX2_left_22 : decode cX2_left 22 = .ok (.getfield 7, 3) := by decide +kernel
theorem dX2_left_25 : decode cX2_left 25 = .ok (.iload_n 2, 1) := by decide +kernel
theorem dX2_left_26 : decode cX2_left 26 = .ok (.iaload, 1) := by decide +kernel
theorem dX2_left_27 : decode cX2_left 27 = .ok (.imul, 1) := by decide +kernel
theorem dX2_left_28 : decode cX2_left 28 = .ok (.isub, 1) := by decide +kernel
theorem dX2_left_29 : decode cX2_left 29 = .ok (.ireturn, 1) := by decide +kernel
theorem dX2_isUnder_0 : decode cX2_isUnder 0 = .ok (.aload_n 0, 1) := by decide +kernel
theorem dX2_isUnder_1 : decode cX2_isUnder 1 = .ok (.getfield 7, 3) := by decide +kernel
theorem dX2_isUnder_4 : decode cX2_isUnder 4 = .ok (.iload_n 1, 1) := by decide +kernel
theorem dX2_isUnder_5 : decode cX2_isUnder 5 = .ok (.iaload, 1) := by decide +kernel
theorem dX2_isUnder_6 : decode cX2_isUnder 6 = .ok (.ifCond .lt 12, 3) := by decide +kernel
theorem dX2_isUnder_9 : decode cX2_isUnder 9 = .ok (.aload_n 0, 1) := by decide +kernel
theorem dX2_isUnder_10 : decode cX2_isUnder 10 = .ok (.getfield 13, 3) := by decide +kernel
theorem dX2_isUnder_13 : decode cX2_isUnder 13 = .ok (.iload_n 1, 1) := by decide +kernel
theorem dX2_isUnder_14 : decode cX2_isUnder 14 = .ok (.baload, 1) := by decide +kernel
theorem dX2_isUnder_15 : decode cX2_isUnder 15 = .ok (.ifCond .eq 7, 3) := by decide +kernel
theorem dX2_isUnder_18 : decode cX2_isUnder 18 = .ok (.iconst 1, 1) := by decide +kernel
theorem dX2_isUnder_19 : decode cX2_isUnder 19 = .ok (.goto 4, 3) := by decide +kernel
theorem dX2_isUnder_22 : decode cX2_isUnder 22 = .ok (.iconst 0, 1) := by decide +kernel
theorem dX2_isUnder_23 : decode cX2_isUnder 23 = .ok (.ireturn, 1) := by decide +kernel
set_option maxRecDepth 20000 in
theorem ggX2_rest_X2_isBad : GoodIn wsX2_rest wsX2_isBad := goodIn_ca (goodIn_r _ [5, 6, 7, 8, 4, 9, 10, 11, 12, 13, 14, 40, 41, 42, 43, 44, 45] (by decide +kernel) (by decide +kernel)) (goodIn_sub (fun _ h => List.mem_cons_of_mem _ (List.mem_append_right _ h)) (by decide +kernel))
set_option maxRecDepth 20000 in
theorem gX2_rest_X2_isBad : GoodIn wsX2_rest (wsV RX2 61 RX2 yX2_isBad wsX2_isBad) := goodIn_app (goodIn_of _ (by decide +kernel)) ggX2_rest_X2_isBad
set_option maxRecDepth 20000 in
theorem ggX2_rest_X2_left : GoodIn wsX2_rest wsX2_left := goodIn_ca (goodIn_r _ [18, 6, 19, 20, 4, 21, 22, 23, 24, 40, 41, 42, 43, 44, 45] (by decide +kernel) (by decide +kernel)) (goodIn_sub (fun _ h => List.mem_cons_of_mem _ (List.mem_append_right _ h)) (by decide +kernel))
set_option maxRecDepth 20000 in
theorem gX2_rest_X2_left : GoodIn wsX2_rest (wsV RX2 65 RX2 yX2_left wsX2_left) := goodIn_app (goodIn_of _ (by decide +kernel)) ggX2_rest_X2_left
set_option maxRecDepth 20000 in
theorem ggX2_rest_X2_isUnder : GoodIn wsX2_rest wsX2_isUnder := goodIn_ca (goodIn_r _ [28, 6, 29, 40, 41, 42, 43, 44, 45] (by decide +kernel) (by decide +kernel)) (goodIn_sub (fun _ h => List.mem_cons_of_mem _ (List.mem_append_right _ h)) (by decide +kernel))
set_option maxRecDepth 20000 in
theorem gX2_rest_X2_isUnder : GoodIn wsX2_rest (wsV RX2 68 RX2 yX2_isUnder wsX2_isUnder) := goodIn_app (goodIn_of _ (by decide +kernel)) ggX2_rest_X2_isUnder
set_option maxRecDepth 20000 in
theorem ggX2_rest_X2_lays : GoodIn wsX2_rest wsX2_lays := goodIn_ca (goodIn_r _ [33, 6, 29, 34, 35, 4, 36, 37, 38, 39, 22, 23, 24, 40, 41, 42, 43, 44, 45] (by decide +kernel) (by decide +kernel)) (goodIn_sub (fun _ h => List.mem_cons_of_mem _ (List.mem_append_right _ h)) (by decide +kernel))
set_option maxRecDepth 20000 in
theorem gX2_rest_X2_lays : GoodIn wsX2_rest (wsV RX2 49 RX2 yX2_lays wsX2_lays) := goodIn_app (goodIn_of _ (by decide +kernel)) ggX2_rest_X2_lays
theorem dX2_rest_0 : decode cX2_rest 0 = .ok (.aload_n 0, 1) := by decide +kernel
theorem dX2_rest_1 : decode cX2_rest 1 = .ok (.iload_n 1, 1) := by decide +kernel
theorem dX2_rest_2 : decode cX2_rest 2 = .ok (.iload_n 2, 1) := by decide +kernel
theorem dX2_rest_3 : decode cX2_rest 3 = .ok (.iload_n 2, 1) := by decide +kernel
theorem dX2_rest_4 : decode cX2_rest 4 = .ok (.iload_n 3, 1) := by decide +kernel
theorem dX2_rest_5 : decode cX2_rest 5 = .ok (.invokevirtual 61, 3) := by decide +kernel
theorem dX2_rest_8 : decode cX2_rest 8 = .ok (.ifCond .eq 7, 3) := by decide +kernel
theorem dX2_rest_11 : decode cX2_rest 11 = .ok (.lconst 0, 1) := by decide +kernel
theorem dX2_rest_12 : decode cX2_rest 12 = .ok (.goto 19, 3) := by decide +kernel
theorem dX2_rest_15 : decode cX2_rest 15 = .ok (.aload_n 0, 1) := by decide +kernel
theorem dX2_rest_16 : decode cX2_rest 16 = .ok (.iload_n 1, 1) := by decide +kernel
theorem dX2_rest_17 : decode cX2_rest 17 = .ok (.aload_n 0, 1) := by decide +kernel
theorem dX2_rest_18 : decode cX2_rest 18 = .ok (.iload_n 2, 1) := by decide +kernel
theorem dX2_rest_19 : decode cX2_rest 19 = .ok (.iload_n 3, 1) := by decide +kernel
theorem dX2_rest_20 : decode cX2_rest 20 = .ok (.invokevirtual 65, 3) := by decide +kernel
theorem dX2_rest_23 : decode cX2_rest 23 = .ok (.aload_n 0, 1) := by decide +kernel
theorem dX2_rest_24 : decode cX2_rest 24 = .ok (.iload_n 2, 1) := by decide +kernel
theorem dX2_rest_25 : decode cX2_rest 25 = .ok (.invokevirtual 68, 3) := by decide +kernel
theorem dX2_rest_28 : decode cX2_rest 28 = .ok (.invokevirtual 49, 3) := by decide +kernel
theorem dX2_rest_31 : decode cX2_rest 31 = .ok (.lreturn, 1) := by decide +kernel
set_option maxRecDepth 20000 in
theorem ggX2_restToo_X2_rest : GoodIn wsX2_restToo wsX2_rest := goodIn_ca (goodIn_r _ [5, 6, 7, 8, 4, 9, 10, 11, 12, 13, 14, 15, 16, 17, 18, 19, 20, 21, 22, 23, 24, 25, 26, 27, 28, 29, 30, 31, 32, 33, 34, 35, 36, 37, 38, 39, 40, 41, 42, 43, 44, 45, 46, 47, 48, 49] (by decide +kernel) (by decide +kernel)) (goodIn_sub (fun _ h => List.mem_cons_of_mem _ (List.mem_append_right _ h)) (by decide +kernel))
set_option maxRecDepth 20000 in
theorem gX2_restToo_X2_rest : GoodIn wsX2_restToo (wsV RX2 71 RX2 yX2_rest wsX2_rest) := goodIn_app (goodIn_of _ (by decide +kernel)) ggX2_restToo_X2_rest
theorem dX2_restToo_0 : decode cX2_restToo 0 = .ok (.aload_n 0, 1) := by decide +kernel
theorem dX2_restToo_1 : decode cX2_restToo 1 = .ok (.iload_n 1, 1) := by decide +kernel
theorem dX2_restToo_2 : decode cX2_restToo 2 = .ok (.iload_n 2, 1) := by decide +kernel
theorem dX2_restToo_3 : decode cX2_restToo 3 = .ok (.iload_n 3, 1) := by decide +kernel
theorem dX2_restToo_4 : decode cX2_restToo 4 = .ok (.invokevirtual 71, 3) := by decide +kernel
theorem dX2_restToo_7 : decode cX2_restToo 7 = .ok (.lreturn, 1) := by decide +kernel
set_option maxRecDepth 20000 in
theorem ggX2_times_X2_isBad : GoodIn wsX2_times wsX2_isBad := goodIn_ca (goodIn_r _ [6, 1, 7, 8, 5, 9, 10, 11, 12, 13, 14, 21, 22, 23, 24, 25, 26] (by decide +kernel) (by decide +kernel)) (goodIn_sub (fun _ h => List.mem_cons_of_mem _ (List.mem_append_right _ h)) (by decide +kernel))
set_option maxRecDepth 20000 in
theorem gX2_times_X2_isBad : GoodIn wsX2_times (wsV RX2 61 RX2 yX2_isBad wsX2_isBad) := goodIn_app (goodIn_of _ (by decide +kernel)) ggX2_times_X2_isBad
set_option maxRecDepth 20000 in
theorem ggX2_times_X2_nearest : GoodIn wsX2_times wsX2_nearest := goodIn_r _ [17, 18, 19, 5, 20] (by decide +kernel) (by decide +kernel)
set_option maxRecDepth 20000 in
theorem gX2_times_X2_nearest : GoodIn wsX2_times (va_wsS RX2 57 yX2_nearest wsX2_nearest) := goodIn_app (goodIn_of _ (by decide +kernel)) ggX2_times_X2_nearest
theorem dX2_times_0 : decode cX2_times 0 = .ok (.aload_n 0, 1) := by decide +kernel
theorem dX2_times_1 : decode cX2_times 1 = .ok (.iload_n 1, 1) := by decide +kernel
theorem dX2_times_2 : decode cX2_times 2 = .ok (.iload_n 1, 1) := by decide +kernel
theorem dX2_times_3 : decode cX2_times 3 = .ok (.iload_n 1, 1) := by decide +kernel
theorem dX2_times_4 : decode cX2_times 4 = .ok (.iload_n 2, 1) := by decide +kernel
theorem dX2_times_5 : decode cX2_times 5 = .ok (.invokevirtual 61, 3) := by decide +kernel
theorem dX2_times_8 : decode cX2_times 8 = .ok (.ifCond .eq 7, 3) := by decide +kernel
theorem dX2_times_11 : decode cX2_times 11 = .ok (.iconst 0, 1) := by decide +kernel
theorem dX2_times_12 : decode cX2_times 12 = .ok (.goto 18, 3) := by decide +kernel
theorem dX2_times_15 : decode cX2_times 15 = .ok (.aload_n 0, 1) := by decide +kernel
theorem dX2_times_16 : decode cX2_times 16 = .ok (.getfield 7, 3) := by decide +kernel
theorem dX2_times_19 : decode cX2_times 19 = .ok (.iload_n 1, 1) := by decide +kernel
theorem dX2_times_20 : decode cX2_times 20 = .ok (.iaload, 1) := by decide +kernel
theorem dX2_times_21 : decode cX2_times 21 = .ok (.aload_n 0, 1) := by decide +kernel
theorem dX2_times_22 : decode cX2_times 22 = .ok (.getfield 7, 3) := by decide +kernel
theorem dX2_times_25 : decode cX2_times 25 = .ok (.iload_n 2, 1) := by decide +kernel
theorem dX2_times_26 : decode cX2_times 26 = .ok (.iaload, 1) := by decide +kernel
theorem dX2_times_27 : decode cX2_times 27 = .ok (.invokestatic 57, 3) := by decide +kernel
theorem dX2_times_30 : decode cX2_times 30 = .ok (.ireturn, 1) := by decide +kernel
set_option maxRecDepth 20000 in
theorem ggX2_isHalf_X2_isBad : GoodIn wsX2_isHalf wsX2_isBad := goodIn_ca (goodIn_r _ [6, 1, 7, 8, 5, 9, 10, 11, 12, 13, 14, 25, 26, 27, 28, 29, 30] (by decide +kernel) (by decide +kernel)) (goodIn_sub (fun _ h => List.mem_cons_of_mem _ (List.mem_append_right _ h)) (by decide +kernel))
set_option maxRecDepth 20000 in
theorem gX2_isHalf_X2_isBad : GoodIn wsX2_isHalf (wsV RX2 61 RX2 yX2_isBad wsX2_isBad) := goodIn_app (goodIn_of _ (by decide +kernel)) ggX2_isHalf_X2_isBad
set_option maxRecDepth 20000 in
theorem ggX2_isHalf_X2_left : GoodIn wsX2_isHalf wsX2_left := goodIn_ca (goodIn_r _ [18, 1, 19, 20, 5, 21, 22, 23, 24, 25, 26, 27, 28, 29, 30] (by decide +kernel) (by decide +kernel)) (goodIn_sub (fun _ h => List.mem_cons_of_mem _ (List.mem_append_right _ h)) (by decide +kernel))
set_option maxRecDepth 20000 in
theorem gX2_isHalf_X2_left : GoodIn wsX2_isHalf (wsV RX2 65 RX2 yX2_left wsX2_left) := goodIn_app (goodIn_of _ (by decide +kernel)) ggX2_isHalf_X2_left
set_option maxRecDepth 20000 in
theorem ggX2_isHalf_X2_size : GoodIn wsX2_isHalf wsX2_size := goodIn_r _ [24] (by decide +kernel) (by decide +kernel)
set_option maxRecDepth 20000 in
theorem gX2_isHalf_X2_size : GoodIn wsX2_isHalf (va_wsS RX2 37 yX2_size wsX2_size) := goodIn_app (goodIn_of _ (by decide +kernel)) ggX2_isHalf_X2_size
theorem dX2_isHalf_0 : decode cX2_isHalf 0 = .ok (.aload_n 0, 1) := by decide +kernel
theorem dX2_isHalf_1 : decode cX2_isHalf 1 = .ok (.iload_n 1, 1) := by decide +kernel
theorem dX2_isHalf_2 : decode cX2_isHalf 2 = .ok (.iload_n 1, 1) := by decide +kernel
theorem dX2_isHalf_3 : decode cX2_isHalf 3 = .ok (.iload_n 1, 1) := by decide +kernel
theorem dX2_isHalf_4 : decode cX2_isHalf 4 = .ok (.iload_n 2, 1) := by decide +kernel
theorem dX2_isHalf_5 : decode cX2_isHalf 5 = .ok (.invokevirtual 61, 3) := by decide +kernel
theorem dX2_isHalf_8 : decode cX2_isHalf 8 = .ok (.ifCond .ne 30, 3) := by decide +kernel
theorem dX2_isHalf_11 : decode cX2_isHalf 11 = .ok (.iconst 2, 1) := by decide +kernel
theorem dX2_isHalf_12 : decode cX2_isHalf 12 = .ok (.aload_n 0, 1) := by decide +kernel
theorem dX2_isHalf_13 : decode cX2_isHalf 13 = .ok (.iload_n 1, 1) := by decide +kernel
theorem dX2_isHalf_14 : decode cX2_isHalf 14 = .ok (.iload_n 2, 1) := by decide +kernel
theorem dX2_isHalf_15 : decode cX2_isHalf 15 = .ok (.invokevirtual 65, 3) := by decide +kernel
theorem dX2_isHalf_18 : decode cX2_isHalf 18 = .ok (.invokestatic 37, 3) := by decide +kernel
theorem dX2_isHalf_21 : decode cX2_isHalf 21 = .ok (.imul, 1) := by decide +kernel
theorem dX2_isHalf_22 : decode cX2_isHalf 22 = .ok (.aload_n 0, 1) := by decide +kernel
theorem dX2_isHalf_23 : decode cX2_isHalf 23 = .ok (.getfield 7, 3) := by decide +kernel
theorem dX2_isHalf_26 : decode cX2_isHalf 26 = .ok (.iload_n 2, 1) := by decide +kernel
theorem dX2_isHalf_27 : decode cX2_isHalf 27 = .ok (.iaload, 1) := by decide +kernel
theorem dX2_isHalf_28 : decode cX2_isHalf 28 = .ok (.invokestatic 37, 3) := by decide +kernel
theorem dX2_isHalf_31 : decode cX2_isHalf 31 = .ok (.if_icmp .ne 7, 3) := by decide +kernel
theorem dX2_isHalf_34 : decode cX2_isHalf 34 = .ok (.iconst 1, 1) := by decide +kernel
theorem dX2_isHalf_35 : decode cX2_isHalf 35 = .ok (.goto 4, 3) := by decide +kernel
theorem dX2_isHalf_38 : decode cX2_isHalf 38 = .ok (.iconst 0, 1) := by decide +kernel
theorem dX2_isHalf_39 : decode cX2_isHalf 39 = .ok (.ireturn, 1) := by decide +kernel
set_option maxRecDepth 20000 in
theorem ggX2_cutOf_X2_size : GoodIn wsX2_cutOf wsX2_size := goodIn_r _ [5] (by decide +kernel) (by decide +kernel)
set_option maxRecDepth 20000 in
theorem gX2_cutOf_X2_size : GoodIn wsX2_cutOf (va_wsS RX2 37 yX2_size wsX2_size) := goodIn_app (goodIn_of _ (by decide +kernel)) ggX2_cutOf_X2_size
theorem dX2_cutOf_0 : decode cX2_cutOf 0 = .ok (.aload_n 0, 1) := by decide +kernel
theorem dX2_cutOf_1 : decode cX2_cutOf 1 = .ok (.getfield 7, 3) := by decide +kernel
theorem dX2_cutOf_4 : decode cX2_cutOf 4 = .ok (.iload_n 1, 1) := by decide +kernel
theorem dX2_cutOf_5 : decode cX2_cutOf 5 = .ok (.iaload, 1) := by decide +kernel
theorem dX2_cutOf_6 : decode cX2_cutOf 6 = .ok (.invokestatic 37, 3) := by decide +kernel
theorem dX2_cutOf_9 : decode cX2_cutOf 9 = .ok (.istore_n 3, 1) := by decide +kernel
theorem dX2_cutOf_10 : decode cX2_cutOf 10 = .ok (.iload_n 3, 1) := by decide +kernel
theorem dX2_cutOf_11 : decode cX2_cutOf 11 = .ok (.aload_n 0, 1) := by decide +kernel
theorem dX2_cutOf_12 : decode cX2_cutOf 12 = .ok (.getfield 7, 3) := by decide +kernel
theorem dX2_cutOf_15 : decode cX2_cutOf 15 = .ok (.iload_n 2, 1) := by decide +kernel
theorem dX2_cutOf_16 : decode cX2_cutOf 16 = .ok (.iaload, 1) := by decide +kernel
theorem dX2_cutOf_17 : decode cX2_cutOf 17 = .ok (.invokestatic 37, 3) := by decide +kernel
theorem dX2_cutOf_20 : decode cX2_cutOf 20 = .ok (.if_icmp .lt 18, 3) := by decide +kernel
theorem dX2_cutOf_23 : decode cX2_cutOf 23 = .ok (.iload_n 3, 1) := by decide +kernel
theorem dX2_cutOf_24 : decode cX2_cutOf 24 = .ok (.aload_n 0, 1) := by decide +kernel
theorem dX2_cutOf_25 : decode cX2_cutOf 25 = .ok (.getfield 7, 3) := by decide +kernel
theorem dX2_cutOf_28 : decode cX2_cutOf 28 = .ok (.iload_n 2, 1) := by decide +kernel
theorem dX2_cutOf_29 : decode cX2_cutOf 29 = .ok (.iaload, 1) := by decide +kernel
theorem dX2_cutOf_30 : decode cX2_cutOf 30 = .ok (.invokestatic 37, 3) := by decide +kernel
theorem dX2_cutOf_33 : decode cX2_cutOf 33 = .ok (.isub, 1) := by decide +kernel
theorem dX2_cutOf_34 : decode cX2_cutOf 34 = .ok (.istore_n 3, 1) := by decide +kernel
theorem dX2_cutOf_35 : decode cX2_cutOf 35 = .ok (.goto (-25), 3) := by decide +kernel
theorem dX2_cutOf_38 : decode cX2_cutOf 38 = .ok (.aload_n 0, 1) := by decide +kernel
theorem dX2_cutOf_39 : decode cX2_cutOf 39 = .ok (.getfield 7, 3) := by decide +kernel
theorem dX2_cutOf_42 : decode cX2_cutOf 42 = .ok (.iload_n 1, 1) := by decide +kernel
theorem dX2_cutOf_43 : decode cX2_cutOf 43 = .ok (.iaload, 1) := by decide +kernel
theorem dX2_cutOf_44 : decode cX2_cutOf 44 = .ok (.ifCond .ge 8, 3) := by decide +kernel
theorem dX2_cutOf_47 : decode cX2_cutOf 47 = .ok (.iload_n 3, 1) := by decide +kernel
theorem dX2_cutOf_48 : decode cX2_cutOf 48 = .ok (.ineg, 1) := by decide +kernel
theorem dX2_cutOf_49 : decode cX2_cutOf 49 = .ok (.goto 4, 3) := by decide +kernel
theorem dX2_cutOf_52 : decode cX2_cutOf 52 = .ok (.iload_n 3, 1) := by decide +kernel
theorem dX2_cutOf_53 : decode cX2_cutOf 53 = .ok (.ireturn, 1) := by decide +kernel
set_option maxRecDepth 20000 in
theorem ggX2_cut_X2_isBad : GoodIn wsX2_cut wsX2_isBad := goodIn_ca (goodIn_r _ [5, 6, 7, 8, 4, 9, 10, 11, 12, 13, 14, 37, 38, 39, 40, 41, 42] (by decide +kernel) (by decide +kernel)) (goodIn_sub (fun _ h => List.mem_cons_of_mem _ (List.mem_append_right _ h)) (by decide +kernel))
set_option maxRecDepth 20000 in
theorem gX2_cut_X2_isBad : GoodIn wsX2_cut (wsV RX2 61 RX2 yX2_isBad wsX2_isBad) := goodIn_app (goodIn_of _ (by decide +kernel)) ggX2_cut_X2_isBad
set_option maxRecDepth 20000 in
theorem ggX2_cut_X2_cutOf : GoodIn wsX2_cut wsX2_cutOf := goodIn_ca (goodIn_r _ [18, 6, 19, 20, 4, 21, 37, 38, 39, 40, 41, 42] (by decide +kernel) (by decide +kernel)) (goodIn_sub (fun _ h => List.mem_cons_of_mem _ (List.mem_append_right _ h)) (by decide +kernel))
set_option maxRecDepth 20000 in
theorem gX2_cut_X2_cutOf : GoodIn wsX2_cut (wsV RX2 75 RX2 yX2_cutOf wsX2_cutOf) := goodIn_app (goodIn_of _ (by decide +kernel)) ggX2_cut_X2_cutOf
set_option maxRecDepth 20000 in
theorem ggX2_cut_X2_isUnder : GoodIn wsX2_cut wsX2_isUnder := goodIn_ca (goodIn_r _ [25, 6, 26, 37, 38, 39, 40, 41, 42] (by decide +kernel) (by decide +kernel)) (goodIn_sub (fun _ h => List.mem_cons_of_mem _ (List.mem_append_right _ h)) (by decide +kernel))
set_option maxRecDepth 20000 in
theorem gX2_cut_X2_isUnder : GoodIn wsX2_cut (wsV RX2 68 RX2 yX2_isUnder wsX2_isUnder) := goodIn_app (goodIn_of _ (by decide +kernel)) ggX2_cut_X2_isUnder
set_option maxRecDepth 20000 in
theorem ggX2_cut_X2_lays : GoodIn wsX2_cut wsX2_lays := goodIn_ca (goodIn_r _ [30, 6, 26, 31, 32, 4, 33, 34, 35, 36, 19, 20, 21, 37, 38, 39, 40, 41, 42] (by decide +kernel) (by decide +kernel)) (goodIn_sub (fun _ h => List.mem_cons_of_mem _ (List.mem_append_right _ h)) (by decide +kernel))
set_option maxRecDepth 20000 in
theorem gX2_cut_X2_lays : GoodIn wsX2_cut (wsV RX2 49 RX2 yX2_lays wsX2_lays) := goodIn_app (goodIn_of _ (by decide +kernel)) ggX2_cut_X2_lays
theorem dX2_cut_0 : decode cX2_cut 0 = .ok (.aload_n 0, 1) := by decide +kernel
theorem dX2_cut_1 : decode cX2_cut 1 = .ok (.iload_n 1, 1) := by decide +kernel
theorem dX2_cut_2 : decode cX2_cut 2 = .ok (.iload_n 2, 1) := by decide +kernel
theorem dX2_cut_3 : decode cX2_cut 3 = .ok (.iload_n 2, 1) := by decide +kernel
theorem dX2_cut_4 : decode cX2_cut 4 = .ok (.iload_n 3, 1) := by decide +kernel
theorem dX2_cut_5 : decode cX2_cut 5 = .ok (.invokevirtual 61, 3) := by decide +kernel
theorem dX2_cut_8 : decode cX2_cut 8 = .ok (.ifCond .eq 7, 3) := by decide +kernel
theorem dX2_cut_11 : decode cX2_cut 11 = .ok (.lconst 0, 1) := by decide +kernel
theorem dX2_cut_12 : decode cX2_cut 12 = .ok (.goto 19, 3) := by decide +kernel
theorem dX2_cut_15 : decode cX2_cut 15 = .ok (.aload_n 0, 1) := by decide +kernel
theorem dX2_cut_16 : decode cX2_cut 16 = .ok (.iload_n 1, 1) := by decide +kernel
theorem dX2_cut_17 : decode cX2_cut 17 = .ok (.aload_n 0, 1) := by decide +kernel
theorem dX2_cut_18 : decode cX2_cut 18 = .ok (.iload_n 2, 1) := by decide +kernel
theorem dX2_cut_19 : decode cX2_cut 19 = .ok (.iload_n 3, 1) := by decide +kernel
theorem dX2_cut_20 : decode cX2_cut 20 = .ok (.invokevirtual 75, 3) := by decide +kernel
theorem dX2_cut_23 : decode cX2_cut 23 = .ok (.aload_n 0, 1) := by decide +kernel
theorem dX2_cut_24 : decode cX2_cut 24 = .ok (.iload_n 2, 1) := by decide +kernel
theorem dX2_cut_25 : decode cX2_cut 25 = .ok (.invokevirtual 68, 3) := by decide +kernel
theorem dX2_cut_28 : decode cX2_cut 28 = .ok (.invokevirtual 49, 3) := by decide +kernel
theorem dX2_cut_31 : decode cX2_cut 31 = .ok (.lreturn, 1) := by decide +kernel
set_option maxRecDepth 20000 in
theorem ggX2_apart_X2_isBad : GoodIn wsX2_apart wsX2_isBad := goodIn_ca (goodIn_r _ [5, 6, 7, 8, 4, 9, 10, 11, 12, 13, 14, 29, 30, 31, 32, 33, 34] (by decide +kernel) (by decide +kernel)) (goodIn_sub (fun _ h => List.mem_cons_of_mem _ (List.mem_append_right _ h)) (by decide +kernel))
set_option maxRecDepth 20000 in
theorem gX2_apart_X2_isBad : GoodIn wsX2_apart (wsV RX2 61 RX2 yX2_isBad wsX2_isBad) := goodIn_app (goodIn_of _ (by decide +kernel)) ggX2_apart_X2_isBad
set_option maxRecDepth 20000 in
theorem ggX2_apart_X2_left : GoodIn wsX2_apart wsX2_left := goodIn_ca (goodIn_r _ [18, 6, 19, 20, 4, 21, 22, 23, 24, 29, 30, 31, 32, 33, 34] (by decide +kernel) (by decide +kernel)) (goodIn_sub (fun _ h => List.mem_cons_of_mem _ (List.mem_append_right _ h)) (by decide +kernel))
set_option maxRecDepth 20000 in
theorem gX2_apart_X2_left : GoodIn wsX2_apart (wsV RX2 65 RX2 yX2_left wsX2_left) := goodIn_app (goodIn_of _ (by decide +kernel)) ggX2_apart_X2_left
set_option maxRecDepth 20000 in
theorem ggX2_apart_X2_cutOf : GoodIn wsX2_apart wsX2_cutOf := goodIn_ca (goodIn_r _ [28, 6, 22, 23, 4, 24, 29, 30, 31, 32, 33, 34] (by decide +kernel) (by decide +kernel)) (goodIn_sub (fun _ h => List.mem_cons_of_mem _ (List.mem_append_right _ h)) (by decide +kernel))
set_option maxRecDepth 20000 in
theorem gX2_apart_X2_cutOf : GoodIn wsX2_apart (wsV RX2 75 RX2 yX2_cutOf wsX2_cutOf) := goodIn_app (goodIn_of _ (by decide +kernel)) ggX2_apart_X2_cutOf
theorem dX2_apart_0 : decode cX2_apart 0 = .ok (.aload_n 0, 1) := by decide +kernel
theorem dX2_apart_1 : decode cX2_apart 1 = .ok (.iload_n 1, 1) := by decide +kernel
theorem dX2_apart_2 : decode cX2_apart 2 = .ok (.iload_n 1, 1) := by decide +kernel
theorem dX2_apart_3 : decode cX2_apart 3 = .ok (.iload_n 1, 1) := by decide +kernel
theorem dX2_apart_4 : decode cX2_apart 4 = .ok (.iload_n 2, 1) := by decide +kernel
theorem dX2_apart_5 : decode cX2_apart 5 = .ok (.invokevirtual 61, 3) := by decide +kernel
theorem dX2_apart_8 : decode cX2_apart 8 = .ok (.ifCond .eq 5, 3) := by decide +kernel
theorem dX2_apart_11 : decode cX2_apart 11 = .ok (.iconst 0, 1) := by decide +kernel
theorem dX2_apart_12 : decode cX2_apart 12 = .ok (.ireturn, 1) := by decide +kernel
theorem dX2_apart_13 : decode cX2_apart 13 = .ok (.aload_n 0, 1) := by decide +kernel
theorem dX2_apart_14 : decode cX2_apart 14 = .ok (.iload_n 1, 1) := by decide +kernel
theorem dX2_apart_15 : decode cX2_apart 15 = .ok (.iload_n 2, 1) := by decide +kernel
theorem dX2_apart_16 : decode cX2_apart 16 = .ok (.invokevirtual 65, 3) := by decide +kernel
theorem dX2_apart_19 : decode cX2_apart 19 = .ok (.aload_n 0, 1) := by decide +kernel
theorem dX2_apart_20 : decode cX2_apart 20 = .ok (.iload_n 1, 1) := by decide +kernel
theorem dX2_apart_21 : decode cX2_apart 21 = .ok (.iload_n 2, 1) := by decide +kernel
theorem dX2_apart_22 : decode cX2_apart 22 = .ok (.invokevirtual 75, 3) := by decide +kernel
theorem dX2_apart_25 : decode cX2_apart 25 = .ok (.isub, 1) := by decide +kernel
theorem dX2_apart_26 : decode cX2_apart 26 = .ok (.istore_n 3, 1) := by decide +kernel
theorem dX2_apart_27 : decode cX2_apart 27 = .ok (.iload_n 3, 1) := by decide +kernel
theorem dX2_apart_28 : decode cX2_apart 28 = .ok (.ifCond .ge 7, 3) := by decide +kernel
theorem dX2_apart_31 : decode cX2_apart 31 = .ok (.iconst (-1), 1) := by decide +kernel
theorem dX2_apart_32 : decode cX2_apart 32 = .ok (.goto 12, 3) := by decide +kernel
theorem dX2_apart_35 : decode cX2_apart 35 = .ok (.iload_n 3, 1) := by decide +kernel
theorem dX2_apart_36 : decode cX2_apart 36 = .ok (.ifCond .le 7, 3) := by decide +kernel
theorem dX2_apart_39 : decode cX2_apart 39 = .ok (.iconst 1, 1) := by decide +kernel
theorem dX2_apart_40 : decode cX2_apart 40 = .ok (.goto 4, 3) := by decide +kernel
theorem dX2_apart_43 : decode cX2_apart 43 = .ok (.iconst 0, 1) := by decide +kernel
theorem dX2_apart_44 : decode cX2_apart 44 = .ok (.ireturn, 1) := by decide +kernel
set_option maxRecDepth 20000 in
theorem ggX2_residueOf_X2_size : GoodIn wsX2_residueOf wsX2_size := goodIn_r _ [4] (by decide +kernel) (by decide +kernel)
set_option maxRecDepth 20000 in
theorem gX2_residueOf_X2_size : GoodIn wsX2_residueOf (va_wsS RX2 37 yX2_size wsX2_size) := goodIn_app (goodIn_of _ (by decide +kernel)) ggX2_residueOf_X2_size
theorem dX2_residueOf_0 : decode cX2_residueOf 0 = .ok (.iconst 0, 1) := by decide +kernel
theorem dX2_residueOf_1 : decode cX2_residueOf 1 = .ok (.istore_n 3, 1) := by decide +kernel
theorem dX2_residueOf_2 : decode cX2_residueOf 2 = .ok (.bipush (-127), 2) := by decide +kernel
theorem dX2_residueOf_4 : decode cX2_residueOf 4 = .ok (.istore 4, 2) := by decide +kernel
theorem dX2_residueOf_6 : decode cX2_residueOf 6 = .ok (.iload 4, 2) := by decide +kernel
theorem dX2_residueOf_8 : decode cX2_residueOf 8 = .ok (.bipush 127, 2) := by decide +kernel
theorem dX2_residueOf_10 : decode cX2_residueOf 10 = .ok (.if_icmp .gt 52, 3) := by decide +kernel
theorem dX2_residueOf_13 : decode cX2_residueOf 13 = .ok (.iconst 2, 1) := by decide +kernel
theorem dX2_residueOf_14 : decode cX2_residueOf 14 = .ok (.iload 4, 2) := by decide +kernel
theorem dX2_residueOf_16 : decode cX2_residueOf 16 = .ok (.imul, 1) := by decide +kernel
theorem dX2_residueOf_17 : decode cX2_residueOf 17 = .ok (.iload_n 2, 1) := by decide +kernel
theorem dX2_residueOf_18 : decode cX2_residueOf 18 = .ok (.invokestatic 37, 3) := by decide +kernel
theorem dX2_residueOf_21 : decode cX2_residueOf 21 = .ok (.ineg, 1) := by decide +kernel
theorem dX2_residueOf_22 : decode cX2_residueOf 22 = .ok (.if_icmp .le 32, 3) := by decide +kernel
theorem dX2_residueOf_25 : decode cX2_residueOf 25 = .ok (.iconst 2, 1) := by decide +kernel
theorem dX2_residueOf_26 : decode cX2_residueOf 26 = .ok (.iload 4, 2) := by decide +kernel
theorem dX2_residueOf_28 : decode cX2_residueOf 28 = .ok (.imul, 1) := by decide +kernel
theorem dX2_residueOf_29 : decode cX2_residueOf 29 = .ok (.iload_n 2, 1) := by decide +kernel
theorem dX2_residueOf_30 : decode cX2_residueOf 30 = .ok (.invokestatic 37, 3) := by decide +kernel
theorem dX2_residueOf_33 : decode cX2_residueOf 33 = .ok (.if_icmp .gt 21, 3) := by decide +kernel
theorem dX2_residueOf_36 : decode cX2_residueOf 36 = .ok (.lload_n 0, 1) := by decide +kernel
theorem dX2_residueOf_37 : decode cX2_residueOf 37 = .ok (.iload 4, 2) := by decide +kernel
theorem dX2_residueOf_39 : decode cX2_residueOf 39 = .ok (.i2l, 1) := by decide +kernel
theorem dX2_residueOf_40 : decode cX2_residueOf 40 = .ok (.lsub, 1) := by decide +kernel
theorem dX2_residueOf_41 : decode cX2_residueOf 41 = .ok (.iload_n 2, 1) := by decide +kernel
theorem dX2_residueOf_42 : decode cX2_residueOf 42 = .ok (.i2l, 1) := by decide +kernel
theorem dX2_residueOf_43 : decode cX2_residueOf 43 = .ok (.lrem, 1) := by decide +kernel
theorem dX2_residueOf_44 : decode cX2_residueOf 44 = .ok (.lconst 0, 1) := by decide +kernel
theorem dX2_residueOf_45 : decode cX2_residueOf 45 = .ok (.lcmp, 1) := by decide +kernel
theorem dX2_residueOf_46 : decode cX2_residueOf 46 = .ok (.ifCond .ne 8, 3) := by decide +kernel
theorem dX2_residueOf_49 : decode cX2_residueOf 49 = .ok (.iload 4, 2) := by decide +kernel
theorem dX2_residueOf_51 : decode cX2_residueOf 51 = .ok (.goto 4, 3) := by decide +kernel
theorem dX2_residueOf_54 : decode cX2_residueOf 54 = .ok (.iload_n 3, 1) := by decide +kernel
theorem dX2_residueOf_55 : decode cX2_residueOf 55 = .ok (.istore_n 3, 1) := by decide +kernel
theorem dX2_residueOf_56 : decode cX2_residueOf 56 = .ok (.iinc 4 1, 3) := by decide +kernel
theorem dX2_residueOf_59 : decode cX2_residueOf 59 = .ok (.goto (-53), 3) := by decide +kernel
theorem dX2_residueOf_62 : decode cX2_residueOf 62 = .ok (.iload_n 3, 1) := by decide +kernel
theorem dX2_residueOf_63 : decode cX2_residueOf 63 = .ok (.ireturn, 1) := by decide +kernel
set_option maxRecDepth 20000 in
theorem ggX2_residue_X2_isBad : GoodIn wsX2_residue wsX2_isBad := goodIn_ca (goodIn_r _ [6, 1, 7, 8, 5, 9, 10, 11, 12, 13, 14, 32, 33, 34, 35, 36, 37] (by decide +kernel) (by decide +kernel)) (goodIn_sub (fun _ h => List.mem_cons_of_mem _ (List.mem_append_left _ (List.mem_append_right _ h))) (by decide +kernel))
set_option maxRecDepth 20000 in
theorem gX2_residue_X2_isBad : GoodIn wsX2_residue (wsV RX2 61 RX2 yX2_isBad wsX2_isBad) := goodIn_app (goodIn_of _ (by decide +kernel)) ggX2_residue_X2_isBad
set_option maxRecDepth 20000 in
theorem ggX2_residue_X2_residueOf : GoodIn wsX2_residue wsX2_residueOf := goodIn_ca (goodIn_r _ [17, 18, 19, 5, 20] (by decide +kernel) (by decide +kernel)) (goodIn_sub (fun _ h => List.mem_cons_of_mem _ (List.mem_append_right _ h)) (by decide +kernel))
set_option maxRecDepth 20000 in
theorem gX2_residue_X2_residueOf : GoodIn wsX2_residue (va_wsS RX2 78 yX2_residueOf wsX2_residueOf) := goodIn_app (goodIn_of _ (by decide +kernel)) ggX2_residue_X2_residueOf
set_option maxRecDepth 20000 in
theorem ggX2_residue_X2_lays : GoodIn wsX2_residue wsX2_lays := goodIn_ca (goodIn_r _ [24, 1, 25, 26, 27, 5, 28, 29, 30, 31, 18, 19, 20, 32, 33, 34, 35, 36, 37] (by decide +kernel) (by decide +kernel)) (goodIn_sub (fun _ h => List.mem_cons_of_mem _ (List.mem_append_left _ (List.mem_append_right _ h))) (by decide +kernel))
set_option maxRecDepth 20000 in
theorem gX2_residue_X2_lays : GoodIn wsX2_residue (wsV RX2 49 RX2 yX2_lays wsX2_lays) := goodIn_app (goodIn_of _ (by decide +kernel)) ggX2_residue_X2_lays
theorem dX2_residue_0 : decode cX2_residue 0 = .ok (.aload_n 0, 1) := by decide +kernel
theorem dX2_residue_1 : decode cX2_residue 1 = .ok (.iload_n 1, 1) := by decide +kernel
theorem dX2_residue_2 : decode cX2_residue 2 = .ok (.iload_n 2, 1) := by decide +kernel
theorem dX2_residue_3 : decode cX2_residue 3 = .ok (.iload_n 2, 1) := by decide +kernel
theorem dX2_residue_4 : decode cX2_residue 4 = .ok (.iload_n 3, 1) := by decide +kernel
theorem dX2_residue_5 : decode cX2_residue 5 = .ok (.invokevirtual 61, 3) := by decide +kernel
theorem dX2_residue_8 : decode cX2_residue 8 = .ok (.ifCond .eq 7, 3) := by decide +kernel
theorem dX2_residue_11 : decode cX2_residue 11 = .ok (.lconst 0, 1) := by decide +kernel
theorem dX2_residue_12 : decode cX2_residue 12 = .ok (.goto 25, 3) := by decide +kernel
theorem dX2_residue_15 : decode cX2_residue 15 = .ok (.aload_n 0, 1) := by decide +kernel
theorem dX2_residue_16 : decode cX2_residue 16 = .ok (.iload_n 1, 1) := by decide +kernel
theorem dX2_residue_17 : decode cX2_residue 17 = .ok (.aload_n 0, 1) := by decide +kernel
theorem dX2_residue_18 : decode cX2_residue 18 = .ok (.getfield 7, 3) := by decide +kernel
theorem dX2_residue_21 : decode cX2_residue 21 = .ok (.iload_n 2, 1) := by decide +kernel
theorem dX2_residue_22 : decode cX2_residue 22 = .ok (.iaload, 1) := by decide +kernel
theorem dX2_residue_23 : decode cX2_residue 23 = .ok (.i2l, 1) := by decide +kernel
theorem dX2_residue_24 : decode cX2_residue 24 = .ok (.aload_n 0, 1) := by decide +kernel
theorem dX2_residue_25 : decode cX2_residue 25 = .ok (.getfield 7, 3) := by decide +kernel
theorem dX2_residue_28 : decode cX2_residue 28 = .ok (.iload_n 3, 1) := by decide +kernel
theorem dX2_residue_29 : decode cX2_residue 29 = .ok (.iaload, 1) := by decide +kernel
theorem dX2_residue_30 : decode cX2_residue 30 = .ok (.invokestatic 78, 3) := by decide +kernel
theorem dX2_residue_33 : decode cX2_residue 33 = .ok (.iconst 0, 1) := by decide +kernel
theorem dX2_residue_34 : decode cX2_residue 34 = .ok (.invokevirtual 49, 3) := by decide +kernel
theorem dX2_residue_37 : decode cX2_residue 37 = .ok (.lreturn, 1) := by decide +kernel
set_option maxRecDepth 20000 in
theorem ggX2_plus_X2_isBad : GoodIn wsX2_plus wsX2_isBad := goodIn_ca (goodIn_r _ [6, 1, 7, 8, 5, 9, 10, 11, 12, 13, 14, 32, 33, 34, 35, 36, 37] (by decide +kernel) (by decide +kernel)) (goodIn_sub (fun _ h => List.mem_cons_of_mem _ (List.mem_append_left _ (List.mem_append_right _ h))) (by decide +kernel))
set_option maxRecDepth 20000 in
theorem gX2_plus_X2_isBad : GoodIn wsX2_plus (wsV RX2 61 RX2 yX2_isBad wsX2_isBad) := goodIn_app (goodIn_of _ (by decide +kernel)) ggX2_plus_X2_isBad
set_option maxRecDepth 20000 in
theorem ggX2_plus_X2_residueOf : GoodIn wsX2_plus wsX2_residueOf := goodIn_ca (goodIn_r _ [17, 18, 19, 5, 20] (by decide +kernel) (by decide +kernel)) (goodIn_sub (fun _ h => List.mem_cons_of_mem _ (List.mem_append_right _ h)) (by decide +kernel))
set_option maxRecDepth 20000 in
theorem gX2_plus_X2_residueOf : GoodIn wsX2_plus (va_wsS RX2 78 yX2_residueOf wsX2_residueOf) := goodIn_app (goodIn_of _ (by decide +kernel)) ggX2_plus_X2_residueOf
set_option maxRecDepth 20000 in
theorem ggX2_plus_X2_lays : GoodIn wsX2_plus wsX2_lays := goodIn_ca (goodIn_r _ [24, 1, 25, 26, 27, 5, 28, 29, 30, 31, 18, 19, 20, 32, 33, 34, 35, 36, 37] (by decide +kernel) (by decide +kernel)) (goodIn_sub (fun _ h => List.mem_cons_of_mem _ (List.mem_append_left _ (List.mem_append_right _ h))) (by decide +kernel))
set_option maxRecDepth 20000 in
theorem gX2_plus_X2_lays : GoodIn wsX2_plus (wsV RX2 49 RX2 yX2_lays wsX2_lays) := goodIn_app (goodIn_of _ (by decide +kernel)) ggX2_plus_X2_lays
theorem dX2_plus_0 : decode cX2_plus 0 = .ok (.aload_n 0, 1) := by decide +kernel
theorem dX2_plus_1 : decode cX2_plus 1 = .ok (.iload_n 1, 1) := by decide +kernel
theorem dX2_plus_2 : decode cX2_plus 2 = .ok (.iload_n 2, 1) := by decide +kernel
theorem dX2_plus_3 : decode cX2_plus 3 = .ok (.iload_n 3, 1) := by decide +kernel
theorem dX2_plus_4 : decode cX2_plus 4 = .ok (.iload 4, 2) := by decide +kernel
theorem dX2_plus_6 : decode cX2_plus 6 = .ok (.invokevirtual 61, 3) := by decide +kernel
theorem dX2_plus_9 : decode cX2_plus 9 = .ok (.ifCond .eq 7, 3) := by decide +kernel
theorem dX2_plus_12 : decode cX2_plus 12 = .ok (.lconst 0, 1) := by decide +kernel
theorem dX2_plus_13 : decode cX2_plus 13 = .ok (.goto 34, 3) := by decide +kernel
theorem dX2_plus_16 : decode cX2_plus 16 = .ok (.aload_n 0, 1) := by decide +kernel
theorem dX2_plus_17 : decode cX2_plus 17 = .ok (.iload_n 1, 1) := by decide +kernel
theorem dX2_plus_18 : decode cX2_plus 18 = .ok (.aload_n 0, 1) := by decide +kernel
theorem dX2_plus_19 : decode cX2_plus 19 = .ok (.getfield 7, 3) := by decide +kernel
theorem dX2_plus_22 : decode cX2_plus 22 = .ok (.iload_n 2, 1) := by decide +kernel
theorem dX2_plus_23 : decode cX2_plus 23 = .ok (.iaload, 1) := by decide +kernel
theorem dX2_plus_24 : decode cX2_plus 24 = .ok (.i2l, 1) := by decide +kernel
theorem dX2_plus_25 : decode cX2_plus 25 = .ok (.aload_n 0, 1) := by decide +kernel
theorem dX2_plus_26 : decode cX2_plus 26 = .ok (.getfield 7, 3) := by decide +kernel
theorem dX2_plus_29 : decode cX2_plus 29 = .ok (.iload_n 3, 1) := by decide +kernel
theorem dX2_plus_30 : decode cX2_plus 30 = .ok (.iaload, 1) := by decide +kernel
theorem dX2_plus_31 : decode cX2_plus 31 = .ok (.i2l, 1) := by decide +kernel
theorem dX2_plus_32 : decode cX2_plus 32 = .ok (.ladd, 1) := by decide +kernel
theorem dX2_plus_33 : decode cX2_plus 33 = .ok (.aload_n 0, 1) := by decide +kernel
theorem dX2_plus_34 : decode cX2_plus 34 = .ok (.getfield 7, 3) := by decide +kernel
theorem dX2_plus_37 : decode cX2_plus 37 = .ok (.iload 4, 2) := by decide +kernel
theorem dX2_plus_39 : decode cX2_plus 39 = .ok (.iaload, 1) := by decide +kernel
theorem dX2_plus_40 : decode cX2_plus 40 = .ok (.invokestatic 78, 3) := by decide +kernel
theorem dX2_plus_43 : decode cX2_plus 43 = .ok (.iconst 0, 1) := by decide +kernel
theorem dX2_plus_44 : decode cX2_plus 44 = .ok (.invokevirtual 49, 3) := by decide +kernel
theorem dX2_plus_47 : decode cX2_plus 47 = .ok (.lreturn, 1) := by decide +kernel
set_option maxRecDepth 20000 in
theorem ggX2_minus_X2_isBad : GoodIn wsX2_minus wsX2_isBad := goodIn_ca (goodIn_r _ [6, 1, 7, 8, 5, 9, 10, 11, 12, 13, 14, 32, 33, 34, 35, 36, 37] (by decide +kernel) (by decide +kernel)) (goodIn_sub (fun _ h => List.mem_cons_of_mem _ (List.mem_append_left _ (List.mem_append_right _ h))) (by decide +kernel))
set_option maxRecDepth 20000 in
theorem gX2_minus_X2_isBad : GoodIn wsX2_minus (wsV RX2 61 RX2 yX2_isBad wsX2_isBad) := goodIn_app (goodIn_of _ (by decide +kernel)) ggX2_minus_X2_isBad
set_option maxRecDepth 20000 in
theorem ggX2_minus_X2_residueOf : GoodIn wsX2_minus wsX2_residueOf := goodIn_ca (goodIn_r _ [17, 18, 19, 5, 20] (by decide +kernel) (by decide +kernel)) (goodIn_sub (fun _ h => List.mem_cons_of_mem _ (List.mem_append_right _ h)) (by decide +kernel))
set_option maxRecDepth 20000 in
theorem gX2_minus_X2_residueOf : GoodIn wsX2_minus (va_wsS RX2 78 yX2_residueOf wsX2_residueOf) := goodIn_app (goodIn_of _ (by decide +kernel)) ggX2_minus_X2_residueOf
set_option maxRecDepth 20000 in
theorem ggX2_minus_X2_lays : GoodIn wsX2_minus wsX2_lays := goodIn_ca (goodIn_r _ [24, 1, 25, 26, 27, 5, 28, 29, 30, 31, 18, 19, 20, 32, 33, 34, 35, 36, 37] (by decide +kernel) (by decide +kernel)) (goodIn_sub (fun _ h => List.mem_cons_of_mem _ (List.mem_append_left _ (List.mem_append_right _ h))) (by decide +kernel))
set_option maxRecDepth 20000 in
theorem gX2_minus_X2_lays : GoodIn wsX2_minus (wsV RX2 49 RX2 yX2_lays wsX2_lays) := goodIn_app (goodIn_of _ (by decide +kernel)) ggX2_minus_X2_lays
theorem dX2_minus_0 : decode cX2_minus 0 = .ok (.aload_n 0, 1) := by decide +kernel
theorem dX2_minus_1 : decode cX2_minus 1 = .ok (.iload_n 1, 1) := by decide +kernel
theorem dX2_minus_2 : decode cX2_minus 2 = .ok (.iload_n 2, 1) := by decide +kernel
theorem dX2_minus_3 : decode cX2_minus 3 = .ok (.iload_n 3, 1) := by decide +kernel
theorem dX2_minus_4 : decode cX2_minus 4 = .ok (.iload 4, 2) := by decide +kernel
theorem dX2_minus_6 : decode cX2_minus 6 = .ok (.invokevirtual 61, 3) := by decide +kernel
theorem dX2_minus_9 : decode cX2_minus 9 = .ok (.ifCond .eq 7, 3) := by decide +kernel
theorem dX2_minus_12 : decode cX2_minus 12 = .ok (.lconst 0, 1) := by decide +kernel
theorem dX2_minus_13 : decode cX2_minus 13 = .ok (.goto 34, 3) := by decide +kernel
theorem dX2_minus_16 : decode cX2_minus 16 = .ok (.aload_n 0, 1) := by decide +kernel
theorem dX2_minus_17 : decode cX2_minus 17 = .ok (.iload_n 1, 1) := by decide +kernel
theorem dX2_minus_18 : decode cX2_minus 18 = .ok (.aload_n 0, 1) := by decide +kernel
theorem dX2_minus_19 : decode cX2_minus 19 = .ok (.getfield 7, 3) := by decide +kernel
theorem dX2_minus_22 : decode cX2_minus 22 = .ok (.iload_n 2, 1) := by decide +kernel
theorem dX2_minus_23 : decode cX2_minus 23 = .ok (.iaload, 1) := by decide +kernel
theorem dX2_minus_24 : decode cX2_minus 24 = .ok (.i2l, 1) := by decide +kernel
theorem dX2_minus_25 : decode cX2_minus 25 = .ok (.aload_n 0, 1) := by decide +kernel
theorem dX2_minus_26 : decode cX2_minus 26 = .ok (.getfield 7, 3) := by decide +kernel
theorem dX2_minus_29 : decode cX2_minus 29 = .ok (.iload_n 3, 1) := by decide +kernel
theorem dX2_minus_30 : decode cX2_minus 30 = .ok (.iaload, 1) := by decide +kernel
theorem dX2_minus_31 : decode cX2_minus 31 = .ok (.i2l, 1) := by decide +kernel
theorem dX2_minus_32 : decode cX2_minus 32 = .ok (.lsub, 1) := by decide +kernel
theorem dX2_minus_33 : decode cX2_minus 33 = .ok (.aload_n 0, 1) := by decide +kernel
theorem dX2_minus_34 : decode cX2_minus 34 = .ok (.getfield 7, 3) := by decide +kernel
theorem dX2_minus_37 : decode cX2_minus 37 = .ok (.iload 4, 2) := by decide +kernel
theorem dX2_minus_39 : decode cX2_minus 39 = .ok (.iaload, 1) := by decide +kernel
theorem dX2_minus_40 : decode cX2_minus 40 = .ok (.invokestatic 78, 3) := by decide +kernel
theorem dX2_minus_43 : decode cX2_minus 43 = .ok (.iconst 0, 1) := by decide +kernel
theorem dX2_minus_44 : decode cX2_minus 44 = .ok (.invokevirtual 49, 3) := by decide +kernel
theorem dX2_minus_47 : decode cX2_minus 47 = .ok (.lreturn, 1) := by decide +kernel
set_option maxRecDepth 20000 in
theorem ggX2_many_X2_isBad : GoodIn wsX2_many wsX2_isBad := goodIn_ca (goodIn_r _ [6, 1, 7, 8, 5, 9, 10, 11, 12, 13, 14, 32, 33, 34, 35, 36, 37] (by decide +kernel) (by decide +kernel)) (goodIn_sub (fun _ h => List.mem_cons_of_mem _ (List.mem_append_left _ (List.mem_append_right _ h))) (by decide +kernel))
set_option maxRecDepth 20000 in
theorem gX2_many_X2_isBad : GoodIn wsX2_many (wsV RX2 61 RX2 yX2_isBad wsX2_isBad) := goodIn_app (goodIn_of _ (by decide +kernel)) ggX2_many_X2_isBad
set_option maxRecDepth 20000 in
theorem ggX2_many_X2_residueOf : GoodIn wsX2_many wsX2_residueOf := goodIn_ca (goodIn_r _ [17, 18, 19, 5, 20] (by decide +kernel) (by decide +kernel)) (goodIn_sub (fun _ h => List.mem_cons_of_mem _ (List.mem_append_right _ h)) (by decide +kernel))
set_option maxRecDepth 20000 in
theorem gX2_many_X2_residueOf : GoodIn wsX2_many (va_wsS RX2 78 yX2_residueOf wsX2_residueOf) := goodIn_app (goodIn_of _ (by decide +kernel)) ggX2_many_X2_residueOf
set_option maxRecDepth 20000 in
theorem ggX2_many_X2_lays : GoodIn wsX2_many wsX2_lays := goodIn_ca (goodIn_r _ [24, 1, 25, 26, 27, 5, 28, 29, 30, 31, 18, 19, 20, 32, 33, 34, 35, 36, 37] (by decide +kernel) (by decide +kernel)) (goodIn_sub (fun _ h => List.mem_cons_of_mem _ (List.mem_append_left _ (List.mem_append_right _ h))) (by decide +kernel))
set_option maxRecDepth 20000 in
theorem gX2_many_X2_lays : GoodIn wsX2_many (wsV RX2 49 RX2 yX2_lays wsX2_lays) := goodIn_app (goodIn_of _ (by decide +kernel)) ggX2_many_X2_lays
theorem dX2_many_0 : decode cX2_many 0 = .ok (.aload_n 0, 1) := by decide +kernel
theorem dX2_many_1 : decode cX2_many 1 = .ok (.iload_n 1, 1) := by decide +kernel
theorem dX2_many_2 : decode cX2_many 2 = .ok (.iload_n 3, 1) := by decide +kernel
theorem dX2_many_3 : decode cX2_many 3 = .ok (.iload_n 3, 1) := by decide +kernel
theorem dX2_many_4 : decode cX2_many 4 = .ok (.iload 4, 2) := by decide +kernel
theorem dX2_many_6 : decode cX2_many 6 = .ok (.invokevirtual 61, 3) := by decide +kernel
theorem dX2_many_9 : decode cX2_many 9 = .ok (.ifCond .eq 7, 3) := by decide +kernel
theorem dX2_many_12 : decode cX2_many 12 = .ok (.lconst 0, 1) := by decide +kernel
theorem dX2_many_13 : decode cX2_many 13 = .ok (.goto 29, 3) := by decide +kernel
theorem dX2_many_16 : decode cX2_many 16 = .ok (.aload_n 0, 1) := by decide +kernel
theorem dX2_many_17 : decode cX2_many 17 = .ok (.iload_n 1, 1) := by decide +kernel
theorem dX2_many_18 : decode cX2_many 18 = .ok (.iload_n 2, 1) := by decide +kernel
theorem dX2_many_19 : decode cX2_many 19 = .ok (.i2l, 1) := by decide +kernel
theorem dX2_many_20 : decode cX2_many 20 = .ok (.aload_n 0, 1) := by decide +kernel
theorem dX2_many_21 : decode cX2_many 21 = .ok (.getfield 7, 3) := by decide +kernel
theorem dX2_many_24 : decode cX2_many 24 = .ok (.iload_n 3, 1) := by decide +kernel
theorem dX2_many_25 : decode cX2_many 25 = .ok (.iaload, 1) := by decide +kernel
theorem dX2_many_26 : decode cX2_many 26 = .ok (.i2l, 1) := by decide +kernel
theorem dX2_many_27 : decode cX2_many 27 = .ok (.lmul, 1) := by decide +kernel
theorem dX2_many_28 : decode cX2_many 28 = .ok (.aload_n 0, 1) := by decide +kernel
theorem dX2_many_29 : decode cX2_many 29 = .ok (.getfield 7, 3) := by decide +kernel
theorem dX2_many_32 : decode cX2_many 32 = .ok (.iload 4, 2) := by decide +kernel
theorem dX2_many_34 : decode cX2_many 34 = .ok (.iaload, 1) := by decide +kernel
theorem dX2_many_35 : decode cX2_many 35 = .ok (.invokestatic 78, 3) := by decide +kernel
theorem dX2_many_38 : decode cX2_many 38 = .ok (.iconst 0, 1) := by decide +kernel
theorem dX2_many_39 : decode cX2_many 39 = .ok (.invokevirtual 49, 3) := by decide +kernel
theorem dX2_many_42 : decode cX2_many 42 = .ok (.lreturn, 1) := by decide +kernel
set_option maxRecDepth 20000 in
theorem ggX2_product_X2_isBad : GoodIn wsX2_product wsX2_isBad := goodIn_ca (goodIn_r _ [6, 1, 7, 8, 5, 9, 10, 11, 12, 13, 14, 32, 33, 34, 35, 36, 37] (by decide +kernel) (by decide +kernel)) (goodIn_sub (fun _ h => List.mem_cons_of_mem _ (List.mem_append_left _ (List.mem_append_right _ h))) (by decide +kernel))
set_option maxRecDepth 20000 in
theorem gX2_product_X2_isBad : GoodIn wsX2_product (wsV RX2 61 RX2 yX2_isBad wsX2_isBad) := goodIn_app (goodIn_of _ (by decide +kernel)) ggX2_product_X2_isBad
set_option maxRecDepth 20000 in
theorem ggX2_product_X2_residueOf : GoodIn wsX2_product wsX2_residueOf := goodIn_ca (goodIn_r _ [17, 18, 19, 5, 20] (by decide +kernel) (by decide +kernel)) (goodIn_sub (fun _ h => List.mem_cons_of_mem _ (List.mem_append_right _ h)) (by decide +kernel))
set_option maxRecDepth 20000 in
theorem gX2_product_X2_residueOf : GoodIn wsX2_product (va_wsS RX2 78 yX2_residueOf wsX2_residueOf) := goodIn_app (goodIn_of _ (by decide +kernel)) ggX2_product_X2_residueOf
set_option maxRecDepth 20000 in
theorem ggX2_product_X2_lays : GoodIn wsX2_product wsX2_lays := goodIn_ca (goodIn_r _ [24, 1, 25, 26, 27, 5, 28, 29, 30, 31, 18, 19, 20, 32, 33, 34, 35, 36, 37] (by decide +kernel) (by decide +kernel)) (goodIn_sub (fun _ h => List.mem_cons_of_mem _ (List.mem_append_left _ (List.mem_append_right _ h))) (by decide +kernel))
set_option maxRecDepth 20000 in
theorem gX2_product_X2_lays : GoodIn wsX2_product (wsV RX2 49 RX2 yX2_lays wsX2_lays) := goodIn_app (goodIn_of _ (by decide +kernel)) ggX2_product_X2_lays
theorem dX2_product_0 : decode cX2_product 0 = .ok (.aload_n 0, 1) := by decide +kernel
theorem dX2_product_1 : decode cX2_product 1 = .ok (.iload_n 1, 1) := by decide +kernel
theorem dX2_product_2 : decode cX2_product 2 = .ok (.iload_n 2, 1) := by decide +kernel
theorem dX2_product_3 : decode cX2_product 3 = .ok (.iload_n 3, 1) := by decide +kernel
theorem dX2_product_4 : decode cX2_product 4 = .ok (.iload 4, 2) := by decide +kernel
theorem dX2_product_6 : decode cX2_product 6 = .ok (.invokevirtual 61, 3) := by decide +kernel
theorem dX2_product_9 : decode cX2_product 9 = .ok (.ifCond .eq 7, 3) := by decide +kernel
theorem dX2_product_12 : decode cX2_product 12 = .ok (.lconst 0, 1) := by decide +kernel
theorem dX2_product_13 : decode cX2_product 13 = .ok (.goto 34, 3) := by decide +kernel
theorem dX2_product_16 : decode cX2_product 16 = .ok (.aload_n 0, 1) := by decide +kernel
theorem dX2_product_17 : decode cX2_product 17 = .ok (.iload_n 1, 1) := by decide +kernel
theorem dX2_product_18 : decode cX2_product 18 = .ok (.aload_n 0, 1) := by decide +kernel
theorem dX2_product_19 : decode cX2_product 19 = .ok (.getfield 7, 3) := by decide +kernel
theorem dX2_product_22 : decode cX2_product 22 = .ok (.iload_n 2, 1) := by decide +kernel
theorem dX2_product_23 : decode cX2_product 23 = .ok (.iaload, 1) := by decide +kernel
theorem dX2_product_24 : decode cX2_product 24 = .ok (.i2l, 1) := by decide +kernel
theorem dX2_product_25 : decode cX2_product 25 = .ok (.aload_n 0, 1) := by decide +kernel
theorem dX2_product_26 : decode cX2_product 26 = .ok (.getfield 7, 3) := by decide +kernel
theorem dX2_product_29 : decode cX2_product 29 = .ok (.iload_n 3, 1) := by decide +kernel
theorem dX2_product_30 : decode cX2_product 30 = .ok (.iaload, 1) := by decide +kernel
theorem dX2_product_31 : decode cX2_product 31 = .ok (.i2l, 1) := by decide +kernel
theorem dX2_product_32 : decode cX2_product 32 = .ok (.lmul, 1) := by decide +kernel
theorem dX2_product_33 : decode cX2_product 33 = .ok (.aload_n 0, 1) := by decide +kernel
theorem dX2_product_34 : decode cX2_product 34 = .ok (.getfield 7, 3) := by decide +kernel
theorem dX2_product_37 : decode cX2_product 37 = .ok (.iload 4, 2) := by decide +kernel
theorem dX2_product_39 : decode cX2_product 39 = .ok (.iaload, 1) := by decide +kernel
theorem dX2_product_40 : decode cX2_product 40 = .ok (.invokestatic 78, 3) := by decide +kernel
theorem dX2_product_43 : decode cX2_product 43 = .ok (.iconst 0, 1) := by decide +kernel
theorem dX2_product_44 : decode cX2_product 44 = .ok (.invokevirtual 49, 3) := by decide +kernel
theorem dX2_product_47 : decode cX2_product 47 = .ok (.lreturn, 1) := by decide +kernel
set_option maxRecDepth 20000 in
theorem ggX2_power_X2_isPlace : GoodIn wsX2_power wsX2_isPlace := goodIn_r _ [5] (by decide +kernel) (by decide +kernel)
set_option maxRecDepth 20000 in
theorem gX2_power_X2_isPlace : GoodIn wsX2_power (va_wsS RX2 27 yX2_isPlace wsX2_isPlace) := goodIn_app (goodIn_of _ (by decide +kernel)) ggX2_power_X2_isPlace
set_option maxRecDepth 20000 in
theorem ggX2_power_X2_isThrown : GoodIn wsX2_power wsX2_isThrown := goodIn_r _ [9, 10, 28, 29, 30, 31, 32, 33] (by decide +kernel) (by decide +kernel)
set_option maxRecDepth 20000 in
theorem gX2_power_X2_isThrown : GoodIn wsX2_power (wsV RX2 31 RX2 yX2_isThrown wsX2_isThrown) := goodIn_app (goodIn_of _ (by decide +kernel)) ggX2_power_X2_isThrown
set_option maxRecDepth 20000 in
theorem ggX2_power_X2_residueOf : GoodIn wsX2_power wsX2_residueOf := goodIn_ca (goodIn_r _ [13, 14, 15, 4, 16] (by decide +kernel) (by decide +kernel)) (goodIn_sub (fun _ h => List.mem_cons_of_mem _ (List.mem_append_right _ h)) (by decide +kernel))
set_option maxRecDepth 20000 in
theorem gX2_power_X2_residueOf : GoodIn wsX2_power (va_wsS RX2 78 yX2_residueOf wsX2_residueOf) := goodIn_app (goodIn_of _ (by decide +kernel)) ggX2_power_X2_residueOf
set_option maxRecDepth 20000 in
theorem ggX2_power_X2_lays : GoodIn wsX2_power wsX2_lays := goodIn_ca (goodIn_r _ [20, 1, 21, 22, 23, 4, 24, 25, 26, 27, 14, 15, 16, 28, 29, 30, 31, 32, 33] (by decide +kernel) (by decide +kernel)) (goodIn_sub (fun _ h => List.mem_cons_of_mem _ (List.mem_append_left _ (List.mem_append_right _ h))) (by decide +kernel))
set_option maxRecDepth 20000 in
theorem gX2_power_X2_lays : GoodIn wsX2_power (wsV RX2 49 RX2 yX2_lays wsX2_lays) := goodIn_app (goodIn_of _ (by decide +kernel)) ggX2_power_X2_lays
theorem dX2_power_0 : decode cX2_power 0 = .ok (.aload_n 0, 1) := by decide +kernel
theorem dX2_power_1 : decode cX2_power 1 = .ok (.iload_n 1, 1) := by decide +kernel
theorem dX2_power_2 : decode cX2_power 2 = .ok (.invokestatic 27, 3) := by decide +kernel
theorem dX2_power_5 : decode cX2_power 5 = .ok (.ifCond .eq 18, 3) := by decide +kernel
theorem dX2_power_8 : decode cX2_power 8 = .ok (.iload_n 2, 1) := by decide +kernel
theorem dX2_power_9 : decode cX2_power 9 = .ok (.invokestatic 27, 3) := by decide +kernel
theorem dX2_power_12 : decode cX2_power 12 = .ok (.ifCond .eq 11, 3) := by decide +kernel
theorem dX2_power_15 : decode cX2_power 15 = .ok (.iload 4, 2) := by decide +kernel
theorem dX2_power_17 : decode cX2_power 17 = .ok (.invokestatic 27, 3) := by decide +kernel
theorem dX2_power_20 : decode cX2_power 20 = .ok (.ifCond .ne 7, 3) := by decide +kernel
theorem dX2_power_23 : decode cX2_power 23 = .ok (.iconst 1, 1) := by decide +kernel
theorem dX2_power_24 : decode cX2_power 24 = .ok (.goto 4, 3) := by decide +kernel
theorem dX2_power_27 : decode cX2_power 27 = .ok (.iconst 0, 1) := by decide +kernel
theorem dX2_power_28 : decode cX2_power 28 = .ok (.iconst 1, 1) := by decide +kernel
theorem dX2_power_29 : decode cX2_power 29 = .ok (.invokevirtual 31, 3) := by decide +kernel
theorem dX2_power_32 : decode cX2_power 32 = .ok (.ifCond .ne 50, 3) := by decide +kernel
theorem dX2_power_35 : decode cX2_power 35 = .ok (.aload_n 0, 1) := by decide +kernel
theorem dX2_power_36 : decode cX2_power 36 = .ok (.iload_n 3, 1) := by decide +kernel
theorem dX2_power_37 : decode cX2_power 37 = .ok (.ifCond .lt 10, 3) := by decide +kernel
theorem dX2_power_40 : decode cX2_power 40 = .ok (.iload_n 3, 1) := by decide +kernel
theorem dX2_power_41 : decode cX2_power 41 = .ok (.sipush 1000, 3) := by decide +kernel
theorem dX2_power_44 : decode cX2_power 44 = .ok (.if_icmp .le 7, 3) := by decide +kernel
theorem dX2_power_47 : decode cX2_power 47 = .ok (.iconst 1, 1) := by decide +kernel
theorem dX2_power_48 : decode cX2_power 48 = .ok (.goto 4, 3) := by decide +kernel
theorem dX2_power_51 : decode cX2_power 51 = .ok (.iconst 0, 1) := by decide +kernel
theorem dX2_power_52 : decode cX2_power 52 = .ok (.iconst 2, 1) := by decide +kernel
theorem dX2_power_53 : decode cX2_power 53 = .ok (.invokevirtual 31, 3) := by decide +kernel
theorem dX2_power_56 : decode cX2_power 56 = .ok (.ifCond .ne 26, 3) := by decide +kernel
theorem dX2_power_59 : decode cX2_power 59 = .ok (.aload_n 0, 1) := by decide +kernel
theorem dX2_power_60 : decode cX2_power 60 = .ok (.aload_n 0, 1) := by decide +kernel
theorem dX2_power_61 : decode cX2_power 61 = .ok (.getfield 7, 3) := by decide +kernel
theorem dX2_power_64 : decode cX2_power 64 = .ok (.iload 4, 2) := by decide +kernel
theorem dX2_power_66 : decode cX2_power 66 = .ok (.iaload, 1) := by decide +kernel
theorem dX2_power_67 : decode cX2_power 67 = .ok (.ifCond .ne 7, 3) := by decide +kernel
theorem dX2_power_70 : decode cX2_power 70 = .ok (.iconst 1, 1) := by decide +kernel
theorem dX2_power_71 : decode cX2_power 71 = .ok (.goto 4, 3) := by decide +kernel
theorem dX2_power_74 : decode cX2_power 74 = .ok (.iconst 0, 1) := by decide +kernel
theorem dX2_power_75 : decode cX2_power 75 = .ok (.iconst 3, 1) := by decide +kernel
theorem dX2_power_76 : decode cX2_power 76 = .ok (.invokevirtual 31, 3) := by decide +kernel
theorem dX2_power_79 : decode cX2_power 79 = .ok (.ifCond .eq 5, 3) := by decide +kernel
theorem dX2_power_82 : decode cX2_power 82 = .ok (.lconst 0, 1) := by decide +kernel
theorem dX2_power_83 : decode cX2_power 83 = .ok (.lreturn, 1) := by decide +kernel
theorem dX2_power_84 : decode cX2_power 84 = .ok (.lconst 1, 1) := by decide +kernel
theorem dX2_power_85 : decode cX2_power 85 = .ok (.aload_n 0, 1) := by decide +kernel
theorem dX2_power_86 : decode cX2_power 86 = .ok (.getfield 7, 3) := by decide +kernel
theorem dX2_power_89 : decode cX2_power 89 = .ok (.iload 4, 2) := by decide +kernel
theorem dX2_power_91 : decode cX2_power 91 = .ok (.iaload, 1) := by decide +kernel
theorem dX2_power_92 : decode cX2_power 92 = .ok (.invokestatic 78, 3) := by decide +kernel
theorem dX2_power_95 : decode cX2_power 95 = .ok (.i2l, 1) := by decide +kernel
theorem dX2_power_96 : decode cX2_power 96 = .ok (.lstore 5, 2) := by decide +kernel
theorem dX2_power_98 : decode cX2_power 98 = .ok (.iconst 0, 1) := by decide +kernel
theorem dX2_power_99 : decode cX2_power 99 = .ok (.istore 7, 2) := by decide +kernel
theorem dX2_power_101 : decode cX2_power 101 = .ok (.iload 7, 2) := by decide +kernel
theorem dX2_power_103 : decode cX2_power 103 = .ok (.iload_n 3, 1) := by decide +kernel
theorem dX2_power_104 : decode cX2_power 104 = .ok (.if_icmp .ge 30, 3) := by decide +kernel
theorem dX2_power_107 : decode cX2_power 107 = .ok (.lload 5, 2) := by decide +kernel
theorem dX2_power_109 : decode cX2_power 109 = .ok (.aload_n 0, 1) := by decide +kernel
theorem dX2_power_110 : decode cX2_power 110 = .ok (.getfield 7, 3) := by decide +kernel
theorem dX2_power_113 : decode cX2_power 113 = .ok (.iload_n 2, 1) := by decide +kernel
theorem dX2_power_114 : decode cX2_power 114 = .ok (.iaload, 1) := by decide +kernel
theorem dX2_power_115 : decode cX2_power 115 = .ok (.i2l, 1) := by decide +kernel
theorem dX2_power_116 : decode cX2_power 116 = .ok (.lmul, 1) := by decide +kernel
theorem dX2_power_117 : decode cX2_power 117 = .ok (.aload_n 0, 1) := by decide +kernel
theorem dX2_power_118 : decode cX2_power 118 = .ok (.getfield 7, 3) := by decide +kernel
theorem dX2_power_121 : decode cX2_power 121 = .ok (.iload 4, 2) := by decide +kernel
theorem dX2_power_123 : decode cX2_power 123 = .ok (.iaload, 1) := by decide +kernel
theorem dX2_power_124 : decode cX2_power 124 = .ok (.i2l, 1) := by decide +kernel
theorem dX2_power_125 : decode cX2_power 125 = .ok (.lrem, 1) := by decide +kernel
theorem dX2_power_126 : decode cX2_power 126 = .ok (.lstore 5, 2) := by decide +kernel
theorem dX2_power_128 : decode cX2_power 128 = .ok (.iinc 7 1, 3) := by decide +kernel
theorem dX2_power_131 : decode cX2_power 131 = .ok (.goto (-30), 3) := by decide +kernel
theorem dX2_power_134 : decode cX2_power 134 = .ok (.aload_n 0, 1) := by decide +kernel
theorem dX2_power_135 : decode cX2_power 135 = .ok (.iload_n 1, 1) := by decide +kernel
theorem dX2_power_136 : decode cX2_power 136 = .ok (.lload 5, 2) := by decide +kernel
theorem dX2_power_138 : decode cX2_power 138 = .ok (.aload_n 0, 1) := by decide +kernel
theorem dX2_power_139 : decode cX2_power 139 = .ok (.getfield 7, 3) := by decide +kernel
theorem dX2_power_142 : decode cX2_power 142 = .ok (.iload 4, 2) := by decide +kernel
theorem dX2_power_144 : decode cX2_power 144 = .ok (.iaload, 1) := by decide +kernel
theorem dX2_power_145 : decode cX2_power 145 = .ok (.invokestatic 78, 3) := by decide +kernel
theorem dX2_power_148 : decode cX2_power 148 = .ok (.iconst 0, 1) := by decide +kernel
theorem dX2_power_149 : decode cX2_power 149 = .ok (.invokevirtual 49, 3) := by decide +kernel
theorem dX2_power_152 : decode cX2_power 152 = .ok (.lreturn, 1) := by decide +kernel
set_option maxRecDepth 20000 in
theorem ggX2_inverse_X2_isBad : GoodIn wsX2_inverse wsX2_isBad := goodIn_ca (goodIn_r _ [6, 1, 7, 8, 5, 9, 10, 11, 12, 13, 14, 32, 33, 34, 35, 36, 37] (by decide +kernel) (by decide +kernel)) (goodIn_sub (fun _ h => List.mem_cons_of_mem _ (List.mem_append_left _ (List.mem_append_right _ h))) (by decide +kernel))
set_option maxRecDepth 20000 in
theorem gX2_inverse_X2_isBad : GoodIn wsX2_inverse (wsV RX2 61 RX2 yX2_isBad wsX2_isBad) := goodIn_app (goodIn_of _ (by decide +kernel)) ggX2_inverse_X2_isBad
set_option maxRecDepth 20000 in
theorem ggX2_inverse_X2_residueOf : GoodIn wsX2_inverse wsX2_residueOf := goodIn_ca (goodIn_r _ [17, 18, 19, 5, 20] (by decide +kernel) (by decide +kernel)) (goodIn_sub (fun _ h => List.mem_cons_of_mem _ (List.mem_append_right _ h)) (by decide +kernel))
set_option maxRecDepth 20000 in
theorem gX2_inverse_X2_residueOf : GoodIn wsX2_inverse (va_wsS RX2 78 yX2_residueOf wsX2_residueOf) := goodIn_app (goodIn_of _ (by decide +kernel)) ggX2_inverse_X2_residueOf
set_option maxRecDepth 20000 in
theorem ggX2_inverse_X2_isThrown : GoodIn wsX2_inverse wsX2_isThrown := goodIn_r _ [13, 14, 32, 33, 34, 35, 36, 37] (by decide +kernel) (by decide +kernel)
set_option maxRecDepth 20000 in
theorem gX2_inverse_X2_isThrown : GoodIn wsX2_inverse (wsV RX2 31 RX2 yX2_isThrown wsX2_isThrown) := goodIn_app (goodIn_of _ (by decide +kernel)) ggX2_inverse_X2_isThrown
set_option maxRecDepth 20000 in
theorem ggX2_inverse_X2_lays : GoodIn wsX2_inverse wsX2_lays := goodIn_ca (goodIn_r _ [24, 1, 25, 26, 27, 5, 28, 29, 30, 31, 18, 19, 20, 32, 33, 34, 35, 36, 37] (by decide +kernel) (by decide +kernel)) (goodIn_sub (fun _ h => List.mem_cons_of_mem _ (List.mem_append_left _ (List.mem_append_right _ h))) (by decide +kernel))
set_option maxRecDepth 20000 in
theorem gX2_inverse_X2_lays : GoodIn wsX2_inverse (wsV RX2 49 RX2 yX2_lays wsX2_lays) := goodIn_app (goodIn_of _ (by decide +kernel)) ggX2_inverse_X2_lays
theorem dX2_inverse_0 : decode cX2_inverse 0 = .ok (.aload_n 0, 1) := by decide +kernel
theorem dX2_inverse_1 : decode cX2_inverse 1 = .ok (.iload_n 1, 1) := by decide +kernel
theorem dX2_inverse_2 : decode cX2_inverse 2 = .ok (.iload_n 2, 1) := by decide +kernel
theorem dX2_inverse_3 : decode cX2_inverse 3 = .ok (.iload_n 2, 1) := by decide +kernel
theorem dX2_inverse_4 : decode cX2_inverse 4 = .ok (.iload_n 3, 1) := by decide +kernel
theorem dX2_inverse_5 : decode cX2_inverse 5 = .ok (.invokevirtual 61, 3) := by decide +kernel
theorem dX2_inverse_8 : decode cX2_inverse 8 = .ok (.ifCond .eq 5, 3) := by decide +kernel
theorem dX2_inverse_11 : decode cX2_inverse 11 = .ok (.lconst 0, 1) := by decide +kernel
theorem dX2_inverse_12 : decode cX2_inverse 12 = .ok (.lreturn, 1) := by decide +kernel
theorem dX2_inverse_13 : decode cX2_inverse 13 = .ok (.lconst 1, 1) := by decide +kernel
theorem dX2_inverse_14 : decode cX2_inverse 14 = .ok (.aload_n 0, 1) := by decide +kernel
theorem dX2_inverse_15 : decode cX2_inverse 15 = .ok (.getfield 7, 3) := by decide +kernel
theorem dX2_inverse_18 : decode cX2_inverse 18 = .ok (.iload_n 3, 1) := by decide +kernel
theorem dX2_inverse_19 : decode cX2_inverse 19 = .ok (.iaload, 1) := by decide +kernel
theorem dX2_inverse_20 : decode cX2_inverse 20 = .ok (.invokestatic 78, 3) := by decide +kernel
theorem dX2_inverse_23 : decode cX2_inverse 23 = .ok (.istore 4, 2) := by decide +kernel
theorem dX2_inverse_25 : decode cX2_inverse 25 = .ok (.sipush 128, 3) := by decide +kernel
theorem dX2_inverse_28 : decode cX2_inverse 28 = .ok (.istore 5, 2) := by decide +kernel
theorem dX2_inverse_30 : decode cX2_inverse 30 = .ok (.bipush (-127), 2) := by decide +kernel
theorem dX2_inverse_32 : decode cX2_inverse 32 = .ok (.istore 6, 2) := by decide +kernel
theorem dX2_inverse_34 : decode cX2_inverse 34 = .ok (.iload 6, 2) := by decide +kernel
theorem dX2_inverse_36 : decode cX2_inverse 36 = .ok (.bipush 127, 2) := by decide +kernel
theorem dX2_inverse_38 : decode cX2_inverse 38 = .ok (.if_icmp .gt 60, 3) := by decide +kernel
theorem dX2_inverse_41 : decode cX2_inverse 41 = .ok (.iload 6, 2) := by decide +kernel
theorem dX2_inverse_43 : decode cX2_inverse 43 = .ok (.i2l, 1) := by decide +kernel
theorem dX2_inverse_44 : decode cX2_inverse 44 = .ok (.aload_n 0, 1) := by decide +kernel
theorem dX2_inverse_45 : decode cX2_inverse 45 = .ok (.getfield 7, 3) := by decide +kernel
theorem dX2_inverse_48 : decode cX2_inverse 48 = .ok (.iload_n 3, 1) := by decide +kernel
theorem dX2_inverse_49 : decode cX2_inverse 49 = .ok (.iaload, 1) := by decide +kernel
theorem dX2_inverse_50 : decode cX2_inverse 50 = .ok (.invokestatic 78, 3) := by decide +kernel
theorem dX2_inverse_53 : decode cX2_inverse 53 = .ok (.iload 6, 2) := by decide +kernel
theorem dX2_inverse_55 : decode cX2_inverse 55 = .ok (.if_icmp .ne 33, 3) := by decide +kernel
theorem dX2_inverse_58 : decode cX2_inverse 58 = .ok (.aload_n 0, 1) := by decide +kernel
theorem dX2_inverse_59 : decode cX2_inverse 59 = .ok (.getfield 7, 3) := by decide +kernel
theorem dX2_inverse_62 : decode cX2_inverse 62 = .ok (.iload_n 2, 1) := by decide +kernel
theorem dX2_inverse_63 : decode cX2_inverse 63 = .ok (.iaload, 1) := by decide +kernel
theorem dX2_inverse_64 : decode cX2_inverse 64 = .ok (.i2l, 1) := by decide +kernel
theorem dX2_inverse_65 : decode cX2_inverse 65 = .ok (.iload 6, 2) := by decide +kernel
theorem dX2_inverse_67 : decode cX2_inverse 67 = .ok (.i2l, 1) := by decide +kernel
theorem dX2_inverse_68 : decode cX2_inverse 68 = .ok (.lmul, 1) := by decide +kernel
theorem dX2_inverse_69 : decode cX2_inverse 69 = .ok (.aload_n 0, 1) := by decide +kernel
theorem dX2_inverse_70 : decode cX2_inverse 70 = .ok (.getfield 7, 3) := by decide +kernel
theorem dX2_inverse_73 : decode cX2_inverse 73 = .ok (.iload_n 3, 1) := by decide +kernel
theorem dX2_inverse_74 : decode cX2_inverse 74 = .ok (.iaload, 1) := by decide +kernel
theorem dX2_inverse_75 : decode cX2_inverse 75 = .ok (.invokestatic 78, 3) := by decide +kernel
theorem dX2_inverse_78 : decode cX2_inverse 78 = .ok (.iload 4, 2) := by decide +kernel
theorem dX2_inverse_80 : decode cX2_inverse 80 = .ok (.if_icmp .ne 8, 3) := by decide +kernel
theorem dX2_inverse_83 : decode cX2_inverse 83 = .ok (.iload 6, 2) := by decide +kernel
theorem dX2_inverse_85 : decode cX2_inverse 85 = .ok (.goto 5, 3) := by decide +kernel
theorem dX2_inverse_88 : decode cX2_inverse 88 = .ok (.iload 5, 2) := by decide +kernel
theorem dX2_inverse_90 : decode cX2_inverse 90 = .ok (.istore 5, 2) := by decide +kernel
theorem dX2_inverse_92 : decode cX2_inverse 92 = .ok (.iinc 6 1, 3) := by decide +kernel
theorem dX2_inverse_95 : decode cX2_inverse 95 = .ok (.goto (-61), 3) := by decide +kernel
theorem dX2_inverse_98 : decode cX2_inverse 98 = .ok (.aload_n 0, 1) := by decide +kernel
theorem dX2_inverse_99 : decode cX2_inverse 99 = .ok (.iload 5, 2) := by decide +kernel
theorem dX2_inverse_101 : decode cX2_inverse 101 = .ok (.bipush 127, 2) := by decide +kernel
theorem dX2_inverse_103 : decode cX2_inverse 103 = .ok (.if_icmp .le 7, 3) := by decide +kernel
theorem dX2_inverse_106 : decode cX2_inverse 106 = .ok (.iconst 1, 1) := by decide +kernel
theorem dX2_inverse_107 : decode cX2_inverse 107 = .ok (.goto 4, 3) := by decide +kernel
theorem dX2_inverse_110 : decode cX2_inverse 110 = .ok (.iconst 0, 1) := by decide +kernel
theorem dX2_inverse_111 : decode cX2_inverse 111 = .ok (.iconst 2, 1) := by decide +kernel
theorem dX2_inverse_112 : decode cX2_inverse 112 = .ok (.invokevirtual 31, 3) := by decide +kernel
theorem dX2_inverse_115 : decode cX2_inverse 115 = .ok (.ifCond .eq 7, 3) := by decide +kernel
theorem dX2_inverse_118 : decode cX2_inverse 118 = .ok (.lconst 0, 1) := by decide +kernel
theorem dX2_inverse_119 : decode cX2_inverse 119 = .ok (.goto 11, 3) := by decide +kernel
theorem dX2_inverse_122 : decode cX2_inverse 122 = .ok (.aload_n 0, 1) := by decide +kernel
theorem dX2_inverse_123 : decode cX2_inverse 123 = .ok (.iload_n 1, 1) := by decide +kernel
theorem dX2_inverse_124 : decode cX2_inverse 124 = .ok (.iload 5, 2) := by decide +kernel
theorem dX2_inverse_126 : decode cX2_inverse 126 = .ok (.iconst 0, 1) := by decide +kernel
theorem dX2_inverse_127 : decode cX2_inverse 127 = .ok (.invokevirtual 49, 3) := by decide +kernel
theorem dX2_inverse_130 : decode cX2_inverse 130 = .ok (.lreturn, 1) := by decide +kernel
set_option maxRecDepth 20000 in
theorem ggX2_order_X2_isBad : GoodIn wsX2_order wsX2_isBad := goodIn_ca (goodIn_r _ [6, 1, 7, 8, 5, 9, 10, 11, 12, 13, 14, 15, 16, 17, 18, 19, 20] (by decide +kernel) (by decide +kernel)) (goodIn_sub (fun _ h => List.mem_cons_of_mem _ (List.mem_append_left _ (List.mem_append_right _ h))) (by decide +kernel))
set_option maxRecDepth 20000 in
theorem gX2_order_X2_isBad : GoodIn wsX2_order (wsV RX2 61 RX2 yX2_isBad wsX2_isBad) := goodIn_app (goodIn_of _ (by decide +kernel)) ggX2_order_X2_isBad
theorem dX2_order_0 : decode cX2_order 0 = .ok (.aload_n 0, 1) := by decide +kernel
theorem dX2_order_1 : decode cX2_order 1 = .ok (.iload_n 1, 1) := by decide +kernel
theorem dX2_order_2 : decode cX2_order 2 = .ok (.iload_n 1, 1) := by decide +kernel
theorem dX2_order_3 : decode cX2_order 3 = .ok (.iload_n 1, 1) := by decide +kernel
theorem dX2_order_4 : decode cX2_order 4 = .ok (.iload_n 2, 1) := by decide +kernel
theorem dX2_order_5 : decode cX2_order 5 = .ok (.invokevirtual 61, 3) := by decide +kernel
theorem dX2_order_8 : decode cX2_order 8 = .ok (.ifCond .eq 5, 3) := by decide +kernel
theorem dX2_order_11 : decode cX2_order 11 = .ok (.iconst 0, 1) := by decide +kernel
theorem dX2_order_12 : decode cX2_order 12 = .ok (.ireturn, 1) := by decide +kernel
theorem dX2_order_13 : decode cX2_order 13 = .ok (.iconst 1, 1) := by decide +kernel
theorem dX2_order_14 : decode cX2_order 14 = .ok (.istore_n 3, 1) := by decide +kernel
theorem dX2_order_15 : decode cX2_order 15 = .ok (.iload_n 3, 1) := by decide +kernel
theorem dX2_order_16 : decode cX2_order 16 = .ok (.i2l, 1) := by decide +kernel
theorem dX2_order_17 : decode cX2_order 17 = .ok (.aload_n 0, 1) := by decide +kernel
theorem dX2_order_18 : decode cX2_order 18 = .ok (.getfield 7, 3) := by decide +kernel
theorem dX2_order_21 : decode cX2_order 21 = .ok (.iload_n 1, 1) := by decide +kernel
theorem dX2_order_22 : decode cX2_order 22 = .ok (.iaload, 1) := by decide +kernel
theorem dX2_order_23 : decode cX2_order 23 = .ok (.i2l, 1) := by decide +kernel
theorem dX2_order_24 : decode cX2_order 24 = .ok (.lmul, 1) := by decide +kernel
theorem dX2_order_25 : decode cX2_order 25 = .ok (.aload_n 0, 1) := by decide +kernel
theorem dX2_order_26 : decode cX2_order 26 = .ok (.getfield 7, 3) := by decide +kernel
theorem dX2_order_29 : decode cX2_order 29 = .ok (.iload_n 2, 1) := by decide +kernel
theorem dX2_order_30 : decode cX2_order 30 = .ok (.iaload, 1) := by decide +kernel
theorem dX2_order_31 : decode cX2_order 31 = .ok (.i2l, 1) := by decide +kernel
theorem dX2_order_32 : decode cX2_order 32 = .ok (.lrem, 1) := by decide +kernel
theorem dX2_order_33 : decode cX2_order 33 = .ok (.lconst 0, 1) := by decide +kernel
theorem dX2_order_34 : decode cX2_order 34 = .ok (.lcmp, 1) := by decide +kernel
theorem dX2_order_35 : decode cX2_order 35 = .ok (.ifCond .eq 9, 3) := by decide +kernel
theorem dX2_order_38 : decode cX2_order 38 = .ok (.iinc 3 1, 3) := by decide +kernel
theorem dX2_order_41 : decode cX2_order 41 = .ok (.goto (-26), 3) := by decide +kernel
theorem dX2_order_44 : decode cX2_order 44 = .ok (.iload_n 3, 1) := by decide +kernel
theorem dX2_order_45 : decode cX2_order 45 = .ok (.ireturn, 1) := by decide +kernel
theorem dX2_measureOf_0 : decode cX2_measureOf 0 = .ok (.iload_n 0, 1) := by decide +kernel
theorem dX2_measureOf_1 : decode cX2_measureOf 1 = .ok (.ifCond .ne 11, 3) := by decide +kernel
theorem dX2_measureOf_4 : decode cX2_measureOf 4 = .ok (.iload_n 1, 1) := by decide +kernel
theorem dX2_measureOf_5 : decode cX2_measureOf 5 = .ok (.ifCond .ne 7, 3) := by decide +kernel
theorem dX2_measureOf_8 : decode cX2_measureOf 8 = .ok (.iconst 0, 1) := by decide +kernel
theorem dX2_measureOf_9 : decode cX2_measureOf 9 = .ok (.goto 5, 3) := by decide +kernel
theorem dX2_measureOf_12 : decode cX2_measureOf 12 = .ok (.bipush 127, 2) := by decide +kernel
theorem dX2_measureOf_14 : decode cX2_measureOf 14 = .ok (.istore_n 2, 1) := by decide +kernel
theorem dX2_measureOf_15 : decode cX2_measureOf 15 = .ok (.iload_n 2, 1) := by decide +kernel
theorem dX2_measureOf_16 : decode cX2_measureOf 16 = .ok (.ifCond .le 21, 3) := by decide +kernel
theorem dX2_measureOf_19 : decode cX2_measureOf 19 = .ok (.iload_n 0, 1) := by decide +kernel
theorem dX2_measureOf_20 : decode cX2_measureOf 20 = .ok (.iload_n 2, 1) := by decide +kernel
theorem dX2_measureOf_21 : decode cX2_measureOf 21 = .ok (.irem, 1) := by decide +kernel
theorem dX2_measureOf_22 : decode cX2_measureOf 22 = .ok (.ifCond .ne 9, 3) := by decide +kernel
theorem dX2_measureOf_25 : decode cX2_measureOf 25 = .ok (.iload_n 1, 1) := by decide +kernel
theorem dX2_measureOf_26 : decode cX2_measureOf 26 = .ok (.iload_n 2, 1) := by decide +kernel
theorem dX2_measureOf_27 : decode cX2_measureOf 27 = .ok (.irem, 1) := by decide +kernel
theorem dX2_measureOf_28 : decode cX2_measureOf 28 = .ok (.ifCond .eq 9, 3) := by decide +kernel
theorem dX2_measureOf_31 : decode cX2_measureOf 31 = .ok (.iinc 2 (-1), 3) := by decide +kernel
theorem dX2_measureOf_34 : decode cX2_measureOf 34 = .ok (.goto (-19), 3) := by decide +kernel
theorem dX2_measureOf_37 : decode cX2_measureOf 37 = .ok (.iload_n 2, 1) := by decide +kernel
theorem dX2_measureOf_38 : decode cX2_measureOf 38 = .ok (.ireturn, 1) := by decide +kernel
set_option maxRecDepth 20000 in
theorem ggX2_measure_X2_isPlace : GoodIn wsX2_measure wsX2_isPlace := goodIn_r _ [5] (by decide +kernel) (by decide +kernel)
set_option maxRecDepth 20000 in
theorem gX2_measure_X2_isPlace : GoodIn wsX2_measure (va_wsS RX2 27 yX2_isPlace wsX2_isPlace) := goodIn_app (goodIn_of _ (by decide +kernel)) ggX2_measure_X2_isPlace
set_option maxRecDepth 20000 in
theorem ggX2_measure_X2_isThrown : GoodIn wsX2_measure wsX2_isThrown := goodIn_r _ [9, 10, 28, 29, 30, 31, 32, 33] (by decide +kernel) (by decide +kernel)
set_option maxRecDepth 20000 in
theorem gX2_measure_X2_isThrown : GoodIn wsX2_measure (wsV RX2 31 RX2 yX2_isThrown wsX2_isThrown) := goodIn_app (goodIn_of _ (by decide +kernel)) ggX2_measure_X2_isThrown
set_option maxRecDepth 20000 in
theorem ggX2_measure_X2_measureOf : GoodIn wsX2_measure wsX2_measureOf := goodIn_ca (goodIn_r _ [13] (by decide +kernel) (by decide +kernel)) (goodIn_sub (fun _ h => List.mem_cons_of_mem _ (List.mem_append_right _ h)) (by decide +kernel))
set_option maxRecDepth 20000 in
theorem gX2_measure_X2_measureOf : GoodIn wsX2_measure (va_wsS RX2 82 yX2_measureOf wsX2_measureOf) := goodIn_app (goodIn_of _ (by decide +kernel)) ggX2_measure_X2_measureOf
set_option maxRecDepth 20000 in
theorem ggX2_measure_X2_lays : GoodIn wsX2_measure wsX2_lays := goodIn_ca (goodIn_r _ [17, 1, 18, 19, 20, 4, 21, 22, 23, 24, 25, 26, 27, 28, 29, 30, 31, 32, 33] (by decide +kernel) (by decide +kernel)) (goodIn_sub (fun _ h => List.mem_cons_of_mem _ (List.mem_append_left _ (List.mem_append_right _ h))) (by decide +kernel))
set_option maxRecDepth 20000 in
theorem gX2_measure_X2_lays : GoodIn wsX2_measure (wsV RX2 49 RX2 yX2_lays wsX2_lays) := goodIn_app (goodIn_of _ (by decide +kernel)) ggX2_measure_X2_lays
theorem dX2_measure_0 : decode cX2_measure 0 = .ok (.aload_n 0, 1) := by decide +kernel
theorem dX2_measure_1 : decode cX2_measure 1 = .ok (.iload_n 1, 1) := by decide +kernel
theorem dX2_measure_2 : decode cX2_measure 2 = .ok (.invokestatic 27, 3) := by decide +kernel
theorem dX2_measure_5 : decode cX2_measure 5 = .ok (.ifCond .eq 17, 3) := by decide +kernel
theorem dX2_measure_8 : decode cX2_measure 8 = .ok (.iload_n 2, 1) := by decide +kernel
theorem dX2_measure_9 : decode cX2_measure 9 = .ok (.invokestatic 27, 3) := by decide +kernel
theorem dX2_measure_12 : decode cX2_measure 12 = .ok (.ifCond .eq 10, 3) := by decide +kernel
theorem dX2_measure_15 : decode cX2_measure 15 = .ok (.iload_n 3, 1) := by decide +kernel
theorem dX2_measure_16 : decode cX2_measure 16 = .ok (.invokestatic 27, 3) := by decide +kernel
theorem dX2_measure_19 : decode cX2_measure 19 = .ok (.ifCond .ne 7, 3) := by decide +kernel
theorem dX2_measure_22 : decode cX2_measure 22 = .ok (.iconst 1, 1) := by decide +kernel
theorem dX2_measure_23 : decode cX2_measure 23 = .ok (.goto 4, 3) := by decide +kernel
theorem dX2_measure_26 : decode cX2_measure 26 = .ok (.iconst 0, 1) := by decide +kernel
theorem dX2_measure_27 : decode cX2_measure 27 = .ok (.iconst 1, 1) := by decide +kernel
theorem dX2_measure_28 : decode cX2_measure 28 = .ok (.invokevirtual 31, 3) := by decide +kernel
theorem dX2_measure_31 : decode cX2_measure 31 = .ok (.ifCond .eq 5, 3) := by decide +kernel
theorem dX2_measure_34 : decode cX2_measure 34 = .ok (.lconst 0, 1) := by decide +kernel
theorem dX2_measure_35 : decode cX2_measure 35 = .ok (.lreturn, 1) := by decide +kernel
theorem dX2_measure_36 : decode cX2_measure 36 = .ok (.aload_n 0, 1) := by decide +kernel
theorem dX2_measure_37 : decode cX2_measure 37 = .ok (.iload_n 1, 1) := by decide +kernel
theorem dX2_measure_38 : decode cX2_measure 38 = .ok (.aload_n 0, 1) := by decide +kernel
theorem dX2_measure_39 : decode cX2_measure 39 = .ok (.getfield 7, 3) := by decide +kernel
theorem dX2_measure_42 : decode cX2_measure 42 = .ok (.iload_n 2, 1) := by decide +kernel
theorem dX2_measure_43 : decode cX2_measure 43 = .ok (.iaload, 1) := by decide +kernel
theorem dX2_measure_44 : decode cX2_measure 44 = .ok (.aload_n 0, 1) := by decide +kernel
theorem dX2_measure_45 : decode cX2_measure 45 = .ok (.getfield 7, 3) := by decide +kernel
theorem dX2_measure_48 : decode cX2_measure 48 = .ok (.iload_n 3, 1) := by decide +kernel
theorem dX2_measure_49 : decode cX2_measure 49 = .ok (.iaload, 1) := by decide +kernel
theorem dX2_measure_50 : decode cX2_measure 50 = .ok (.invokestatic 82, 3) := by decide +kernel
theorem dX2_measure_53 : decode cX2_measure 53 = .ok (.iconst 0, 1) := by decide +kernel
theorem dX2_measure_54 : decode cX2_measure 54 = .ok (.invokevirtual 49, 3) := by decide +kernel
theorem dX2_measure_57 : decode cX2_measure 57 = .ok (.lreturn, 1) := by decide +kernel
set_option maxRecDepth 20000 in
theorem ggX2_takes_X2_nearest : GoodIn wsX2_takes wsX2_nearest := goodIn_r _ [5, 6, 7, 4, 8] (by decide +kernel) (by decide +kernel)
set_option maxRecDepth 20000 in
theorem gX2_takes_X2_nearest : GoodIn wsX2_takes (va_wsS RX2 57 yX2_nearest wsX2_nearest) := goodIn_app (goodIn_of _ (by decide +kernel)) ggX2_takes_X2_nearest
theorem dX2_takes_0 : decode cX2_takes 0 = .ok (.iconst 0, 1) := by decide +kernel
theorem dX2_takes_1 : decode cX2_takes 1 = .ok (.istore_n 3, 1) := by decide +kernel
theorem dX2_takes_2 : decode cX2_takes 2 = .ok (.iload_n 1, 1) := by decide +kernel
theorem dX2_takes_3 : decode cX2_takes 3 = .ok (.istore 4, 2) := by decide +kernel
theorem dX2_takes_5 : decode cX2_takes 5 = .ok (.iload_n 2, 1) := by decide +kernel
theorem dX2_takes_6 : decode cX2_takes 6 = .ok (.istore 5, 2) := by decide +kernel
theorem dX2_takes_8 : decode cX2_takes 8 = .ok (.iload 5, 2) := by decide +kernel
theorem dX2_takes_10 : decode cX2_takes 10 = .ok (.ifCond .eq 44, 3) := by decide +kernel
theorem dX2_takes_13 : decode cX2_takes 13 = .ok (.aload_n 0, 1) := by decide +kernel
theorem dX2_takes_14 : decode cX2_takes 14 = .ok (.getfield 20, 3) := by decide +kernel
theorem dX2_takes_17 : decode cX2_takes 17 = .ok (.iload_n 3, 1) := by decide +kernel
theorem dX2_takes_18 : decode cX2_takes 18 = .ok (.iload 4, 2) := by decide +kernel
theorem dX2_takes_20 : decode cX2_takes 20 = .ok (.iload 5, 2) := by decide +kernel
theorem dX2_takes_22 : decode cX2_takes 22 = .ok (.invokestatic 57, 3) := by decide +kernel
theorem dX2_takes_25 : decode cX2_takes 25 = .ok (.iastore, 1) := by decide +kernel
theorem dX2_takes_26 : decode cX2_takes 26 = .ok (.iload 4, 2) := by decide +kernel
theorem dX2_takes_28 : decode cX2_takes 28 = .ok (.aload_n 0, 1) := by decide +kernel
theorem dX2_takes_29 : decode cX2_takes 29 = .ok (.getfield 20, 3) := by decide +kernel
theorem dX2_takes_32 : decode cX2_takes 32 = .ok (.iload_n 3, 1) := by decide +kernel
theorem dX2_takes_33 : decode cX2_takes 33 = .ok (.iaload, 1) := by decide +kernel
theorem dX2_takes_34 : decode cX2_takes 34 = .ok (.iload 5, 2) := by decide +kernel
theorem dX2_takes_36 : decode cX2_takes 36 = .ok (.imul, 1) := by decide +kernel
theorem dX2_takes_37 : decode cX2_takes 37 = .ok (.isub, 1) := by decide +kernel
theorem dX2_takes_38 : decode cX2_takes 38 = .ok (.istore 6, 2) := by decide +kernel
theorem dX2_takes_40 : decode cX2_takes 40 = .ok (.iinc 3 1, 3) := by decide +kernel
theorem dX2_takes_43 : decode cX2_takes 43 = .ok (.iload 5, 2) := by decide +kernel
theorem dX2_takes_45 : decode cX2_takes 45 = .ok (.istore 4, 2) := by decide +kernel
theorem dX2_takes_47 : decode cX2_takes 47 = .ok (.iload 6, 2) := by decide +kernel
theorem dX2_takes_49 : decode cX2_takes 49 = .ok (.istore 5, 2) := by decide +kernel
theorem dX2_takes_51 : decode cX2_takes 51 = .ok (.goto (-43), 3) := by decide +kernel
theorem dX2_takes_54 : decode cX2_takes 54 = .ok (.iload_n 3, 1) := by decide +kernel
theorem dX2_takes_55 : decode cX2_takes 55 = .ok (.ireturn, 1) := by decide +kernel
set_option maxRecDepth 20000 in
theorem ggX2_steps_X2_isPlace : GoodIn wsX2_steps wsX2_isPlace := goodIn_r _ [5] (by decide +kernel) (by decide +kernel)
set_option maxRecDepth 20000 in
theorem gX2_steps_X2_isPlace : GoodIn wsX2_steps (va_wsS RX2 27 yX2_isPlace wsX2_isPlace) := goodIn_app (goodIn_of _ (by decide +kernel)) ggX2_steps_X2_isPlace
set_option maxRecDepth 20000 in
theorem ggX2_steps_X2_isThrown : GoodIn wsX2_steps wsX2_isThrown := goodIn_r _ [9, 10, 22, 23, 24, 25, 26, 27] (by decide +kernel) (by decide +kernel)
set_option maxRecDepth 20000 in
theorem gX2_steps_X2_isThrown : GoodIn wsX2_steps (wsV RX2 31 RX2 yX2_isThrown wsX2_isThrown) := goodIn_app (goodIn_of _ (by decide +kernel)) ggX2_steps_X2_isThrown
set_option maxRecDepth 20000 in
theorem ggX2_steps_X2_takes : GoodIn wsX2_steps wsX2_takes := goodIn_ca (goodIn_r _ [14, 15, 16, 17, 4, 18, 19, 20, 21, 22, 23, 24, 25, 26, 27] (by decide +kernel) (by decide +kernel)) (goodIn_sub (fun _ h => List.mem_cons_of_mem _ (List.mem_append_right _ h)) (by decide +kernel))
set_option maxRecDepth 20000 in
theorem gX2_steps_X2_takes : GoodIn wsX2_steps (wsV RX2 85 RX2 yX2_takes wsX2_takes) := goodIn_app (goodIn_of _ (by decide +kernel)) ggX2_steps_X2_takes
theorem dX2_steps_0 : decode cX2_steps 0 = .ok (.aload_n 0, 1) := by decide +kernel
theorem dX2_steps_1 : decode cX2_steps 1 = .ok (.iload_n 1, 1) := by decide +kernel
theorem dX2_steps_2 : decode cX2_steps 2 = .ok (.invokestatic 27, 3) := by decide +kernel
theorem dX2_steps_5 : decode cX2_steps 5 = .ok (.ifCond .eq 10, 3) := by decide +kernel
theorem dX2_steps_8 : decode cX2_steps 8 = .ok (.iload_n 2, 1) := by decide +kernel
theorem dX2_steps_9 : decode cX2_steps 9 = .ok (.invokestatic 27, 3) := by decide +kernel
theorem dX2_steps_12 : decode cX2_steps 12 = .ok (.ifCond .ne 7, 3) := by decide +kernel
theorem dX2_steps_15 : decode cX2_steps 15 = .ok (.iconst 1, 1) := by decide +kernel
theorem dX2_steps_16 : decode cX2_steps 16 = .ok (.goto 4, 3) := by decide +kernel
theorem dX2_steps_19 : decode cX2_steps 19 = .ok (.iconst 0, 1) := by decide +kernel
theorem dX2_steps_20 : decode cX2_steps 20 = .ok (.iconst 1, 1) := by decide +kernel
theorem dX2_steps_21 : decode cX2_steps 21 = .ok (.invokevirtual 31, 3) := by decide +kernel
theorem dX2_steps_24 : decode cX2_steps 24 = .ok (.ifCond .eq 7, 3) := by decide +kernel
theorem dX2_steps_27 : decode cX2_steps 27 = .ok (.iconst 0, 1) := by decide +kernel
theorem dX2_steps_28 : decode cX2_steps 28 = .ok (.goto 19, 3) := by decide +kernel
theorem dX2_steps_31 : decode cX2_steps 31 = .ok (.aload_n 0, 1) := by decide +kernel
theorem dX2_steps_32 : decode cX2_steps 32 = .ok (.aload_n 0, 1) := by decide +kernel
theorem dX2_steps_33 : decode cX2_steps 33 = .ok (.getfield 7, 3) := by decide +kernel
theorem dX2_steps_36 : decode cX2_steps 36 = .ok (.iload_n 1, 1) := by decide +kernel
theorem dX2_steps_37 : decode cX2_steps 37 = .ok (.iaload, 1) := by decide +kernel
theorem dX2_steps_38 : decode cX2_steps 38 = .ok (.aload_n 0, 1) := by decide +kernel
theorem dX2_steps_39 : decode cX2_steps 39 = .ok (.getfield 7, 3) := by decide +kernel
theorem dX2_steps_42 : decode cX2_steps 42 = .ok (.iload_n 2, 1) := by decide +kernel
theorem dX2_steps_43 : decode cX2_steps 43 = .ok (.iaload, 1) := by decide +kernel
theorem dX2_steps_44 : decode cX2_steps 44 = .ok (.invokevirtual 85, 3) := by decide +kernel
theorem dX2_steps_47 : decode cX2_steps 47 = .ok (.ireturn, 1) := by decide +kernel
set_option maxRecDepth 20000 in
theorem ggX2_digits_X2_isBad : GoodIn wsX2_digits wsX2_isBad := goodIn_ca (goodIn_r _ [9, 1, 10, 11, 8, 12, 13, 14, 15, 16, 17, 28, 29, 30, 31, 32, 33] (by decide +kernel) (by decide +kernel)) (goodIn_sub (fun _ h => List.mem_cons_of_mem _ (List.mem_append_right _ h)) (by decide +kernel))
set_option maxRecDepth 20000 in
theorem gX2_digits_X2_isBad : GoodIn wsX2_digits (wsV RX2 61 RX2 yX2_isBad wsX2_isBad) := goodIn_app (goodIn_of _ (by decide +kernel)) ggX2_digits_X2_isBad
set_option maxRecDepth 20000 in
theorem ggX2_digits_X2_takes : GoodIn wsX2_digits wsX2_takes := goodIn_ca (goodIn_r _ [21, 4, 22, 23, 8, 24, 25, 26, 27, 28, 29, 30, 31, 32, 33] (by decide +kernel) (by decide +kernel)) (goodIn_sub (fun _ h => List.mem_cons_of_mem _ (List.mem_append_right _ h)) (by decide +kernel))
set_option maxRecDepth 20000 in
theorem gX2_digits_X2_takes : GoodIn wsX2_digits (wsV RX2 85 RX2 yX2_takes wsX2_takes) := goodIn_app (goodIn_of _ (by decide +kernel)) ggX2_digits_X2_takes
theorem dX2_digits_0 : decode cX2_digits 0 = .ok (.aload_n 0, 1) := by decide +kernel
theorem dX2_digits_1 : decode cX2_digits 1 = .ok (.iload_n 1, 1) := by decide +kernel
theorem dX2_digits_2 : decode cX2_digits 2 = .ok (.iload_n 1, 1) := by decide +kernel
theorem dX2_digits_3 : decode cX2_digits 3 = .ok (.iload_n 1, 1) := by decide +kernel
theorem dX2_digits_4 : decode cX2_digits 4 = .ok (.iload_n 2, 1) := by decide +kernel
theorem dX2_digits_5 : decode cX2_digits 5 = .ok (.invokevirtual 61, 3) := by decide +kernel
theorem dX2_digits_8 : decode cX2_digits 8 = .ok (.ifCond .eq 5, 3) := by decide +kernel
theorem dX2_digits_11 : decode cX2_digits 11 = .ok (.iconst 0, 1) := by decide +kernel
theorem dX2_digits_12 : decode cX2_digits 12 = .ok (.ireturn, 1) := by decide +kernel
theorem dX2_digits_13 : decode cX2_digits 13 = .ok (.aload_n 0, 1) := by decide +kernel
theorem dX2_digits_14 : decode cX2_digits 14 = .ok (.aload_n 0, 1) := by decide +kernel
theorem dX2_digits_15 : decode cX2_digits 15 = .ok (.aload_n 0, 1) := by decide +kernel
theorem dX2_digits_16 : decode cX2_digits 16 = .ok (.getfield 7, 3) := by decide +kernel
theorem dX2_digits_19 : decode cX2_digits 19 = .ok (.iload_n 1, 1) := by decide +kernel
theorem dX2_digits_20 : decode cX2_digits 20 = .ok (.iaload, 1) := by decide +kernel
theorem dX2_digits_21 : decode cX2_digits 21 = .ok (.aload_n 0, 1) := by decide +kernel
theorem dX2_digits_22 : decode cX2_digits 22 = .ok (.getfield 7, 3) := by decide +kernel
theorem dX2_digits_25 : decode cX2_digits 25 = .ok (.iload_n 2, 1) := by decide +kernel
theorem dX2_digits_26 : decode cX2_digits 26 = .ok (.iaload, 1) := by decide +kernel
theorem dX2_digits_27 : decode cX2_digits 27 = .ok (.invokevirtual 85, 3) := by decide +kernel
theorem dX2_digits_30 : decode cX2_digits 30 = .ok (.putfield 88, 3) := by decide +kernel
theorem dX2_digits_33 : decode cX2_digits 33 = .ok (.iconst 0, 1) := by decide +kernel
theorem dX2_digits_34 : decode cX2_digits 34 = .ok (.istore_n 3, 1) := by decide +kernel
theorem dX2_digits_35 : decode cX2_digits 35 = .ok (.iload_n 3, 1) := by decide +kernel
theorem dX2_digits_36 : decode cX2_digits 36 = .ok (.aload_n 0, 1) := by decide +kernel
theorem dX2_digits_37 : decode cX2_digits 37 = .ok (.getfield 88, 3) := by decide +kernel
theorem dX2_digits_40 : decode cX2_digits 40 = .ok (.if_icmp .ge 21, 3) := by decide +kernel
theorem dX2_digits_43 : decode cX2_digits 43 = .ok (.aload_n 0, 1) := by decide +kernel
theorem dX2_digits_44 : decode cX2_digits 44 = .ok (.getfield 17, 3) := by decide +kernel
theorem dX2_digits_47 : decode cX2_digits 47 = .ok (.iload_n 3, 1) := by decide +kernel
theorem dX2_digits_48 : decode cX2_digits 48 = .ok (.aload_n 0, 1) := by decide +kernel
theorem dX2_digits_49 : decode cX2_digits 49 = .ok (.getfield 20, 3) := by decide +kernel
theorem dX2_digits_52 : decode cX2_digits 52 = .ok (.iload_n 3, 1) := by decide +kernel
theorem dX2_digits_53 : decode cX2_digits 53 = .ok (.iaload, 1) := by decide +kernel
theorem dX2_digits_54 : decode cX2_digits 54 = .ok (.iastore, 1) := by decide +kernel
theorem dX2_digits_55 : decode cX2_digits 55 = .ok (.iinc 3 1, 3) := by decide +kernel
theorem dX2_digits_58 : decode cX2_digits 58 = .ok (.goto (-23), 3) := by decide +kernel
theorem dX2_digits_61 : decode cX2_digits 61 = .ok (.aload_n 0, 1) := by decide +kernel
theorem dX2_digits_62 : decode cX2_digits 62 = .ok (.getfield 88, 3) := by decide +kernel
theorem dX2_digits_65 : decode cX2_digits 65 = .ok (.ireturn, 1) := by decide +kernel
set_option maxRecDepth 20000 in
theorem ggX2_digit_X2_isThrown : GoodIn wsX2_digit wsX2_isThrown := goodIn_r _ [7, 8, 9, 10, 11, 12, 13, 14] (by decide +kernel) (by decide +kernel)
set_option maxRecDepth 20000 in
theorem gX2_digit_X2_isThrown : GoodIn wsX2_digit (wsV RX2 31 RX2 yX2_isThrown wsX2_isThrown) := goodIn_app (goodIn_of _ (by decide +kernel)) ggX2_digit_X2_isThrown
theorem dX2_digit_0 : decode cX2_digit 0 = .ok (.aload_n 0, 1) := by decide +kernel
theorem dX2_digit_1 : decode cX2_digit 1 = .ok (.iload_n 1, 1) := by decide +kernel
theorem dX2_digit_2 : decode cX2_digit 2 = .ok (.ifCond .lt 11, 3) := by decide +kernel
theorem dX2_digit_5 : decode cX2_digit 5 = .ok (.iload_n 1, 1) := by decide +kernel
theorem dX2_digit_6 : decode cX2_digit 6 = .ok (.aload_n 0, 1) := by decide +kernel
theorem dX2_digit_7 : decode cX2_digit 7 = .ok (.getfield 88, 3) := by decide +kernel
theorem dX2_digit_10 : decode cX2_digit 10 = .ok (.if_icmp .lt 7, 3) := by decide +kernel
theorem dX2_digit_13 : decode cX2_digit 13 = .ok (.iconst 1, 1) := by decide +kernel
theorem dX2_digit_14 : decode cX2_digit 14 = .ok (.goto 4, 3) := by decide +kernel
theorem dX2_digit_17 : decode cX2_digit 17 = .ok (.iconst 0, 1) := by decide +kernel
theorem dX2_digit_18 : decode cX2_digit 18 = .ok (.iconst 1, 1) := by decide +kernel
theorem dX2_digit_19 : decode cX2_digit 19 = .ok (.invokevirtual 31, 3) := by decide +kernel
theorem dX2_digit_22 : decode cX2_digit 22 = .ok (.ifCond .eq 7, 3) := by decide +kernel
theorem dX2_digit_25 : decode cX2_digit 25 = .ok (.iconst 0, 1) := by decide +kernel
theorem dX2_digit_26 : decode cX2_digit 26 = .ok (.goto 9, 3) := by decide +kernel
theorem dX2_digit_29 : decode cX2_digit 29 = .ok (.aload_n 0, 1) := by decide +kernel
theorem dX2_digit_30 : decode cX2_digit 30 = .ok (.getfield 17, 3) := by decide +kernel
theorem dX2_digit_33 : decode cX2_digit 33 = .ok (.iload_n 1, 1) := by decide +kernel
theorem dX2_digit_34 : decode cX2_digit 34 = .ok (.iaload, 1) := by decide +kernel
theorem dX2_digit_35 : decode cX2_digit 35 = .ok (.ireturn, 1) := by decide +kernel
theorem dX2_line_0 : decode cX2_line 0 = .ok (.iload_n 2, 1) := by decide +kernel
theorem dX2_line_1 : decode cX2_line 1 = .ok (.istore 4, 2) := by decide +kernel
theorem dX2_line_3 : decode cX2_line 3 = .ok (.iload_n 3, 1) := by decide +kernel
theorem dX2_line_4 : decode cX2_line 4 = .ok (.istore 5, 2) := by decide +kernel
theorem dX2_line_6 : decode cX2_line 6 = .ok (.iconst 1, 1) := by decide +kernel
theorem dX2_line_7 : decode cX2_line 7 = .ok (.istore 6, 2) := by decide +kernel
theorem dX2_line_9 : decode cX2_line 9 = .ok (.iload 6, 2) := by decide +kernel
theorem dX2_line_11 : decode cX2_line 11 = .ok (.iload_n 1, 1) := by decide +kernel
theorem dX2_line_12 : decode cX2_line 12 = .ok (.if_icmp .ge 32, 3) := by decide +kernel
theorem dX2_line_15 : decode cX2_line 15 = .ok (.aload_n 0, 1) := by decide +kernel
theorem dX2_line_16 : decode cX2_line 16 = .ok (.getfield 17, 3) := by decide +kernel
theorem dX2_line_19 : decode cX2_line 19 = .ok (.iload 6, 2) := by decide +kernel
theorem dX2_line_21 : decode cX2_line 21 = .ok (.iaload, 1) := by decide +kernel
theorem dX2_line_22 : decode cX2_line 22 = .ok (.iload 5, 2) := by decide +kernel
theorem dX2_line_24 : decode cX2_line 24 = .ok (.imul, 1) := by decide +kernel
theorem dX2_line_25 : decode cX2_line 25 = .ok (.iload 4, 2) := by decide +kernel
theorem dX2_line_27 : decode cX2_line 27 = .ok (.iadd, 1) := by decide +kernel
theorem dX2_line_28 : decode cX2_line 28 = .ok (.istore 7, 2) := by decide +kernel
theorem dX2_line_30 : decode cX2_line 30 = .ok (.iload 5, 2) := by decide +kernel
theorem dX2_line_32 : decode cX2_line 32 = .ok (.istore 4, 2) := by decide +kernel
theorem dX2_line_34 : decode cX2_line 34 = .ok (.iload 7, 2) := by decide +kernel
theorem dX2_line_36 : decode cX2_line 36 = .ok (.istore 5, 2) := by decide +kernel
theorem dX2_line_38 : decode cX2_line 38 = .ok (.iinc 6 1, 3) := by decide +kernel
theorem dX2_line_41 : decode cX2_line 41 = .ok (.goto (-32), 3) := by decide +kernel
theorem dX2_line_44 : decode cX2_line 44 = .ok (.iload_n 1, 1) := by decide +kernel
theorem dX2_line_45 : decode cX2_line 45 = .ok (.ifCond .ne 7, 3) := by decide +kernel
theorem dX2_line_48 : decode cX2_line 48 = .ok (.iload_n 2, 1) := by decide +kernel
theorem dX2_line_49 : decode cX2_line 49 = .ok (.goto 5, 3) := by decide +kernel
theorem dX2_line_52 : decode cX2_line 52 = .ok (.iload 5, 2) := by decide +kernel
theorem dX2_line_54 : decode cX2_line 54 = .ok (.ireturn, 1) := by decide +kernel
set_option maxRecDepth 20000 in
theorem ggX2_above_X2_isThrown : GoodIn wsX2_above wsX2_isThrown := goodIn_r _ [7, 8, 13, 14, 15, 16, 17, 18] (by decide +kernel) (by decide +kernel)
set_option maxRecDepth 20000 in
theorem gX2_above_X2_isThrown : GoodIn wsX2_above (wsV RX2 31 RX2 yX2_isThrown wsX2_isThrown) := goodIn_app (goodIn_of _ (by decide +kernel)) ggX2_above_X2_isThrown
set_option maxRecDepth 20000 in
theorem ggX2_above_X2_line : GoodIn wsX2_above wsX2_line := goodIn_ca (goodIn_r _ [12, 2, 13, 14, 15, 16, 17, 18] (by decide +kernel) (by decide +kernel)) (goodIn_sub (fun _ h => List.mem_cons_of_mem _ (List.mem_append_right _ h)) (by decide +kernel))
set_option maxRecDepth 20000 in
theorem gX2_above_X2_line : GoodIn wsX2_above (wsV RX2 91 RX2 yX2_line wsX2_line) := goodIn_app (goodIn_of _ (by decide +kernel)) ggX2_above_X2_line
theorem dX2_above_0 : decode cX2_above 0 = .ok (.aload_n 0, 1) := by decide +kernel
theorem dX2_above_1 : decode cX2_above 1 = .ok (.iload_n 1, 1) := by decide +kernel
theorem dX2_above_2 : decode cX2_above 2 = .ok (.ifCond .lt 11, 3) := by decide +kernel
theorem dX2_above_5 : decode cX2_above 5 = .ok (.iload_n 1, 1) := by decide +kernel
theorem dX2_above_6 : decode cX2_above 6 = .ok (.aload_n 0, 1) := by decide +kernel
theorem dX2_above_7 : decode cX2_above 7 = .ok (.getfield 88, 3) := by decide +kernel
theorem dX2_above_10 : decode cX2_above 10 = .ok (.if_icmp .le 7, 3) := by decide +kernel
theorem dX2_above_13 : decode cX2_above 13 = .ok (.iconst 1, 1) := by decide +kernel
theorem dX2_above_14 : decode cX2_above 14 = .ok (.goto 4, 3) := by decide +kernel
theorem dX2_above_17 : decode cX2_above 17 = .ok (.iconst 0, 1) := by decide +kernel
theorem dX2_above_18 : decode cX2_above 18 = .ok (.iconst 1, 1) := by decide +kernel
theorem dX2_above_19 : decode cX2_above 19 = .ok (.invokevirtual 31, 3) := by decide +kernel
theorem dX2_above_22 : decode cX2_above 22 = .ok (.ifCond .eq 7, 3) := by decide +kernel
theorem dX2_above_25 : decode cX2_above 25 = .ok (.iconst 0, 1) := by decide +kernel
theorem dX2_above_26 : decode cX2_above 26 = .ok (.goto 15, 3) := by decide +kernel
theorem dX2_above_29 : decode cX2_above 29 = .ok (.aload_n 0, 1) := by decide +kernel
theorem dX2_above_30 : decode cX2_above 30 = .ok (.iload_n 1, 1) := by decide +kernel
theorem dX2_above_31 : decode cX2_above 31 = .ok (.iconst 1, 1) := by decide +kernel
theorem dX2_above_32 : decode cX2_above 32 = .ok (.aload_n 0, 1) := by decide +kernel
theorem dX2_above_33 : decode cX2_above 33 = .ok (.getfield 17, 3) := by decide +kernel
theorem dX2_above_36 : decode cX2_above 36 = .ok (.iconst 0, 1) := by decide +kernel
theorem dX2_above_37 : decode cX2_above 37 = .ok (.iaload, 1) := by decide +kernel
theorem dX2_above_38 : decode cX2_above 38 = .ok (.invokevirtual 91, 3) := by decide +kernel
theorem dX2_above_41 : decode cX2_above 41 = .ok (.ireturn, 1) := by decide +kernel
set_option maxRecDepth 20000 in
theorem ggX2_below_X2_isThrown : GoodIn wsX2_below wsX2_isThrown := goodIn_r _ [6, 7, 13, 14, 15, 16, 17, 18] (by decide +kernel) (by decide +kernel)
set_option maxRecDepth 20000 in
theorem gX2_below_X2_isThrown : GoodIn wsX2_below (wsV RX2 31 RX2 yX2_isThrown wsX2_isThrown) := goodIn_app (goodIn_of _ (by decide +kernel)) ggX2_below_X2_isThrown
set_option maxRecDepth 20000 in
theorem ggX2_below_X2_line : GoodIn wsX2_below wsX2_line := goodIn_ca (goodIn_r _ [11, 12, 13, 14, 15, 16, 17, 18] (by decide +kernel) (by decide +kernel)) (goodIn_sub (fun _ h => List.mem_cons_of_mem _ (List.mem_append_right _ h)) (by decide +kernel))
set_option maxRecDepth 20000 in
theorem gX2_below_X2_line : GoodIn wsX2_below (wsV RX2 91 RX2 yX2_line wsX2_line) := goodIn_app (goodIn_of _ (by decide +kernel)) ggX2_below_X2_line
theorem dX2_below_0 : decode cX2_below 0 = .ok (.aload_n 0, 1) := by decide +kernel
theorem dX2_below_1 : decode cX2_below 1 = .ok (.iload_n 1, 1) := by decide +kernel
theorem dX2_below_2 : decode cX2_below 2 = .ok (.ifCond .lt 11, 3) := by decide +kernel
theorem dX2_below_5 : decode cX2_below 5 = .ok (.iload_n 1, 1) := by decide +kernel
theorem dX2_below_6 : decode cX2_below 6 = .ok (.aload_n 0, 1) := by decide +kernel
theorem dX2_below_7 : decode cX2_below 7 = .ok (.getfield 88, 3) := by decide +kernel
theorem dX2_below_10 : decode cX2_below 10 = .ok (.if_icmp .le 7, 3) := by decide +kernel
theorem dX2_below_13 : decode cX2_below 13 = .ok (.iconst 1, 1) := by decide +kernel
theorem dX2_below_14 : decode cX2_below 14 = .ok (.goto 4, 3) := by decide +kernel
theorem dX2_below_17 : decode cX2_below 17 = .ok (.iconst 0, 1) := by decide +kernel
theorem dX2_below_18 : decode cX2_below 18 = .ok (.iconst 1, 1) := by decide +kernel
theorem dX2_below_19 : decode cX2_below 19 = .ok (.invokevirtual 31, 3) := by decide +kernel
theorem dX2_below_22 : decode cX2_below 22 = .ok (.ifCond .eq 7, 3) := by decide +kernel
theorem dX2_below_25 : decode cX2_below 25 = .ok (.iconst 0, 1) := by decide +kernel
theorem dX2_below_26 : decode cX2_below 26 = .ok (.goto 10, 3) := by decide +kernel
theorem dX2_below_29 : decode cX2_below 29 = .ok (.aload_n 0, 1) := by decide +kernel
theorem dX2_below_30 : decode cX2_below 30 = .ok (.iload_n 1, 1) := by decide +kernel
theorem dX2_below_31 : decode cX2_below 31 = .ok (.iconst 0, 1) := by decide +kernel
theorem dX2_below_32 : decode cX2_below 32 = .ok (.iconst 1, 1) := by decide +kernel
theorem dX2_below_33 : decode cX2_below 33 = .ok (.invokevirtual 91, 3) := by decide +kernel
theorem dX2_below_36 : decode cX2_below 36 = .ok (.ireturn, 1) := by decide +kernel
theorem dX2_sum_0 : decode cX2_sum 0 = .ok (.iconst 0, 1) := by decide +kernel
theorem dX2_sum_1 : decode cX2_sum 1 = .ok (.istore_n 1, 1) := by decide +kernel
theorem dX2_sum_2 : decode cX2_sum 2 = .ok (.iconst 0, 1) := by decide +kernel
theorem dX2_sum_3 : decode cX2_sum 3 = .ok (.istore_n 2, 1) := by decide +kernel
theorem dX2_sum_4 : decode cX2_sum 4 = .ok (.iload_n 2, 1) := by decide +kernel
theorem dX2_sum_5 : decode cX2_sum 5 = .ok (.bipush 12, 2) := by decide +kernel
theorem dX2_sum_7 : decode cX2_sum 7 = .ok (.if_icmp .ge 18, 3) := by decide +kernel
theorem dX2_sum_10 : decode cX2_sum 10 = .ok (.iload_n 1, 1) := by decide +kernel
theorem dX2_sum_11 : decode cX2_sum 11 = .ok (.aload_n 0, 1) := by decide +kernel
theorem dX2_sum_12 : decode cX2_sum 12 = .ok (.getfield 7, 3) := by decide +kernel
theorem dX2_sum_15 : decode cX2_sum 15 = .ok (.iload_n 2, 1) := by decide +kernel
theorem dX2_sum_16 : decode cX2_sum 16 = .ok (.iaload, 1) := by decide +kernel
theorem dX2_sum_17 : decode cX2_sum 17 = .ok (.iadd, 1) := by decide +kernel
theorem dX2_sum_18 : decode cX2_sum 18 = .ok (.istore_n 1, 1) := by decide +kernel
theorem dX2_sum_19 : decode cX2_sum 19 = .ok (.iinc 2 1, 3) := by decide +kernel
theorem dX2_sum_22 : decode cX2_sum 22 = .ok (.goto (-18), 3) := by decide +kernel
theorem dX2_sum_25 : decode cX2_sum 25 = .ok (.iload_n 1, 1) := by decide +kernel
theorem dX2_sum_26 : decode cX2_sum 26 = .ok (.ireturn, 1) := by decide +kernel
set_option maxRecDepth 20000 in
theorem ggX2_checksum_X2_bitsOf : GoodIn wsX2_checksum wsX2_bitsOf := goodIn_r _ [10, 11, 12, 13, 14, 15, 9, 16] (by decide +kernel) (by decide +kernel)
set_option maxRecDepth 20000 in
theorem gX2_checksum_X2_bitsOf : GoodIn wsX2_checksum (va_wsS RX2 45 yX2_bitsOf wsX2_bitsOf) := goodIn_app (goodIn_of _ (by decide +kernel)) ggX2_checksum_X2_bitsOf
theorem dX2_checksum_0 : decode cX2_checksum 0 = .ok (.ldc2_w 95, 3) := by decide +kernel
theorem dX2_checksum_3 : decode cX2_checksum 3 = .ok (.lstore_n 1, 1) := by decide +kernel
theorem dX2_checksum_4 : decode cX2_checksum 4 = .ok (.iconst 0, 1) := by decide +kernel
theorem dX2_checksum_5 : decode cX2_checksum 5 = .ok (.istore_n 3, 1) := by decide +kernel
theorem dX2_checksum_6 : decode cX2_checksum 6 = .ok (.iload_n 3, 1) := by decide +kernel
theorem dX2_checksum_7 : decode cX2_checksum 7 = .ok (.bipush 12, 2) := by decide +kernel
theorem dX2_checksum_9 : decode cX2_checksum 9 = .ok (.if_icmp .ge 31, 3) := by decide +kernel
theorem dX2_checksum_12 : decode cX2_checksum 12 = .ok (.ldc2_w 97, 3) := by decide +kernel
theorem dX2_checksum_15 : decode cX2_checksum 15 = .ok (.lload_n 1, 1) := by decide +kernel
theorem dX2_checksum_16 : decode cX2_checksum 16 = .ok (.lmul, 1) := by decide +kernel
theorem dX2_checksum_17 : decode cX2_checksum 17 = .ok (.aload_n 0, 1) := by decide +kernel
theorem dX2_checksum_18 : decode cX2_checksum 18 = .ok (.getfield 7, 3) := by decide +kernel
theorem dX2_checksum_21 : decode cX2_checksum 21 = .ok (.iload_n 3, 1) := by decide +kernel
theorem dX2_checksum_22 : decode cX2_checksum 22 = .ok (.iaload, 1) := by decide +kernel
theorem dX2_checksum_23 : decode cX2_checksum 23 = .ok (.aload_n 0, 1) := by decide +kernel
theorem dX2_checksum_24 : decode cX2_checksum 24 = .ok (.getfield 13, 3) := by decide +kernel
theorem dX2_checksum_27 : decode cX2_checksum 27 = .ok (.iload_n 3, 1) := by decide +kernel
theorem dX2_checksum_28 : decode cX2_checksum 28 = .ok (.baload, 1) := by decide +kernel
theorem dX2_checksum_29 : decode cX2_checksum 29 = .ok (.invokestatic 45, 3) := by decide +kernel
theorem dX2_checksum_32 : decode cX2_checksum 32 = .ok (.ladd, 1) := by decide +kernel
theorem dX2_checksum_33 : decode cX2_checksum 33 = .ok (.lstore_n 1, 1) := by decide +kernel
theorem dX2_checksum_34 : decode cX2_checksum 34 = .ok (.iinc 3 1, 3) := by decide +kernel
theorem dX2_checksum_37 : decode cX2_checksum 37 = .ok (.goto (-31), 3) := by decide +kernel
theorem dX2_checksum_40 : decode cX2_checksum 40 = .ok (.ldc2_w 97, 3) := by decide +kernel
theorem dX2_checksum_43 : decode cX2_checksum 43 = .ok (.lload_n 1, 1) := by decide +kernel
theorem dX2_checksum_44 : decode cX2_checksum 44 = .ok (.lmul, 1) := by decide +kernel
theorem dX2_checksum_45 : decode cX2_checksum 45 = .ok (.aload_n 0, 1) := by decide +kernel
theorem dX2_checksum_46 : decode cX2_checksum 46 = .ok (.getfield 88, 3) := by decide +kernel
theorem dX2_checksum_49 : decode cX2_checksum 49 = .ok (.i2l, 1) := by decide +kernel
theorem dX2_checksum_50 : decode cX2_checksum 50 = .ok (.ladd, 1) := by decide +kernel
theorem dX2_checksum_51 : decode cX2_checksum 51 = .ok (.lstore_n 1, 1) := by decide +kernel
theorem dX2_checksum_52 : decode cX2_checksum 52 = .ok (.iconst 0, 1) := by decide +kernel
theorem dX2_checksum_53 : decode cX2_checksum 53 = .ok (.istore_n 3, 1) := by decide +kernel
theorem dX2_checksum_54 : decode cX2_checksum 54 = .ok (.iload_n 3, 1) := by decide +kernel
theorem dX2_checksum_55 : decode cX2_checksum 55 = .ok (.aload_n 0, 1) := by decide +kernel
theorem dX2_checksum_56 : decode cX2_checksum 56 = .ok (.getfield 88, 3) := by decide +kernel
theorem dX2_checksum_59 : decode cX2_checksum 59 = .ok (.if_icmp .ge 23, 3) := by decide +kernel
theorem dX2_checksum_62 : decode cX2_checksum 62 = .ok (.ldc2_w 97, 3) := by decide +kernel
theorem dX2_checksum_65 : decode cX2_checksum 65 = .ok (.lload_n 1, 1) := by decide +kernel
theorem dX2_checksum_66 : decode cX2_checksum 66 = .ok (.lmul, 1) := by decide +kernel
theorem dX2_checksum_67 : decode cX2_checksum 67 = .ok (.aload_n 0, 1) := by decide +kernel
theorem dX2_checksum_68 : decode cX2_checksum 68 = .ok (.getfield 17, 3) := by decide +kernel
theorem dX2_checksum_71 : decode cX2_checksum 71 = .ok (.iload_n 3, 1) := by decide +kernel
theorem dX2_checksum_72 : decode cX2_checksum 72 = .ok (.iaload, 1) := by decide +kernel
theorem dX2_checksum_73 : decode cX2_checksum 73 = .ok (.i2l, 1) := by decide +kernel
theorem dX2_checksum_74 : decode cX2_checksum 74 = .ok (.ladd, 1) := by decide +kernel
theorem dX2_checksum_75 : decode cX2_checksum 75 = .ok (.lstore_n 1, 1) := by decide +kernel
theorem dX2_checksum_76 : decode cX2_checksum 76 = .ok (.iinc 3 1, 3) := by decide +kernel
theorem dX2_checksum_79 : decode cX2_checksum 79 = .ok (.goto (-25), 3) := by decide +kernel
theorem dX2_checksum_82 : decode cX2_checksum 82 = .ok (.lload_n 1, 1) := by decide +kernel
theorem dX2_checksum_83 : decode cX2_checksum 83 = .ok (.lreturn, 1) := by decide +kernel
theorem dX2_isTrue_0 : decode cX2_isTrue 0 = .ok (.iconst 1, 1) := by decide +kernel
theorem dX2_isTrue_1 : decode cX2_isTrue 1 = .ok (.ireturn, 1) := by decide +kernel
theorem dJx00060_init_a7421_0 : decode cJx00060_init_a7421 0 = .ok (.aload_n 0, 1) := by decide +kernel
theorem dJx00060_init_a7421_1 : decode cJx00060_init_a7421 1 = .ok (.aload_n 1, 1) := by decide +kernel
theorem dJx00060_init_a7421_2 : decode cJx00060_init_a7421 2 = .ok (.invokespecial 7, 3) := by decide +kernel
theorem dJx00060_init_a7421_5 : decode cJx00060_init_a7421 5 = .ok (.return_, 1) := by decide +kernel
theorem dJ6_compare_7cf53_0 : decode cJ6_compare_7cf53 0 = .ok (.iload_n 0, 1) := by decide +kernel
theorem dJ6_compare_7cf53_1 : decode cJ6_compare_7cf53 1 = .ok (.iload_n 1, 1) := by decide +kernel
theorem dJ6_compare_7cf53_2 : decode cJ6_compare_7cf53 2 = .ok (.if_icmp .ge 7, 3) := by decide +kernel
theorem dJ6_compare_7cf53_5 : decode cJ6_compare_7cf53 5 = .ok (.iconst (-1), 1) := by decide +kernel
theorem dJ6_compare_7cf53_6 : decode cJ6_compare_7cf53 6 = .ok (.goto 13, 3) := by decide +kernel
theorem dJ6_compare_7cf53_9 : decode cJ6_compare_7cf53 9 = .ok (.iload_n 0, 1) := by decide +kernel
theorem dJ6_compare_7cf53_10 : decode cJ6_compare_7cf53 10 = .ok (.iload_n 1, 1) := by decide +kernel
theorem dJ6_compare_7cf53_11 : decode cJ6_compare_7cf53 11 = .ok (.if_icmp .ne 7, 3) := by decide +kernel
theorem dJ6_compare_7cf53_14 : decode cJ6_compare_7cf53 14 = .ok (.iconst 0, 1) := by decide +kernel
theorem dJ6_compare_7cf53_15 : decode cJ6_compare_7cf53 15 = .ok (.goto 4, 3) := by decide +kernel
theorem dJ6_compare_7cf53_18 : decode cJ6_compare_7cf53 18 = .ok (.iconst 1, 1) := by decide +kernel
theorem dJ6_compare_7cf53_19 : decode cJ6_compare_7cf53 19 = .ok (.ireturn, 1) := by decide +kernel
theorem dJ6_numberOfLeadingZeros_0f7a4_0 : decode cJ6_numberOfLeadingZeros_0f7a4 0 = .ok (.iload_n 0, 1) := by decide +kernel
theorem dJ6_numberOfLeadingZeros_0f7a4_1 : decode cJ6_numberOfLeadingZeros_0f7a4 1 = .ok (.ifCond .gt 14, 3) := by decide +kernel
theorem dJ6_numberOfLeadingZeros_0f7a4_4 : decode cJ6_numberOfLeadingZeros_0f7a4 4 = .ok (.iload_n 0, 1) := by decide +kernel
theorem dJ6_numberOfLeadingZeros_0f7a4_5 : decode cJ6_numberOfLeadingZeros_0f7a4 5 = .ok (.ifCond .ne 8, 3) := by decide +kernel
theorem dJ6_numberOfLeadingZeros_0f7a4_8 : decode cJ6_numberOfLeadingZeros_0f7a4 8 = .ok (.bipush 32, 2) := by decide +kernel
theorem dJ6_numberOfLeadingZeros_0f7a4_10 : decode cJ6_numberOfLeadingZeros_0f7a4 10 = .ok (.goto 4, 3) := by decide +kernel
theorem dJ6_numberOfLeadingZeros_0f7a4_13 : decode cJ6_numberOfLeadingZeros_0f7a4 13 = .ok (.iconst 0, 1) := by decide +kernel
theorem dJ6_numberOfLeadingZeros_0f7a4_14 : decode cJ6_numberOfLeadingZeros_0f7a4 14 = .ok (.ireturn, 1) := by decide +kernel
theorem dJ6_numberOfLeadingZeros_0f7a4_15 : decode cJ6_numberOfLeadingZeros_0f7a4 15 = .ok (.bipush 31, 2) := by decide +kernel
theorem dJ6_numberOfLeadingZeros_0f7a4_17 : decode cJ6_numberOfLeadingZeros_0f7a4 17 = .ok (.istore_n 1, 1) := by decide +kernel
theorem dJ6_numberOfLeadingZeros_0f7a4_18 : decode cJ6_numberOfLeadingZeros_0f7a4 18 = .ok (.iload_n 0, 1) := by decide +kernel
theorem dJ6_numberOfLeadingZeros_0f7a4_19 : decode cJ6_numberOfLeadingZeros_0f7a4 19 = .ok (.ldc_w 264, 3) := by decide +kernel
theorem dJ6_numberOfLeadingZeros_0f7a4_22 : decode cJ6_numberOfLeadingZeros_0f7a4 22 = .ok (.if_icmp .lt 11, 3) := by decide +kernel
theorem dJ6_numberOfLeadingZeros_0f7a4_25 : decode cJ6_numberOfLeadingZeros_0f7a4 25 = .ok (.iinc 1 (-16), 3) := by decide +kernel
theorem dJ6_numberOfLeadingZeros_0f7a4_28 : decode cJ6_numberOfLeadingZeros_0f7a4 28 = .ok (.iload_n 0, 1) := by decide +kernel
theorem dJ6_numberOfLeadingZeros_0f7a4_29 : decode cJ6_numberOfLeadingZeros_0f7a4 29 = .ok (.bipush 16, 2) := by decide +kernel
theorem dJ6_numberOfLeadingZeros_0f7a4_31 : decode cJ6_numberOfLeadingZeros_0f7a4 31 = .ok (.iushr, 1) := by decide +kernel
theorem dJ6_numberOfLeadingZeros_0f7a4_32 : decode cJ6_numberOfLeadingZeros_0f7a4 32 = .ok (.istore_n 0, 1) := by decide +kernel
theorem dJ6_numberOfLeadingZeros_0f7a4_33 : decode cJ6_numberOfLeadingZeros_0f7a4 33 = .ok (.iload_n 0, 1) := by decide +kernel
theorem dJ6_numberOfLeadingZeros_0f7a4_34 : decode cJ6_numberOfLeadingZeros_0f7a4 34 = .ok (.sipush 256, 3) := by decide +kernel
theorem dJ6_numberOfLeadingZeros_0f7a4_37 : decode cJ6_numberOfLeadingZeros_0f7a4 37 = .ok (.if_icmp .lt 11, 3) := by decide +kernel
theorem dJ6_numberOfLeadingZeros_0f7a4_40 : decode cJ6_numberOfLeadingZeros_0f7a4 40 = .ok (.iinc 1 (-8), 3) := by decide +kernel
theorem dJ6_numberOfLeadingZeros_0f7a4_43 : decode cJ6_numberOfLeadingZeros_0f7a4 43 = .ok (.iload_n 0, 1) := by decide +kernel
theorem dJ6_numberOfLeadingZeros_0f7a4_44 : decode cJ6_numberOfLeadingZeros_0f7a4 44 = .ok (.bipush 8, 2) := by decide +kernel
theorem dJ6_numberOfLeadingZeros_0f7a4_46 : decode cJ6_numberOfLeadingZeros_0f7a4 46 = .ok (.iushr, 1) := by decide +kernel
theorem dJ6_numberOfLeadingZeros_0f7a4_47 : decode cJ6_numberOfLeadingZeros_0f7a4 47 = .ok (.istore_n 0, 1) := by decide +kernel
theorem dJ6_numberOfLeadingZeros_0f7a4_48 : decode cJ6_numberOfLeadingZeros_0f7a4 48 = .ok (.iload_n 0, 1) := by decide +kernel
theorem dJ6_numberOfLeadingZeros_0f7a4_49 : decode cJ6_numberOfLeadingZeros_0f7a4 49 = .ok (.bipush 16, 2) := by decide +kernel
theorem dJ6_numberOfLeadingZeros_0f7a4_51 : decode cJ6_numberOfLeadingZeros_0f7a4 51 = .ok (.if_icmp .lt 10, 3) := by decide +kernel
theorem dJ6_numberOfLeadingZeros_0f7a4_54 : decode cJ6_numberOfLeadingZeros_0f7a4 54 = .ok (.iinc 1 (-4), 3) := by decide +kernel
theorem dJ6_numberOfLeadingZeros_0f7a4_57 : decode cJ6_numberOfLeadingZeros_0f7a4 57 = .ok (.iload_n 0, 1) := by decide +kernel
theorem dJ6_numberOfLeadingZeros_0f7a4_58 : decode cJ6_numberOfLeadingZeros_0f7a4 58 = .ok (.iconst 4, 1) := by decide +kernel
theorem dJ6_numberOfLeadingZeros_0f7a4_59 : decode cJ6_numberOfLeadingZeros_0f7a4 59 = .ok (.iushr, 1) := by decide +kernel
theorem dJ6_numberOfLeadingZeros_0f7a4_60 : decode cJ6_numberOfLeadingZeros_0f7a4 60 = .ok (.istore_n 0, 1) := by decide +kernel
theorem dJ6_numberOfLeadingZeros_0f7a4_61 : decode cJ6_numberOfLeadingZeros_0f7a4 61 = .ok (.iload_n 0, 1) := by decide +kernel
theorem dJ6_numberOfLeadingZeros_0f7a4_62 : decode cJ6_numberOfLeadingZeros_0f7a4 62 = .ok (.iconst 4, 1) := by decide +kernel
theorem dJ6_numberOfLeadingZeros_0f7a4_63 : decode cJ6_numberOfLeadingZeros_0f7a4 63 = .ok (.if_icmp .lt 10, 3) := by decide +kernel
theorem dJ6_numberOfLeadingZeros_0f7a4_66 : decode cJ6_numberOfLeadingZeros_0f7a4 66 = .ok (.iinc 1 (-2), 3) := by decide +kernel
theorem dJ6_numberOfLeadingZeros_0f7a4_69 : decode cJ6_numberOfLeadingZeros_0f7a4 69 = .ok (.iload_n 0, 1) := by decide +kernel
theorem dJ6_numberOfLeadingZeros_0f7a4_70 : decode cJ6_numberOfLeadingZeros_0f7a4 70 = .ok (.iconst 2, 1) := by decide +kernel
theorem dJ6_numberOfLeadingZeros_0f7a4_71 : decode cJ6_numberOfLeadingZeros_0f7a4 71 = .ok (.iushr, 1) := by decide +kernel
theorem dJ6_numberOfLeadingZeros_0f7a4_72 : decode cJ6_numberOfLeadingZeros_0f7a4 72 = .ok (.istore_n 0, 1) := by decide +kernel
theorem dJ6_numberOfLeadingZeros_0f7a4_73 : decode cJ6_numberOfLeadingZeros_0f7a4 73 = .ok (.iload_n 1, 1) := by decide +kernel
theorem dJ6_numberOfLeadingZeros_0f7a4_74 : decode cJ6_numberOfLeadingZeros_0f7a4 74 = .ok (.iload_n 0, 1) := by decide +kernel
theorem dJ6_numberOfLeadingZeros_0f7a4_75 : decode cJ6_numberOfLeadingZeros_0f7a4 75 = .ok (.iconst 1, 1) := by decide +kernel
theorem dJ6_numberOfLeadingZeros_0f7a4_76 : decode cJ6_numberOfLeadingZeros_0f7a4 76 = .ok (.iushr, 1) := by decide +kernel
theorem dJ6_numberOfLeadingZeros_0f7a4_77 : decode cJ6_numberOfLeadingZeros_0f7a4 77 = .ok (.isub, 1) := by decide +kernel
theorem dJ6_numberOfLeadingZeros_0f7a4_78 : decode cJ6_numberOfLeadingZeros_0f7a4 78 = .ok (.ireturn, 1) := by decide +kernel
theorem dJ9_abs_0f7a4_0 : decode cJ9_abs_0f7a4 0 = .ok (.iload_n 0, 1) := by decide +kernel
theorem dJ9_abs_0f7a4_1 : decode cJ9_abs_0f7a4 1 = .ok (.ifCond .ge 8, 3) := by decide +kernel
theorem dJ9_abs_0f7a4_4 : decode cJ9_abs_0f7a4 4 = .ok (.iload_n 0, 1) := by decide +kernel
theorem dJ9_abs_0f7a4_5 : decode cJ9_abs_0f7a4 5 = .ok (.ineg, 1) := by decide +kernel
theorem dJ9_abs_0f7a4_6 : decode cJ9_abs_0f7a4 6 = .ok (.goto 4, 3) := by decide +kernel
theorem dJ9_abs_0f7a4_9 : decode cJ9_abs_0f7a4 9 = .ok (.iload_n 0, 1) := by decide +kernel
theorem dJ9_abs_0f7a4_10 : decode cJ9_abs_0f7a4 10 = .ok (.ireturn, 1) := by decide +kernel
set_option maxRecDepth 20000 in
theorem ggL_put_X1_put : GoodIn wsL_put wsX1_put := goodIn_ca (goodIn_ca (goodIn_ca (goodIn_r _ [7, 8, 9, 10, 11, 6, 12, 13, 14, 15, 16, 17, 18, 19, 20, 21, 22, 23, 24, 25, 26, 27, 28, 29, 30, 31, 32, 33, 34, 35, 36, 37, 38, 39, 40, 41, 42] (by decide +kernel) (by decide +kernel)) (goodIn_sub (fun _ h => List.mem_cons_of_mem _ (List.mem_append_left _ (List.mem_append_right _ h))) (by decide +kernel))) (goodIn_sub (fun _ h => List.mem_cons_of_mem _ (List.mem_append_right _ h)) (by decide +kernel))) (goodIn_sub (fun _ h => List.mem_cons_of_mem _ (List.mem_append_left _ (List.mem_append_left _ (List.mem_append_right _ h)))) (by decide +kernel))
set_option maxRecDepth 20000 in
theorem gL_put_X1_put : GoodIn wsL_put (wsV RL 7 RX1 yX1_put wsX1_put) := goodIn_app (goodIn_of _ (by decide +kernel)) ggL_put_X1_put
theorem dL_put_0 : decode cL_put 0 = .ok (.aload_n 3, 1) := by decide +kernel
theorem dL_put_1 : decode cL_put 1 = .ok (.iconst 0, 1) := by decide +kernel
theorem dL_put_2 : decode cL_put 2 = .ok (.aload_n 0, 1) := by decide +kernel
theorem dL_put_3 : decode cL_put 3 = .ok (.iload_n 1, 1) := by decide +kernel
theorem dL_put_4 : decode cL_put 4 = .ok (.iload_n 2, 1) := by decide +kernel
theorem dL_put_5 : decode cL_put 5 = .ok (.invokevirtual 7, 3) := by decide +kernel
theorem dL_put_8 : decode cL_put 8 = .ok (.lastore, 1) := by decide +kernel
theorem dL_put_9 : decode cL_put 9 = .ok (.goto 11, 3) := by decide +kernel
theorem dL_put_12 : decode cL_put 12 = .ok (.astore 4, 2) := by decide +kernel
theorem dL_put_14 : decode cL_put 14 = .ok (.iconst 1, 1) := by decide +kernel
theorem dL_put_15 : decode cL_put 15 = .ok (.ireturn, 1) := by decide +kernel
theorem dL_put_16 : decode cL_put 16 = .ok (.astore 4, 2) := by decide +kernel
theorem dL_put_18 : decode cL_put 18 = .ok (.iconst 2, 1) := by decide +kernel
theorem dL_put_19 : decode cL_put 19 = .ok (.ireturn, 1) := by decide +kernel
theorem dL_put_20 : decode cL_put 20 = .ok (.iconst 0, 1) := by decide +kernel
theorem dL_put_21 : decode cL_put 21 = .ok (.ireturn, 1) := by decide +kernel
set_option maxRecDepth 20000 in
theorem ggL_putBelow_X1_putBelow : GoodIn wsL_putBelow wsX1_putBelow := goodIn_ca (goodIn_ca (goodIn_r _ [6, 7, 8, 5, 9, 10, 11, 12, 13, 14, 15, 16, 17, 18, 19, 20, 21, 22, 23, 24, 25, 26, 27, 28, 29, 30, 31, 32, 33, 34, 35, 36, 37, 38, 39] (by decide +kernel) (by decide +kernel)) (goodIn_sub (fun _ h => List.mem_cons_of_mem _ (List.mem_append_right _ h)) (by decide +kernel))) (goodIn_sub (fun _ h => List.mem_cons_of_mem _ (List.mem_append_left _ (List.mem_append_right _ h))) (by decide +kernel))
set_option maxRecDepth 20000 in
theorem gL_putBelow_X1_putBelow : GoodIn wsL_putBelow (wsV RL 17 RX1 yX1_putBelow wsX1_putBelow) := goodIn_app (goodIn_of _ (by decide +kernel)) ggL_putBelow_X1_putBelow
theorem dL_putBelow_0 : decode cL_putBelow 0 = .ok (.aload_n 2, 1) := by decide +kernel
theorem dL_putBelow_1 : decode cL_putBelow 1 = .ok (.iconst 0, 1) := by decide +kernel
theorem dL_putBelow_2 : decode cL_putBelow 2 = .ok (.aload_n 0, 1) := by decide +kernel
theorem dL_putBelow_3 : decode cL_putBelow 3 = .ok (.iload_n 1, 1) := by decide +kernel
theorem dL_putBelow_4 : decode cL_putBelow 4 = .ok (.invokevirtual 17, 3) := by decide +kernel
theorem dL_putBelow_7 : decode cL_putBelow 7 = .ok (.lastore, 1) := by decide +kernel
theorem dL_putBelow_8 : decode cL_putBelow 8 = .ok (.goto 6, 3) := by decide +kernel
theorem dL_putBelow_11 : decode cL_putBelow 11 = .ok (.astore_n 3, 1) := by decide +kernel
theorem dL_putBelow_12 : decode cL_putBelow 12 = .ok (.iconst 1, 1) := by decide +kernel
theorem dL_putBelow_13 : decode cL_putBelow 13 = .ok (.ireturn, 1) := by decide +kernel
theorem dL_putBelow_14 : decode cL_putBelow 14 = .ok (.iconst 0, 1) := by decide +kernel
theorem dL_putBelow_15 : decode cL_putBelow 15 = .ok (.ireturn, 1) := by decide +kernel
set_option maxRecDepth 20000 in
theorem ggL_turn_X1_turn : GoodIn wsL_turn wsX1_turn := goodIn_ca (goodIn_ca (goodIn_r _ [6, 7, 8, 9, 10, 5, 11, 12, 13, 14, 15, 16, 17, 18, 19, 20, 21, 22, 23, 24, 25, 26, 27, 28, 29, 30, 31, 32, 33, 34, 35, 36, 37, 38, 39] (by decide +kernel) (by decide +kernel)) (goodIn_sub (fun _ h => List.mem_cons_of_mem _ (List.mem_append_left _ (List.mem_append_right _ h))) (by decide +kernel))) (goodIn_sub (fun _ h => List.mem_cons_of_mem _ (List.mem_append_right _ h)) (by decide +kernel))
set_option maxRecDepth 20000 in
theorem gL_turn_X1_turn : GoodIn wsL_turn (wsV RL 21 RX1 yX1_turn wsX1_turn) := goodIn_app (goodIn_of _ (by decide +kernel)) ggL_turn_X1_turn
theorem dL_turn_0 : decode cL_turn 0 = .ok (.aload_n 2, 1) := by decide +kernel
theorem dL_turn_1 : decode cL_turn 1 = .ok (.iconst 0, 1) := by decide +kernel
theorem dL_turn_2 : decode cL_turn 2 = .ok (.aload_n 0, 1) := by decide +kernel
theorem dL_turn_3 : decode cL_turn 3 = .ok (.iload_n 1, 1) := by decide +kernel
theorem dL_turn_4 : decode cL_turn 4 = .ok (.invokevirtual 21, 3) := by decide +kernel
theorem dL_turn_7 : decode cL_turn 7 = .ok (.lastore, 1) := by decide +kernel
theorem dL_turn_8 : decode cL_turn 8 = .ok (.goto 6, 3) := by decide +kernel
theorem dL_turn_11 : decode cL_turn 11 = .ok (.astore_n 3, 1) := by decide +kernel
theorem dL_turn_12 : decode cL_turn 12 = .ok (.iconst 1, 1) := by decide +kernel
theorem dL_turn_13 : decode cL_turn 13 = .ok (.ireturn, 1) := by decide +kernel
theorem dL_turn_14 : decode cL_turn 14 = .ok (.iconst 0, 1) := by decide +kernel
theorem dL_turn_15 : decode cL_turn 15 = .ok (.ireturn, 1) := by decide +kernel
set_option maxRecDepth 20000 in
theorem ggL_eighths_X1_eighths : GoodIn wsL_eighths wsX1_eighths := goodIn_ca (goodIn_ca (goodIn_r _ [6, 7, 8, 9, 5, 10, 11, 12, 13, 14, 15, 16] (by decide +kernel) (by decide +kernel)) (goodIn_sub (fun _ h => List.mem_cons_of_mem _ (List.mem_append_left _ (List.mem_append_right _ h))) (by decide +kernel))) (goodIn_sub (fun _ h => List.mem_cons_of_mem _ (List.mem_append_right _ h)) (by decide +kernel))
set_option maxRecDepth 20000 in
theorem gL_eighths_X1_eighths : GoodIn wsL_eighths (wsV RL 24 RX1 yX1_eighths wsX1_eighths) := goodIn_app (goodIn_of _ (by decide +kernel)) ggL_eighths_X1_eighths
theorem dL_eighths_0 : decode cL_eighths 0 = .ok (.aload_n 2, 1) := by decide +kernel
theorem dL_eighths_1 : decode cL_eighths 1 = .ok (.iconst 0, 1) := by decide +kernel
theorem dL_eighths_2 : decode cL_eighths 2 = .ok (.aload_n 0, 1) := by decide +kernel
theorem dL_eighths_3 : decode cL_eighths 3 = .ok (.iload_n 1, 1) := by decide +kernel
theorem dL_eighths_4 : decode cL_eighths 4 = .ok (.invokevirtual 24, 3) := by decide +kernel
theorem dL_eighths_7 : decode cL_eighths 7 = .ok (.i2l, 1) := by decide +kernel
theorem dL_eighths_8 : decode cL_eighths 8 = .ok (.lastore, 1) := by decide +kernel
theorem dL_eighths_9 : decode cL_eighths 9 = .ok (.goto 6, 3) := by decide +kernel
theorem dL_eighths_12 : decode cL_eighths 12 = .ok (.astore_n 3, 1) := by decide +kernel
theorem dL_eighths_13 : decode cL_eighths 13 = .ok (.iconst 1, 1) := by decide +kernel
theorem dL_eighths_14 : decode cL_eighths 14 = .ok (.ireturn, 1) := by decide +kernel
theorem dL_eighths_15 : decode cL_eighths 15 = .ok (.iconst 0, 1) := by decide +kernel
theorem dL_eighths_16 : decode cL_eighths 16 = .ok (.ireturn, 1) := by decide +kernel
set_option maxRecDepth 20000 in
theorem ggL_bits_X1_bits : GoodIn wsL_bits wsX1_bits := goodIn_ca (goodIn_ca (goodIn_r _ [6, 7, 8, 5, 9, 10, 11, 12, 13, 14, 15, 16, 17, 18, 19, 20, 21, 22, 23, 24, 25, 26, 27, 28, 29, 30, 31, 32, 33, 34, 35] (by decide +kernel) (by decide +kernel)) (goodIn_sub (fun _ h => List.mem_cons_of_mem _ (List.mem_append_right _ h)) (by decide +kernel))) (goodIn_sub (fun _ h => List.mem_cons_of_mem _ (List.mem_append_left _ (List.mem_append_right _ h))) (by decide +kernel))
set_option maxRecDepth 20000 in
theorem gL_bits_X1_bits : GoodIn wsL_bits (wsV RL 28 RX1 yX1_bits wsX1_bits) := goodIn_app (goodIn_of _ (by decide +kernel)) ggL_bits_X1_bits
theorem dL_bits_0 : decode cL_bits 0 = .ok (.aload_n 2, 1) := by decide +kernel
theorem dL_bits_1 : decode cL_bits 1 = .ok (.iconst 0, 1) := by decide +kernel
theorem dL_bits_2 : decode cL_bits 2 = .ok (.aload_n 0, 1) := by decide +kernel
theorem dL_bits_3 : decode cL_bits 3 = .ok (.iload_n 1, 1) := by decide +kernel
theorem dL_bits_4 : decode cL_bits 4 = .ok (.invokevirtual 28, 3) := by decide +kernel
theorem dL_bits_7 : decode cL_bits 7 = .ok (.lastore, 1) := by decide +kernel
theorem dL_bits_8 : decode cL_bits 8 = .ok (.goto 6, 3) := by decide +kernel
theorem dL_bits_11 : decode cL_bits 11 = .ok (.astore_n 3, 1) := by decide +kernel
theorem dL_bits_12 : decode cL_bits 12 = .ok (.iconst 1, 1) := by decide +kernel
theorem dL_bits_13 : decode cL_bits 13 = .ok (.ireturn, 1) := by decide +kernel
theorem dL_bits_14 : decode cL_bits 14 = .ok (.iconst 0, 1) := by decide +kernel
theorem dL_bits_15 : decode cL_bits 15 = .ok (.ireturn, 1) := by decide +kernel
set_option maxRecDepth 20000 in
theorem ggL_number_X1_number : GoodIn wsL_number wsX1_number := goodIn_ca (goodIn_ca (goodIn_r _ [6, 7, 8, 9, 10, 11, 12, 5, 13, 14, 15, 16, 17, 18, 19] (by decide +kernel) (by decide +kernel)) (goodIn_sub (fun _ h => List.mem_cons_of_mem _ (List.mem_append_left _ (List.mem_append_right _ h))) (by decide +kernel))) (goodIn_sub (fun _ h => List.mem_cons_of_mem _ (List.mem_append_right _ h)) (by decide +kernel))
set_option maxRecDepth 20000 in
theorem gL_number_X1_number : GoodIn wsL_number (wsV RL 31 RX1 yX1_number wsX1_number) := goodIn_app (goodIn_of _ (by decide +kernel)) ggL_number_X1_number
theorem dL_number_0 : decode cL_number 0 = .ok (.aload_n 2, 1) := by decide +kernel
theorem dL_number_1 : decode cL_number 1 = .ok (.iconst 0, 1) := by decide +kernel
theorem dL_number_2 : decode cL_number 2 = .ok (.aload_n 0, 1) := by decide +kernel
theorem dL_number_3 : decode cL_number 3 = .ok (.iload_n 1, 1) := by decide +kernel
theorem dL_number_4 : decode cL_number 4 = .ok (.invokevirtual 31, 3) := by decide +kernel
theorem dL_number_7 : decode cL_number 7 = .ok (.dastore, 1) := by decide +kernel
theorem dL_number_8 : decode cL_number 8 = .ok (.goto 6, 3) := by decide +kernel
theorem dL_number_11 : decode cL_number 11 = .ok (.astore_n 3, 1) := by decide +kernel
theorem dL_number_12 : decode cL_number 12 = .ok (.iconst 1, 1) := by decide +kernel
theorem dL_number_13 : decode cL_number 13 = .ok (.ireturn, 1) := by decide +kernel
theorem dL_number_14 : decode cL_number 14 = .ok (.iconst 0, 1) := by decide +kernel
theorem dL_number_15 : decode cL_number 15 = .ok (.ireturn, 1) := by decide +kernel
set_option maxRecDepth 20000 in
theorem ggL_rest_X1_rest : GoodIn wsL_rest wsX1_rest := goodIn_ca (goodIn_ca (goodIn_ca (goodIn_ca (goodIn_r _ [7, 8, 9, 10, 6, 11, 12, 13, 14, 15, 16, 17, 18, 19, 20, 21, 22, 23, 24, 25, 26, 27, 28, 29, 30, 31, 32, 33, 34, 35, 36, 37, 38, 39, 40, 41, 42, 43, 44, 45, 46, 47, 48, 49, 50, 51, 52, 53, 54, 55, 56, 57, 58, 59, 60, 61, 62, 63, 64, 65, 66, 67, 68, 69, 70] (by decide +kernel) (by decide +kernel)) (goodIn_sub (fun _ h => List.mem_cons_of_mem _ (List.mem_append_left _ (List.mem_append_left _ (List.mem_append_left _ (List.mem_append_right _ h))))) (by decide +kernel))) (goodIn_sub (fun _ h => List.mem_cons_of_mem _ (List.mem_append_left _ (List.mem_append_left _ (List.mem_append_right _ h)))) (by decide +kernel))) (goodIn_sub (fun _ h => List.mem_cons_of_mem _ (List.mem_append_left _ (List.mem_append_right _ h))) (by decide +kernel))) (goodIn_sub (fun _ h => List.mem_cons_of_mem _ (List.mem_append_right _ h)) (by decide +kernel))
set_option maxRecDepth 20000 in
theorem gL_rest_X1_rest : GoodIn wsL_rest (wsV RL 35 RX1 yX1_rest wsX1_rest) := goodIn_app (goodIn_of _ (by decide +kernel)) ggL_rest_X1_rest
theorem dL_rest_0 : decode cL_rest 0 = .ok (.aload 4, 2) := by decide +kernel
theorem dL_rest_2 : decode cL_rest 2 = .ok (.iconst 0, 1) := by decide +kernel
theorem dL_rest_3 : decode cL_rest 3 = .ok (.aload_n 0, 1) := by decide +kernel
theorem dL_rest_4 : decode cL_rest 4 = .ok (.iload_n 1, 1) := by decide +kernel
theorem dL_rest_5 : decode cL_rest 5 = .ok (.iload_n 2, 1) := by decide +kernel
theorem dL_rest_6 : decode cL_rest 6 = .ok (.iload_n 3, 1) := by decide +kernel
theorem dL_rest_7 : decode cL_rest 7 = .ok (.invokevirtual 35, 3) := by decide +kernel
theorem dL_rest_10 : decode cL_rest 10 = .ok (.lastore, 1) := by decide +kernel
theorem dL_rest_11 : decode cL_rest 11 = .ok (.goto 11, 3) := by decide +kernel
theorem dL_rest_14 : decode cL_rest 14 = .ok (.astore 5, 2) := by decide +kernel
theorem dL_rest_16 : decode cL_rest 16 = .ok (.iconst 1, 1) := by decide +kernel
theorem dL_rest_17 : decode cL_rest 17 = .ok (.ireturn, 1) := by decide +kernel
theorem dL_rest_18 : decode cL_rest 18 = .ok (.astore 5, 2) := by decide +kernel
theorem dL_rest_20 : decode cL_rest 20 = .ok (.iconst 2, 1) := by decide +kernel
theorem dL_rest_21 : decode cL_rest 21 = .ok (.ireturn, 1) := by decide +kernel
theorem dL_rest_22 : decode cL_rest 22 = .ok (.iconst 0, 1) := by decide +kernel
theorem dL_rest_23 : decode cL_rest 23 = .ok (.ireturn, 1) := by decide +kernel
set_option maxRecDepth 20000 in
theorem ggL_restToo_X1_restToo : GoodIn wsL_restToo wsX1_restToo := goodIn_ca (goodIn_ca (goodIn_ca (goodIn_ca (goodIn_r _ [7, 8, 9, 10, 6, 11, 12, 13, 14, 15, 16, 17, 18, 19, 20, 21, 22, 23, 24, 25, 26, 27, 28, 29, 30, 31, 32, 33, 34, 35, 36, 37, 38, 39, 40, 41, 42, 43, 44, 45, 46, 47, 48, 49, 50, 51, 52, 53, 54, 55, 56, 57, 58, 59, 60, 61, 62, 63, 64, 65, 66, 67, 68, 69, 70] (by decide +kernel) (by decide +kernel)) (goodIn_sub (fun _ h => List.mem_cons_of_mem _ (List.mem_append_left _ (List.mem_append_left _ (List.mem_append_left _ (List.mem_append_right _ h))))) (by decide +kernel))) (goodIn_sub (fun _ h => List.mem_cons_of_mem _ (List.mem_append_left _ (List.mem_append_left _ (List.mem_append_right _ h)))) (by decide +kernel))) (goodIn_sub (fun _ h => List.mem_cons_of_mem _ (List.mem_append_left _ (List.mem_append_right _ h))) (by decide +kernel))) (goodIn_sub (fun _ h => List.mem_cons_of_mem _ (List.mem_append_right _ h)) (by decide +kernel))
set_option maxRecDepth 20000 in
theorem gL_restToo_X1_restToo : GoodIn wsL_restToo (wsV RL 41 RX1 yX1_restToo wsX1_restToo) := goodIn_app (goodIn_of _ (by decide +kernel)) ggL_restToo_X1_restToo
theorem dL_restToo_0 : decode cL_restToo 0 = .ok (.aload 4, 2) := by decide +kernel
theorem dL_restToo_2 : decode cL_restToo 2 = .ok (.iconst 0, 1) := by decide +kernel
theorem dL_restToo_3 : decode cL_restToo 3 = .ok (.aload_n 0, 1) := by decide +kernel
theorem dL_restToo_4 : decode cL_restToo 4 = .ok (.iload_n 1, 1) := by decide +kernel
theorem dL_restToo_5 : decode cL_restToo 5 = .ok (.iload_n 2, 1) := by decide +kernel
theorem dL_restToo_6 : decode cL_restToo 6 = .ok (.iload_n 3, 1) := by decide +kernel
theorem dL_restToo_7 : decode cL_restToo 7 = .ok (.invokevirtual 41, 3) := by decide +kernel
theorem dL_restToo_10 : decode cL_restToo 10 = .ok (.lastore, 1) := by decide +kernel
theorem dL_restToo_11 : decode cL_restToo 11 = .ok (.goto 11, 3) := by decide +kernel
theorem dL_restToo_14 : decode cL_restToo 14 = .ok (.astore 5, 2) := by decide +kernel
theorem dL_restToo_16 : decode cL_restToo 16 = .ok (.iconst 1, 1) := by decide +kernel
theorem dL_restToo_17 : decode cL_restToo 17 = .ok (.ireturn, 1) := by decide +kernel
theorem dL_restToo_18 : decode cL_restToo 18 = .ok (.astore 5, 2) := by decide +kernel
theorem dL_restToo_20 : decode cL_restToo 20 = .ok (.iconst 2, 1) := by decide +kernel
theorem dL_restToo_21 : decode cL_restToo 21 = .ok (.ireturn, 1) := by decide +kernel
theorem dL_restToo_22 : decode cL_restToo 22 = .ok (.iconst 0, 1) := by decide +kernel
theorem dL_restToo_23 : decode cL_restToo 23 = .ok (.ireturn, 1) := by decide +kernel
set_option maxRecDepth 20000 in
theorem ggL_times_X1_times : GoodIn wsL_times wsX1_times := goodIn_ca (goodIn_ca (goodIn_ca (goodIn_ca (goodIn_r _ [7, 8, 9, 10, 11, 6, 12, 13, 14, 15, 16, 17, 18, 19, 20, 21, 22, 23, 24, 25, 26, 27, 28, 29, 30, 31, 32, 33, 34, 35, 36] (by decide +kernel) (by decide +kernel)) (goodIn_sub (fun _ h => List.mem_cons_of_mem _ (List.mem_append_left _ (List.mem_append_left _ (List.mem_append_left _ (List.mem_append_right _ h))))) (by decide +kernel))) (goodIn_sub (fun _ h => List.mem_cons_of_mem _ (List.mem_append_left _ (List.mem_append_left _ (List.mem_append_right _ h)))) (by decide +kernel))) (goodIn_sub (fun _ h => List.mem_cons_of_mem _ (List.mem_append_left _ (List.mem_append_right _ h))) (by decide +kernel))) (goodIn_sub (fun _ h => List.mem_cons_of_mem _ (List.mem_append_right _ h)) (by decide +kernel))
set_option maxRecDepth 20000 in
theorem gL_times_X1_times : GoodIn wsL_times (wsV RL 44 RX1 yX1_times wsX1_times) := goodIn_app (goodIn_of _ (by decide +kernel)) ggL_times_X1_times
theorem dL_times_0 : decode cL_times 0 = .ok (.aload_n 3, 1) := by decide +kernel
theorem dL_times_1 : decode cL_times 1 = .ok (.iconst 0, 1) := by decide +kernel
theorem dL_times_2 : decode cL_times 2 = .ok (.aload_n 0, 1) := by decide +kernel
theorem dL_times_3 : decode cL_times 3 = .ok (.iload_n 1, 1) := by decide +kernel
theorem dL_times_4 : decode cL_times 4 = .ok (.iload_n 2, 1) := by decide +kernel
theorem dL_times_5 : decode cL_times 5 = .ok (.invokevirtual 44, 3) := by decide +kernel
theorem dL_times_8 : decode cL_times 8 = .ok (.i2l, 1) := by decide +kernel
theorem dL_times_9 : decode cL_times 9 = .ok (.lastore, 1) := by decide +kernel
theorem dL_times_10 : decode cL_times 10 = .ok (.goto 11, 3) := by decide +kernel
theorem dL_times_13 : decode cL_times 13 = .ok (.astore 4, 2) := by decide +kernel
theorem dL_times_15 : decode cL_times 15 = .ok (.iconst 1, 1) := by decide +kernel
theorem dL_times_16 : decode cL_times 16 = .ok (.ireturn, 1) := by decide +kernel
theorem dL_times_17 : decode cL_times 17 = .ok (.astore 4, 2) := by decide +kernel
theorem dL_times_19 : decode cL_times 19 = .ok (.iconst 2, 1) := by decide +kernel
theorem dL_times_20 : decode cL_times 20 = .ok (.ireturn, 1) := by decide +kernel
theorem dL_times_21 : decode cL_times 21 = .ok (.iconst 0, 1) := by decide +kernel
theorem dL_times_22 : decode cL_times 22 = .ok (.ireturn, 1) := by decide +kernel
set_option maxRecDepth 20000 in
theorem ggL_isHalf_X1_isHalf : GoodIn wsL_isHalf wsX1_isHalf := goodIn_ca (goodIn_ca (goodIn_ca (goodIn_ca (goodIn_r _ [7, 8, 9, 10, 11, 12, 13, 14, 15, 6, 16, 17, 18, 19, 20, 21, 22, 23, 24, 25, 26, 27, 28, 29, 30, 31, 32, 33, 34, 35, 36, 37, 38, 39] (by decide +kernel) (by decide +kernel)) (goodIn_sub (fun _ h => List.mem_cons_of_mem _ (List.mem_append_left _ (List.mem_append_left _ (List.mem_append_left _ (List.mem_append_right _ h))))) (by decide +kernel))) (goodIn_sub (fun _ h => List.mem_cons_of_mem _ (List.mem_append_left _ (List.mem_append_left _ (List.mem_append_right _ h)))) (by decide +kernel))) (goodIn_sub (fun _ h => List.mem_cons_of_mem _ (List.mem_append_left _ (List.mem_append_right _ h))) (by decide +kernel))) (goodIn_sub (fun _ h => List.mem_cons_of_mem _ (List.mem_append_right _ h)) (by decide +kernel))
set_option maxRecDepth 20000 in
theorem gL_isHalf_X1_isHalf : GoodIn wsL_isHalf (wsV RL 48 RX1 yX1_isHalf wsX1_isHalf) := goodIn_app (goodIn_of _ (by decide +kernel)) ggL_isHalf_X1_isHalf
theorem dL_isHalf_0 : decode cL_isHalf 0 = .ok (.aload_n 3, 1) := by decide +kernel
theorem dL_isHalf_1 : decode cL_isHalf 1 = .ok (.iconst 0, 1) := by decide +kernel
theorem dL_isHalf_2 : decode cL_isHalf 2 = .ok (.aload_n 0, 1) := by decide +kernel
theorem dL_isHalf_3 : decode cL_isHalf 3 = .ok (.iload_n 1, 1) := by decide +kernel
theorem dL_isHalf_4 : decode cL_isHalf 4 = .ok (.iload_n 2, 1) := by decide +kernel
theorem dL_isHalf_5 : decode cL_isHalf 5 = .ok (.invokevirtual 48, 3) := by decide +kernel
theorem dL_isHalf_8 : decode cL_isHalf 8 = .ok (.ifCond .eq 7, 3) := by decide +kernel
theorem dL_isHalf_11 : decode cL_isHalf 11 = .ok (.lconst 1, 1) := by decide +kernel
theorem dL_isHalf_12 : decode cL_isHalf 12 = .ok (.goto 4, 3) := by decide +kernel
theorem dL_isHalf_15 : decode cL_isHalf 15 = .ok (.lconst 0, 1) := by decide +kernel
theorem dL_isHalf_16 : decode cL_isHalf 16 = .ok (.lastore, 1) := by decide +kernel
theorem dL_isHalf_17 : decode cL_isHalf 17 = .ok (.goto 11, 3) := by decide +kernel
theorem dL_isHalf_20 : decode cL_isHalf 20 = .ok (.astore 4, 2) := by decide +kernel
theorem dL_isHalf_22 : decode cL_isHalf 22 = .ok (.iconst 1, 1) := by decide +kernel
theorem dL_isHalf_23 : decode cL_isHalf 23 = .ok (.ireturn, 1) := by decide +kernel
theorem dL_isHalf_24 : decode cL_isHalf 24 = .ok (.astore 4, 2) := by decide +kernel
theorem dL_isHalf_26 : decode cL_isHalf 26 = .ok (.iconst 2, 1) := by decide +kernel
theorem dL_isHalf_27 : decode cL_isHalf 27 = .ok (.ireturn, 1) := by decide +kernel
theorem dL_isHalf_28 : decode cL_isHalf 28 = .ok (.iconst 0, 1) := by decide +kernel
theorem dL_isHalf_29 : decode cL_isHalf 29 = .ok (.ireturn, 1) := by decide +kernel
set_option maxRecDepth 20000 in
theorem ggL_cut_X1_cut : GoodIn wsL_cut wsX1_cut := goodIn_ca (goodIn_ca (goodIn_ca (goodIn_ca (goodIn_r _ [7, 8, 9, 10, 6, 11, 12, 13, 14, 15, 16, 17, 18, 19, 20, 21, 22, 23, 24, 25, 26, 27, 28, 29, 30, 31, 32, 33, 34, 35, 36, 37, 38, 39, 40, 41, 42, 43, 44, 45, 46, 47, 48, 49, 50, 51, 52, 53, 54, 55, 56, 57] (by decide +kernel) (by decide +kernel)) (goodIn_sub (fun _ h => List.mem_cons_of_mem _ (List.mem_append_left _ (List.mem_append_left _ (List.mem_append_left _ (List.mem_append_right _ h))))) (by decide +kernel))) (goodIn_sub (fun _ h => List.mem_cons_of_mem _ (List.mem_append_left _ (List.mem_append_left _ (List.mem_append_right _ h)))) (by decide +kernel))) (goodIn_sub (fun _ h => List.mem_cons_of_mem _ (List.mem_append_left _ (List.mem_append_right _ h))) (by decide +kernel))) (goodIn_sub (fun _ h => List.mem_cons_of_mem _ (List.mem_append_right _ h)) (by decide +kernel))
set_option maxRecDepth 20000 in
theorem gL_cut_X1_cut : GoodIn wsL_cut (wsV RL 52 RX1 yX1_cut wsX1_cut) := goodIn_app (goodIn_of _ (by decide +kernel)) ggL_cut_X1_cut
theorem dL_cut_0 : decode cL_cut 0 = .ok (.aload 4, 2) := by decide +kernel
theorem dL_cut_2 : decode cL_cut 2 = .ok (.iconst 0, 1) := by decide +kernel
theorem dL_cut_3 : decode cL_cut 3 = .ok (.aload_n 0, 1) := by decide +kernel
theorem dL_cut_4 : decode cL_cut 4 = .ok (.iload_n 1, 1) := by decide +kernel
theorem dL_cut_5 : decode cL_cut 5 = .ok (.iload_n 2, 1) := by decide +kernel
theorem dL_cut_6 : decode cL_cut 6 = .ok (.iload_n 3, 1) := by decide +kernel
theorem dL_cut_7 : decode cL_cut 7 = .ok (.invokevirtual 52, 3) := by decide +kernel
theorem dL_cut_10 : decode cL_cut 10 = .ok (.lastore, 1) := by decide +kernel
theorem dL_cut_11 : decode cL_cut 11 = .ok (.goto 11, 3) := by decide +kernel
theorem dL_cut_14 : decode cL_cut 14 = .ok (.astore 5, 2) := by decide +kernel
theorem dL_cut_16 : decode cL_cut 16 = .ok (.iconst 1, 1) := by decide +kernel
theorem dL_cut_17 : decode cL_cut 17 = .ok (.ireturn, 1) := by decide +kernel
theorem dL_cut_18 : decode cL_cut 18 = .ok (.astore 5, 2) := by decide +kernel
theorem dL_cut_20 : decode cL_cut 20 = .ok (.iconst 2, 1) := by decide +kernel
theorem dL_cut_21 : decode cL_cut 21 = .ok (.ireturn, 1) := by decide +kernel
theorem dL_cut_22 : decode cL_cut 22 = .ok (.iconst 0, 1) := by decide +kernel
theorem dL_cut_23 : decode cL_cut 23 = .ok (.ireturn, 1) := by decide +kernel
set_option maxRecDepth 20000 in
theorem ggL_apart_X1_apart : GoodIn wsL_apart wsX1_apart := goodIn_ca (goodIn_ca (goodIn_ca (goodIn_ca (goodIn_r _ [7, 8, 9, 10, 11, 6, 12, 13, 14, 15, 16, 17, 18, 19, 20, 21, 22, 23, 24, 25, 26, 27, 28, 29, 30, 31, 32, 33, 34, 35, 36, 37, 38, 39, 40, 41, 42, 43] (by decide +kernel) (by decide +kernel)) (goodIn_sub (fun _ h => List.mem_cons_of_mem _ (List.mem_append_left _ (List.mem_append_left _ (List.mem_append_left _ (List.mem_append_right _ h))))) (by decide +kernel))) (goodIn_sub (fun _ h => List.mem_cons_of_mem _ (List.mem_append_left _ (List.mem_append_left _ (List.mem_append_right _ h)))) (by decide +kernel))) (goodIn_sub (fun _ h => List.mem_cons_of_mem _ (List.mem_append_left _ (List.mem_append_right _ h))) (by decide +kernel))) (goodIn_sub (fun _ h => List.mem_cons_of_mem _ (List.mem_append_right _ h)) (by decide +kernel))
set_option maxRecDepth 20000 in
theorem gL_apart_X1_apart : GoodIn wsL_apart (wsV RL 55 RX1 yX1_apart wsX1_apart) := goodIn_app (goodIn_of _ (by decide +kernel)) ggL_apart_X1_apart
theorem dL_apart_0 : decode cL_apart 0 = .ok (.aload_n 3, 1) := by decide +kernel
theorem dL_apart_1 : decode cL_apart 1 = .ok (.iconst 0, 1) := by decide +kernel
theorem dL_apart_2 : decode cL_apart 2 = .ok (.aload_n 0, 1) := by decide +kernel
theorem dL_apart_3 : decode cL_apart 3 = .ok (.iload_n 1, 1) := by decide +kernel
theorem dL_apart_4 : decode cL_apart 4 = .ok (.iload_n 2, 1) := by decide +kernel
theorem dL_apart_5 : decode cL_apart 5 = .ok (.invokevirtual 55, 3) := by decide +kernel
theorem dL_apart_8 : decode cL_apart 8 = .ok (.i2l, 1) := by decide +kernel
theorem dL_apart_9 : decode cL_apart 9 = .ok (.lastore, 1) := by decide +kernel
theorem dL_apart_10 : decode cL_apart 10 = .ok (.goto 11, 3) := by decide +kernel
theorem dL_apart_13 : decode cL_apart 13 = .ok (.astore 4, 2) := by decide +kernel
theorem dL_apart_15 : decode cL_apart 15 = .ok (.iconst 1, 1) := by decide +kernel
theorem dL_apart_16 : decode cL_apart 16 = .ok (.ireturn, 1) := by decide +kernel
theorem dL_apart_17 : decode cL_apart 17 = .ok (.astore 4, 2) := by decide +kernel
theorem dL_apart_19 : decode cL_apart 19 = .ok (.iconst 2, 1) := by decide +kernel
theorem dL_apart_20 : decode cL_apart 20 = .ok (.ireturn, 1) := by decide +kernel
theorem dL_apart_21 : decode cL_apart 21 = .ok (.iconst 0, 1) := by decide +kernel
theorem dL_apart_22 : decode cL_apart 22 = .ok (.ireturn, 1) := by decide +kernel
set_option maxRecDepth 20000 in
theorem ggL_residue_X1_residue : GoodIn wsL_residue wsX1_residue := goodIn_ca (goodIn_ca (goodIn_ca (goodIn_ca (goodIn_r _ [7, 8, 9, 10, 6, 11, 12, 13, 14, 15, 16, 17, 18, 19, 20, 21, 22, 23, 24, 25, 26, 27, 28, 29, 30, 31, 32, 33, 34, 35, 36, 37, 38, 39, 40, 41, 42, 43, 44, 45, 46, 47, 48, 49, 50, 51, 52, 53] (by decide +kernel) (by decide +kernel)) (goodIn_sub (fun _ h => List.mem_cons_of_mem _ (List.mem_append_left _ (List.mem_append_left _ (List.mem_append_left _ (List.mem_append_right _ h))))) (by decide +kernel))) (goodIn_sub (fun _ h => List.mem_cons_of_mem _ (List.mem_append_left _ (List.mem_append_left _ (List.mem_append_right _ h)))) (by decide +kernel))) (goodIn_sub (fun _ h => List.mem_cons_of_mem _ (List.mem_append_left _ (List.mem_append_right _ h))) (by decide +kernel))) (goodIn_sub (fun _ h => List.mem_cons_of_mem _ (List.mem_append_right _ h)) (by decide +kernel))
set_option maxRecDepth 20000 in
theorem gL_residue_X1_residue : GoodIn wsL_residue (wsV RL 58 RX1 yX1_residue wsX1_residue) := goodIn_app (goodIn_of _ (by decide +kernel)) ggL_residue_X1_residue
theorem dL_residue_0 : decode cL_residue 0 = .ok (.aload 4, 2) := by decide +kernel
theorem dL_residue_2 : decode cL_residue 2 = .ok (.iconst 0, 1) := by decide +kernel
theorem dL_residue_3 : decode cL_residue 3 = .ok (.aload_n 0, 1) := by decide +kernel
theorem dL_residue_4 : decode cL_residue 4 = .ok (.iload_n 1, 1) := by decide +kernel
theorem dL_residue_5 : decode cL_residue 5 = .ok (.iload_n 2, 1) := by decide +kernel
theorem dL_residue_6 : decode cL_residue 6 = .ok (.iload_n 3, 1) := by decide +kernel
theorem dL_residue_7 : decode cL_residue 7 = .ok (.invokevirtual 58, 3) := by decide +kernel
theorem dL_residue_10 : decode cL_residue 10 = .ok (.lastore, 1) := by decide +kernel
theorem dL_residue_11 : decode cL_residue 11 = .ok (.goto 11, 3) := by decide +kernel
theorem dL_residue_14 : decode cL_residue 14 = .ok (.astore 5, 2) := by decide +kernel
theorem dL_residue_16 : decode cL_residue 16 = .ok (.iconst 1, 1) := by decide +kernel
theorem dL_residue_17 : decode cL_residue 17 = .ok (.ireturn, 1) := by decide +kernel
theorem dL_residue_18 : decode cL_residue 18 = .ok (.astore 5, 2) := by decide +kernel
theorem dL_residue_20 : decode cL_residue 20 = .ok (.iconst 2, 1) := by decide +kernel
theorem dL_residue_21 : decode cL_residue 21 = .ok (.ireturn, 1) := by decide +kernel
theorem dL_residue_22 : decode cL_residue 22 = .ok (.iconst 0, 1) := by decide +kernel
theorem dL_residue_23 : decode cL_residue 23 = .ok (.ireturn, 1) := by decide +kernel
set_option maxRecDepth 20000 in
theorem ggL_plus_X1_plus : GoodIn wsL_plus wsX1_plus := goodIn_ca (goodIn_ca (goodIn_ca (goodIn_ca (goodIn_r _ [7, 8, 9, 10, 6, 11, 12, 13, 14, 15, 16, 17, 18, 19, 20, 21, 22, 23, 24, 25, 26, 27, 28, 29, 30, 31, 32, 33, 34, 35, 36, 37, 38, 39, 40, 41, 42, 43, 44, 45, 46, 47, 48, 49, 50, 51, 52, 53] (by decide +kernel) (by decide +kernel)) (goodIn_sub (fun _ h => List.mem_cons_of_mem _ (List.mem_append_left _ (List.mem_append_left _ (List.mem_append_left _ (List.mem_append_right _ h))))) (by decide +kernel))) (goodIn_sub (fun _ h => List.mem_cons_of_mem _ (List.mem_append_left _ (List.mem_append_left _ (List.mem_append_right _ h)))) (by decide +kernel))) (goodIn_sub (fun _ h => List.mem_cons_of_mem _ (List.mem_append_left _ (List.mem_append_right _ h))) (by decide +kernel))) (goodIn_sub (fun _ h => List.mem_cons_of_mem _ (List.mem_append_right _ h)) (by decide +kernel))
set_option maxRecDepth 20000 in
theorem gL_plus_X1_plus : GoodIn wsL_plus (wsV RL 61 RX1 yX1_plus wsX1_plus) := goodIn_app (goodIn_of _ (by decide +kernel)) ggL_plus_X1_plus
theorem dL_plus_0 : decode cL_plus 0 = .ok (.aload 5, 2) := by decide +kernel
theorem dL_plus_2 : decode cL_plus 2 = .ok (.iconst 0, 1) := by decide +kernel
theorem dL_plus_3 : decode cL_plus 3 = .ok (.aload_n 0, 1) := by decide +kernel
theorem dL_plus_4 : decode cL_plus 4 = .ok (.iload_n 1, 1) := by decide +kernel
theorem dL_plus_5 : decode cL_plus 5 = .ok (.iload_n 2, 1) := by decide +kernel
theorem dL_plus_6 : decode cL_plus 6 = .ok (.iload_n 3, 1) := by decide +kernel
theorem dL_plus_7 : decode cL_plus 7 = .ok (.iload 4, 2) := by decide +kernel
theorem dL_plus_9 : decode cL_plus 9 = .ok (.invokevirtual 61, 3) := by decide +kernel
theorem dL_plus_12 : decode cL_plus 12 = .ok (.lastore, 1) := by decide +kernel
theorem dL_plus_13 : decode cL_plus 13 = .ok (.goto 11, 3) := by decide +kernel
theorem dL_plus_16 : decode cL_plus 16 = .ok (.astore 6, 2) := by decide +kernel
theorem dL_plus_18 : decode cL_plus 18 = .ok (.iconst 1, 1) := by decide +kernel
theorem dL_plus_19 : decode cL_plus 19 = .ok (.ireturn, 1) := by decide +kernel
theorem dL_plus_20 : decode cL_plus 20 = .ok (.astore 6, 2) := by decide +kernel
theorem dL_plus_22 : decode cL_plus 22 = .ok (.iconst 2, 1) := by decide +kernel
theorem dL_plus_23 : decode cL_plus 23 = .ok (.ireturn, 1) := by decide +kernel
theorem dL_plus_24 : decode cL_plus 24 = .ok (.iconst 0, 1) := by decide +kernel
theorem dL_plus_25 : decode cL_plus 25 = .ok (.ireturn, 1) := by decide +kernel
set_option maxRecDepth 20000 in
theorem ggL_minus_X1_minus : GoodIn wsL_minus wsX1_minus := goodIn_ca (goodIn_ca (goodIn_ca (goodIn_ca (goodIn_r _ [7, 8, 9, 10, 6, 11, 12, 13, 14, 15, 16, 17, 18, 19, 20, 21, 22, 23, 24, 25, 26, 27, 28, 29, 30, 31, 32, 33, 34, 35, 36, 37, 38, 39, 40, 41, 42, 43, 44, 45, 46, 47, 48, 49, 50, 51, 52, 53] (by decide +kernel) (by decide +kernel)) (goodIn_sub (fun _ h => List.mem_cons_of_mem _ (List.mem_append_left _ (List.mem_append_left _ (List.mem_append_left _ (List.mem_append_right _ h))))) (by decide +kernel))) (goodIn_sub (fun _ h => List.mem_cons_of_mem _ (List.mem_append_left _ (List.mem_append_left _ (List.mem_append_right _ h)))) (by decide +kernel))) (goodIn_sub (fun _ h => List.mem_cons_of_mem _ (List.mem_append_left _ (List.mem_append_right _ h))) (by decide +kernel))) (goodIn_sub (fun _ h => List.mem_cons_of_mem _ (List.mem_append_right _ h)) (by decide +kernel))
set_option maxRecDepth 20000 in
theorem gL_minus_X1_minus : GoodIn wsL_minus (wsV RL 65 RX1 yX1_minus wsX1_minus) := goodIn_app (goodIn_of _ (by decide +kernel)) ggL_minus_X1_minus
theorem dL_minus_0 : decode cL_minus 0 = .ok (.aload 5, 2) := by decide +kernel
theorem dL_minus_2 : decode cL_minus 2 = .ok (.iconst 0, 1) := by decide +kernel
theorem dL_minus_3 : decode cL_minus 3 = .ok (.aload_n 0, 1) := by decide +kernel
theorem dL_minus_4 : decode cL_minus 4 = .ok (.iload_n 1, 1) := by decide +kernel
theorem dL_minus_5 : decode cL_minus 5 = .ok (.iload_n 2, 1) := by decide +kernel
theorem dL_minus_6 : decode cL_minus 6 = .ok (.iload_n 3, 1) := by decide +kernel
theorem dL_minus_7 : decode cL_minus 7 = .ok (.iload 4, 2) := by decide +kernel
theorem dL_minus_9 : decode cL_minus 9 = .ok (.invokevirtual 65, 3) := by decide +kernel
theorem dL_minus_12 : decode cL_minus 12 = .ok (.lastore, 1) := by decide +kernel
theorem dL_minus_13 : decode cL_minus 13 = .ok (.goto 11, 3) := by decide +kernel
theorem dL_minus_16 : decode cL_minus 16 = .ok (.astore 6, 2) := by decide +kernel
theorem dL_minus_18 : decode cL_minus 18 = .ok (.iconst 1, 1) := by decide +kernel
theorem dL_minus_19 : decode cL_minus 19 = .ok (.ireturn, 1) := by decide +kernel
theorem dL_minus_20 : decode cL_minus 20 = .ok (.astore 6, 2) := by decide +kernel
theorem dL_minus_22 : decode cL_minus 22 = .ok (.iconst 2, 1) := by decide +kernel
theorem dL_minus_23 : decode cL_minus 23 = .ok (.ireturn, 1) := by decide +kernel
theorem dL_minus_24 : decode cL_minus 24 = .ok (.iconst 0, 1) := by decide +kernel
theorem dL_minus_25 : decode cL_minus 25 = .ok (.ireturn, 1) := by decide +kernel
set_option maxRecDepth 20000 in
theorem ggL_many_X1_many : GoodIn wsL_many wsX1_many := goodIn_ca (goodIn_ca (goodIn_ca (goodIn_ca (goodIn_r _ [7, 8, 9, 10, 6, 11, 12, 13, 14, 15, 16, 17, 18, 19, 20, 21, 22, 23, 24, 25, 26, 27, 28, 29, 30, 31, 32, 33, 34, 35, 36, 37, 38, 39, 40, 41, 42, 43, 44, 45, 46, 47, 48, 49, 50, 51, 52, 53] (by decide +kernel) (by decide +kernel)) (goodIn_sub (fun _ h => List.mem_cons_of_mem _ (List.mem_append_left _ (List.mem_append_left _ (List.mem_append_left _ (List.mem_append_right _ h))))) (by decide +kernel))) (goodIn_sub (fun _ h => List.mem_cons_of_mem _ (List.mem_append_left _ (List.mem_append_left _ (List.mem_append_right _ h)))) (by decide +kernel))) (goodIn_sub (fun _ h => List.mem_cons_of_mem _ (List.mem_append_left _ (List.mem_append_right _ h))) (by decide +kernel))) (goodIn_sub (fun _ h => List.mem_cons_of_mem _ (List.mem_append_right _ h)) (by decide +kernel))
set_option maxRecDepth 20000 in
theorem gL_many_X1_many : GoodIn wsL_many (wsV RL 68 RX1 yX1_many wsX1_many) := goodIn_app (goodIn_of _ (by decide +kernel)) ggL_many_X1_many
theorem dL_many_0 : decode cL_many 0 = .ok (.aload 5, 2) := by decide +kernel
theorem dL_many_2 : decode cL_many 2 = .ok (.iconst 0, 1) := by decide +kernel
theorem dL_many_3 : decode cL_many 3 = .ok (.aload_n 0, 1) := by decide +kernel
theorem dL_many_4 : decode cL_many 4 = .ok (.iload_n 1, 1) := by decide +kernel
theorem dL_many_5 : decode cL_many 5 = .ok (.iload_n 2, 1) := by decide +kernel
theorem dL_many_6 : decode cL_many 6 = .ok (.iload_n 3, 1) := by decide +kernel
theorem dL_many_7 : decode cL_many 7 = .ok (.iload 4, 2) := by decide +kernel
theorem dL_many_9 : decode cL_many 9 = .ok (.invokevirtual 68, 3) := by decide +kernel
theorem dL_many_12 : decode cL_many 12 = .ok (.lastore, 1) := by decide +kernel
theorem dL_many_13 : decode cL_many 13 = .ok (.goto 11, 3) := by decide +kernel
theorem dL_many_16 : decode cL_many 16 = .ok (.astore 6, 2) := by decide +kernel
theorem dL_many_18 : decode cL_many 18 = .ok (.iconst 1, 1) := by decide +kernel
theorem dL_many_19 : decode cL_many 19 = .ok (.ireturn, 1) := by decide +kernel
theorem dL_many_20 : decode cL_many 20 = .ok (.astore 6, 2) := by decide +kernel
theorem dL_many_22 : decode cL_many 22 = .ok (.iconst 2, 1) := by decide +kernel
theorem dL_many_23 : decode cL_many 23 = .ok (.ireturn, 1) := by decide +kernel
theorem dL_many_24 : decode cL_many 24 = .ok (.iconst 0, 1) := by decide +kernel
theorem dL_many_25 : decode cL_many 25 = .ok (.ireturn, 1) := by decide +kernel
set_option maxRecDepth 20000 in
theorem ggL_product_X1_product : GoodIn wsL_product wsX1_product := goodIn_ca (goodIn_ca (goodIn_ca (goodIn_ca (goodIn_r _ [7, 8, 9, 10, 6, 11, 12, 13, 14, 15, 16, 17, 18, 19, 20, 21, 22, 23, 24, 25, 26, 27, 28, 29, 30, 31, 32, 33, 34, 35, 36, 37, 38, 39, 40, 41, 42, 43, 44, 45, 46, 47, 48, 49, 50, 51, 52, 53] (by decide +kernel) (by decide +kernel)) (goodIn_sub (fun _ h => List.mem_cons_of_mem _ (List.mem_append_left _ (List.mem_append_left _ (List.mem_append_left _ (List.mem_append_right _ h))))) (by decide +kernel))) (goodIn_sub (fun _ h => List.mem_cons_of_mem _ (List.mem_append_left _ (List.mem_append_left _ (List.mem_append_right _ h)))) (by decide +kernel))) (goodIn_sub (fun _ h => List.mem_cons_of_mem _ (List.mem_append_left _ (List.mem_append_right _ h))) (by decide +kernel))) (goodIn_sub (fun _ h => List.mem_cons_of_mem _ (List.mem_append_right _ h)) (by decide +kernel))
set_option maxRecDepth 20000 in
theorem gL_product_X1_product : GoodIn wsL_product (wsV RL 71 RX1 yX1_product wsX1_product) := goodIn_app (goodIn_of _ (by decide +kernel)) ggL_product_X1_product
theorem dL_product_0 : decode cL_product 0 = .ok (.aload 5, 2) := by decide +kernel
theorem dL_product_2 : decode cL_product 2 = .ok (.iconst 0, 1) := by decide +kernel
theorem dL_product_3 : decode cL_product 3 = .ok (.aload_n 0, 1) := by decide +kernel
theorem dL_product_4 : decode cL_product 4 = .ok (.iload_n 1, 1) := by decide +kernel
theorem dL_product_5 : decode cL_product 5 = .ok (.iload_n 2, 1) := by decide +kernel
theorem dL_product_6 : decode cL_product 6 = .ok (.iload_n 3, 1) := by decide +kernel
theorem dL_product_7 : decode cL_product 7 = .ok (.iload 4, 2) := by decide +kernel
theorem dL_product_9 : decode cL_product 9 = .ok (.invokevirtual 71, 3) := by decide +kernel
theorem dL_product_12 : decode cL_product 12 = .ok (.lastore, 1) := by decide +kernel
theorem dL_product_13 : decode cL_product 13 = .ok (.goto 11, 3) := by decide +kernel
theorem dL_product_16 : decode cL_product 16 = .ok (.astore 6, 2) := by decide +kernel
theorem dL_product_18 : decode cL_product 18 = .ok (.iconst 1, 1) := by decide +kernel
theorem dL_product_19 : decode cL_product 19 = .ok (.ireturn, 1) := by decide +kernel
theorem dL_product_20 : decode cL_product 20 = .ok (.astore 6, 2) := by decide +kernel
theorem dL_product_22 : decode cL_product 22 = .ok (.iconst 2, 1) := by decide +kernel
theorem dL_product_23 : decode cL_product 23 = .ok (.ireturn, 1) := by decide +kernel
theorem dL_product_24 : decode cL_product 24 = .ok (.iconst 0, 1) := by decide +kernel
theorem dL_product_25 : decode cL_product 25 = .ok (.ireturn, 1) := by decide +kernel
set_option maxRecDepth 20000 in
theorem ggL_power_X1_power : GoodIn wsL_power wsX1_power := goodIn_ca (goodIn_ca (goodIn_ca (goodIn_ca (goodIn_ca (goodIn_r _ [8, 9, 10, 11, 12, 13, 7, 14, 15, 16, 17, 18, 19, 20, 21, 22, 23, 24, 25, 26, 27, 28, 29, 30, 31, 32, 33, 34, 35, 36, 37, 38, 39, 40, 41, 42, 43, 44, 45, 46, 47, 48, 49, 50, 51, 52, 53, 54, 55, 56, 57, 58, 59] (by decide +kernel) (by decide +kernel)) (goodIn_sub (fun _ h => List.mem_cons_of_mem _ (List.mem_append_left _ (List.mem_append_left _ (List.mem_append_left _ (List.mem_append_right _ h))))) (by decide +kernel))) (goodIn_sub (fun _ h => List.mem_cons_of_mem _ (List.mem_append_left _ (List.mem_append_left _ (List.mem_append_left _ (List.mem_append_left _ (List.mem_append_right _ h)))))) (by decide +kernel))) (goodIn_sub (fun _ h => List.mem_cons_of_mem _ (List.mem_append_left _ (List.mem_append_left _ (List.mem_append_right _ h)))) (by decide +kernel))) (goodIn_sub (fun _ h => List.mem_cons_of_mem _ (List.mem_append_left _ (List.mem_append_right _ h))) (by decide +kernel))) (goodIn_sub (fun _ h => List.mem_cons_of_mem _ (List.mem_append_right _ h)) (by decide +kernel))
set_option maxRecDepth 20000 in
theorem gL_power_X1_power : GoodIn wsL_power (wsV RL 74 RX1 yX1_power wsX1_power) := goodIn_app (goodIn_of _ (by decide +kernel)) ggL_power_X1_power
theorem dL_power_0 : decode cL_power 0 = .ok (.aload 5, 2) := by decide +kernel
theorem dL_power_2 : decode cL_power 2 = .ok (.iconst 0, 1) := by decide +kernel
theorem dL_power_3 : decode cL_power 3 = .ok (.aload_n 0, 1) := by decide +kernel
theorem dL_power_4 : decode cL_power 4 = .ok (.iload_n 1, 1) := by decide +kernel
theorem dL_power_5 : decode cL_power 5 = .ok (.iload_n 2, 1) := by decide +kernel
theorem dL_power_6 : decode cL_power 6 = .ok (.iload_n 3, 1) := by decide +kernel
theorem dL_power_7 : decode cL_power 7 = .ok (.iload 4, 2) := by decide +kernel
theorem dL_power_9 : decode cL_power 9 = .ok (.invokevirtual 74, 3) := by decide +kernel
theorem dL_power_12 : decode cL_power 12 = .ok (.lastore, 1) := by decide +kernel
theorem dL_power_13 : decode cL_power 13 = .ok (.goto 15, 3) := by decide +kernel
theorem dL_power_16 : decode cL_power 16 = .ok (.astore 6, 2) := by decide +kernel
theorem dL_power_18 : decode cL_power 18 = .ok (.iconst 1, 1) := by decide +kernel
theorem dL_power_19 : decode cL_power 19 = .ok (.ireturn, 1) := by decide +kernel
theorem dL_power_20 : decode cL_power 20 = .ok (.astore 6, 2) := by decide +kernel
theorem dL_power_22 : decode cL_power 22 = .ok (.iconst 2, 1) := by decide +kernel
theorem dL_power_23 : decode cL_power 23 = .ok (.ireturn, 1) := by decide +kernel
theorem dL_power_24 : decode cL_power 24 = .ok (.astore 6, 2) := by decide +kernel
theorem dL_power_26 : decode cL_power 26 = .ok (.iconst 3, 1) := by decide +kernel
theorem dL_power_27 : decode cL_power 27 = .ok (.ireturn, 1) := by decide +kernel
theorem dL_power_28 : decode cL_power 28 = .ok (.iconst 0, 1) := by decide +kernel
theorem dL_power_29 : decode cL_power 29 = .ok (.ireturn, 1) := by decide +kernel
set_option maxRecDepth 20000 in
theorem ggL_inverse_X1_inverse : GoodIn wsL_inverse wsX1_inverse := goodIn_ca (goodIn_ca (goodIn_ca (goodIn_ca (goodIn_r _ [7, 8, 9, 10, 11, 12, 6, 13, 14, 15, 16, 17, 18, 19, 20, 21, 22, 23, 24, 25, 26, 27, 28, 29, 30, 31, 32, 33, 34, 35, 36, 37, 38, 39, 40, 41, 42, 43, 44, 45, 46, 47, 48, 49, 50, 51, 52, 53, 54, 55, 56, 57, 58, 59, 60, 61, 62, 63, 64, 65, 66, 67, 68, 69, 70, 71, 72, 73, 74, 75, 76, 77, 78, 79, 80, 81, 82, 83, 84] (by decide +kernel) (by decide +kernel)) (goodIn_sub (fun _ h => List.mem_cons_of_mem _ (List.mem_append_left _ (List.mem_append_left _ (List.mem_append_left _ (List.mem_append_right _ h))))) (by decide +kernel))) (goodIn_sub (fun _ h => List.mem_cons_of_mem _ (List.mem_append_left _ (List.mem_append_left _ (List.mem_append_right _ h)))) (by decide +kernel))) (goodIn_sub (fun _ h => List.mem_cons_of_mem _ (List.mem_append_left _ (List.mem_append_right _ h))) (by decide +kernel))) (goodIn_sub (fun _ h => List.mem_cons_of_mem _ (List.mem_append_right _ h)) (by decide +kernel))
set_option maxRecDepth 20000 in
theorem gL_inverse_X1_inverse : GoodIn wsL_inverse (wsV RL 77 RX1 yX1_inverse wsX1_inverse) := goodIn_app (goodIn_of _ (by decide +kernel)) ggL_inverse_X1_inverse
theorem dL_inverse_0 : decode cL_inverse 0 = .ok (.aload 4, 2) := by decide +kernel
theorem dL_inverse_2 : decode cL_inverse 2 = .ok (.iconst 0, 1) := by decide +kernel
theorem dL_inverse_3 : decode cL_inverse 3 = .ok (.aload_n 0, 1) := by decide +kernel
theorem dL_inverse_4 : decode cL_inverse 4 = .ok (.iload_n 1, 1) := by decide +kernel
theorem dL_inverse_5 : decode cL_inverse 5 = .ok (.iload_n 2, 1) := by decide +kernel
theorem dL_inverse_6 : decode cL_inverse 6 = .ok (.iload_n 3, 1) := by decide +kernel
theorem dL_inverse_7 : decode cL_inverse 7 = .ok (.invokevirtual 77, 3) := by decide +kernel
theorem dL_inverse_10 : decode cL_inverse 10 = .ok (.lastore, 1) := by decide +kernel
theorem dL_inverse_11 : decode cL_inverse 11 = .ok (.goto 11, 3) := by decide +kernel
theorem dL_inverse_14 : decode cL_inverse 14 = .ok (.astore 5, 2) := by decide +kernel
theorem dL_inverse_16 : decode cL_inverse 16 = .ok (.iconst 1, 1) := by decide +kernel
theorem dL_inverse_17 : decode cL_inverse 17 = .ok (.ireturn, 1) := by decide +kernel
theorem dL_inverse_18 : decode cL_inverse 18 = .ok (.astore 5, 2) := by decide +kernel
theorem dL_inverse_20 : decode cL_inverse 20 = .ok (.iconst 2, 1) := by decide +kernel
theorem dL_inverse_21 : decode cL_inverse 21 = .ok (.ireturn, 1) := by decide +kernel
theorem dL_inverse_22 : decode cL_inverse 22 = .ok (.iconst 0, 1) := by decide +kernel
theorem dL_inverse_23 : decode cL_inverse 23 = .ok (.ireturn, 1) := by decide +kernel
set_option maxRecDepth 20000 in
theorem ggL_order_X1_order : GoodIn wsL_order wsX1_order := goodIn_ca (goodIn_ca (goodIn_ca (goodIn_ca (goodIn_r _ [7, 8, 9, 10, 11, 12, 13, 14, 15, 6, 16, 17, 18, 19, 20, 21, 22, 23, 24, 25, 26, 27, 28, 29, 30, 31, 32, 33, 34, 35, 36, 37, 38, 39, 40, 41, 42, 43, 44, 45, 46, 47, 48, 49, 50, 51, 52] (by decide +kernel) (by decide +kernel)) (goodIn_sub (fun _ h => List.mem_cons_of_mem _ (List.mem_append_left _ (List.mem_append_left _ (List.mem_append_left _ (List.mem_append_right _ h))))) (by decide +kernel))) (goodIn_sub (fun _ h => List.mem_cons_of_mem _ (List.mem_append_left _ (List.mem_append_left _ (List.mem_append_right _ h)))) (by decide +kernel))) (goodIn_sub (fun _ h => List.mem_cons_of_mem _ (List.mem_append_left _ (List.mem_append_right _ h))) (by decide +kernel))) (goodIn_sub (fun _ h => List.mem_cons_of_mem _ (List.mem_append_right _ h)) (by decide +kernel))
set_option maxRecDepth 20000 in
theorem gL_order_X1_order : GoodIn wsL_order (wsV RL 80 RX1 yX1_order wsX1_order) := goodIn_app (goodIn_of _ (by decide +kernel)) ggL_order_X1_order
theorem dL_order_0 : decode cL_order 0 = .ok (.aload_n 3, 1) := by decide +kernel
theorem dL_order_1 : decode cL_order 1 = .ok (.iconst 0, 1) := by decide +kernel
theorem dL_order_2 : decode cL_order 2 = .ok (.aload_n 0, 1) := by decide +kernel
theorem dL_order_3 : decode cL_order 3 = .ok (.iload_n 1, 1) := by decide +kernel
theorem dL_order_4 : decode cL_order 4 = .ok (.iload_n 2, 1) := by decide +kernel
theorem dL_order_5 : decode cL_order 5 = .ok (.invokevirtual 80, 3) := by decide +kernel
theorem dL_order_8 : decode cL_order 8 = .ok (.i2l, 1) := by decide +kernel
theorem dL_order_9 : decode cL_order 9 = .ok (.lastore, 1) := by decide +kernel
theorem dL_order_10 : decode cL_order 10 = .ok (.goto 11, 3) := by decide +kernel
theorem dL_order_13 : decode cL_order 13 = .ok (.astore 4, 2) := by decide +kernel
theorem dL_order_15 : decode cL_order 15 = .ok (.iconst 1, 1) := by decide +kernel
theorem dL_order_16 : decode cL_order 16 = .ok (.ireturn, 1) := by decide +kernel
theorem dL_order_17 : decode cL_order 17 = .ok (.astore 4, 2) := by decide +kernel
theorem dL_order_19 : decode cL_order 19 = .ok (.iconst 2, 1) := by decide +kernel
theorem dL_order_20 : decode cL_order 20 = .ok (.ireturn, 1) := by decide +kernel
theorem dL_order_21 : decode cL_order 21 = .ok (.iconst 0, 1) := by decide +kernel
theorem dL_order_22 : decode cL_order 22 = .ok (.ireturn, 1) := by decide +kernel
set_option maxRecDepth 20000 in
theorem ggL_measure_X1_measure : GoodIn wsL_measure wsX1_measure := goodIn_ca (goodIn_ca (goodIn_ca (goodIn_r _ [6, 7, 8, 9, 5, 10, 11, 12, 13, 14, 15, 16, 17, 18, 19, 20, 21, 22, 23, 24, 25, 26, 27, 28, 29, 30, 31, 32, 33, 34, 35, 36, 37, 38, 39, 40, 41, 42, 43, 44, 45, 46, 47, 48, 49, 50, 51, 52, 53, 54, 55, 56, 57, 58, 59, 60, 61, 62, 63, 64] (by decide +kernel) (by decide +kernel)) (goodIn_sub (fun _ h => List.mem_cons_of_mem _ (List.mem_append_left _ (List.mem_append_left _ (List.mem_append_right _ h)))) (by decide +kernel))) (goodIn_sub (fun _ h => List.mem_cons_of_mem _ (List.mem_append_left _ (List.mem_append_right _ h))) (by decide +kernel))) (goodIn_sub (fun _ h => List.mem_cons_of_mem _ (List.mem_append_right _ h)) (by decide +kernel))
set_option maxRecDepth 20000 in
theorem gL_measure_X1_measure : GoodIn wsL_measure (wsV RL 83 RX1 yX1_measure wsX1_measure) := goodIn_app (goodIn_of _ (by decide +kernel)) ggL_measure_X1_measure
theorem dL_measure_0 : decode cL_measure 0 = .ok (.aload 4, 2) := by decide +kernel
theorem dL_measure_2 : decode cL_measure 2 = .ok (.iconst 0, 1) := by decide +kernel
theorem dL_measure_3 : decode cL_measure 3 = .ok (.aload_n 0, 1) := by decide +kernel
theorem dL_measure_4 : decode cL_measure 4 = .ok (.iload_n 1, 1) := by decide +kernel
theorem dL_measure_5 : decode cL_measure 5 = .ok (.iload_n 2, 1) := by decide +kernel
theorem dL_measure_6 : decode cL_measure 6 = .ok (.iload_n 3, 1) := by decide +kernel
theorem dL_measure_7 : decode cL_measure 7 = .ok (.invokevirtual 83, 3) := by decide +kernel
theorem dL_measure_10 : decode cL_measure 10 = .ok (.lastore, 1) := by decide +kernel
theorem dL_measure_11 : decode cL_measure 11 = .ok (.goto 7, 3) := by decide +kernel
theorem dL_measure_14 : decode cL_measure 14 = .ok (.astore 5, 2) := by decide +kernel
theorem dL_measure_16 : decode cL_measure 16 = .ok (.iconst 1, 1) := by decide +kernel
theorem dL_measure_17 : decode cL_measure 17 = .ok (.ireturn, 1) := by decide +kernel
theorem dL_measure_18 : decode cL_measure 18 = .ok (.iconst 0, 1) := by decide +kernel
theorem dL_measure_19 : decode cL_measure 19 = .ok (.ireturn, 1) := by decide +kernel
set_option maxRecDepth 20000 in
theorem ggL_steps_X1_steps : GoodIn wsL_steps wsX1_steps := goodIn_ca (goodIn_ca (goodIn_ca (goodIn_r _ [6, 7, 8, 9, 10, 5, 11, 12, 13, 14, 15, 16, 17, 18, 19, 20, 21, 22, 23, 24, 25, 26, 27, 28, 29, 30, 31, 32, 33, 34, 35, 36, 37, 38, 39, 40, 41] (by decide +kernel) (by decide +kernel)) (goodIn_sub (fun _ h => List.mem_cons_of_mem _ (List.mem_append_left _ (List.mem_append_left _ (List.mem_append_right _ h)))) (by decide +kernel))) (goodIn_sub (fun _ h => List.mem_cons_of_mem _ (List.mem_append_left _ (List.mem_append_right _ h))) (by decide +kernel))) (goodIn_sub (fun _ h => List.mem_cons_of_mem _ (List.mem_append_right _ h)) (by decide +kernel))
set_option maxRecDepth 20000 in
theorem gL_steps_X1_steps : GoodIn wsL_steps (wsV RL 86 RX1 yX1_steps wsX1_steps) := goodIn_app (goodIn_of _ (by decide +kernel)) ggL_steps_X1_steps
theorem dL_steps_0 : decode cL_steps 0 = .ok (.aload_n 3, 1) := by decide +kernel
theorem dL_steps_1 : decode cL_steps 1 = .ok (.iconst 0, 1) := by decide +kernel
theorem dL_steps_2 : decode cL_steps 2 = .ok (.aload_n 0, 1) := by decide +kernel
theorem dL_steps_3 : decode cL_steps 3 = .ok (.iload_n 1, 1) := by decide +kernel
theorem dL_steps_4 : decode cL_steps 4 = .ok (.iload_n 2, 1) := by decide +kernel
theorem dL_steps_5 : decode cL_steps 5 = .ok (.invokevirtual 86, 3) := by decide +kernel
theorem dL_steps_8 : decode cL_steps 8 = .ok (.i2l, 1) := by decide +kernel
theorem dL_steps_9 : decode cL_steps 9 = .ok (.lastore, 1) := by decide +kernel
theorem dL_steps_10 : decode cL_steps 10 = .ok (.goto 7, 3) := by decide +kernel
theorem dL_steps_13 : decode cL_steps 13 = .ok (.astore 4, 2) := by decide +kernel
theorem dL_steps_15 : decode cL_steps 15 = .ok (.iconst 1, 1) := by decide +kernel
theorem dL_steps_16 : decode cL_steps 16 = .ok (.ireturn, 1) := by decide +kernel
theorem dL_steps_17 : decode cL_steps 17 = .ok (.iconst 0, 1) := by decide +kernel
theorem dL_steps_18 : decode cL_steps 18 = .ok (.ireturn, 1) := by decide +kernel
set_option maxRecDepth 20000 in
theorem ggL_digits_X1_digits : GoodIn wsL_digits wsX1_digits := goodIn_ca (goodIn_ca (goodIn_ca (goodIn_ca (goodIn_r _ [7, 8, 9, 10, 11, 12, 6, 13, 14, 15, 16, 17, 18, 19, 20, 21, 22, 23, 24, 25, 26, 27, 28, 29, 30, 31, 32, 33, 34, 35, 36, 37, 38, 39, 40, 41, 42, 43, 44, 45, 46, 47, 48] (by decide +kernel) (by decide +kernel)) (goodIn_sub (fun _ h => List.mem_cons_of_mem _ (List.mem_append_left _ (List.mem_append_left _ (List.mem_append_left _ (List.mem_append_right _ h))))) (by decide +kernel))) (goodIn_sub (fun _ h => List.mem_cons_of_mem _ (List.mem_append_left _ (List.mem_append_left _ (List.mem_append_right _ h)))) (by decide +kernel))) (goodIn_sub (fun _ h => List.mem_cons_of_mem _ (List.mem_append_left _ (List.mem_append_right _ h))) (by decide +kernel))) (goodIn_sub (fun _ h => List.mem_cons_of_mem _ (List.mem_append_right _ h)) (by decide +kernel))
set_option maxRecDepth 20000 in
theorem gL_digits_X1_digits : GoodIn wsL_digits (wsV RL 89 RX1 yX1_digits wsX1_digits) := goodIn_app (goodIn_of _ (by decide +kernel)) ggL_digits_X1_digits
theorem dL_digits_0 : decode cL_digits 0 = .ok (.aload_n 3, 1) := by decide +kernel
theorem dL_digits_1 : decode cL_digits 1 = .ok (.iconst 0, 1) := by decide +kernel
theorem dL_digits_2 : decode cL_digits 2 = .ok (.aload_n 0, 1) := by decide +kernel
theorem dL_digits_3 : decode cL_digits 3 = .ok (.iload_n 1, 1) := by decide +kernel
theorem dL_digits_4 : decode cL_digits 4 = .ok (.iload_n 2, 1) := by decide +kernel
theorem dL_digits_5 : decode cL_digits 5 = .ok (.invokevirtual 89, 3) := by decide +kernel
theorem dL_digits_8 : decode cL_digits 8 = .ok (.i2l, 1) := by decide +kernel
theorem dL_digits_9 : decode cL_digits 9 = .ok (.lastore, 1) := by decide +kernel
theorem dL_digits_10 : decode cL_digits 10 = .ok (.goto 11, 3) := by decide +kernel
theorem dL_digits_13 : decode cL_digits 13 = .ok (.astore 4, 2) := by decide +kernel
theorem dL_digits_15 : decode cL_digits 15 = .ok (.iconst 1, 1) := by decide +kernel
theorem dL_digits_16 : decode cL_digits 16 = .ok (.ireturn, 1) := by decide +kernel
theorem dL_digits_17 : decode cL_digits 17 = .ok (.astore 4, 2) := by decide +kernel
theorem dL_digits_19 : decode cL_digits 19 = .ok (.iconst 2, 1) := by decide +kernel
theorem dL_digits_20 : decode cL_digits 20 = .ok (.ireturn, 1) := by decide +kernel
theorem dL_digits_21 : decode cL_digits 21 = .ok (.iconst 0, 1) := by decide +kernel
theorem dL_digits_22 : decode cL_digits 22 = .ok (.ireturn, 1) := by decide +kernel
set_option maxRecDepth 20000 in
theorem ggL_digit_X1_digit : GoodIn wsL_digit wsX1_digit := goodIn_ca (goodIn_ca (goodIn_r _ [6, 7, 8, 9, 10, 11, 12, 13, 14, 15, 16, 17] (by decide +kernel) (by decide +kernel)) (goodIn_sub (fun _ h => List.mem_cons_of_mem _ (List.mem_append_right _ h)) (by decide +kernel))) (goodIn_sub (fun _ h => List.mem_cons_of_mem _ (List.mem_append_left _ (List.mem_append_right _ h))) (by decide +kernel))
set_option maxRecDepth 20000 in
theorem gL_digit_X1_digit : GoodIn wsL_digit (wsV RL 92 RX1 yX1_digit wsX1_digit) := goodIn_app (goodIn_of _ (by decide +kernel)) ggL_digit_X1_digit
theorem dL_digit_0 : decode cL_digit 0 = .ok (.aload_n 2, 1) := by decide +kernel
theorem dL_digit_1 : decode cL_digit 1 = .ok (.iconst 0, 1) := by decide +kernel
theorem dL_digit_2 : decode cL_digit 2 = .ok (.aload_n 0, 1) := by decide +kernel
theorem dL_digit_3 : decode cL_digit 3 = .ok (.iload_n 1, 1) := by decide +kernel
theorem dL_digit_4 : decode cL_digit 4 = .ok (.invokevirtual 92, 3) := by decide +kernel
theorem dL_digit_7 : decode cL_digit 7 = .ok (.i2l, 1) := by decide +kernel
theorem dL_digit_8 : decode cL_digit 8 = .ok (.lastore, 1) := by decide +kernel
theorem dL_digit_9 : decode cL_digit 9 = .ok (.goto 6, 3) := by decide +kernel
theorem dL_digit_12 : decode cL_digit 12 = .ok (.astore_n 3, 1) := by decide +kernel
theorem dL_digit_13 : decode cL_digit 13 = .ok (.iconst 1, 1) := by decide +kernel
theorem dL_digit_14 : decode cL_digit 14 = .ok (.ireturn, 1) := by decide +kernel
theorem dL_digit_15 : decode cL_digit 15 = .ok (.iconst 0, 1) := by decide +kernel
theorem dL_digit_16 : decode cL_digit 16 = .ok (.ireturn, 1) := by decide +kernel
set_option maxRecDepth 20000 in
theorem ggL_above_X1_above : GoodIn wsL_above wsX1_above := goodIn_ca (goodIn_ca (goodIn_r _ [6, 7, 8, 9, 10, 5, 11, 12, 13, 14, 15, 16, 17, 18, 19, 20, 21, 22, 23, 24, 25, 26, 27, 28, 29, 30, 31] (by decide +kernel) (by decide +kernel)) (goodIn_sub (fun _ h => List.mem_cons_of_mem _ (List.mem_append_right _ h)) (by decide +kernel))) (goodIn_sub (fun _ h => List.mem_cons_of_mem _ (List.mem_append_left _ (List.mem_append_right _ h))) (by decide +kernel))
set_option maxRecDepth 20000 in
theorem gL_above_X1_above : GoodIn wsL_above (wsV RL 95 RX1 yX1_above wsX1_above) := goodIn_app (goodIn_of _ (by decide +kernel)) ggL_above_X1_above
theorem dL_above_0 : decode cL_above 0 = .ok (.aload_n 2, 1) := by decide +kernel
theorem dL_above_1 : decode cL_above 1 = .ok (.iconst 0, 1) := by decide +kernel
theorem dL_above_2 : decode cL_above 2 = .ok (.aload_n 0, 1) := by decide +kernel
theorem dL_above_3 : decode cL_above 3 = .ok (.iload_n 1, 1) := by decide +kernel
theorem dL_above_4 : decode cL_above 4 = .ok (.invokevirtual 95, 3) := by decide +kernel
theorem dL_above_7 : decode cL_above 7 = .ok (.i2l, 1) := by decide +kernel
theorem dL_above_8 : decode cL_above 8 = .ok (.lastore, 1) := by decide +kernel
theorem dL_above_9 : decode cL_above 9 = .ok (.goto 6, 3) := by decide +kernel
theorem dL_above_12 : decode cL_above 12 = .ok (.astore_n 3, 1) := by decide +kernel
theorem dL_above_13 : decode cL_above 13 = .ok (.iconst 1, 1) := by decide +kernel
theorem dL_above_14 : decode cL_above 14 = .ok (.ireturn, 1) := by decide +kernel
theorem dL_above_15 : decode cL_above 15 = .ok (.iconst 0, 1) := by decide +kernel
theorem dL_above_16 : decode cL_above 16 = .ok (.ireturn, 1) := by decide +kernel
set_option maxRecDepth 20000 in
theorem ggL_below_X1_below : GoodIn wsL_below wsX1_below := goodIn_ca (goodIn_ca (goodIn_r _ [6, 7, 8, 9, 10, 5, 11, 12, 13, 14, 15, 16, 17, 18, 19, 20, 21, 22, 23, 24, 25, 26, 27, 28, 29, 30, 31] (by decide +kernel) (by decide +kernel)) (goodIn_sub (fun _ h => List.mem_cons_of_mem _ (List.mem_append_right _ h)) (by decide +kernel))) (goodIn_sub (fun _ h => List.mem_cons_of_mem _ (List.mem_append_left _ (List.mem_append_right _ h))) (by decide +kernel))
set_option maxRecDepth 20000 in
theorem gL_below_X1_below : GoodIn wsL_below (wsV RL 98 RX1 yX1_below wsX1_below) := goodIn_app (goodIn_of _ (by decide +kernel)) ggL_below_X1_below
theorem dL_below_0 : decode cL_below 0 = .ok (.aload_n 2, 1) := by decide +kernel
theorem dL_below_1 : decode cL_below 1 = .ok (.iconst 0, 1) := by decide +kernel
theorem dL_below_2 : decode cL_below 2 = .ok (.aload_n 0, 1) := by decide +kernel
theorem dL_below_3 : decode cL_below 3 = .ok (.iload_n 1, 1) := by decide +kernel
theorem dL_below_4 : decode cL_below 4 = .ok (.invokevirtual 98, 3) := by decide +kernel
theorem dL_below_7 : decode cL_below 7 = .ok (.i2l, 1) := by decide +kernel
theorem dL_below_8 : decode cL_below 8 = .ok (.lastore, 1) := by decide +kernel
theorem dL_below_9 : decode cL_below 9 = .ok (.goto 6, 3) := by decide +kernel
theorem dL_below_12 : decode cL_below 12 = .ok (.astore_n 3, 1) := by decide +kernel
theorem dL_below_13 : decode cL_below 13 = .ok (.iconst 1, 1) := by decide +kernel
theorem dL_below_14 : decode cL_below 14 = .ok (.ireturn, 1) := by decide +kernel
theorem dL_below_15 : decode cL_below 15 = .ok (.iconst 0, 1) := by decide +kernel
theorem dL_below_16 : decode cL_below 16 = .ok (.ireturn, 1) := by decide +kernel
set_option maxRecDepth 20000 in
theorem ggL_law_X1_init : GoodIn wsL_law wsX1_init := goodIn_r _ [10, 11, 12, 13, 14, 15, 16, 17, 18, 19, 20, 21, 22, 23, 24, 25, 26, 545, 546, 547, 548, 555, 556, 557, 558] (by decide +kernel) (by decide +kernel)
set_option maxRecDepth 20000 in
theorem gL_law_X1_init : GoodIn wsL_law (wsX1_init) := ggL_law_X1_init
set_option maxRecDepth 20000 in
theorem ggL_law_X2_init : GoodIn wsL_law wsX2_init := goodIn_r _ [29, 30, 12, 13, 14, 31, 16, 32, 33, 34, 549, 550, 551, 552, 553, 554] (by decide +kernel) (by decide +kernel)
set_option maxRecDepth 20000 in
theorem gL_law_X2_init : GoodIn wsL_law (wsX2_init) := ggL_law_X2_init
set_option maxRecDepth 20000 in
theorem ggL_law_L_put : GoodIn wsL_law wsL_put := goodIn_ca (goodIn_ca (goodIn_ca (goodIn_r _ [38, 39, 40, 41, 42, 43, 2, 44, 45, 46, 47, 48, 49, 50, 51, 52, 53, 54, 55, 15, 17, 56, 57, 58, 59, 60, 61, 62, 63, 64, 65, 66, 67, 68, 69, 70, 71, 72, 73, 545, 546, 547, 548] (by decide +kernel) (by decide +kernel)) (goodIn_sub (fun _ h => List.mem_append_left _ (List.mem_append_left _ (List.mem_append_left _ (List.mem_append_left _ (List.mem_append_right _ h))))) (by decide +kernel))) (goodIn_sub (fun _ h => List.mem_append_left _ (List.mem_append_left _ (List.mem_append_left _ (List.mem_append_right _ h)))) (by decide +kernel))) (goodIn_sub (fun _ h => List.mem_append_left _ (List.mem_append_left _ (List.mem_append_right _ h))) (by decide +kernel))
set_option maxRecDepth 20000 in
theorem gL_law_L_put : GoodIn wsL_law (va_wsS RL 105 yL_put wsL_put) := goodIn_app (goodIn_of _ (by decide +kernel)) ggL_law_L_put
set_option maxRecDepth 20000 in
theorem ggL_law_X2_put : GoodIn wsL_law wsX2_put := goodIn_ca (goodIn_r _ [77, 31, 32, 78, 79, 5, 80, 81, 82, 83, 84, 85, 86, 87, 88, 89, 90, 91, 92, 93, 94, 549, 550, 551, 552, 553, 554] (by decide +kernel) (by decide +kernel)) (goodIn_sub (fun _ h => List.mem_append_left _ (List.mem_append_left _ (List.mem_append_left _ (List.mem_append_left _ (List.mem_append_right _ h))))) (by decide +kernel))
set_option maxRecDepth 20000 in
theorem gL_law_X2_put : GoodIn wsL_law (wsV RL 110 RX2 yX2_put wsX2_put) := goodIn_app (goodIn_of _ (by decide +kernel)) ggL_law_X2_put
set_option maxRecDepth 20000 in
theorem ggL_law_X2_thrown : GoodIn wsL_law wsX2_thrown := goodIn_r _ [98, 85, 549, 550, 551, 552, 553, 554] (by decide +kernel) (by decide +kernel)
set_option maxRecDepth 20000 in
theorem gL_law_X2_thrown : GoodIn wsL_law (wsV RL 111 RX2 yX2_thrown wsX2_thrown) := goodIn_app (goodIn_of _ (by decide +kernel)) ggL_law_X2_thrown
set_option maxRecDepth 20000 in
theorem ggL_law_L_putBelow : GoodIn wsL_law wsL_putBelow := goodIn_ca (goodIn_ca (goodIn_r _ [101, 39, 102, 103, 104, 2, 105, 47, 48, 49, 50, 51, 52, 53, 54, 55, 15, 17, 56, 57, 58, 59, 60, 61, 62, 63, 64, 65, 66, 67, 68, 69, 70, 71, 72, 73, 545, 546, 547, 548] (by decide +kernel) (by decide +kernel)) (goodIn_sub (fun _ h => List.mem_append_left _ (List.mem_append_left _ (List.mem_append_left _ (List.mem_append_left _ (List.mem_append_right _ h))))) (by decide +kernel))) (goodIn_sub (fun _ h => List.mem_append_left _ (List.mem_append_left _ (List.mem_append_right _ h))) (by decide +kernel))
set_option maxRecDepth 20000 in
theorem gL_law_L_putBelow : GoodIn wsL_law (va_wsS RL 115 yL_putBelow wsL_putBelow) := goodIn_app (goodIn_of _ (by decide +kernel)) ggL_law_L_putBelow
set_option maxRecDepth 20000 in
theorem ggL_law_X2_putBelow : GoodIn wsL_law wsX2_putBelow := goodIn_ca (goodIn_r _ [109, 31, 32, 78, 79, 5, 80, 81, 82, 83, 84, 85, 86, 87, 88, 89, 90, 91, 92, 93, 94, 549, 550, 551, 552, 553, 554] (by decide +kernel) (by decide +kernel)) (goodIn_sub (fun _ h => List.mem_append_left _ (List.mem_append_left _ (List.mem_append_left _ (List.mem_append_left _ (List.mem_append_right _ h))))) (by decide +kernel))
set_option maxRecDepth 20000 in
theorem gL_law_X2_putBelow : GoodIn wsL_law (wsV RL 118 RX2 yX2_putBelow wsX2_putBelow) := goodIn_app (goodIn_of _ (by decide +kernel)) ggL_law_X2_putBelow
set_option maxRecDepth 20000 in
theorem ggL_law_L_turn : GoodIn wsL_law wsL_turn := goodIn_ca (goodIn_ca (goodIn_r _ [112, 39, 113, 114, 115, 2, 116, 15, 17, 47, 48, 49, 50, 51, 70, 71, 72, 73, 52, 53, 54, 55, 56, 57, 58, 59, 60, 61, 62, 63, 64, 65, 66, 67, 68, 69, 545, 546, 547, 548] (by decide +kernel) (by decide +kernel)) (goodIn_sub (fun _ h => List.mem_append_left _ (List.mem_append_left _ (List.mem_append_left _ (List.mem_append_left _ (List.mem_append_right _ h))))) (by decide +kernel))) (goodIn_sub (fun _ h => List.mem_append_left _ (List.mem_append_left _ (List.mem_append_right _ h))) (by decide +kernel))
set_option maxRecDepth 20000 in
theorem gL_law_L_turn : GoodIn wsL_law (va_wsS RL 119 yL_turn wsL_turn) := goodIn_app (goodIn_of _ (by decide +kernel)) ggL_law_L_turn
set_option maxRecDepth 20000 in
theorem ggL_law_X2_turn : GoodIn wsL_law wsX2_turn := goodIn_ca (goodIn_r _ [120, 31, 32, 78, 79, 5, 80, 81, 82, 83, 84, 85, 121, 122, 123, 124, 86, 87, 88, 89, 90, 91, 92, 93, 94, 549, 550, 551, 552, 553, 554] (by decide +kernel) (by decide +kernel)) (goodIn_sub (fun _ h => List.mem_append_left _ (List.mem_append_left _ (List.mem_append_left _ (List.mem_append_left _ (List.mem_append_right _ h))))) (by decide +kernel))
set_option maxRecDepth 20000 in
theorem gL_law_X2_turn : GoodIn wsL_law (wsV RL 121 RX2 yX2_turn wsX2_turn) := goodIn_app (goodIn_of _ (by decide +kernel)) ggL_law_X2_turn
set_option maxRecDepth 20000 in
theorem ggL_law_L_eighths : GoodIn wsL_law wsL_eighths := goodIn_ca (goodIn_ca (goodIn_r _ [127, 39, 128, 129, 130, 2, 131, 15, 47, 48, 49, 50, 51, 545, 546, 547, 548] (by decide +kernel) (by decide +kernel)) (goodIn_sub (fun _ h => List.mem_append_left _ (List.mem_append_left _ (List.mem_append_left _ (List.mem_append_left _ (List.mem_append_right _ h))))) (by decide +kernel))) (goodIn_sub (fun _ h => List.mem_append_left _ (List.mem_append_left _ (List.mem_append_right _ h))) (by decide +kernel))
set_option maxRecDepth 20000 in
theorem gL_law_L_eighths : GoodIn wsL_law (va_wsS RL 122 yL_eighths wsL_eighths) := goodIn_app (goodIn_of _ (by decide +kernel)) ggL_law_L_eighths
set_option maxRecDepth 20000 in
theorem ggL_law_X2_eighths : GoodIn wsL_law wsX2_eighths := goodIn_ca (goodIn_r _ [135, 31, 78, 79, 5, 80, 81, 82, 83, 84, 85, 549, 550, 551, 552, 553, 554] (by decide +kernel) (by decide +kernel)) (goodIn_sub (fun _ h => List.mem_append_left _ (List.mem_append_left _ (List.mem_append_left _ (List.mem_append_left _ (List.mem_append_right _ h))))) (by decide +kernel))
set_option maxRecDepth 20000 in
theorem gL_law_X2_eighths : GoodIn wsL_law (wsV RL 124 RX2 yX2_eighths wsX2_eighths) := goodIn_app (goodIn_of _ (by decide +kernel)) ggL_law_X2_eighths
set_option maxRecDepth 20000 in
theorem ggL_law_L_bits : GoodIn wsL_law wsL_bits := goodIn_ca (goodIn_ca (goodIn_r _ [138, 39, 139, 140, 141, 2, 142, 47, 48, 49, 50, 51, 52, 53, 54, 55, 15, 17, 56, 57, 58, 59, 60, 61, 62, 63, 64, 65, 66, 67, 68, 69, 545, 546, 547, 548] (by decide +kernel) (by decide +kernel)) (goodIn_sub (fun _ h => List.mem_append_left _ (List.mem_append_left _ (List.mem_append_left _ (List.mem_append_left _ (List.mem_append_right _ h))))) (by decide +kernel))) (goodIn_sub (fun _ h => List.mem_append_left _ (List.mem_append_left _ (List.mem_append_right _ h))) (by decide +kernel))
set_option maxRecDepth 20000 in
theorem gL_law_L_bits : GoodIn wsL_law (va_wsS RL 125 yL_bits wsL_bits) := goodIn_app (goodIn_of _ (by decide +kernel)) ggL_law_L_bits
set_option maxRecDepth 20000 in
theorem ggL_law_X2_bits : GoodIn wsL_law wsX2_bits := goodIn_ca (goodIn_r _ [146, 31, 32, 78, 79, 5, 80, 81, 82, 83, 84, 85, 86, 87, 88, 89, 90, 91, 92, 93, 94, 549, 550, 551, 552, 553, 554] (by decide +kernel) (by decide +kernel)) (goodIn_sub (fun _ h => List.mem_append_left _ (List.mem_append_left _ (List.mem_append_left _ (List.mem_append_left _ (List.mem_append_right _ h))))) (by decide +kernel))
set_option maxRecDepth 20000 in
theorem gL_law_X2_bits : GoodIn wsL_law (wsV RL 127 RX2 yX2_bits wsX2_bits) := goodIn_app (goodIn_of _ (by decide +kernel)) ggL_law_X2_bits
set_option maxRecDepth 20000 in
theorem ggL_law_L_number : GoodIn wsL_law wsL_number := goodIn_ca (goodIn_ca (goodIn_r _ [149, 39, 150, 151, 152, 2, 153, 17, 154, 15, 155, 47, 48, 49, 50, 51, 545, 546, 547, 548] (by decide +kernel) (by decide +kernel)) (goodIn_sub (fun _ h => List.mem_append_left _ (List.mem_append_left _ (List.mem_append_left _ (List.mem_append_left _ (List.mem_append_right _ h))))) (by decide +kernel))) (goodIn_sub (fun _ h => List.mem_append_left _ (List.mem_append_left _ (List.mem_append_right _ h))) (by decide +kernel))
set_option maxRecDepth 20000 in
theorem gL_law_L_number : GoodIn wsL_law (va_wsS RL 128 yL_number wsL_number) := goodIn_app (goodIn_of _ (by decide +kernel)) ggL_law_L_number
set_option maxRecDepth 20000 in
theorem ggL_law_X2_number : GoodIn wsL_law wsX2_number := goodIn_ca (goodIn_r _ [159, 32, 160, 31, 161, 78, 79, 5, 80, 81, 82, 83, 84, 85, 549, 550, 551, 552, 553, 554] (by decide +kernel) (by decide +kernel)) (goodIn_sub (fun _ h => List.mem_append_left _ (List.mem_append_left _ (List.mem_append_left _ (List.mem_append_left _ (List.mem_append_right _ h))))) (by decide +kernel))
set_option maxRecDepth 20000 in
theorem gL_law_X2_number : GoodIn wsL_law (wsV RL 131 RX2 yX2_number wsX2_number) := goodIn_app (goodIn_of _ (by decide +kernel)) ggL_law_X2_number
set_option maxRecDepth 20000 in
theorem ggL_law_L_rest : GoodIn wsL_law wsL_rest := goodIn_ca (goodIn_ca (goodIn_ca (goodIn_ca (goodIn_r _ [164, 39, 165, 166, 167, 168, 2, 169, 170, 171, 172, 173, 15, 47, 48, 49, 50, 51, 174, 175, 176, 177, 178, 179, 180, 181, 182, 183, 184, 185, 60, 61, 62, 63, 186, 187, 188, 189, 190, 191, 192, 193, 194, 195, 196, 197, 198, 199, 17, 70, 71, 72, 73, 52, 53, 54, 55, 56, 57, 58, 59, 64, 65, 66, 67, 68, 69, 545, 546, 547, 548] (by decide +kernel) (by decide +kernel)) (goodIn_sub (fun _ h => List.mem_append_left _ (List.mem_append_left _ (List.mem_append_left _ (List.mem_append_left _ (List.mem_append_right _ h))))) (by decide +kernel))) (goodIn_sub (fun _ h => List.mem_append_left _ (List.mem_append_left _ (List.mem_append_right _ h))) (by decide +kernel))) (goodIn_sub (fun _ h => List.mem_append_left _ (List.mem_append_right _ h)) (by decide +kernel))) (goodIn_sub (fun _ h => List.mem_append_right _ h) (by decide +kernel))
set_option maxRecDepth 20000 in
theorem gL_law_L_rest : GoodIn wsL_law (va_wsS RL 132 yL_rest wsL_rest) := goodIn_app (goodIn_of _ (by decide +kernel)) ggL_law_L_rest
set_option maxRecDepth 20000 in
theorem ggL_law_X2_rest : GoodIn wsL_law wsX2_rest := goodIn_ca (goodIn_r _ [203, 204, 205, 206, 5, 207, 31, 78, 79, 80, 81, 82, 83, 84, 85, 208, 209, 210, 211, 212, 213, 214, 92, 93, 94, 215, 216, 217, 218, 32, 121, 122, 123, 124, 86, 87, 88, 89, 90, 91, 549, 550, 551, 552, 553, 554] (by decide +kernel) (by decide +kernel)) (goodIn_sub (fun _ h => List.mem_append_left _ (List.mem_append_left _ (List.mem_append_left _ (List.mem_append_left _ (List.mem_append_right _ h))))) (by decide +kernel))
set_option maxRecDepth 20000 in
theorem gL_law_X2_rest : GoodIn wsL_law (wsV RL 135 RX2 yX2_rest wsX2_rest) := goodIn_app (goodIn_of _ (by decide +kernel)) ggL_law_X2_rest
set_option maxRecDepth 20000 in
theorem ggL_law_L_restToo : GoodIn wsL_law wsL_restToo := goodIn_ca (goodIn_ca (goodIn_ca (goodIn_ca (goodIn_r _ [221, 39, 165, 222, 223, 224, 2, 225, 170, 171, 172, 173, 15, 47, 48, 49, 50, 51, 174, 175, 176, 177, 178, 179, 180, 181, 182, 183, 184, 185, 60, 61, 62, 63, 186, 187, 188, 189, 190, 191, 192, 193, 194, 195, 196, 197, 198, 199, 17, 70, 71, 72, 73, 52, 53, 54, 55, 56, 57, 58, 59, 64, 65, 66, 67, 68, 69, 545, 546, 547, 548] (by decide +kernel) (by decide +kernel)) (goodIn_sub (fun _ h => List.mem_append_left _ (List.mem_append_left _ (List.mem_append_left _ (List.mem_append_left _ (List.mem_append_right _ h))))) (by decide +kernel))) (goodIn_sub (fun _ h => List.mem_append_left _ (List.mem_append_left _ (List.mem_append_right _ h))) (by decide +kernel))) (goodIn_sub (fun _ h => List.mem_append_left _ (List.mem_append_right _ h)) (by decide +kernel))) (goodIn_sub (fun _ h => List.mem_append_right _ h) (by decide +kernel))
set_option maxRecDepth 20000 in
theorem gL_law_L_restToo : GoodIn wsL_law (va_wsS RL 136 yL_restToo wsL_restToo) := goodIn_app (goodIn_of _ (by decide +kernel)) ggL_law_L_restToo
set_option maxRecDepth 20000 in
theorem ggL_law_X2_restToo : GoodIn wsL_law wsX2_restToo := goodIn_ca (goodIn_r _ [229, 230, 201, 202, 5, 203, 204, 205, 206, 207, 31, 78, 79, 80, 81, 82, 83, 84, 85, 208, 209, 210, 211, 212, 213, 214, 92, 93, 94, 215, 216, 217, 218, 32, 121, 122, 123, 124, 86, 87, 88, 89, 90, 91, 549, 550, 551, 552, 553, 554] (by decide +kernel) (by decide +kernel)) (goodIn_sub (fun _ h => List.mem_append_left _ (List.mem_append_left _ (List.mem_append_left _ (List.mem_append_left _ (List.mem_append_right _ h))))) (by decide +kernel))
set_option maxRecDepth 20000 in
theorem gL_law_X2_restToo : GoodIn wsL_law (wsV RL 138 RX2 yX2_restToo wsX2_restToo) := goodIn_app (goodIn_of _ (by decide +kernel)) ggL_law_X2_restToo
set_option maxRecDepth 20000 in
theorem ggL_law_L_times : GoodIn wsL_law wsL_times := goodIn_ca (goodIn_ca (goodIn_ca (goodIn_ca (goodIn_r _ [233, 39, 165, 234, 235, 236, 2, 237, 15, 174, 175, 176, 177, 178, 179, 47, 48, 49, 50, 51, 183, 184, 185, 60, 61, 62, 63, 186, 187, 188, 189, 190, 191, 545, 546, 547, 548] (by decide +kernel) (by decide +kernel)) (goodIn_sub (fun _ h => List.mem_append_left _ (List.mem_append_left _ (List.mem_append_left _ (List.mem_append_left _ (List.mem_append_right _ h))))) (by decide +kernel))) (goodIn_sub (fun _ h => List.mem_append_left _ (List.mem_append_right _ h)) (by decide +kernel))) (goodIn_sub (fun _ h => List.mem_append_left _ (List.mem_append_left _ (List.mem_append_right _ h))) (by decide +kernel))) (goodIn_sub (fun _ h => List.mem_append_right _ h) (by decide +kernel))
set_option maxRecDepth 20000 in
theorem gL_law_L_times : GoodIn wsL_law (va_wsS RL 139 yL_times wsL_times) := goodIn_app (goodIn_of _ (by decide +kernel)) ggL_law_L_times
set_option maxRecDepth 20000 in
theorem ggL_law_X2_times : GoodIn wsL_law wsX2_times := goodIn_ca (goodIn_r _ [241, 31, 204, 205, 206, 5, 207, 78, 79, 80, 81, 82, 83, 84, 85, 212, 213, 214, 92, 93, 94, 549, 550, 551, 552, 553, 554] (by decide +kernel) (by decide +kernel)) (goodIn_sub (fun _ h => List.mem_append_left _ (List.mem_append_left _ (List.mem_append_left _ (List.mem_append_left _ (List.mem_append_right _ h))))) (by decide +kernel))
set_option maxRecDepth 20000 in
theorem gL_law_X2_times : GoodIn wsL_law (wsV RL 141 RX2 yX2_times wsX2_times) := goodIn_app (goodIn_of _ (by decide +kernel)) ggL_law_X2_times
set_option maxRecDepth 20000 in
theorem ggL_law_L_isHalf : GoodIn wsL_law wsL_isHalf := goodIn_ca (goodIn_ca (goodIn_ca (goodIn_ca (goodIn_r _ [244, 39, 165, 245, 246, 247, 2, 248, 15, 60, 61, 62, 63, 174, 175, 176, 177, 178, 179, 47, 48, 49, 50, 51, 180, 181, 182, 183, 184, 185, 186, 187, 188, 189, 190, 191, 545, 546, 547, 548] (by decide +kernel) (by decide +kernel)) (goodIn_sub (fun _ h => List.mem_append_left _ (List.mem_append_left _ (List.mem_append_left _ (List.mem_append_left _ (List.mem_append_right _ h))))) (by decide +kernel))) (goodIn_sub (fun _ h => List.mem_append_left _ (List.mem_append_right _ h)) (by decide +kernel))) (goodIn_sub (fun _ h => List.mem_append_left _ (List.mem_append_left _ (List.mem_append_right _ h))) (by decide +kernel))) (goodIn_sub (fun _ h => List.mem_append_right _ h) (by decide +kernel))
set_option maxRecDepth 20000 in
theorem gL_law_L_isHalf : GoodIn wsL_law (va_wsS RL 142 yL_isHalf wsL_isHalf) := goodIn_app (goodIn_of _ (by decide +kernel)) ggL_law_L_isHalf
set_option maxRecDepth 20000 in
theorem ggL_law_X2_isHalf : GoodIn wsL_law wsX2_isHalf := goodIn_ca (goodIn_r _ [252, 31, 204, 205, 206, 5, 207, 78, 79, 80, 81, 82, 83, 84, 85, 208, 209, 210, 211, 212, 213, 214, 92, 93, 94, 549, 550, 551, 552, 553, 554] (by decide +kernel) (by decide +kernel)) (goodIn_sub (fun _ h => List.mem_append_left _ (List.mem_append_left _ (List.mem_append_left _ (List.mem_append_left _ (List.mem_append_right _ h))))) (by decide +kernel))
set_option maxRecDepth 20000 in
theorem gL_law_X2_isHalf : GoodIn wsL_law (wsV RL 144 RX2 yX2_isHalf wsX2_isHalf) := goodIn_app (goodIn_of _ (by decide +kernel)) ggL_law_X2_isHalf
set_option maxRecDepth 20000 in
theorem ggL_law_L_cut : GoodIn wsL_law wsL_cut := goodIn_ca (goodIn_ca (goodIn_ca (goodIn_ca (goodIn_r _ [255, 39, 165, 256, 257, 258, 2, 259, 15, 47, 48, 49, 50, 51, 174, 175, 176, 177, 178, 179, 189, 190, 191, 192, 193, 194, 195, 196, 197, 198, 199, 17, 70, 71, 72, 73, 52, 53, 54, 55, 56, 57, 58, 59, 60, 61, 62, 63, 64, 65, 66, 67, 68, 69, 545, 546, 547, 548] (by decide +kernel) (by decide +kernel)) (goodIn_sub (fun _ h => List.mem_append_left _ (List.mem_append_left _ (List.mem_append_left _ (List.mem_append_left _ (List.mem_append_right _ h))))) (by decide +kernel))) (goodIn_sub (fun _ h => List.mem_append_left _ (List.mem_append_left _ (List.mem_append_right _ h))) (by decide +kernel))) (goodIn_sub (fun _ h => List.mem_append_left _ (List.mem_append_right _ h)) (by decide +kernel))) (goodIn_sub (fun _ h => List.mem_append_right _ h) (by decide +kernel))
set_option maxRecDepth 20000 in
theorem gL_law_L_cut : GoodIn wsL_law (va_wsS RL 145 yL_cut wsL_cut) := goodIn_app (goodIn_of _ (by decide +kernel)) ggL_law_L_cut
set_option maxRecDepth 20000 in
theorem ggL_law_X2_cut : GoodIn wsL_law wsX2_cut := goodIn_ca (goodIn_r _ [263, 204, 205, 206, 5, 207, 31, 78, 79, 80, 81, 82, 83, 84, 85, 264, 265, 266, 267, 92, 93, 94, 215, 216, 217, 218, 32, 121, 122, 123, 124, 86, 87, 88, 89, 90, 91, 549, 550, 551, 552, 553, 554] (by decide +kernel) (by decide +kernel)) (goodIn_sub (fun _ h => List.mem_append_left _ (List.mem_append_left _ (List.mem_append_left _ (List.mem_append_left _ (List.mem_append_right _ h))))) (by decide +kernel))
set_option maxRecDepth 20000 in
theorem gL_law_X2_cut : GoodIn wsL_law (wsV RL 147 RX2 yX2_cut wsX2_cut) := goodIn_app (goodIn_of _ (by decide +kernel)) ggL_law_X2_cut
set_option maxRecDepth 20000 in
theorem ggL_law_L_apart : GoodIn wsL_law wsL_apart := goodIn_ca (goodIn_ca (goodIn_ca (goodIn_ca (goodIn_r _ [270, 39, 165, 271, 272, 273, 2, 274, 15, 174, 175, 176, 177, 178, 179, 47, 48, 49, 50, 51, 180, 181, 182, 183, 184, 185, 60, 61, 62, 63, 186, 187, 188, 189, 190, 191, 275, 276, 67, 277, 545, 546, 547, 548] (by decide +kernel) (by decide +kernel)) (goodIn_sub (fun _ h => List.mem_append_left _ (List.mem_append_left _ (List.mem_append_left _ (List.mem_append_left _ (List.mem_append_right _ h))))) (by decide +kernel))) (goodIn_sub (fun _ h => List.mem_append_left _ (List.mem_append_right _ h)) (by decide +kernel))) (goodIn_sub (fun _ h => List.mem_append_left _ (List.mem_append_left _ (List.mem_append_right _ h))) (by decide +kernel))) (goodIn_sub (fun _ h => List.mem_append_right _ h) (by decide +kernel))
set_option maxRecDepth 20000 in
theorem gL_law_L_apart : GoodIn wsL_law (va_wsS RL 148 yL_apart wsL_apart) := goodIn_app (goodIn_of _ (by decide +kernel)) ggL_law_L_apart
set_option maxRecDepth 20000 in
theorem ggL_law_X2_apart : GoodIn wsL_law wsX2_apart := goodIn_ca (goodIn_r _ [281, 204, 205, 206, 5, 207, 31, 78, 79, 80, 81, 82, 83, 84, 85, 208, 209, 210, 211, 212, 213, 214, 92, 93, 94, 264, 265, 266, 267, 549, 550, 551, 552, 553, 554] (by decide +kernel) (by decide +kernel)) (goodIn_sub (fun _ h => List.mem_append_left _ (List.mem_append_left _ (List.mem_append_left _ (List.mem_append_left _ (List.mem_append_right _ h))))) (by decide +kernel))
set_option maxRecDepth 20000 in
theorem gL_law_X2_apart : GoodIn wsL_law (wsV RL 150 RX2 yX2_apart wsX2_apart) := goodIn_app (goodIn_of _ (by decide +kernel)) ggL_law_X2_apart
set_option maxRecDepth 20000 in
theorem ggL_law_L_residue : GoodIn wsL_law wsL_residue := goodIn_ca (goodIn_ca (goodIn_ca (goodIn_ca (goodIn_r _ [284, 39, 165, 285, 286, 287, 2, 288, 15, 47, 48, 49, 50, 51, 174, 175, 176, 177, 178, 179, 289, 290, 291, 292, 293, 294, 295, 60, 61, 62, 63, 70, 71, 72, 73, 17, 52, 53, 54, 55, 56, 57, 58, 59, 64, 65, 66, 67, 68, 69, 545, 546, 547, 548] (by decide +kernel) (by decide +kernel)) (goodIn_sub (fun _ h => List.mem_append_left _ (List.mem_append_left _ (List.mem_append_left _ (List.mem_append_left _ (List.mem_append_right _ h))))) (by decide +kernel))) (goodIn_sub (fun _ h => List.mem_append_left _ (List.mem_append_left _ (List.mem_append_right _ h))) (by decide +kernel))) (goodIn_sub (fun _ h => List.mem_append_left _ (List.mem_append_right _ h)) (by decide +kernel))) (goodIn_sub (fun _ h => List.mem_append_right _ h) (by decide +kernel))
set_option maxRecDepth 20000 in
theorem gL_law_L_residue : GoodIn wsL_law (va_wsS RL 151 yL_residue wsL_residue) := goodIn_app (goodIn_of _ (by decide +kernel)) ggL_law_L_residue
set_option maxRecDepth 20000 in
theorem ggL_law_X2_residue : GoodIn wsL_law wsX2_residue := goodIn_ca (goodIn_ca (goodIn_r _ [299, 31, 204, 205, 206, 5, 207, 78, 79, 80, 81, 82, 83, 84, 85, 300, 301, 302, 92, 93, 94, 121, 122, 123, 124, 32, 86, 87, 88, 89, 90, 91, 549, 550, 551, 552, 553, 554] (by decide +kernel) (by decide +kernel)) (goodIn_sub (fun _ h => List.mem_append_left _ (List.mem_append_left _ (List.mem_append_left _ (List.mem_append_left _ (List.mem_append_right _ h))))) (by decide +kernel))) (goodIn_sub (fun _ h => List.mem_append_right _ h) (by decide +kernel))
set_option maxRecDepth 20000 in
theorem gL_law_X2_residue : GoodIn wsL_law (wsV RL 153 RX2 yX2_residue wsX2_residue) := goodIn_app (goodIn_of _ (by decide +kernel)) ggL_law_X2_residue
set_option maxRecDepth 20000 in
theorem ggL_law_L_plus : GoodIn wsL_law wsL_plus := goodIn_ca (goodIn_ca (goodIn_ca (goodIn_ca (goodIn_r _ [305, 39, 165, 306, 307, 308, 2, 309, 15, 47, 48, 49, 50, 51, 174, 175, 176, 177, 178, 179, 289, 290, 291, 292, 293, 294, 295, 60, 61, 62, 63, 70, 71, 72, 73, 17, 52, 53, 54, 55, 56, 57, 58, 59, 64, 65, 66, 67, 68, 69, 545, 546, 547, 548] (by decide +kernel) (by decide +kernel)) (goodIn_sub (fun _ h => List.mem_append_left _ (List.mem_append_left _ (List.mem_append_left _ (List.mem_append_left _ (List.mem_append_right _ h))))) (by decide +kernel))) (goodIn_sub (fun _ h => List.mem_append_left _ (List.mem_append_left _ (List.mem_append_right _ h))) (by decide +kernel))) (goodIn_sub (fun _ h => List.mem_append_left _ (List.mem_append_right _ h)) (by decide +kernel))) (goodIn_sub (fun _ h => List.mem_append_right _ h) (by decide +kernel))
set_option maxRecDepth 20000 in
theorem gL_law_L_plus : GoodIn wsL_law (va_wsS RL 154 yL_plus wsL_plus) := goodIn_app (goodIn_of _ (by decide +kernel)) ggL_law_L_plus
set_option maxRecDepth 20000 in
theorem ggL_law_X2_plus : GoodIn wsL_law wsX2_plus := goodIn_ca (goodIn_ca (goodIn_r _ [313, 31, 204, 205, 206, 5, 207, 78, 79, 80, 81, 82, 83, 84, 85, 300, 301, 302, 92, 93, 94, 121, 122, 123, 124, 32, 86, 87, 88, 89, 90, 91, 549, 550, 551, 552, 553, 554] (by decide +kernel) (by decide +kernel)) (goodIn_sub (fun _ h => List.mem_append_left _ (List.mem_append_left _ (List.mem_append_left _ (List.mem_append_left _ (List.mem_append_right _ h))))) (by decide +kernel))) (goodIn_sub (fun _ h => List.mem_append_right _ h) (by decide +kernel))
set_option maxRecDepth 20000 in
theorem gL_law_X2_plus : GoodIn wsL_law (wsV RL 157 RX2 yX2_plus wsX2_plus) := goodIn_app (goodIn_of _ (by decide +kernel)) ggL_law_X2_plus
set_option maxRecDepth 20000 in
theorem ggL_law_L_minus : GoodIn wsL_law wsL_minus := goodIn_ca (goodIn_ca (goodIn_ca (goodIn_ca (goodIn_r _ [316, 39, 165, 317, 318, 319, 2, 320, 15, 47, 48, 49, 50, 51, 174, 175, 176, 177, 178, 179, 289, 290, 291, 292, 293, 294, 295, 60, 61, 62, 63, 70, 71, 72, 73, 17, 52, 53, 54, 55, 56, 57, 58, 59, 64, 65, 66, 67, 68, 69, 545, 546, 547, 548] (by decide +kernel) (by decide +kernel)) (goodIn_sub (fun _ h => List.mem_append_left _ (List.mem_append_left _ (List.mem_append_left _ (List.mem_append_left _ (List.mem_append_right _ h))))) (by decide +kernel))) (goodIn_sub (fun _ h => List.mem_append_left _ (List.mem_append_left _ (List.mem_append_right _ h))) (by decide +kernel))) (goodIn_sub (fun _ h => List.mem_append_left _ (List.mem_append_right _ h)) (by decide +kernel))) (goodIn_sub (fun _ h => List.mem_append_right _ h) (by decide +kernel))
set_option maxRecDepth 20000 in
theorem gL_law_L_minus : GoodIn wsL_law (va_wsS RL 158 yL_minus wsL_minus) := goodIn_app (goodIn_of _ (by decide +kernel)) ggL_law_L_minus
set_option maxRecDepth 20000 in
theorem ggL_law_X2_minus : GoodIn wsL_law wsX2_minus := goodIn_ca (goodIn_ca (goodIn_r _ [324, 31, 204, 205, 206, 5, 207, 78, 79, 80, 81, 82, 83, 84, 85, 300, 301, 302, 92, 93, 94, 121, 122, 123, 124, 32, 86, 87, 88, 89, 90, 91, 549, 550, 551, 552, 553, 554] (by decide +kernel) (by decide +kernel)) (goodIn_sub (fun _ h => List.mem_append_left _ (List.mem_append_left _ (List.mem_append_left _ (List.mem_append_left _ (List.mem_append_right _ h))))) (by decide +kernel))) (goodIn_sub (fun _ h => List.mem_append_right _ h) (by decide +kernel))
set_option maxRecDepth 20000 in
theorem gL_law_X2_minus : GoodIn wsL_law (wsV RL 160 RX2 yX2_minus wsX2_minus) := goodIn_app (goodIn_of _ (by decide +kernel)) ggL_law_X2_minus
set_option maxRecDepth 20000 in
theorem ggL_law_L_many : GoodIn wsL_law wsL_many := goodIn_ca (goodIn_ca (goodIn_ca (goodIn_ca (goodIn_r _ [327, 39, 165, 328, 329, 330, 2, 331, 15, 47, 48, 49, 50, 51, 174, 175, 176, 177, 178, 179, 289, 290, 291, 292, 293, 294, 295, 60, 61, 62, 63, 70, 71, 72, 73, 17, 52, 53, 54, 55, 56, 57, 58, 59, 64, 65, 66, 67, 68, 69, 545, 546, 547, 548] (by decide +kernel) (by decide +kernel)) (goodIn_sub (fun _ h => List.mem_append_left _ (List.mem_append_left _ (List.mem_append_left _ (List.mem_append_left _ (List.mem_append_right _ h))))) (by decide +kernel))) (goodIn_sub (fun _ h => List.mem_append_left _ (List.mem_append_left _ (List.mem_append_right _ h))) (by decide +kernel))) (goodIn_sub (fun _ h => List.mem_append_left _ (List.mem_append_right _ h)) (by decide +kernel))) (goodIn_sub (fun _ h => List.mem_append_right _ h) (by decide +kernel))
set_option maxRecDepth 20000 in
theorem gL_law_L_many : GoodIn wsL_law (va_wsS RL 161 yL_many wsL_many) := goodIn_app (goodIn_of _ (by decide +kernel)) ggL_law_L_many
set_option maxRecDepth 20000 in
theorem ggL_law_X2_many : GoodIn wsL_law wsX2_many := goodIn_ca (goodIn_ca (goodIn_r _ [335, 31, 204, 205, 206, 5, 207, 78, 79, 80, 81, 82, 83, 84, 85, 300, 301, 302, 92, 93, 94, 121, 122, 123, 124, 32, 86, 87, 88, 89, 90, 91, 549, 550, 551, 552, 553, 554] (by decide +kernel) (by decide +kernel)) (goodIn_sub (fun _ h => List.mem_append_left _ (List.mem_append_left _ (List.mem_append_left _ (List.mem_append_left _ (List.mem_append_right _ h))))) (by decide +kernel))) (goodIn_sub (fun _ h => List.mem_append_right _ h) (by decide +kernel))
set_option maxRecDepth 20000 in
theorem gL_law_X2_many : GoodIn wsL_law (wsV RL 163 RX2 yX2_many wsX2_many) := goodIn_app (goodIn_of _ (by decide +kernel)) ggL_law_X2_many
set_option maxRecDepth 20000 in
theorem ggL_law_L_product : GoodIn wsL_law wsL_product := goodIn_ca (goodIn_ca (goodIn_ca (goodIn_ca (goodIn_r _ [338, 39, 165, 339, 340, 341, 2, 342, 15, 47, 48, 49, 50, 51, 174, 175, 176, 177, 178, 179, 289, 290, 291, 292, 293, 294, 295, 60, 61, 62, 63, 70, 71, 72, 73, 17, 52, 53, 54, 55, 56, 57, 58, 59, 64, 65, 66, 67, 68, 69, 545, 546, 547, 548] (by decide +kernel) (by decide +kernel)) (goodIn_sub (fun _ h => List.mem_append_left _ (List.mem_append_left _ (List.mem_append_left _ (List.mem_append_left _ (List.mem_append_right _ h))))) (by decide +kernel))) (goodIn_sub (fun _ h => List.mem_append_left _ (List.mem_append_left _ (List.mem_append_right _ h))) (by decide +kernel))) (goodIn_sub (fun _ h => List.mem_append_left _ (List.mem_append_right _ h)) (by decide +kernel))) (goodIn_sub (fun _ h => List.mem_append_right _ h) (by decide +kernel))
set_option maxRecDepth 20000 in
theorem gL_law_L_product : GoodIn wsL_law (va_wsS RL 164 yL_product wsL_product) := goodIn_app (goodIn_of _ (by decide +kernel)) ggL_law_L_product
set_option maxRecDepth 20000 in
theorem ggL_law_X2_product : GoodIn wsL_law wsX2_product := goodIn_ca (goodIn_ca (goodIn_r _ [346, 31, 204, 205, 206, 5, 207, 78, 79, 80, 81, 82, 83, 84, 85, 300, 301, 302, 92, 93, 94, 121, 122, 123, 124, 32, 86, 87, 88, 89, 90, 91, 549, 550, 551, 552, 553, 554] (by decide +kernel) (by decide +kernel)) (goodIn_sub (fun _ h => List.mem_append_left _ (List.mem_append_left _ (List.mem_append_left _ (List.mem_append_left _ (List.mem_append_right _ h))))) (by decide +kernel))) (goodIn_sub (fun _ h => List.mem_append_right _ h) (by decide +kernel))
set_option maxRecDepth 20000 in
theorem gL_law_X2_product : GoodIn wsL_law (wsV RL 166 RX2 yX2_product wsX2_product) := goodIn_app (goodIn_of _ (by decide +kernel)) ggL_law_X2_product
set_option maxRecDepth 20000 in
theorem ggL_law_L_power : GoodIn wsL_law wsL_power := goodIn_ca (goodIn_ca (goodIn_ca (goodIn_ca (goodIn_ca (goodIn_r _ [349, 39, 40, 165, 350, 351, 352, 2, 353, 45, 46, 15, 47, 48, 49, 50, 51, 174, 175, 176, 177, 178, 179, 354, 355, 356, 293, 294, 295, 60, 61, 62, 63, 289, 290, 291, 292, 70, 71, 72, 73, 17, 52, 53, 54, 55, 56, 57, 58, 59, 64, 65, 66, 67, 68, 69, 545, 546, 547, 548] (by decide +kernel) (by decide +kernel)) (goodIn_sub (fun _ h => List.mem_append_left _ (List.mem_append_left _ (List.mem_append_left _ (List.mem_append_left _ (List.mem_append_right _ h))))) (by decide +kernel))) (goodIn_sub (fun _ h => List.mem_append_left _ (List.mem_append_left _ (List.mem_append_left _ (List.mem_append_right _ h)))) (by decide +kernel))) (goodIn_sub (fun _ h => List.mem_append_left _ (List.mem_append_left _ (List.mem_append_right _ h))) (by decide +kernel))) (goodIn_sub (fun _ h => List.mem_append_left _ (List.mem_append_right _ h)) (by decide +kernel))) (goodIn_sub (fun _ h => List.mem_append_right _ h) (by decide +kernel))
set_option maxRecDepth 20000 in
theorem gL_law_L_power : GoodIn wsL_law (va_wsS RL 167 yL_power wsL_power) := goodIn_app (goodIn_of _ (by decide +kernel)) ggL_law_L_power
set_option maxRecDepth 20000 in
theorem ggL_law_X2_power : GoodIn wsL_law wsX2_power := goodIn_ca (goodIn_ca (goodIn_r _ [360, 31, 78, 79, 5, 80, 81, 82, 83, 84, 85, 300, 301, 302, 92, 93, 94, 121, 122, 123, 124, 32, 86, 87, 88, 89, 90, 91, 549, 550, 551, 552, 553, 554] (by decide +kernel) (by decide +kernel)) (goodIn_sub (fun _ h => List.mem_append_left _ (List.mem_append_left _ (List.mem_append_left _ (List.mem_append_left _ (List.mem_append_right _ h))))) (by decide +kernel))) (goodIn_sub (fun _ h => List.mem_append_right _ h) (by decide +kernel))
set_option maxRecDepth 20000 in
theorem gL_law_X2_power : GoodIn wsL_law (wsV RL 169 RX2 yX2_power wsX2_power) := goodIn_app (goodIn_of _ (by decide +kernel)) ggL_law_X2_power
set_option maxRecDepth 20000 in
theorem ggL_law_L_inverse : GoodIn wsL_law wsL_inverse := goodIn_ca (goodIn_ca (goodIn_ca (goodIn_ca (goodIn_r _ [363, 39, 165, 364, 365, 366, 2, 367, 178, 179, 15, 47, 48, 49, 50, 51, 174, 175, 176, 177, 368, 369, 370, 371, 22, 372, 20, 373, 374, 375, 376, 26, 377, 184, 185, 60, 61, 62, 63, 186, 187, 188, 189, 190, 191, 378, 379, 380, 381, 382, 383, 384, 293, 294, 295, 385, 386, 387, 70, 71, 72, 73, 17, 52, 53, 54, 55, 56, 57, 58, 59, 64, 65, 66, 67, 68, 69, 545, 546, 547, 548, 555, 556, 557, 558] (by decide +kernel) (by decide +kernel)) (goodIn_sub (fun _ h => List.mem_append_left _ (List.mem_append_left _ (List.mem_append_left _ (List.mem_append_left _ (List.mem_append_right _ h))))) (by decide +kernel))) (goodIn_sub (fun _ h => List.mem_append_left _ (List.mem_append_right _ h)) (by decide +kernel))) (goodIn_sub (fun _ h => List.mem_append_left _ (List.mem_append_left _ (List.mem_append_right _ h))) (by decide +kernel))) (goodIn_sub (fun _ h => List.mem_append_right _ h) (by decide +kernel))
set_option maxRecDepth 20000 in
theorem gL_law_L_inverse : GoodIn wsL_law (va_wsS RL 170 yL_inverse wsL_inverse) := goodIn_app (goodIn_of _ (by decide +kernel)) ggL_law_L_inverse
set_option maxRecDepth 20000 in
theorem ggL_law_X2_inverse : GoodIn wsL_law wsX2_inverse := goodIn_ca (goodIn_ca (goodIn_r _ [391, 31, 204, 205, 206, 5, 207, 78, 79, 80, 81, 82, 83, 84, 85, 300, 301, 302, 92, 93, 94, 121, 122, 123, 124, 32, 86, 87, 88, 89, 90, 91, 549, 550, 551, 552, 553, 554] (by decide +kernel) (by decide +kernel)) (goodIn_sub (fun _ h => List.mem_append_left _ (List.mem_append_left _ (List.mem_append_left _ (List.mem_append_left _ (List.mem_append_right _ h))))) (by decide +kernel))) (goodIn_sub (fun _ h => List.mem_append_right _ h) (by decide +kernel))
set_option maxRecDepth 20000 in
theorem gL_law_X2_inverse : GoodIn wsL_law (wsV RL 172 RX2 yX2_inverse wsX2_inverse) := goodIn_app (goodIn_of _ (by decide +kernel)) ggL_law_X2_inverse
set_option maxRecDepth 20000 in
theorem ggL_law_L_order : GoodIn wsL_law wsL_order := goodIn_ca (goodIn_ca (goodIn_ca (goodIn_ca (goodIn_r _ [394, 39, 165, 395, 396, 397, 2, 398, 15, 60, 61, 62, 63, 174, 175, 176, 177, 178, 179, 47, 48, 49, 50, 51, 399, 400, 401, 402, 22, 372, 20, 373, 374, 375, 376, 26, 377, 184, 185, 186, 187, 188, 189, 190, 191, 545, 546, 547, 548, 555, 556, 557, 558] (by decide +kernel) (by decide +kernel)) (goodIn_sub (fun _ h => List.mem_append_left _ (List.mem_append_left _ (List.mem_append_left _ (List.mem_append_left _ (List.mem_append_right _ h))))) (by decide +kernel))) (goodIn_sub (fun _ h => List.mem_append_left _ (List.mem_append_right _ h)) (by decide +kernel))) (goodIn_sub (fun _ h => List.mem_append_left _ (List.mem_append_left _ (List.mem_append_right _ h))) (by decide +kernel))) (goodIn_sub (fun _ h => List.mem_append_right _ h) (by decide +kernel))
set_option maxRecDepth 20000 in
theorem gL_law_L_order : GoodIn wsL_law (va_wsS RL 173 yL_order wsL_order) := goodIn_app (goodIn_of _ (by decide +kernel)) ggL_law_L_order
set_option maxRecDepth 20000 in
theorem ggL_law_X2_order : GoodIn wsL_law wsX2_order := goodIn_ca (goodIn_ca (goodIn_r _ [406, 31, 204, 205, 206, 5, 207, 78, 79, 80, 81, 82, 83, 84, 85, 549, 550, 551, 552, 553, 554] (by decide +kernel) (by decide +kernel)) (goodIn_sub (fun _ h => List.mem_append_left _ (List.mem_append_left _ (List.mem_append_left _ (List.mem_append_left _ (List.mem_append_right _ h))))) (by decide +kernel))) (goodIn_sub (fun _ h => List.mem_append_right _ h) (by decide +kernel))
set_option maxRecDepth 20000 in
theorem gL_law_X2_order : GoodIn wsL_law (wsV RL 175 RX2 yX2_order wsX2_order) := goodIn_app (goodIn_of _ (by decide +kernel)) ggL_law_X2_order
set_option maxRecDepth 20000 in
theorem ggL_law_L_measure : GoodIn wsL_law wsL_measure := goodIn_ca (goodIn_ca (goodIn_ca (goodIn_r _ [409, 39, 410, 411, 412, 2, 413, 15, 47, 48, 49, 50, 51, 399, 400, 401, 402, 22, 60, 61, 62, 63, 372, 20, 373, 374, 375, 376, 26, 377, 184, 185, 186, 187, 188, 189, 190, 191, 70, 71, 72, 73, 17, 52, 53, 54, 55, 56, 57, 58, 59, 64, 65, 66, 67, 68, 69, 545, 546, 547, 548, 555, 556, 557, 558] (by decide +kernel) (by decide +kernel)) (goodIn_sub (fun _ h => List.mem_append_left _ (List.mem_append_left _ (List.mem_append_left _ (List.mem_append_left _ (List.mem_append_right _ h))))) (by decide +kernel))) (goodIn_sub (fun _ h => List.mem_append_left _ (List.mem_append_left _ (List.mem_append_right _ h))) (by decide +kernel))) (goodIn_sub (fun _ h => List.mem_append_right _ h) (by decide +kernel))
set_option maxRecDepth 20000 in
theorem gL_law_L_measure : GoodIn wsL_law (va_wsS RL 176 yL_measure wsL_measure) := goodIn_app (goodIn_of _ (by decide +kernel)) ggL_law_L_measure
set_option maxRecDepth 20000 in
theorem ggL_law_X2_measure : GoodIn wsL_law wsX2_measure := goodIn_ca (goodIn_ca (goodIn_r _ [417, 31, 78, 79, 5, 80, 81, 82, 83, 84, 85, 418, 419, 420, 121, 122, 123, 124, 32, 86, 87, 88, 89, 90, 91, 92, 93, 94, 549, 550, 551, 552, 553, 554] (by decide +kernel) (by decide +kernel)) (goodIn_sub (fun _ h => List.mem_append_left _ (List.mem_append_left _ (List.mem_append_left _ (List.mem_append_left _ (List.mem_append_right _ h))))) (by decide +kernel))) (goodIn_sub (fun _ h => List.mem_append_right _ h) (by decide +kernel))
set_option maxRecDepth 20000 in
theorem gL_law_X2_measure : GoodIn wsL_law (wsV RL 178 RX2 yX2_measure wsX2_measure) := goodIn_app (goodIn_of _ (by decide +kernel)) ggL_law_X2_measure
set_option maxRecDepth 20000 in
theorem ggL_law_L_steps : GoodIn wsL_law wsL_steps := goodIn_ca (goodIn_ca (goodIn_ca (goodIn_r _ [423, 39, 424, 425, 426, 2, 427, 22, 15, 47, 48, 49, 50, 51, 372, 20, 373, 374, 375, 376, 26, 377, 184, 185, 60, 61, 62, 63, 186, 187, 188, 189, 190, 191, 545, 546, 547, 548, 555, 556, 557, 558] (by decide +kernel) (by decide +kernel)) (goodIn_sub (fun _ h => List.mem_append_left _ (List.mem_append_left _ (List.mem_append_left _ (List.mem_append_left _ (List.mem_append_right _ h))))) (by decide +kernel))) (goodIn_sub (fun _ h => List.mem_append_left _ (List.mem_append_left _ (List.mem_append_right _ h))) (by decide +kernel))) (goodIn_sub (fun _ h => List.mem_append_right _ h) (by decide +kernel))
set_option maxRecDepth 20000 in
theorem gL_law_L_steps : GoodIn wsL_law (va_wsS RL 179 yL_steps wsL_steps) := goodIn_app (goodIn_of _ (by decide +kernel)) ggL_law_L_steps
set_option maxRecDepth 20000 in
theorem ggL_law_X2_steps : GoodIn wsL_law wsX2_steps := goodIn_ca (goodIn_r _ [431, 31, 78, 79, 5, 80, 81, 82, 83, 84, 85, 432, 433, 434, 435, 34, 212, 213, 214, 92, 93, 94, 549, 550, 551, 552, 553, 554] (by decide +kernel) (by decide +kernel)) (goodIn_sub (fun _ h => List.mem_append_left _ (List.mem_append_left _ (List.mem_append_left _ (List.mem_append_left _ (List.mem_append_right _ h))))) (by decide +kernel))
set_option maxRecDepth 20000 in
theorem gL_law_X2_steps : GoodIn wsL_law (wsV RL 181 RX2 yX2_steps wsX2_steps) := goodIn_app (goodIn_of _ (by decide +kernel)) ggL_law_X2_steps
set_option maxRecDepth 20000 in
theorem ggL_law_L_digits : GoodIn wsL_law wsL_digits := goodIn_ca (goodIn_ca (goodIn_ca (goodIn_ca (goodIn_r _ [438, 39, 165, 439, 440, 441, 2, 442, 21, 15, 174, 175, 176, 177, 178, 179, 47, 48, 49, 50, 51, 372, 20, 373, 374, 375, 376, 26, 377, 184, 185, 60, 61, 62, 63, 186, 187, 188, 189, 190, 191, 545, 546, 547, 548, 555, 556, 557, 558] (by decide +kernel) (by decide +kernel)) (goodIn_sub (fun _ h => List.mem_append_left _ (List.mem_append_left _ (List.mem_append_left _ (List.mem_append_left _ (List.mem_append_right _ h))))) (by decide +kernel))) (goodIn_sub (fun _ h => List.mem_append_left _ (List.mem_append_right _ h)) (by decide +kernel))) (goodIn_sub (fun _ h => List.mem_append_left _ (List.mem_append_left _ (List.mem_append_right _ h))) (by decide +kernel))) (goodIn_sub (fun _ h => List.mem_append_right _ h) (by decide +kernel))
set_option maxRecDepth 20000 in
theorem gL_law_L_digits : GoodIn wsL_law (va_wsS RL 182 yL_digits wsL_digits) := goodIn_app (goodIn_of _ (by decide +kernel)) ggL_law_L_digits
set_option maxRecDepth 20000 in
theorem ggL_law_X2_digits : GoodIn wsL_law wsX2_digits := goodIn_ca (goodIn_r _ [446, 31, 447, 33, 34, 204, 205, 206, 5, 207, 78, 79, 80, 81, 82, 83, 84, 85, 432, 433, 434, 435, 212, 213, 214, 92, 93, 94, 549, 550, 551, 552, 553, 554] (by decide +kernel) (by decide +kernel)) (goodIn_sub (fun _ h => List.mem_append_left _ (List.mem_append_left _ (List.mem_append_left _ (List.mem_append_left _ (List.mem_append_right _ h))))) (by decide +kernel))
set_option maxRecDepth 20000 in
theorem gL_law_X2_digits : GoodIn wsL_law (wsV RL 184 RX2 yX2_digits wsX2_digits) := goodIn_app (goodIn_of _ (by decide +kernel)) ggL_law_X2_digits
set_option maxRecDepth 20000 in
theorem ggL_law_L_digit : GoodIn wsL_law wsL_digit := goodIn_ca (goodIn_ca (goodIn_r _ [450, 39, 451, 452, 453, 2, 454, 50, 51, 21, 545, 546, 547, 548, 555, 556, 557, 558] (by decide +kernel) (by decide +kernel)) (goodIn_sub (fun _ h => List.mem_append_left _ (List.mem_append_left _ (List.mem_append_left _ (List.mem_append_left _ (List.mem_append_right _ h))))) (by decide +kernel))) (goodIn_sub (fun _ h => List.mem_append_left _ (List.mem_append_left _ (List.mem_append_right _ h))) (by decide +kernel))
set_option maxRecDepth 20000 in
theorem gL_law_L_digit : GoodIn wsL_law (va_wsS RL 185 yL_digit wsL_digit) := goodIn_app (goodIn_of _ (by decide +kernel)) ggL_law_L_digit
set_option maxRecDepth 20000 in
theorem ggL_law_X2_digit : GoodIn wsL_law wsX2_digit := goodIn_ca (goodIn_r _ [458, 447, 33, 81, 82, 83, 5, 84, 85, 549, 550, 551, 552, 553, 554] (by decide +kernel) (by decide +kernel)) (goodIn_sub (fun _ h => List.mem_append_left _ (List.mem_append_left _ (List.mem_append_left _ (List.mem_append_left _ (List.mem_append_right _ h))))) (by decide +kernel))
set_option maxRecDepth 20000 in
theorem gL_law_X2_digit : GoodIn wsL_law (wsV RL 187 RX2 yX2_digit wsX2_digit) := goodIn_app (goodIn_of _ (by decide +kernel)) ggL_law_X2_digit
set_option maxRecDepth 20000 in
theorem ggL_law_L_above : GoodIn wsL_law wsL_above := goodIn_ca (goodIn_ca (goodIn_r _ [461, 39, 462, 463, 464, 2, 465, 21, 466, 467, 468, 469, 50, 51, 470, 20, 471, 472, 381, 382, 383, 384, 376, 26, 545, 546, 547, 548, 555, 556, 557, 558] (by decide +kernel) (by decide +kernel)) (goodIn_sub (fun _ h => List.mem_append_left _ (List.mem_append_left _ (List.mem_append_left _ (List.mem_append_left _ (List.mem_append_right _ h))))) (by decide +kernel))) (goodIn_sub (fun _ h => List.mem_append_left _ (List.mem_append_left _ (List.mem_append_right _ h))) (by decide +kernel))
set_option maxRecDepth 20000 in
theorem gL_law_L_above : GoodIn wsL_law (va_wsS RL 188 yL_above wsL_above) := goodIn_app (goodIn_of _ (by decide +kernel)) ggL_law_L_above
set_option maxRecDepth 20000 in
theorem ggL_law_X2_above : GoodIn wsL_law wsX2_above := goodIn_ca (goodIn_r _ [476, 447, 33, 81, 82, 83, 5, 84, 85, 477, 478, 479, 480, 549, 550, 551, 552, 553, 554] (by decide +kernel) (by decide +kernel)) (goodIn_sub (fun _ h => List.mem_append_left _ (List.mem_append_left _ (List.mem_append_left _ (List.mem_append_left _ (List.mem_append_right _ h))))) (by decide +kernel))
set_option maxRecDepth 20000 in
theorem gL_law_X2_above : GoodIn wsL_law (wsV RL 190 RX2 yX2_above wsX2_above) := goodIn_app (goodIn_of _ (by decide +kernel)) ggL_law_X2_above
set_option maxRecDepth 20000 in
theorem ggL_law_L_below : GoodIn wsL_law wsL_below := goodIn_ca (goodIn_ca (goodIn_r _ [483, 39, 484, 485, 486, 2, 487, 21, 466, 467, 468, 469, 50, 51, 378, 20, 379, 380, 381, 382, 383, 384, 376, 26, 545, 546, 547, 548, 555, 556, 557, 558] (by decide +kernel) (by decide +kernel)) (goodIn_sub (fun _ h => List.mem_append_left _ (List.mem_append_left _ (List.mem_append_left _ (List.mem_append_left _ (List.mem_append_right _ h))))) (by decide +kernel))) (goodIn_sub (fun _ h => List.mem_append_left _ (List.mem_append_left _ (List.mem_append_right _ h))) (by decide +kernel))
set_option maxRecDepth 20000 in
theorem gL_law_L_below : GoodIn wsL_law (va_wsS RL 191 yL_below wsL_below) := goodIn_app (goodIn_of _ (by decide +kernel)) ggL_law_L_below
set_option maxRecDepth 20000 in
theorem ggL_law_X2_below : GoodIn wsL_law wsX2_below := goodIn_ca (goodIn_r _ [491, 447, 81, 82, 83, 5, 84, 85, 477, 478, 479, 480, 33, 549, 550, 551, 552, 553, 554] (by decide +kernel) (by decide +kernel)) (goodIn_sub (fun _ h => List.mem_append_left _ (List.mem_append_left _ (List.mem_append_left _ (List.mem_append_left _ (List.mem_append_right _ h))))) (by decide +kernel))
set_option maxRecDepth 20000 in
theorem gL_law_X2_below : GoodIn wsL_law (wsV RL 193 RX2 yX2_below wsX2_below) := goodIn_app (goodIn_of _ (by decide +kernel)) ggL_law_X2_below
set_option maxRecDepth 20000 in
theorem ggL_law_X1_sum : GoodIn wsL_law wsX1_sum := goodIn_ca (goodIn_r _ [495, 15, 545, 546, 547, 548] (by decide +kernel) (by decide +kernel)) (goodIn_sub (fun _ h => List.mem_append_left _ (List.mem_append_left _ (List.mem_append_left _ (List.mem_append_left _ (List.mem_append_right _ h))))) (by decide +kernel))
set_option maxRecDepth 20000 in
theorem gL_law_X1_sum : GoodIn wsL_law (wsV RL 194 RX1 yX1_sum wsX1_sum) := goodIn_app (goodIn_of _ (by decide +kernel)) ggL_law_X1_sum
set_option maxRecDepth 20000 in
theorem ggL_law_X2_sum : GoodIn wsL_law wsX2_sum := goodIn_ca (goodIn_r _ [499, 31, 549, 550, 551, 552, 553, 554] (by decide +kernel) (by decide +kernel)) (goodIn_sub (fun _ h => List.mem_append_left _ (List.mem_append_left _ (List.mem_append_left _ (List.mem_append_left _ (List.mem_append_right _ h))))) (by decide +kernel))
set_option maxRecDepth 20000 in
theorem gL_law_X2_sum : GoodIn wsL_law (wsV RL 197 RX2 yX2_sum wsX2_sum) := goodIn_app (goodIn_of _ (by decide +kernel)) ggL_law_X2_sum
set_option maxRecDepth 20000 in
theorem ggL_law_X1_checksum : GoodIn wsL_law wsX1_checksum := goodIn_ca (goodIn_r _ [503, 504, 505, 21, 52, 53, 54, 2, 55, 15, 17, 56, 57, 58, 59, 60, 61, 62, 63, 64, 65, 66, 67, 68, 69, 545, 546, 547, 548, 555, 556, 557, 558] (by decide +kernel) (by decide +kernel)) (goodIn_sub (fun _ h => List.mem_append_left _ (List.mem_append_left _ (List.mem_append_left _ (List.mem_append_left _ (List.mem_append_right _ h))))) (by decide +kernel))
set_option maxRecDepth 20000 in
theorem gL_law_X1_checksum : GoodIn wsL_law (wsV RL 198 RX1 yX1_checksum wsX1_checksum) := goodIn_app (goodIn_of _ (by decide +kernel)) ggL_law_X1_checksum
set_option maxRecDepth 20000 in
theorem ggL_law_X2_checksum : GoodIn wsL_law wsX2_checksum := goodIn_ca (goodIn_r _ [509, 510, 511, 31, 32, 447, 33, 86, 87, 5, 88, 89, 90, 91, 92, 93, 94, 549, 550, 551, 552, 553, 554] (by decide +kernel) (by decide +kernel)) (goodIn_sub (fun _ h => List.mem_append_left _ (List.mem_append_left _ (List.mem_append_left _ (List.mem_append_left _ (List.mem_append_right _ h))))) (by decide +kernel))
set_option maxRecDepth 20000 in
theorem gL_law_X2_checksum : GoodIn wsL_law (wsV RL 202 RX2 yX2_checksum wsX2_checksum) := goodIn_app (goodIn_of _ (by decide +kernel)) ggL_law_X2_checksum
set_option maxRecDepth 20000 in
theorem ggL_law_X1_isTrue : GoodIn wsL_law wsX1_isTrue := goodIn_ca (goodIn_ca (goodIn_r _ [515, 15, 516, 517, 518, 2, 519, 520, 521, 522, 60, 61, 62, 63, 293, 294, 295, 523, 524, 525, 180, 181, 182, 183, 184, 185, 186, 187, 188, 189, 190, 191, 196, 197, 198, 199, 17, 526, 527, 528, 59, 56, 57, 58, 64, 65, 66, 67, 68, 69, 529, 530, 531, 532, 368, 369, 370, 371, 22, 372, 20, 373, 374, 375, 376, 26, 377, 378, 379, 380, 381, 382, 383, 384, 385, 386, 387, 399, 400, 401, 402, 533, 534, 535, 536, 537, 538, 539, 540, 470, 471, 472, 545, 546, 547, 548, 555, 556, 557, 558] (by decide +kernel) (by decide +kernel)) (goodIn_sub (fun _ h => List.mem_append_left _ (List.mem_append_left _ (List.mem_append_left _ (List.mem_append_left _ (List.mem_append_right _ h))))) (by decide +kernel))) (goodIn_sub (fun _ h => List.mem_append_right _ h) (by decide +kernel))
set_option maxRecDepth 20000 in
theorem gL_law_X1_isTrue : GoodIn wsL_law (wsV RL 203 RX1 yX1_isTrue wsX1_isTrue) := goodIn_app (goodIn_of _ (by decide +kernel)) ggL_law_X1_isTrue
set_option maxRecDepth 20000 in
theorem ggL_law_X2_isTrue : GoodIn wsL_law wsX2_isTrue := goodIn_r _ [544] (by decide +kernel) (by decide +kernel)
set_option maxRecDepth 20000 in
theorem gL_law_X2_isTrue : GoodIn wsL_law (wsV RL 207 RX2 yX2_isTrue wsX2_isTrue) := goodIn_app (goodIn_of _ (by decide +kernel)) ggL_law_X2_isTrue
