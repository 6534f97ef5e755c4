theorem wsL_law_x0 : ∀ w ∈ (vx_atM "java/lang/ArrayIndexOutOfBoundsException" ["java/lang/IndexOutOfBoundsException", "java/lang/RuntimeException", "java/lang/Exception"]).filter goodWord, w ∈ lw_tbl := by decide +kernel
theorem wsL_law_x1 : ∀ w ∈ (vx_atS RX1 35 "java/lang/IllegalArgumentException" ["java/lang/RuntimeException", "java/lang/Exception"]).filter goodWord, w ∈ lw_tbl := by decide +kernel
theorem wsL_law_x2 : ∀ w ∈ (vx_atS RX1 117 "java/lang/IndexOutOfBoundsException" ["java/lang/RuntimeException", "java/lang/Exception"]).filter goodWord, w ∈ lw_tbl := by decide +kernel
theorem wsL_law_x3 : ∀ w ∈ (vx_atS RX1 99 "java/lang/ArithmeticException" ["java/lang/RuntimeException", "java/lang/Exception"]).filter goodWord, w ∈ lw_tbl := by decide +kernel
theorem wsL_law_x4 : ∀ w ∈ (vx_atM "java/lang/ArithmeticException" ["java/lang/RuntimeException", "java/lang/Exception"]).filter goodWord, w ∈ lw_tbl := by decide +kernel
theorem wsL_law_in : ∀ w ∈ wsL_law, w ∈ lw_tbl := fun w h => (List.mem_append.mp h).elim (fun h => (List.mem_append.mp h).elim (fun h => (List.mem_append.mp h).elim (fun h => (List.mem_append.mp h).elim (fun h => (List.mem_append.mp h).elim (fun h => wsL_law_in0 w h) (fun h => wsL_law_x0 w h)) (fun h => wsL_law_x1 w h)) (fun h => wsL_law_x2 w h)) (fun h => wsL_law_x3 w h)) (fun h => wsL_law_x4 w h)
theorem inlX0 : ∀ w ∈ wsX00, w ∈ wsL_law := fun _ h => List.mem_append_left _ (List.mem_append_left _ (List.mem_append_left _ (List.mem_append_left _ (List.mem_append_left _ (List.mem_append_left _ (List.mem_append_right _ h))))))
theorem inX0 : ∀ w ∈ wsX00, w ∈ lw_tbl := fun w h => wsL_law_in w (inlX0 w h)
theorem inlX1 : ∀ w ∈ wsX10, w ∈ wsL_law := fun _ h => List.mem_append_left _ (List.mem_append_left _ (List.mem_append_left _ (List.mem_append_left _ (List.mem_append_left _ (List.mem_append_left _ (List.mem_append_left _ (List.mem_append_left _ (List.mem_append_right _ h))))))))
theorem inX1 : ∀ w ∈ wsX10, w ∈ lw_tbl := fun w h => wsL_law_in w (inlX1 w h)
theorem inlX2 : ∀ w ∈ wsX20, w ∈ wsL_law := fun _ h => List.mem_append_left _ (List.mem_append_left _ (List.mem_append_left _ (List.mem_append_left _ (List.mem_append_left _ (List.mem_append_left _ (List.mem_append_left _ (List.mem_append_right _ h)))))))
theorem inX2 : ∀ w ∈ wsX20, w ∈ lw_tbl := fun w h => wsL_law_in w (inlX2 w h)
theorem inJx00060 : ∀ w ∈ wsJx000600, w ∈ lw_tbl := by decide +kernel
theorem inJ6 : ∀ w ∈ wsJ60, w ∈ lw_tbl := by decide +kernel
theorem inJ9 : ∀ w ∈ wsJ90, w ∈ lw_tbl := by decide +kernel
theorem inJ0 : ∀ w ∈ wsJ00, w ∈ lw_tbl := by decide +kernel
theorem dX0_init_0 : decode cX0_init 0 = .ok (.aload_n 0, 1) := by decide +kernel
theorem dX0_init_1 : decode cX0_init 1 = .ok (.invokespecial 3, 3) := by decide +kernel
theorem dX0_init_4 : decode cX0_init 4 = .ok (.aload_n 0, 1) := by decide +kernel
theorem dX0_init_5 : decode cX0_init 5 = .ok (.bipush 7, 2) := by decide +kernel
theorem dX0_init_7 : decode cX0_init 7 = .ok (.newarray .int, 2) := by decide +kernel
theorem dX0_init_9 : decode cX0_init 9 = .ok (.putfield 9, 3) := by decide +kernel
theorem dX0_init_12 : decode cX0_init 12 = .ok (.return_, 1) := by decide +kernel
set_option maxRecDepth 20000 in
theorem ggX0_takeRests_X1_nearest : GoodIn wsX0_takeRests wsX1_nearest := goodIn_ca (goodIn_r _ [7, 8, 9, 10, 11, 12, 13, 6, 14, 15, 16, 17] (by decide +kernel) (by decide +kernel)) (goodIn_sub (fun _ h => List.mem_cons_of_mem _ (List.mem_append_right _ h)) (by decide +kernel))
set_option maxRecDepth 20000 in
theorem gX0_takeRests_X1_nearest_n22 : GoodIn wsX0_takeRests (wsX1_nearest) := ggX0_takeRests_X1_nearest
theorem dX0_takeRests_0 : decode cX0_takeRests 0 = .ok (.iload_n 2, 1) := by decide +kernel
theorem dX0_takeRests_1 : decode cX0_takeRests 1 = .ok (.istore_n 3, 1) := by decide +kernel
theorem dX0_takeRests_2 : decode cX0_takeRests 2 = .ok (.aload_n 0, 1) := by decide +kernel
theorem dX0_takeRests_3 : decode cX0_takeRests 3 = .ok (.iload_n 1, 1) := by decide +kernel
theorem dX0_takeRests_4 : decode cX0_takeRests 4 = .ok (.putfield 15, 3) := by decide +kernel
theorem dX0_takeRests_7 : decode cX0_takeRests 7 = .ok (.aload_n 0, 1) := by decide +kernel
theorem dX0_takeRests_8 : decode cX0_takeRests 8 = .ok (.iconst 0, 1) := by decide +kernel
theorem dX0_takeRests_9 : decode cX0_takeRests 9 = .ok (.putfield 19, 3) := by decide +kernel
theorem dX0_takeRests_12 : decode cX0_takeRests 12 = .ok (.iload_n 3, 1) := by decide +kernel
theorem dX0_takeRests_13 : decode cX0_takeRests 13 = .ok (.ifCond .eq 68, 3) := by decide +kernel
theorem dX0_takeRests_16 : decode cX0_takeRests 16 = .ok (.aload_n 0, 1) := by decide +kernel
theorem dX0_takeRests_17 : decode cX0_takeRests 17 = .ok (.getfield 19, 3) := by decide +kernel
theorem dX0_takeRests_20 : decode cX0_takeRests 20 = .ok (.aload_n 0, 1) := by decide +kernel
theorem dX0_takeRests_21 : decode cX0_takeRests 21 = .ok (.getfield 9, 3) := by decide +kernel
theorem dX0_takeRests_24 : decode cX0_takeRests 24 = .ok (.arraylength, 1) := by decide +kernel
theorem dX0_takeRests_25 : decode cX0_takeRests 25 = .ok (.if_icmp .ge 56, 3) := by decide +kernel
theorem dX0_takeRests_28 : decode cX0_takeRests 28 = .ok (.aload_n 0, 1) := by decide +kernel
theorem dX0_takeRests_29 : decode cX0_takeRests 29 = .ok (.getfield 15, 3) := by decide +kernel
theorem dX0_takeRests_32 : decode cX0_takeRests 32 = .ok (.iload_n 3, 1) := by decide +kernel
theorem dX0_takeRests_33 : decode cX0_takeRests 33 = .ok (.invokestatic 22, 3) := by decide +kernel
theorem dX0_takeRests_36 : decode cX0_takeRests 36 = .ok (.istore 4, 2) := by decide +kernel
theorem dX0_takeRests_38 : decode cX0_takeRests 38 = .ok (.aload_n 0, 1) := by decide +kernel
theorem dX0_takeRests_39 : decode cX0_takeRests 39 = .ok (.getfield 15, 3) := by decide +kernel
theorem dX0_takeRests_42 : decode cX0_takeRests 42 = .ok (.iload 4, 2) := by decide +kernel
theorem dX0_takeRests_44 : decode cX0_takeRests 44 = .ok (.iload_n 3, 1) := by decide +kernel
theorem dX0_takeRests_45 : decode cX0_takeRests 45 = .ok (.imul, 1) := by decide +kernel
theorem dX0_takeRests_46 : decode cX0_takeRests 46 = .ok (.isub, 1) := by decide +kernel
theorem dX0_takeRests_47 : decode cX0_takeRests 47 = .ok (.istore 5, 2) := by decide +kernel
theorem dX0_takeRests_49 : decode cX0_takeRests 49 = .ok (.aload_n 0, 1) := by decide +kernel
theorem dX0_takeRests_50 : decode cX0_takeRests 50 = .ok (.getfield 9, 3) := by decide +kernel
theorem dX0_takeRests_53 : decode cX0_takeRests 53 = .ok (.aload_n 0, 1) := by decide +kernel
theorem dX0_takeRests_54 : decode cX0_takeRests 54 = .ok (.getfield 19, 3) := by decide +kernel
theorem dX0_takeRests_57 : decode cX0_takeRests 57 = .ok (.iload 4, 2) := by decide +kernel
theorem dX0_takeRests_59 : decode cX0_takeRests 59 = .ok (.iastore, 1) := by decide +kernel
theorem dX0_takeRests_60 : decode cX0_takeRests 60 = .ok (.aload_n 0, 1) := by decide +kernel
theorem dX0_takeRests_61 : decode cX0_takeRests 61 = .ok (.dup, 1) := by decide +kernel
theorem dX0_takeRests_62 : decode cX0_takeRests 62 = .ok (.getfield 19, 3) := by decide +kernel
theorem dX0_takeRests_65 : decode cX0_takeRests 65 = .ok (.iconst 1, 1) := by decide +kernel
theorem dX0_takeRests_66 : decode cX0_takeRests 66 = .ok (.iadd, 1) := by decide +kernel
theorem dX0_takeRests_67 : decode cX0_takeRests 67 = .ok (.putfield 19, 3) := by decide +kernel
theorem dX0_takeRests_70 : decode cX0_takeRests 70 = .ok (.aload_n 0, 1) := by decide +kernel
theorem dX0_takeRests_71 : decode cX0_takeRests 71 = .ok (.iload_n 3, 1) := by decide +kernel
theorem dX0_takeRests_72 : decode cX0_takeRests 72 = .ok (.putfield 15, 3) := by decide +kernel
theorem dX0_takeRests_75 : decode cX0_takeRests 75 = .ok (.iload 5, 2) := by decide +kernel
theorem dX0_takeRests_77 : decode cX0_takeRests 77 = .ok (.istore_n 3, 1) := by decide +kernel
theorem dX0_takeRests_78 : decode cX0_takeRests 78 = .ok (.goto (-66), 3) := by decide +kernel
theorem dX0_takeRests_81 : decode cX0_takeRests 81 = .ok (.aload_n 0, 1) := by decide +kernel
theorem dX0_takeRests_82 : decode cX0_takeRests 82 = .ok (.iload_n 3, 1) := by decide +kernel
theorem dX0_takeRests_83 : decode cX0_takeRests 83 = .ok (.ifCond .ne 7, 3) := by decide +kernel
theorem dX0_takeRests_86 : decode cX0_takeRests 86 = .ok (.iconst 1, 1) := by decide +kernel
theorem dX0_takeRests_87 : decode cX0_takeRests 87 = .ok (.goto 4, 3) := by decide +kernel
theorem dX0_takeRests_90 : decode cX0_takeRests 90 = .ok (.iconst 0, 1) := by decide +kernel
theorem dX0_takeRests_91 : decode cX0_takeRests 91 = .ok (.putfield 26, 3) := by decide +kernel
theorem dX0_takeRests_94 : decode cX0_takeRests 94 = .ok (.return_, 1) := by decide +kernel
set_option maxRecDepth 20000 in
theorem ggX0_aboveLine_X0_shareOf : GoodIn wsX0_aboveLine wsX0_shareOf := goodIn_ca (goodIn_r _ [5, 6, 7, 8, 9, 10, 11] (by decide +kernel) (by decide +kernel)) (goodIn_sub (fun _ h => List.mem_cons_of_mem _ (List.mem_append_right _ h)) (by decide +kernel))
set_option maxRecDepth 20000 in
theorem gX0_aboveLine_X0_shareOf : GoodIn wsX0_aboveLine (wsV RX0 30 RX0 yX0_shareOf wsX0_shareOf) := goodIn_app (goodIn_of _ (by decide +kernel)) ggX0_aboveLine_X0_shareOf
theorem dX0_aboveLine_0 : decode cX0_aboveLine 0 = .ok (.aload_n 0, 1) := by decide +kernel
theorem dX0_aboveLine_1 : decode cX0_aboveLine 1 = .ok (.iload_n 1, 1) := by decide +kernel
theorem dX0_aboveLine_2 : decode cX0_aboveLine 2 = .ok (.iconst 0, 1) := by decide +kernel
theorem dX0_aboveLine_3 : decode cX0_aboveLine 3 = .ok (.iconst 1, 1) := by decide +kernel
theorem dX0_aboveLine_4 : decode cX0_aboveLine 4 = .ok (.invokevirtual 30, 3) := by decide +kernel
theorem dX0_aboveLine_7 : decode cX0_aboveLine 7 = .ok (.ireturn, 1) := by decide +kernel
set_option maxRecDepth 20000 in
theorem ggX0_belowLine_X0_shareOf : GoodIn wsX0_belowLine wsX0_shareOf := goodIn_ca (goodIn_r _ [5, 6, 7, 8, 9, 10, 11] (by decide +kernel) (by decide +kernel)) (goodIn_sub (fun _ h => List.mem_cons_of_mem _ (List.mem_append_right _ h)) (by decide +kernel))
set_option maxRecDepth 20000 in
theorem gX0_belowLine_X0_shareOf : GoodIn wsX0_belowLine (wsV RX0 30 RX0 yX0_shareOf wsX0_shareOf) := goodIn_app (goodIn_of _ (by decide +kernel)) ggX0_belowLine_X0_shareOf
theorem dX0_belowLine_0 : decode cX0_belowLine 0 = .ok (.aload_n 0, 1) := by decide +kernel
theorem dX0_belowLine_1 : decode cX0_belowLine 1 = .ok (.iload_n 1, 1) := by decide +kernel
theorem dX0_belowLine_2 : decode cX0_belowLine 2 = .ok (.iconst 1, 1) := by decide +kernel
theorem dX0_belowLine_3 : decode cX0_belowLine 3 = .ok (.iconst 0, 1) := by decide +kernel
theorem dX0_belowLine_4 : decode cX0_belowLine 4 = .ok (.invokevirtual 30, 3) := by decide +kernel
theorem dX0_belowLine_7 : decode cX0_belowLine 7 = .ok (.ireturn, 1) := by decide +kernel
theorem dX0_shareOf_0 : decode cX0_shareOf 0 = .ok (.iload_n 2, 1) := by decide +kernel
theorem dX0_shareOf_1 : decode cX0_shareOf 1 = .ok (.istore 4, 2) := by decide +kernel
theorem dX0_shareOf_3 : decode cX0_shareOf 3 = .ok (.iload_n 3, 1) := by decide +kernel
theorem dX0_shareOf_4 : decode cX0_shareOf 4 = .ok (.istore 5, 2) := by decide +kernel
theorem dX0_shareOf_6 : decode cX0_shareOf 6 = .ok (.iconst 0, 1) := by decide +kernel
theorem dX0_shareOf_7 : decode cX0_shareOf 7 = .ok (.istore 6, 2) := by decide +kernel
theorem dX0_shareOf_9 : decode cX0_shareOf 9 = .ok (.iload 6, 2) := by decide +kernel
theorem dX0_shareOf_11 : decode cX0_shareOf 11 = .ok (.iload_n 1, 1) := by decide +kernel
theorem dX0_shareOf_12 : decode cX0_shareOf 12 = .ok (.if_icmp .ge 41, 3) := by decide +kernel
theorem dX0_shareOf_15 : decode cX0_shareOf 15 = .ok (.iload 6, 2) := by decide +kernel
theorem dX0_shareOf_17 : decode cX0_shareOf 17 = .ok (.aload_n 0, 1) := by decide +kernel
theorem dX0_shareOf_18 : decode cX0_shareOf 18 = .ok (.getfield 19, 3) := by decide +kernel
theorem dX0_shareOf_21 : decode cX0_shareOf 21 = .ok (.if_icmp .ge 32, 3) := by decide +kernel
theorem dX0_shareOf_24 : decode cX0_shareOf 24 = .ok (.aload_n 0, 1) := by decide +kernel
theorem dX0_shareOf_25 : decode cX0_shareOf 25 = .ok (.getfield 9, 3) := by decide +kernel
theorem dX0_shareOf_28 : decode cX0_shareOf 28 = .ok (.iload 6, 2) := by decide +kernel
theorem dX0_shareOf_30 : decode cX0_shareOf 30 = .ok (.iaload, 1) := by decide +kernel
theorem dX0_shareOf_31 : decode cX0_shareOf 31 = .ok (.iload 5, 2) := by decide +kernel
theorem dX0_shareOf_33 : decode cX0_shareOf 33 = .ok (.imul, 1) := by decide +kernel
theorem dX0_shareOf_34 : decode cX0_shareOf 34 = .ok (.iload 4, 2) := by decide +kernel
theorem dX0_shareOf_36 : decode cX0_shareOf 36 = .ok (.iadd, 1) := by decide +kernel
theorem dX0_shareOf_37 : decode cX0_shareOf 37 = .ok (.istore 7, 2) := by decide +kernel
theorem dX0_shareOf_39 : decode cX0_shareOf 39 = .ok (.iload 5, 2) := by decide +kernel
theorem dX0_shareOf_41 : decode cX0_shareOf 41 = .ok (.istore 4, 2) := by decide +kernel
theorem dX0_shareOf_43 : decode cX0_shareOf 43 = .ok (.iload 7, 2) := by decide +kernel
theorem dX0_shareOf_45 : decode cX0_shareOf 45 = .ok (.istore 5, 2) := by decide +kernel
theorem dX0_shareOf_47 : decode cX0_shareOf 47 = .ok (.iinc 6 1, 3) := by decide +kernel
theorem dX0_shareOf_50 : decode cX0_shareOf 50 = .ok (.goto (-41), 3) := by decide +kernel
theorem dX0_shareOf_53 : decode cX0_shareOf 53 = .ok (.iload 5, 2) := by decide +kernel
theorem dX0_shareOf_55 : decode cX0_shareOf 55 = .ok (.ireturn, 1) := by decide +kernel
set_option maxRecDepth 20000 in
theorem ggX1_init_X0_init : GoodIn wsX1_init wsX0_init := goodIn_r _ [14, 15, 2, 3, 4, 16, 21, 22, 23, 24] (by decide +kernel) (by decide +kernel)
set_option maxRecDepth 20000 in
theorem gX1_init_X0_init_n19 : GoodIn wsX1_init (wsX0_init) := ggX1_init_X0_init
theorem dX1_init_0 : decode cX1_init 0 = .ok (.aload_n 0, 1) := by decide +kernel
theorem dX1_init_1 : decode cX1_init 1 = .ok (.invokespecial 3, 3) := by decide +kernel
theorem dX1_init_4 : decode cX1_init 4 = .ok (.aload_n 0, 1) := by decide +kernel
theorem dX1_init_5 : decode cX1_init 5 = .ok (.bipush 12, 2) := by decide +kernel
theorem dX1_init_7 : decode cX1_init 7 = .ok (.newarray .int, 2) := by decide +kernel
theorem dX1_init_9 : decode cX1_init 9 = .ok (.putfield 9, 3) := by decide +kernel
theorem dX1_init_12 : decode cX1_init 12 = .ok (.aload_n 0, 1) := by decide +kernel
theorem dX1_init_13 : decode cX1_init 13 = .ok (.bipush 12, 2) := by decide +kernel
theorem dX1_init_15 : decode cX1_init 15 = .ok (.newarray .boolean, 2) := by decide +kernel
theorem dX1_init_17 : decode cX1_init 17 = .ok (.putfield 13, 3) := by decide +kernel
theorem dX1_init_20 : decode cX1_init 20 = .ok (.aload_n 0, 1) := by decide +kernel
theorem dX1_init_21 : decode cX1_init 21 = .ok (.new 17, 3) := by decide +kernel
theorem dX1_init_24 : decode cX1_init 24 = .ok (.dup, 1) := by decide +kernel
theorem dX1_init_25 : decode cX1_init 25 = .ok (.invokespecial 19, 3) := by decide +kernel
theorem dX1_init_28 : decode cX1_init 28 = .ok (.putfield 20, 3) := by decide +kernel
theorem dX1_init_31 : decode cX1_init 31 = .ok (.aload_n 0, 1) := by decide +kernel
theorem dX1_init_32 : decode cX1_init 32 = .ok (.new 17, 3) := by decide +kernel
theorem dX1_init_35 : decode cX1_init 35 = .ok (.dup, 1) := by decide +kernel
theorem dX1_init_36 : decode cX1_init 36 = .ok (.invokespecial 19, 3) := by decide +kernel
theorem dX1_init_39 : decode cX1_init 39 = .ok (.putfield 24, 3) := by decide +kernel
theorem dX1_init_42 : decode cX1_init 42 = .ok (.return_, 1) := by decide +kernel
set_option maxRecDepth 20000 in
theorem ggX1_put_X1_needPlace : GoodIn wsX1_put wsX1_needPlace := goodIn_ca (goodIn_r _ [6, 7, 8] (by decide +kernel) (by decide +kernel)) (goodIn_sub (fun _ h => List.mem_cons_of_mem _ (List.mem_append_left _ (List.mem_append_right _ h))) (by decide +kernel))
set_option maxRecDepth 20000 in
theorem gX1_put_X1_needPlace : GoodIn wsX1_put (va_wsS RX1 27 yX1_needPlace wsX1_needPlace) := goodIn_app (goodIn_of _ (by decide +kernel)) ggX1_put_X1_needPlace
set_option maxRecDepth 20000 in
theorem ggX1_put_X1_bitsAt : GoodIn wsX1_put wsX1_bitsAt := goodIn_ca (goodIn_r _ [12, 13, 14, 15, 16, 5, 17, 18, 19, 20, 21, 22, 23, 24, 25, 26, 27, 28, 33, 34, 35, 36] (by decide +kernel) (by decide +kernel)) (goodIn_sub (fun _ h => List.mem_cons_of_mem _ (List.mem_append_right _ h)) (by decide +kernel))
set_option maxRecDepth 20000 in
theorem gX1_put_X1_bitsAt : GoodIn wsX1_put (wsV RX1 38 RX1 yX1_bitsAt wsX1_bitsAt) := goodIn_app (goodIn_of _ (by decide +kernel)) ggX1_put_X1_bitsAt
set_option maxRecDepth 20000 in
theorem ggX1_put_X1_keep : GoodIn wsX1_put wsX1_keep := goodIn_ca (goodIn_r _ [32, 13, 14, 9, 10, 11, 5, 12, 15, 16, 17, 18, 19, 20, 21, 22, 23, 24, 25, 26, 27, 28, 33, 34, 35, 36] (by decide +kernel) (by decide +kernel)) (goodIn_sub (fun _ h => List.mem_cons_of_mem _ (List.mem_append_right _ h)) (by decide +kernel))
set_option maxRecDepth 20000 in
theorem gX1_put_X1_keep : GoodIn wsX1_put (wsV RX1 42 RX1 yX1_keep wsX1_keep) := goodIn_app (goodIn_of _ (by decide +kernel)) ggX1_put_X1_keep
theorem dX1_put_0 : decode cX1_put 0 = .ok (.iload_n 1, 1) := by decide +kernel
theorem dX1_put_1 : decode cX1_put 1 = .ok (.invokestatic 27, 3) := by decide +kernel
theorem dX1_put_4 : decode cX1_put 4 = .ok (.iload_n 2, 1) := by decide +kernel
theorem dX1_put_5 : decode cX1_put 5 = .ok (.bipush (-127), 2) := by decide +kernel
theorem dX1_put_7 : decode cX1_put 7 = .ok (.if_icmp .lt 9, 3) := by decide +kernel
theorem dX1_put_10 : decode cX1_put 10 = .ok (.iload_n 2, 1) := by decide +kernel
theorem dX1_put_11 : decode cX1_put 11 = .ok (.bipush 127, 2) := by decide +kernel
theorem dX1_put_13 : decode cX1_put 13 = .ok (.if_icmp .le 13, 3) := by decide +kernel
theorem dX1_put_16 : decode cX1_put 16 = .ok (.new 31, 3) := by decide +kernel
theorem dX1_put_19 : decode cX1_put 19 = .ok (.dup, 1) := by decide +kernel
theorem dX1_put_20 : decode cX1_put 20 = .ok (.ldc 33, 2) := by decide +kernel
theorem dX1_put_22 : decode cX1_put 22 = .ok (.invokespecial 35, 3) := by decide +kernel
theorem dX1_put_25 : decode cX1_put 25 = .ok (.athrow, 1) := by decide +kernel
theorem dX1_put_26 : decode cX1_put 26 = .ok (.aload_n 0, 1) := by decide +kernel
theorem dX1_put_27 : decode cX1_put 27 = .ok (.iload_n 1, 1) := by decide +kernel
theorem dX1_put_28 : decode cX1_put 28 = .ok (.invokevirtual 38, 3) := by decide +kernel
theorem dX1_put_31 : decode cX1_put 31 = .ok (.lstore_n 3, 1) := by decide +kernel
theorem dX1_put_32 : decode cX1_put 32 = .ok (.aload_n 0, 1) := by decide +kernel
theorem dX1_put_33 : decode cX1_put 33 = .ok (.iload_n 1, 1) := by decide +kernel
theorem dX1_put_34 : decode cX1_put 34 = .ok (.iload_n 2, 1) := by decide +kernel
theorem dX1_put_35 : decode cX1_put 35 = .ok (.iconst 0, 1) := by decide +kernel
theorem dX1_put_36 : decode cX1_put 36 = .ok (.invokevirtual 42, 3) := by decide +kernel
theorem dX1_put_39 : decode cX1_put 39 = .ok (.pop2, 1) := by decide +kernel
theorem dX1_put_40 : decode cX1_put 40 = .ok (.lload_n 3, 1) := by decide +kernel
theorem dX1_put_41 : decode cX1_put 41 = .ok (.lreturn, 1) := by decide +kernel
set_option maxRecDepth 20000 in
theorem ggX1_putBelow_X1_needPlace : GoodIn wsX1_putBelow wsX1_needPlace := goodIn_ca (goodIn_r _ [4, 5, 6] (by decide +kernel) (by decide +kernel)) (goodIn_sub (fun _ h => List.mem_cons_of_mem _ (List.mem_append_left _ (List.mem_append_right _ h))) (by decide +kernel))
set_option maxRecDepth 20000 in
theorem gX1_putBelow_X1_needPlace : GoodIn wsX1_putBelow (va_wsS RX1 27 yX1_needPlace wsX1_needPlace) := goodIn_app (goodIn_of _ (by decide +kernel)) ggX1_putBelow_X1_needPlace
set_option maxRecDepth 20000 in
theorem ggX1_putBelow_X1_bitsAt : GoodIn wsX1_putBelow wsX1_bitsAt := goodIn_ca (goodIn_r _ [10, 11, 12, 13, 14, 3, 15, 16, 17, 18, 19, 20, 21, 22, 23, 24, 25, 26, 31, 32, 33, 34] (by decide +kernel) (by decide +kernel)) (goodIn_sub (fun _ h => List.mem_cons_of_mem _ (List.mem_append_right _ h)) (by decide +kernel))
set_option maxRecDepth 20000 in
theorem gX1_putBelow_X1_bitsAt : GoodIn wsX1_putBelow (wsV RX1 38 RX1 yX1_bitsAt wsX1_bitsAt) := goodIn_app (goodIn_of _ (by decide +kernel)) ggX1_putBelow_X1_bitsAt
set_option maxRecDepth 20000 in
theorem ggX1_putBelow_X1_keep : GoodIn wsX1_putBelow wsX1_keep := goodIn_ca (goodIn_r _ [30, 11, 12, 7, 8, 9, 3, 10, 13, 14, 15, 16, 17, 18, 19, 20, 21, 22, 23, 24, 25, 26, 31, 32, 33, 34] (by decide +kernel) (by decide +kernel)) (goodIn_sub (fun _ h => List.mem_cons_of_mem _ (List.mem_append_right _ h)) (by decide +kernel))
set_option maxRecDepth 20000 in
theorem gX1_putBelow_X1_keep : GoodIn wsX1_putBelow (wsV RX1 42 RX1 yX1_keep wsX1_keep) := goodIn_app (goodIn_of _ (by decide +kernel)) ggX1_putBelow_X1_keep
theorem dX1_putBelow_0 : decode cX1_putBelow 0 = .ok (.iload_n 1, 1) := by decide +kernel
theorem dX1_putBelow_1 : decode cX1_putBelow 1 = .ok (.invokestatic 27, 3) := by decide +kernel
theorem dX1_putBelow_4 : decode cX1_putBelow 4 = .ok (.aload_n 0, 1) := by decide +kernel
theorem dX1_putBelow_5 : decode cX1_putBelow 5 = .ok (.iload_n 1, 1) := by decide +kernel
theorem dX1_putBelow_6 : decode cX1_putBelow 6 = .ok (.invokevirtual 38, 3) := by decide +kernel
theorem dX1_putBelow_9 : decode cX1_putBelow 9 = .ok (.lstore_n 2, 1) := by decide +kernel
theorem dX1_putBelow_10 : decode cX1_putBelow 10 = .ok (.aload_n 0, 1) := by decide +kernel
theorem dX1_putBelow_11 : decode cX1_putBelow 11 = .ok (.iload_n 1, 1) := by decide +kernel
theorem dX1_putBelow_12 : decode cX1_putBelow 12 = .ok (.iconst 0, 1) := by decide +kernel
theorem dX1_putBelow_13 : decode cX1_putBelow 13 = .ok (.iconst 1, 1) := by decide +kernel
theorem dX1_putBelow_14 : decode cX1_putBelow 14 = .ok (.invokevirtual 42, 3) := by decide +kernel
theorem dX1_putBelow_17 : decode cX1_putBelow 17 = .ok (.pop2, 1) := by decide +kernel
theorem dX1_putBelow_18 : decode cX1_putBelow 18 = .ok (.lload_n 2, 1) := by decide +kernel
theorem dX1_putBelow_19 : decode cX1_putBelow 19 = .ok (.lreturn, 1) := by decide +kernel
set_option maxRecDepth 20000 in
theorem ggX1_turn_X1_needPlace : GoodIn wsX1_turn wsX1_needPlace := goodIn_ca (goodIn_r _ [6, 7, 8] (by decide +kernel) (by decide +kernel)) (goodIn_sub (fun _ h => List.mem_cons_of_mem _ (List.mem_append_right _ h)) (by decide +kernel))
set_option maxRecDepth 20000 in
theorem gX1_turn_X1_needPlace : GoodIn wsX1_turn (va_wsS RX1 27 yX1_needPlace wsX1_needPlace) := goodIn_app (goodIn_of _ (by decide +kernel)) ggX1_turn_X1_needPlace
set_option maxRecDepth 20000 in
theorem ggX1_turn_X1_keep : GoodIn wsX1_turn wsX1_keep := goodIn_ca (goodIn_r _ [12, 1, 2, 13, 14, 15, 5, 16, 17, 18, 19, 20, 21, 22, 23, 24, 25, 26, 27, 28, 29, 30, 31, 32, 33, 34] (by decide +kernel) (by decide +kernel)) (goodIn_sub (fun _ h => List.mem_cons_of_mem _ (List.mem_append_left _ (List.mem_append_right _ h))) (by decide +kernel))
set_option maxRecDepth 20000 in
theorem gX1_turn_X1_keep : GoodIn wsX1_turn (wsV RX1 42 RX1 yX1_keep wsX1_keep) := goodIn_app (goodIn_of _ (by decide +kernel)) ggX1_turn_X1_keep
theorem dX1_turn_0 : decode cX1_turn 0 = .ok (.iload_n 1, 1) := by decide +kernel
theorem dX1_turn_1 : decode cX1_turn 1 = .ok (.invokestatic 27, 3) := by decide +kernel
theorem dX1_turn_4 : decode cX1_turn 4 = .ok (.aload_n 0, 1) := by decide +kernel
theorem dX1_turn_5 : decode cX1_turn 5 = .ok (.iload_n 1, 1) := by decide +kernel
theorem dX1_turn_6 : decode cX1_turn 6 = .ok (.aload_n 0, 1) := by decide +kernel
theorem dX1_turn_7 : decode cX1_turn 7 = .ok (.getfield 9, 3) := by decide +kernel
theorem dX1_turn_10 : decode cX1_turn 10 = .ok (.iload_n 1, 1) := by decide +kernel
theorem dX1_turn_11 : decode cX1_turn 11 = .ok (.iaload, 1) := by decide +kernel
theorem dX1_turn_12 : decode cX1_turn 12 = .ok (.ineg, 1) := by decide +kernel
theorem dX1_turn_13 : decode cX1_turn 13 = .ok (.aload_n 0, 1) := by decide +kernel
theorem dX1_turn_14 : decode cX1_turn 14 = .ok (.getfield 9, 3) := by decide +kernel
theorem dX1_turn_17 : decode cX1_turn 17 = .ok (.iload_n 1, 1) := by decide +kernel
theorem dX1_turn_18 : decode cX1_turn 18 = .ok (.iaload, 1) := by decide +kernel
theorem dX1_turn_19 : decode cX1_turn 19 = .ok (.ifCond .ne 16, 3) := by decide +kernel
theorem dX1_turn_22 : decode cX1_turn 22 = .ok (.aload_n 0, 1) := by decide +kernel
theorem dX1_turn_23 : decode cX1_turn 23 = .ok (.getfield 13, 3) := by decide +kernel
theorem dX1_turn_26 : decode cX1_turn 26 = .ok (.iload_n 1, 1) := by decide +kernel
theorem dX1_turn_27 : decode cX1_turn 27 = .ok (.baload, 1) := by decide +kernel
theorem dX1_turn_28 : decode cX1_turn 28 = .ok (.ifCond .ne 7, 3) := by decide +kernel
theorem dX1_turn_31 : decode cX1_turn 31 = .ok (.iconst 1, 1) := by decide +kernel
theorem dX1_turn_32 : decode cX1_turn 32 = .ok (.goto 4, 3) := by decide +kernel
theorem dX1_turn_35 : decode cX1_turn 35 = .ok (.iconst 0, 1) := by decide +kernel
theorem dX1_turn_36 : decode cX1_turn 36 = .ok (.invokevirtual 42, 3) := by decide +kernel
theorem dX1_turn_39 : decode cX1_turn 39 = .ok (.lreturn, 1) := by decide +kernel
set_option maxRecDepth 20000 in
theorem ggX1_eighths_X1_needPlace : GoodIn wsX1_eighths wsX1_needPlace := goodIn_ca (goodIn_r _ [5, 6, 7] (by decide +kernel) (by decide +kernel)) (goodIn_sub (fun _ h => List.mem_cons_of_mem _ (List.mem_append_right _ h)) (by decide +kernel))
set_option maxRecDepth 20000 in
theorem gX1_eighths_X1_needPlace : GoodIn wsX1_eighths (va_wsS RX1 27 yX1_needPlace wsX1_needPlace) := goodIn_app (goodIn_of _ (by decide +kernel)) ggX1_eighths_X1_needPlace
theorem dX1_eighths_0 : decode cX1_eighths 0 = .ok (.iload_n 1, 1) := by decide +kernel
theorem dX1_eighths_1 : decode cX1_eighths 1 = .ok (.invokestatic 27, 3) := by decide +kernel
theorem dX1_eighths_4 : decode cX1_eighths 4 = .ok (.aload_n 0, 1) := by decide +kernel
theorem dX1_eighths_5 : decode cX1_eighths 5 = .ok (.getfield 9, 3) := by decide +kernel
theorem dX1_eighths_8 : decode cX1_eighths 8 = .ok (.iload_n 1, 1) := by decide +kernel
theorem dX1_eighths_9 : decode cX1_eighths 9 = .ok (.iaload, 1) := by decide +kernel
theorem dX1_eighths_10 : decode cX1_eighths 10 = .ok (.ireturn, 1) := by decide +kernel
set_option maxRecDepth 20000 in
theorem ggX1_bits_X1_needPlace : GoodIn wsX1_bits wsX1_needPlace := goodIn_ca (goodIn_r _ [4, 5, 6] (by decide +kernel) (by decide +kernel)) (goodIn_sub (fun _ h => List.mem_cons_of_mem _ (List.mem_append_left _ (List.mem_append_right _ h))) (by decide +kernel))
set_option maxRecDepth 20000 in
theorem gX1_bits_X1_needPlace : GoodIn wsX1_bits (va_wsS RX1 27 yX1_needPlace wsX1_needPlace) := goodIn_app (goodIn_of _ (by decide +kernel)) ggX1_bits_X1_needPlace
set_option maxRecDepth 20000 in
theorem ggX1_bits_X1_bitsAt : GoodIn wsX1_bits wsX1_bitsAt := goodIn_ca (goodIn_r _ [10, 11, 12, 13, 14, 3, 15, 16, 17, 18, 19, 20, 21, 22, 23, 24, 25, 26, 27, 28, 29, 30] (by decide +kernel) (by decide +kernel)) (goodIn_sub (fun _ h => List.mem_cons_of_mem _ (List.mem_append_right _ h)) (by decide +kernel))
set_option maxRecDepth 20000 in
theorem gX1_bits_X1_bitsAt : GoodIn wsX1_bits (wsV RX1 38 RX1 yX1_bitsAt wsX1_bitsAt) := goodIn_app (goodIn_of _ (by decide +kernel)) ggX1_bits_X1_bitsAt
theorem dX1_bits_0 : decode cX1_bits 0 = .ok (.iload_n 1, 1) := by decide +kernel
theorem dX1_bits_1 : decode cX1_bits 1 = .ok (.invokestatic 27, 3) := by decide +kernel
theorem dX1_bits_4 : decode cX1_bits 4 = .ok (.aload_n 0, 1) := by decide +kernel
theorem dX1_bits_5 : decode cX1_bits 5 = .ok (.iload_n 1, 1) := by decide +kernel
theorem dX1_bits_6 : decode cX1_bits 6 = .ok (.invokevirtual 38, 3) := by decide +kernel
theorem dX1_bits_9 : decode cX1_bits 9 = .ok (.lreturn, 1) := by decide +kernel
set_option maxRecDepth 20000 in
theorem ggX1_number_X1_needPlace : GoodIn wsX1_number wsX1_needPlace := goodIn_ca (goodIn_r _ [8, 9, 10] (by decide +kernel) (by decide +kernel)) (goodIn_sub (fun _ h => List.mem_cons_of_mem _ (List.mem_append_right _ h)) (by decide +kernel))
set_option maxRecDepth 20000 in
theorem gX1_number_X1_needPlace : GoodIn wsX1_number (va_wsS RX1 27 yX1_needPlace wsX1_needPlace) := goodIn_app (goodIn_of _ (by decide +kernel)) ggX1_number_X1_needPlace
theorem dX1_number_0 : decode cX1_number 0 = .ok (.iload_n 1, 1) := by decide +kernel
theorem dX1_number_1 : decode cX1_number 1 = .ok (.invokestatic 27, 3) := by decide +kernel
theorem dX1_number_4 : decode cX1_number 4 = .ok (.aload_n 0, 1) := by decide +kernel
theorem dX1_number_5 : decode cX1_number 5 = .ok (.getfield 13, 3) := by decide +kernel
theorem dX1_number_8 : decode cX1_number 8 = .ok (.iload_n 1, 1) := by decide +kernel
theorem dX1_number_9 : decode cX1_number 9 = .ok (.baload, 1) := by decide +kernel
theorem dX1_number_10 : decode cX1_number 10 = .ok (.ifCond .eq 9, 3) := by decide +kernel
theorem dX1_number_13 : decode cX1_number 13 = .ok (.ldc2_w 46, 3) := by decide +kernel
theorem dX1_number_16 : decode cX1_number 16 = .ok (.goto 14, 3) := by decide +kernel
theorem dX1_number_19 : decode cX1_number 19 = .ok (.aload_n 0, 1) := by decide +kernel
theorem dX1_number_20 : decode cX1_number 20 = .ok (.getfield 9, 3) := by decide +kernel
theorem dX1_number_23 : decode cX1_number 23 = .ok (.iload_n 1, 1) := by decide +kernel
theorem dX1_number_24 : decode cX1_number 24 = .ok (.iaload, 1) := by decide +kernel
theorem dX1_number_25 : decode cX1_number 25 = .ok (.i2d, 1) := by decide +kernel
theorem dX1_number_26 : decode cX1_number 26 = .ok (.ldc2_w 48, 3) := by decide +kernel
theorem dX1_number_29 : decode cX1_number 29 = .ok (.ddiv, 1) := by decide +kernel
theorem dX1_number_30 : decode cX1_number 30 = .ok (.dreturn, 1) := by decide +kernel
set_option maxRecDepth 20000 in
theorem ggX1_rest_X1_keepRest : GoodIn wsX1_rest wsX1_keepRest := goodIn_ca (goodIn_ca (goodIn_ca (goodIn_ca (goodIn_r _ [5, 6, 7, 8, 4, 9, 10, 11, 12, 13, 14, 15, 16, 17, 18, 19, 20, 21, 22, 23, 24, 25, 26, 27, 28, 29, 30, 31, 32, 33, 34, 35, 36, 37, 38, 39, 40, 41, 42, 43, 44, 45, 46, 47, 48, 49, 50, 51, 52, 53, 54, 55, 56, 57, 58, 59, 60, 61, 62, 63, 64] (by decide +kernel) (by decide +kernel)) (goodIn_sub (fun _ h => List.mem_cons_of_mem _ (List.mem_append_left _ (List.mem_append_left _ (List.mem_append_left _ (List.mem_append_right _ h))))) (by decide +kernel))) (goodIn_sub (fun _ h => List.mem_cons_of_mem _ (List.mem_append_left _ (List.mem_append_left _ (List.mem_append_right _ h)))) (by decide +kernel))) (goodIn_sub (fun _ h => List.mem_cons_of_mem _ (List.mem_append_left _ (List.mem_append_right _ h))) (by decide +kernel))) (goodIn_sub (fun _ h => List.mem_cons_of_mem _ (List.mem_append_right _ h)) (by decide +kernel))
set_option maxRecDepth 20000 in
theorem gX1_rest_X1_keepRest : GoodIn wsX1_rest (wsV RX1 50 RX1 yX1_keepRest wsX1_keepRest) := goodIn_app (goodIn_of _ (by decide +kernel)) ggX1_rest_X1_keepRest
theorem dX1_rest_0 : decode cX1_rest 0 = .ok (.aload_n 0, 1) := by decide +kernel
theorem dX1_rest_1 : decode cX1_rest 1 = .ok (.iload_n 1, 1) := by decide +kernel
theorem dX1_rest_2 : decode cX1_rest 2 = .ok (.iload_n 2, 1) := by decide +kernel
theorem dX1_rest_3 : decode cX1_rest 3 = .ok (.iload_n 3, 1) := by decide +kernel
theorem dX1_rest_4 : decode cX1_rest 4 = .ok (.invokevirtual 50, 3) := by decide +kernel
theorem dX1_rest_7 : decode cX1_rest 7 = .ok (.lreturn, 1) := by decide +kernel
set_option maxRecDepth 20000 in
theorem ggX1_restToo_X1_keepRest : GoodIn wsX1_restToo wsX1_keepRest := goodIn_ca (goodIn_ca (goodIn_ca (goodIn_ca (goodIn_r _ [5, 6, 7, 8, 4, 9, 10, 11, 12, 13, 14, 15, 16, 17, 18, 19, 20, 21, 22, 23, 24, 25, 26, 27, 28, 29, 30, 31, 32, 33, 34, 35, 36, 37, 38, 39, 40, 41, 42, 43, 44, 45, 46, 47, 48, 49, 50, 51, 52, 53, 54, 55, 56, 57, 58, 59, 60, 61, 62, 63, 64] (by decide +kernel) (by decide +kernel)) (goodIn_sub (fun _ h => List.mem_cons_of_mem _ (List.mem_append_left _ (List.mem_append_left _ (List.mem_append_left _ (List.mem_append_right _ h))))) (by decide +kernel))) (goodIn_sub (fun _ h => List.mem_cons_of_mem _ (List.mem_append_left _ (List.mem_append_left _ (List.mem_append_right _ h)))) (by decide +kernel))) (goodIn_sub (fun _ h => List.mem_cons_of_mem _ (List.mem_append_left _ (List.mem_append_right _ h))) (by decide +kernel))) (goodIn_sub (fun _ h => List.mem_cons_of_mem _ (List.mem_append_right _ h)) (by decide +kernel))
set_option maxRecDepth 20000 in
theorem gX1_restToo_X1_keepRest : GoodIn wsX1_restToo (wsV RX1 50 RX1 yX1_keepRest wsX1_keepRest) := goodIn_app (goodIn_of _ (by decide +kernel)) ggX1_restToo_X1_keepRest
theorem dX1_restToo_0 : decode cX1_restToo 0 = .ok (.aload_n 0, 1) := by decide +kernel
theorem dX1_restToo_1 : decode cX1_restToo 1 = .ok (.iload_n 1, 1) := by decide +kernel
theorem dX1_restToo_2 : decode cX1_restToo 2 = .ok (.iload_n 2, 1) := by decide +kernel
theorem dX1_restToo_3 : decode cX1_restToo 3 = .ok (.iload_n 3, 1) := by decide +kernel
theorem dX1_restToo_4 : decode cX1_restToo 4 = .ok (.invokevirtual 50, 3) := by decide +kernel
theorem dX1_restToo_7 : decode cX1_restToo 7 = .ok (.lreturn, 1) := by decide +kernel
set_option maxRecDepth 20000 in
theorem ggX1_times_X1_needDivision : GoodIn wsX1_times wsX1_needDivision := goodIn_ca (goodIn_ca (goodIn_ca (goodIn_r _ [6, 7, 8, 1, 9, 10, 5, 11, 12, 13, 27, 28, 29, 30] (by decide +kernel) (by decide +kernel)) (goodIn_sub (fun _ h => List.mem_cons_of_mem _ (List.mem_append_left _ (List.mem_append_left _ (List.mem_append_left _ (List.mem_append_right _ h))))) (by decide +kernel))) (goodIn_sub (fun _ h => List.mem_cons_of_mem _ (List.mem_append_left _ (List.mem_append_left _ (List.mem_append_right _ h)))) (by decide +kernel))) (goodIn_sub (fun _ h => List.mem_cons_of_mem _ (List.mem_append_left _ (List.mem_append_right _ h))) (by decide +kernel))
set_option maxRecDepth 20000 in
theorem gX1_times_X1_needDivision : GoodIn wsX1_times (wsV RX1 54 RX1 yX1_needDivision wsX1_needDivision) := goodIn_app (goodIn_of _ (by decide +kernel)) ggX1_times_X1_needDivision
set_option maxRecDepth 20000 in
theorem ggX1_times_X1_nearest : GoodIn wsX1_times wsX1_nearest := goodIn_ca (goodIn_r _ [16, 17, 18, 19, 20, 21, 22, 5, 23, 24, 25, 26] (by decide +kernel) (by decide +kernel)) (goodIn_sub (fun _ h => List.mem_cons_of_mem _ (List.mem_append_right _ h)) (by decide +kernel))
set_option maxRecDepth 20000 in
theorem gX1_times_X1_nearest : GoodIn wsX1_times (va_wsS RX1 58 yX1_nearest wsX1_nearest) := goodIn_app (goodIn_of _ (by decide +kernel)) ggX1_times_X1_nearest
theorem dX1_times_0 : decode cX1_times 0 = .ok (.aload_n 0, 1) := by decide +kernel
theorem dX1_times_1 : decode cX1_times 1 = .ok (.iload_n 1, 1) := by decide +kernel
theorem dX1_times_2 : decode cX1_times 2 = .ok (.iload_n 2, 1) := by decide +kernel
theorem dX1_times_3 : decode cX1_times 3 = .ok (.invokevirtual 54, 3) := by decide +kernel
theorem dX1_times_6 : decode cX1_times 6 = .ok (.aload_n 0, 1) := by decide +kernel
theorem dX1_times_7 : decode cX1_times 7 = .ok (.getfield 9, 3) := by decide +kernel
theorem dX1_times_10 : decode cX1_times 10 = .ok (.iload_n 1, 1) := by decide +kernel
theorem dX1_times_11 : decode cX1_times 11 = .ok (.iaload, 1) := by decide +kernel
theorem dX1_times_12 : decode cX1_times 12 = .ok (.aload_n 0, 1) := by decide +kernel
theorem dX1_times_13 : decode cX1_times 13 = .ok (.getfield 9, 3) := by decide +kernel
theorem dX1_times_16 : decode cX1_times 16 = .ok (.iload_n 2, 1) := by decide +kernel
theorem dX1_times_17 : decode cX1_times 17 = .ok (.iaload, 1) := by decide +kernel
theorem dX1_times_18 : decode cX1_times 18 = .ok (.invokestatic 58, 3) := by decide +kernel
theorem dX1_times_21 : decode cX1_times 21 = .ok (.ireturn, 1) := by decide +kernel
set_option maxRecDepth 20000 in
theorem ggX1_isHalf_X1_needDivision : GoodIn wsX1_isHalf wsX1_needDivision := goodIn_ca (goodIn_ca (goodIn_ca (goodIn_r _ [10, 11, 12, 1, 13, 14, 9, 15, 16, 17, 30, 31, 32, 33] (by decide +kernel) (by decide +kernel)) (goodIn_sub (fun _ h => List.mem_cons_of_mem _ (List.mem_append_left _ (List.mem_append_left _ (List.mem_append_left _ (List.mem_append_right _ h))))) (by decide +kernel))) (goodIn_sub (fun _ h => List.mem_cons_of_mem _ (List.mem_append_left _ (List.mem_append_left _ (List.mem_append_right _ h)))) (by decide +kernel))) (goodIn_sub (fun _ h => List.mem_cons_of_mem _ (List.mem_append_left _ (List.mem_append_right _ h))) (by decide +kernel))
set_option maxRecDepth 20000 in
theorem gX1_isHalf_X1_needDivision : GoodIn wsX1_isHalf (wsV RX1 54 RX1 yX1_needDivision wsX1_needDivision) := goodIn_app (goodIn_of _ (by decide +kernel)) ggX1_isHalf_X1_needDivision
set_option maxRecDepth 20000 in
theorem ggX1_isHalf_X1_restOf : GoodIn wsX1_isHalf wsX1_restOf := goodIn_ca (goodIn_r _ [20, 21, 22, 9, 23, 2, 3, 4, 5, 24, 25, 26, 27, 28, 29] (by decide +kernel) (by decide +kernel)) (goodIn_sub (fun _ h => List.mem_cons_of_mem _ (List.mem_append_right _ h)) (by decide +kernel))
set_option maxRecDepth 20000 in
theorem gX1_isHalf_X1_restOf : GoodIn wsX1_isHalf (va_wsS RX1 62 yX1_restOf wsX1_restOf) := goodIn_app (goodIn_of _ (by decide +kernel)) ggX1_isHalf_X1_restOf
theorem dX1_isHalf_0 : decode cX1_isHalf 0 = .ok (.aload_n 0, 1) := by decide +kernel
theorem dX1_isHalf_1 : decode cX1_isHalf 1 = .ok (.iload_n 1, 1) := by decide +kernel
theorem dX1_isHalf_2 : decode cX1_isHalf 2 = .ok (.iload_n 2, 1) := by decide +kernel
theorem dX1_isHalf_3 : decode cX1_isHalf 3 = .ok (.invokevirtual 54, 3) := by decide +kernel
theorem dX1_isHalf_6 : decode cX1_isHalf 6 = .ok (.iconst 2, 1) := by decide +kernel
theorem dX1_isHalf_7 : decode cX1_isHalf 7 = .ok (.aload_n 0, 1) := by decide +kernel
theorem dX1_isHalf_8 : decode cX1_isHalf 8 = .ok (.getfield 9, 3) := by decide +kernel
theorem dX1_isHalf_11 : decode cX1_isHalf 11 = .ok (.iload_n 1, 1) := by decide +kernel
theorem dX1_isHalf_12 : decode cX1_isHalf 12 = .ok (.iaload, 1) := by decide +kernel
theorem dX1_isHalf_13 : decode cX1_isHalf 13 = .ok (.aload_n 0, 1) := by decide +kernel
theorem dX1_isHalf_14 : decode cX1_isHalf 14 = .ok (.getfield 9, 3) := by decide +kernel
theorem dX1_isHalf_17 : decode cX1_isHalf 17 = .ok (.iload_n 2, 1) := by decide +kernel
theorem dX1_isHalf_18 : decode cX1_isHalf 18 = .ok (.iaload, 1) := by decide +kernel
theorem dX1_isHalf_19 : decode cX1_isHalf 19 = .ok (.invokestatic 62, 3) := by decide +kernel
theorem dX1_isHalf_22 : decode cX1_isHalf 22 = .ok (.invokestatic 65, 3) := by decide +kernel
theorem dX1_isHalf_25 : decode cX1_isHalf 25 = .ok (.imul, 1) := by decide +kernel
theorem dX1_isHalf_26 : decode cX1_isHalf 26 = .ok (.aload_n 0, 1) := by decide +kernel
theorem dX1_isHalf_27 : decode cX1_isHalf 27 = .ok (.getfield 9, 3) := by decide +kernel
theorem dX1_isHalf_30 : decode cX1_isHalf 30 = .ok (.iload_n 2, 1) := by decide +kernel
theorem dX1_isHalf_31 : decode cX1_isHalf 31 = .ok (.iaload, 1) := by decide +kernel
theorem dX1_isHalf_32 : decode cX1_isHalf 32 = .ok (.invokestatic 65, 3) := by decide +kernel
theorem dX1_isHalf_35 : decode cX1_isHalf 35 = .ok (.if_icmp .ne 7, 3) := by decide +kernel
theorem dX1_isHalf_38 : decode cX1_isHalf 38 = .ok (.iconst 1, 1) := by decide +kernel
theorem dX1_isHalf_39 : decode cX1_isHalf 39 = .ok (.goto 4, 3) := by decide +kernel
theorem dX1_isHalf_42 : decode cX1_isHalf 42 = .ok (.iconst 0, 1) := by decide +kernel
theorem dX1_isHalf_43 : decode cX1_isHalf 43 = .ok (.ireturn, 1) := by decide +kernel
set_option maxRecDepth 20000 in
theorem ggX1_cut_X1_needPlace : GoodIn wsX1_cut wsX1_needPlace := goodIn_ca (goodIn_r _ [5, 6, 7] (by decide +kernel) (by decide +kernel)) (goodIn_sub (fun _ h => List.mem_cons_of_mem _ (List.mem_append_left _ (List.mem_append_left _ (List.mem_append_right _ h)))) (by decide +kernel))
set_option maxRecDepth 20000 in
theorem gX1_cut_X1_needPlace : GoodIn wsX1_cut (va_wsS RX1 27 yX1_needPlace wsX1_needPlace) := goodIn_app (goodIn_of _ (by decide +kernel)) ggX1_cut_X1_needPlace
set_option maxRecDepth 20000 in
theorem ggX1_cut_X1_needDivision : GoodIn wsX1_cut wsX1_needDivision := goodIn_ca (goodIn_ca (goodIn_ca (goodIn_r _ [11, 12, 13, 1, 2, 3, 4, 5, 6, 7, 48, 49, 50, 51] (by decide +kernel) (by decide +kernel)) (goodIn_sub (fun _ h => List.mem_cons_of_mem _ (List.mem_append_left _ (List.mem_append_left _ (List.mem_append_left _ (List.mem_append_right _ h))))) (by decide +kernel))) (goodIn_sub (fun _ h => List.mem_cons_of_mem _ (List.mem_append_left _ (List.mem_append_right _ h))) (by decide +kernel))) (goodIn_sub (fun _ h => List.mem_cons_of_mem _ (List.mem_append_left _ (List.mem_append_left _ (List.mem_append_right _ h)))) (by decide +kernel))
set_option maxRecDepth 20000 in
theorem gX1_cut_X1_needDivision : GoodIn wsX1_cut (wsV RX1 54 RX1 yX1_needDivision wsX1_needDivision) := goodIn_app (goodIn_of _ (by decide +kernel)) ggX1_cut_X1_needDivision
set_option maxRecDepth 20000 in
theorem ggX1_cut_X1_cutOf : GoodIn wsX1_cut wsX1_cutOf := goodIn_ca (goodIn_r _ [16] (by decide +kernel) (by decide +kernel)) (goodIn_sub (fun _ h => List.mem_cons_of_mem _ (List.mem_append_right _ h)) (by decide +kernel))
set_option maxRecDepth 20000 in
theorem gX1_cut_X1_cutOf : GoodIn wsX1_cut (va_wsS RX1 71 yX1_cutOf wsX1_cutOf) := goodIn_app (goodIn_of _ (by decide +kernel)) ggX1_cut_X1_cutOf
set_option maxRecDepth 20000 in
theorem ggX1_cut_X1_keepSigned : GoodIn wsX1_cut wsX1_keepSigned := goodIn_ca (goodIn_r _ [20, 21, 22, 23, 4, 24, 1, 25, 26, 27, 28, 29, 30, 31, 32, 33, 34, 35, 36, 37, 38, 39, 40, 41, 42, 43, 44, 45, 46, 47, 48, 49, 50, 51] (by decide +kernel) (by decide +kernel)) (goodIn_sub (fun _ h => List.mem_cons_of_mem _ (List.mem_append_left _ (List.mem_append_left _ (List.mem_append_left _ (List.mem_append_right _ h))))) (by decide +kernel))
set_option maxRecDepth 20000 in
theorem gX1_cut_X1_keepSigned : GoodIn wsX1_cut (wsV RX1 74 RX1 yX1_keepSigned wsX1_keepSigned) := goodIn_app (goodIn_of _ (by decide +kernel)) ggX1_cut_X1_keepSigned
theorem dX1_cut_0 : decode cX1_cut 0 = .ok (.iload_n 1, 1) := by decide +kernel
theorem dX1_cut_1 : decode cX1_cut 1 = .ok (.invokestatic 27, 3) := by decide +kernel
theorem dX1_cut_4 : decode cX1_cut 4 = .ok (.aload_n 0, 1) := by decide +kernel
theorem dX1_cut_5 : decode cX1_cut 5 = .ok (.iload_n 2, 1) := by decide +kernel
theorem dX1_cut_6 : decode cX1_cut 6 = .ok (.iload_n 3, 1) := by decide +kernel
theorem dX1_cut_7 : decode cX1_cut 7 = .ok (.invokevirtual 54, 3) := by decide +kernel
theorem dX1_cut_10 : decode cX1_cut 10 = .ok (.aload_n 0, 1) := by decide +kernel
theorem dX1_cut_11 : decode cX1_cut 11 = .ok (.iload_n 1, 1) := by decide +kernel
theorem dX1_cut_12 : decode cX1_cut 12 = .ok (.aload_n 0, 1) := by decide +kernel
theorem dX1_cut_13 : decode cX1_cut 13 = .ok (.getfield 9, 3) := by decide +kernel
theorem dX1_cut_16 : decode cX1_cut 16 = .ok (.iload_n 2, 1) := by decide +kernel
theorem dX1_cut_17 : decode cX1_cut 17 = .ok (.iaload, 1) := by decide +kernel
theorem dX1_cut_18 : decode cX1_cut 18 = .ok (.aload_n 0, 1) := by decide +kernel
theorem dX1_cut_19 : decode cX1_cut 19 = .ok (.getfield 9, 3) := by decide +kernel
theorem dX1_cut_22 : decode cX1_cut 22 = .ok (.iload_n 3, 1) := by decide +kernel
theorem dX1_cut_23 : decode cX1_cut 23 = .ok (.iaload, 1) := by decide +kernel
theorem dX1_cut_24 : decode cX1_cut 24 = .ok (.invokestatic 71, 3) := by decide +kernel
theorem dX1_cut_27 : decode cX1_cut 27 = .ok (.iload_n 2, 1) := by decide +kernel
theorem dX1_cut_28 : decode cX1_cut 28 = .ok (.invokevirtual 74, 3) := by decide +kernel
theorem dX1_cut_31 : decode cX1_cut 31 = .ok (.lreturn, 1) := by decide +kernel
set_option maxRecDepth 20000 in
theorem ggX1_apart_X1_needDivision : GoodIn wsX1_apart wsX1_needDivision := goodIn_ca (goodIn_ca (goodIn_ca (goodIn_r _ [6, 7, 8, 1, 9, 10, 5, 11, 12, 13, 34, 35, 36, 37] (by decide +kernel) (by decide +kernel)) (goodIn_sub (fun _ h => List.mem_cons_of_mem _ (List.mem_append_left _ (List.mem_append_left _ (List.mem_append_left _ (List.mem_append_right _ h))))) (by decide +kernel))) (goodIn_sub (fun _ h => List.mem_cons_of_mem _ (List.mem_append_left _ (List.mem_append_left _ (List.mem_append_right _ h)))) (by decide +kernel))) (goodIn_sub (fun _ h => List.mem_cons_of_mem _ (List.mem_append_left _ (List.mem_append_right _ h))) (by decide +kernel))
set_option maxRecDepth 20000 in
theorem gX1_apart_X1_needDivision : GoodIn wsX1_apart (wsV RX1 54 RX1 yX1_needDivision wsX1_needDivision) := goodIn_app (goodIn_of _ (by decide +kernel)) ggX1_apart_X1_needDivision
set_option maxRecDepth 20000 in
theorem ggX1_apart_X1_restOf : GoodIn wsX1_apart wsX1_restOf := goodIn_ca (goodIn_r _ [16, 17, 18, 5, 19, 20, 21, 22, 23, 24, 25, 26, 27, 28, 29] (by decide +kernel) (by decide +kernel)) (goodIn_sub (fun _ h => List.mem_cons_of_mem _ (List.mem_append_right _ h)) (by decide +kernel))
set_option maxRecDepth 20000 in
theorem gX1_apart_X1_restOf : GoodIn wsX1_apart (va_wsS RX1 62 yX1_restOf wsX1_restOf) := goodIn_app (goodIn_of _ (by decide +kernel)) ggX1_apart_X1_restOf
set_option maxRecDepth 20000 in
theorem ggX1_apart_X1_cutOf : GoodIn wsX1_apart wsX1_cutOf := goodIn_ca (goodIn_r _ [29] (by decide +kernel) (by decide +kernel)) (goodIn_sub (fun _ h => List.mem_cons_of_mem _ (List.mem_append_right _ h)) (by decide +kernel))
set_option maxRecDepth 20000 in
theorem gX1_apart_X1_cutOf : GoodIn wsX1_apart (va_wsS RX1 71 yX1_cutOf wsX1_cutOf) := goodIn_app (goodIn_of _ (by decide +kernel)) ggX1_apart_X1_cutOf
set_option maxRecDepth 20000 in
theorem ggX1_apart_J6_compare_7cf53 : GoodIn wsX1_apart wsJ6_compare_7cf53 := goodIn_r _ [33] (by decide +kernel) (by decide +kernel)
set_option maxRecDepth 20000 in
theorem gX1_apart_J6_compare_7cf53 : GoodIn wsX1_apart (va_wsS RX1 77 yJ6_compare_7cf53 wsJ6_compare_7cf53) := goodIn_app (goodIn_of _ (by decide +kernel)) ggX1_apart_J6_compare_7cf53
theorem dX1_apart_0 : decode cX1_apart 0 = .ok (.aload_n 0, 1) := by decide +kernel
theorem dX1_apart_1 : decode cX1_apart 1 = .ok (.iload_n 1, 1) := by decide +kernel
theorem dX1_apart_2 : decode cX1_apart 2 = .ok (.iload_n 2, 1) := by decide +kernel
theorem dX1_apart_3 : decode cX1_apart 3 = .ok (.invokevirtual 54, 3) := by decide +kernel
theorem dX1_apart_6 : decode cX1_apart 6 = .ok (.aload_n 0, 1) := by decide +kernel
theorem dX1_apart_7 : decode cX1_apart 7 = .ok (.getfield 9, 3) := by decide +kernel
theorem dX1_apart_10 : decode cX1_apart 10 = .ok (.iload_n 1, 1) := by decide +kernel
theorem dX1_apart_11 : decode cX1_apart 11 = .ok (.iaload, 1) := by decide +kernel
theorem dX1_apart_12 : decode cX1_apart 12 = .ok (.aload_n 0, 1) := by decide +kernel
theorem dX1_apart_13 : decode cX1_apart 13 = .ok (.getfield 9, 3) := by decide +kernel
theorem dX1_apart_16 : decode cX1_apart 16 = .ok (.iload_n 2, 1) := by decide +kernel
theorem dX1_apart_17 : decode cX1_apart 17 = .ok (.iaload, 1) := by decide +kernel
theorem dX1_apart_18 : decode cX1_apart 18 = .ok (.invokestatic 62, 3) := by decide +kernel
theorem dX1_apart_21 : decode cX1_apart 21 = .ok (.aload_n 0, 1) := by decide +kernel
theorem dX1_apart_22 : decode cX1_apart 22 = .ok (.getfield 9, 3) := by decide +kernel
theorem dX1_apart_25 : decode cX1_apart 25 = .ok (.iload_n 1, 1) := by decide +kernel
theorem dX1_apart_26 : decode cX1_apart 26 = .ok (.iaload, 1) := by decide +kernel
theorem dX1_apart_27 : decode cX1_apart 27 = .ok (.aload_n 0, 1) := by decide +kernel
theorem dX1_apart_28 : decode cX1_apart 28 = .ok (.getfield 9, 3) := by decide +kernel
theorem dX1_apart_31 : decode cX1_apart 31 = .ok (.iload_n 2, 1) := by decide +kernel
theorem dX1_apart_32 : decode cX1_apart 32 = .ok (.iaload, 1) := by decide +kernel
theorem dX1_apart_33 : decode cX1_apart 33 = .ok (.invokestatic 71, 3) := by decide +kernel
theorem dX1_apart_36 : decode cX1_apart 36 = .ok (.isub, 1) := by decide +kernel
theorem dX1_apart_37 : decode cX1_apart 37 = .ok (.istore_n 3, 1) := by decide +kernel
theorem dX1_apart_38 : decode cX1_apart 38 = .ok (.iload_n 3, 1) := by decide +kernel
theorem dX1_apart_39 : decode cX1_apart 39 = .ok (.iconst 0, 1) := by decide +kernel
theorem dX1_apart_40 : decode cX1_apart 40 = .ok (.invokestatic 77, 3) := by decide +kernel
theorem dX1_apart_43 : decode cX1_apart 43 = .ok (.ireturn, 1) := by decide +kernel
set_option maxRecDepth 20000 in
theorem ggX1_residue_X1_needPlace : GoodIn wsX1_residue wsX1_needPlace := goodIn_ca (goodIn_r _ [5, 6, 7] (by decide +kernel) (by decide +kernel)) (goodIn_sub (fun _ h => List.mem_cons_of_mem _ (List.mem_append_left _ (List.mem_append_left _ (List.mem_append_right _ h)))) (by decide +kernel))
set_option maxRecDepth 20000 in
theorem gX1_residue_X1_needPlace : GoodIn wsX1_residue (va_wsS RX1 27 yX1_needPlace wsX1_needPlace) := goodIn_app (goodIn_of _ (by decide +kernel)) ggX1_residue_X1_needPlace
set_option maxRecDepth 20000 in
theorem ggX1_residue_X1_needDivision : GoodIn wsX1_residue wsX1_needDivision := goodIn_ca (goodIn_ca (goodIn_ca (goodIn_r _ [11, 12, 13, 1, 2, 3, 4, 5, 6, 7, 44, 45, 46, 47] (by decide +kernel) (by decide +kernel)) (goodIn_sub (fun _ h => List.mem_cons_of_mem _ (List.mem_append_left _ (List.mem_append_left _ (List.mem_append_left _ (List.mem_append_right _ h))))) (by decide +kernel))) (goodIn_sub (fun _ h => List.mem_cons_of_mem _ (List.mem_append_left _ (List.mem_append_right _ h))) (by decide +kernel))) (goodIn_sub (fun _ h => List.mem_cons_of_mem _ (List.mem_append_left _ (List.mem_append_left _ (List.mem_append_right _ h)))) (by decide +kernel))
set_option maxRecDepth 20000 in
theorem gX1_residue_X1_needDivision : GoodIn wsX1_residue (wsV RX1 54 RX1 yX1_needDivision wsX1_needDivision) := goodIn_app (goodIn_of _ (by decide +kernel)) ggX1_residue_X1_needDivision
set_option maxRecDepth 20000 in
theorem ggX1_residue_X1_keepResidue : GoodIn wsX1_residue wsX1_keepResidue := goodIn_ca (goodIn_ca (goodIn_r _ [17, 1, 18, 19, 4, 20, 21, 22, 23, 24, 25, 26, 27, 28, 29, 30, 31, 32, 33, 34, 35, 36, 37, 38, 39, 40, 41, 42, 43, 44, 45, 46, 47] (by decide +kernel) (by decide +kernel)) (goodIn_sub (fun _ h => List.mem_cons_of_mem _ (List.mem_append_left _ (List.mem_append_left _ (List.mem_append_left _ (List.mem_append_right _ h))))) (by decide +kernel))) (goodIn_sub (fun _ h => List.mem_cons_of_mem _ (List.mem_append_right _ h)) (by decide +kernel))
set_option maxRecDepth 20000 in
theorem gX1_residue_X1_keepResidue : GoodIn wsX1_residue (wsV RX1 82 RX1 yX1_keepResidue wsX1_keepResidue) := goodIn_app (goodIn_of _ (by decide +kernel)) ggX1_residue_X1_keepResidue
theorem dX1_residue_0 : decode cX1_residue 0 = .ok (.iload_n 1, 1) := by decide +kernel
theorem dX1_residue_1 : decode cX1_residue 1 = .ok (.invokestatic 27, 3) := by decide +kernel
theorem dX1_residue_4 : decode cX1_residue 4 = .ok (.aload_n 0, 1) := by decide +kernel
theorem dX1_residue_5 : decode cX1_residue 5 = .ok (.iload_n 2, 1) := by decide +kernel
theorem dX1_residue_6 : decode cX1_residue 6 = .ok (.iload_n 3, 1) := by decide +kernel
theorem dX1_residue_7 : decode cX1_residue 7 = .ok (.invokevirtual 54, 3) := by decide +kernel
theorem dX1_residue_10 : decode cX1_residue 10 = .ok (.aload_n 0, 1) := by decide +kernel
theorem dX1_residue_11 : decode cX1_residue 11 = .ok (.iload_n 1, 1) := by decide +kernel
theorem dX1_residue_12 : decode cX1_residue 12 = .ok (.aload_n 0, 1) := by decide +kernel
theorem dX1_residue_13 : decode cX1_residue 13 = .ok (.getfield 9, 3) := by decide +kernel
theorem dX1_residue_16 : decode cX1_residue 16 = .ok (.iload_n 2, 1) := by decide +kernel
theorem dX1_residue_17 : decode cX1_residue 17 = .ok (.iaload, 1) := by decide +kernel
theorem dX1_residue_18 : decode cX1_residue 18 = .ok (.i2l, 1) := by decide +kernel
theorem dX1_residue_19 : decode cX1_residue 19 = .ok (.iload_n 3, 1) := by decide +kernel
theorem dX1_residue_20 : decode cX1_residue 20 = .ok (.invokevirtual 82, 3) := by decide +kernel
theorem dX1_residue_23 : decode cX1_residue 23 = .ok (.lreturn, 1) := by decide +kernel
set_option maxRecDepth 20000 in
theorem ggX1_plus_X1_needPlace : GoodIn wsX1_plus wsX1_needPlace := goodIn_ca (goodIn_r _ [5, 6, 7] (by decide +kernel) (by decide +kernel)) (goodIn_sub (fun _ h => List.mem_cons_of_mem _ (List.mem_append_left _ (List.mem_append_left _ (List.mem_append_right _ h)))) (by decide +kernel))
set_option maxRecDepth 20000 in
theorem gX1_plus_X1_needPlace : GoodIn wsX1_plus (va_wsS RX1 27 yX1_needPlace wsX1_needPlace) := goodIn_app (goodIn_of _ (by decide +kernel)) ggX1_plus_X1_needPlace
set_option maxRecDepth 20000 in
theorem ggX1_plus_X1_needDivision : GoodIn wsX1_plus wsX1_needDivision := goodIn_ca (goodIn_ca (goodIn_ca (goodIn_r _ [11, 12, 13, 1, 2, 3, 4, 5, 6, 7, 44, 45, 46, 47] (by decide +kernel) (by decide +kernel)) (goodIn_sub (fun _ h => List.mem_cons_of_mem _ (List.mem_append_left _ (List.mem_append_left _ (List.mem_append_left _ (List.mem_append_right _ h))))) (by decide +kernel))) (goodIn_sub (fun _ h => List.mem_cons_of_mem _ (List.mem_append_left _ (List.mem_append_right _ h))) (by decide +kernel))) (goodIn_sub (fun _ h => List.mem_cons_of_mem _ (List.mem_append_left _ (List.mem_append_left _ (List.mem_append_right _ h)))) (by decide +kernel))
set_option maxRecDepth 20000 in
theorem gX1_plus_X1_needDivision : GoodIn wsX1_plus (wsV RX1 54 RX1 yX1_needDivision wsX1_needDivision) := goodIn_app (goodIn_of _ (by decide +kernel)) ggX1_plus_X1_needDivision
set_option maxRecDepth 20000 in
theorem ggX1_plus_X1_keepResidue : GoodIn wsX1_plus wsX1_keepResidue := goodIn_ca (goodIn_ca (goodIn_r _ [17, 1, 18, 19, 4, 20, 21, 22, 23, 24, 25, 26, 27, 28, 29, 30, 31, 32, 33, 34, 35, 36, 37, 38, 39, 40, 41, 42, 43, 44, 45, 46, 47] (by decide +kernel) (by decide +kernel)) (goodIn_sub (fun _ h => List.mem_cons_of_mem _ (List.mem_append_left _ (List.mem_append_left _ (List.mem_append_left _ (List.mem_append_right _ h))))) (by decide +kernel))) (goodIn_sub (fun _ h => List.mem_cons_of_mem _ (List.mem_append_right _ h)) (by decide +kernel))
set_option maxRecDepth 20000 in
theorem gX1_plus_X1_keepResidue : GoodIn wsX1_plus (wsV RX1 82 RX1 yX1_keepResidue wsX1_keepResidue) := goodIn_app (goodIn_of _ (by decide +kernel)) ggX1_plus_X1_keepResidue
theorem dX1_plus_0 : decode cX1_plus 0 = .ok (.iload_n 1, 1) := by decide +kernel
theorem dX1_plus_1 : decode cX1_plus 1 = .ok (.invokestatic 27, 3) := by decide +kernel
theorem dX1_plus_4 : decode cX1_plus 4 = .ok (.iload_n 3, 1) := by decide +kernel
theorem dX1_plus_5 : decode cX1_plus 5 = .ok (.invokestatic 27, 3) := by decide +kernel
theorem dX1_plus_8 : decode cX1_plus 8 = .ok (.aload_n 0, 1) := by decide +kernel
theorem dX1_plus_9 : decode cX1_plus 9 = .ok (.iload_n 2, 1) := by decide +kernel
theorem dX1_plus_10 : decode cX1_plus 10 = .ok (.iload 4, 2) := by decide +kernel
theorem dX1_plus_12 : decode cX1_plus 12 = .ok (.invokevirtual 54, 3) := by decide +kernel
theorem dX1_plus_15 : decode cX1_plus 15 = .ok (.aload_n 0, 1) := by decide +kernel
theorem dX1_plus_16 : decode cX1_plus 16 = .ok (.iload_n 1, 1) := by decide +kernel
theorem dX1_plus_17 : decode cX1_plus 17 = .ok (.aload_n 0, 1) := by decide +kernel
theorem dX1_plus_18 : decode cX1_plus 18 = .ok (.getfield 9, 3) := by decide +kernel
theorem dX1_plus_21 : decode cX1_plus 21 = .ok (.iload_n 2, 1) := by decide +kernel
theorem dX1_plus_22 : decode cX1_plus 22 = .ok (.iaload, 1) := by decide +kernel
theorem dX1_plus_23 : decode cX1_plus 23 = .ok (.aload_n 0, 1) := by decide +kernel
theorem dX1_plus_24 : decode cX1_plus 24 = .ok (.getfield 9, 3) := by decide +kernel
theorem dX1_plus_27 : decode cX1_plus 27 = .ok (.iload_n 3, 1) := by decide +kernel
theorem dX1_plus_28 : decode cX1_plus 28 = .ok (.iaload, 1) := by decide +kernel
theorem dX1_plus_29 : decode cX1_plus 29 = .ok (.iadd, 1) := by decide +kernel
theorem dX1_plus_30 : decode cX1_plus 30 = .ok (.i2l, 1) := by decide +kernel
theorem dX1_plus_31 : decode cX1_plus 31 = .ok (.iload 4, 2) := by decide +kernel
theorem dX1_plus_33 : decode cX1_plus 33 = .ok (.invokevirtual 82, 3) := by decide +kernel
theorem dX1_plus_36 : decode cX1_plus 36 = .ok (.lreturn, 1) := by decide +kernel
set_option maxRecDepth 20000 in
theorem ggX1_minus_X1_needPlace : GoodIn wsX1_minus wsX1_needPlace := goodIn_ca (goodIn_r _ [5, 6, 7] (by decide +kernel) (by decide +kernel)) (goodIn_sub (fun _ h => List.mem_cons_of_mem _ (List.mem_append_left _ (List.mem_append_left _ (List.mem_append_right _ h)))) (by decide +kernel))
set_option maxRecDepth 20000 in
theorem gX1_minus_X1_needPlace : GoodIn wsX1_minus (va_wsS RX1 27 yX1_needPlace wsX1_needPlace) := goodIn_app (goodIn_of _ (by decide +kernel)) ggX1_minus_X1_needPlace
set_option maxRecDepth 20000 in
theorem ggX1_minus_X1_needDivision : GoodIn wsX1_minus wsX1_needDivision := goodIn_ca (goodIn_ca (goodIn_ca (goodIn_r _ [11, 12, 13, 1, 2, 3, 4, 5, 6, 7, 44, 45, 46, 47] (by decide +kernel) (by decide +kernel)) (goodIn_sub (fun _ h => List.mem_cons_of_mem _ (List.mem_append_left _ (List.mem_append_left _ (List.mem_append_left _ (List.mem_append_right _ h))))) (by decide +kernel))) (goodIn_sub (fun _ h => List.mem_cons_of_mem _ (List.mem_append_left _ (List.mem_append_right _ h))) (by decide +kernel))) (goodIn_sub (fun _ h => List.mem_cons_of_mem _ (List.mem_append_left _ (List.mem_append_left _ (List.mem_append_right _ h)))) (by decide +kernel))
set_option maxRecDepth 20000 in
theorem gX1_minus_X1_needDivision : GoodIn wsX1_minus (wsV RX1 54 RX1 yX1_needDivision wsX1_needDivision) := goodIn_app (goodIn_of _ (by decide +kernel)) ggX1_minus_X1_needDivision
set_option maxRecDepth 20000 in
theorem ggX1_minus_X1_keepResidue : GoodIn wsX1_minus wsX1_keepResidue := goodIn_ca (goodIn_ca (goodIn_r _ [17, 1, 18, 19, 4, 20, 21, 22, 23, 24, 25, 26, 27, 28, 29, 30, 31, 32, 33, 34, 35, 36, 37, 38, 39, 40, 41, 42, 43, 44, 45, 46, 47] (by decide +kernel) (by decide +kernel)) (goodIn_sub (fun _ h => List.mem_cons_of_mem _ (List.mem_append_left _ (List.mem_append_left _ (List.mem_append_left _ (List.mem_append_right _ h))))) (by decide +kernel))) (goodIn_sub (fun _ h => List.mem_cons_of_mem _ (List.mem_append_right _ h)) (by decide +kernel))
set_option maxRecDepth 20000 in
theorem gX1_minus_X1_keepResidue : GoodIn wsX1_minus (wsV RX1 82 RX1 yX1_keepResidue wsX1_keepResidue) := goodIn_app (goodIn_of _ (by decide +kernel)) ggX1_minus_X1_keepResidue
theorem dX1_minus_0 : decode cX1_minus 0 = .ok (.iload_n 1, 1) := by decide +kernel
theorem dX1_minus_1 : decode cX1_minus 1 = .ok (.invokestatic 27, 3) := by decide +kernel
theorem dX1_minus_4 : decode cX1_minus 4 = .ok (.iload_n 3, 1) := by decide +kernel
theorem dX1_minus_5 : decode cX1_minus 5 = .ok (.invokestatic 27, 3) := by decide +kernel
theorem dX1_minus_8 : decode cX1_minus 8 = .ok (.aload_n 0, 1) := by decide +kernel
theorem dX1_minus_9 : decode cX1_minus 9 = .ok (.iload_n 2, 1) := by decide +kernel
theorem dX1_minus_10 : decode cX1_minus 10 = .ok (.iload 4, 2) := by decide +kernel
theorem dX1_minus_12 : decode cX1_minus 12 = .ok (.invokevirtual 54, 3) := by decide +kernel
theorem dX1_minus_15 : decode cX1_minus 15 = .ok (.aload_n 0, 1) := by decide +kernel
theorem dX1_minus_16 : decode cX1_minus 16 = .ok (.iload_n 1, 1) := by decide +kernel
theorem dX1_minus_17 : decode cX1_minus 17 = .ok (.aload_n 0, 1) := by decide +kernel
theorem dX1_minus_18 : decode cX1_minus 18 = .ok (.getfield 9, 3) := by decide +kernel
theorem dX1_minus_21 : decode cX1_minus 21 = .ok (.iload_n 2, 1) := by decide +kernel
theorem dX1_minus_22 : decode cX1_minus 22 = .ok (.iaload, 1) := by decide +kernel
theorem dX1_minus_23 : decode cX1_minus 23 = .ok (.aload_n 0, 1) := by decide +kernel
theorem dX1_minus_24 : decode cX1_minus 24 = .ok (.getfield 9, 3) := by decide +kernel
theorem dX1_minus_27 : decode cX1_minus 27 = .ok (.iload_n 3, 1) := by decide +kernel
theorem dX1_minus_28 : decode cX1_minus 28 = .ok (.iaload, 1) := by decide +kernel
theorem dX1_minus_29 : decode cX1_minus 29 = .ok (.isub, 1) := by decide +kernel
theorem dX1_minus_30 : decode cX1_minus 30 = .ok (.i2l, 1) := by decide +kernel
theorem dX1_minus_31 : decode cX1_minus 31 = .ok (.iload 4, 2) := by decide +kernel
theorem dX1_minus_33 : decode cX1_minus 33 = .ok (.invokevirtual 82, 3) := by decide +kernel
theorem dX1_minus_36 : decode cX1_minus 36 = .ok (.lreturn, 1) := by decide +kernel
set_option maxRecDepth 20000 in
theorem ggX1_many_X1_needPlace : GoodIn wsX1_many wsX1_needPlace := goodIn_ca (goodIn_r _ [5, 6, 7] (by decide +kernel) (by decide +kernel)) (goodIn_sub (fun _ h => List.mem_cons_of_mem _ (List.mem_append_left _ (List.mem_append_left _ (List.mem_append_right _ h)))) (by decide +kernel))
set_option maxRecDepth 20000 in
theorem gX1_many_X1_needPlace : GoodIn wsX1_many (va_wsS RX1 27 yX1_needPlace wsX1_needPlace) := goodIn_app (goodIn_of _ (by decide +kernel)) ggX1_many_X1_needPlace
set_option maxRecDepth 20000 in
theorem ggX1_many_X1_needDivision : GoodIn wsX1_many wsX1_needDivision := goodIn_ca (goodIn_ca (goodIn_ca (goodIn_r _ [11, 12, 13, 1, 2, 3, 4, 5, 6, 7, 44, 45, 46, 47] (by decide +kernel) (by decide +kernel)) (goodIn_sub (fun _ h => List.mem_cons_of_mem _ (List.mem_append_left _ (List.mem_append_left _ (List.mem_append_left _ (List.mem_append_right _ h))))) (by decide +kernel))) (goodIn_sub (fun _ h => List.mem_cons_of_mem _ (List.mem_append_left _ (List.mem_append_right _ h))) (by decide +kernel))) (goodIn_sub (fun _ h => List.mem_cons_of_mem _ (List.mem_append_left _ (List.mem_append_left _ (List.mem_append_right _ h)))) (by decide +kernel))
set_option maxRecDepth 20000 in
theorem gX1_many_X1_needDivision : GoodIn wsX1_many (wsV RX1 54 RX1 yX1_needDivision wsX1_needDivision) := goodIn_app (goodIn_of _ (by decide +kernel)) ggX1_many_X1_needDivision
set_option maxRecDepth 20000 in
theorem ggX1_many_X1_keepResidue : GoodIn wsX1_many wsX1_keepResidue := goodIn_ca (goodIn_ca (goodIn_r _ [17, 1, 18, 19, 4, 20, 21, 22, 23, 24, 25, 26, 27, 28, 29, 30, 31, 32, 33, 34, 35, 36, 37, 38, 39, 40, 41, 42, 43, 44, 45, 46, 47] (by decide +kernel) (by decide +kernel)) (goodIn_sub (fun _ h => List.mem_cons_of_mem _ (List.mem_append_left _ (List.mem_append_left _ (List.mem_append_left _ (List.mem_append_right _ h))))) (by decide +kernel))) (goodIn_sub (fun _ h => List.mem_cons_of_mem _ (List.mem_append_right _ h)) (by decide +kernel))
set_option maxRecDepth 20000 in
theorem gX1_many_X1_keepResidue : GoodIn wsX1_many (wsV RX1 82 RX1 yX1_keepResidue wsX1_keepResidue) := goodIn_app (goodIn_of _ (by decide +kernel)) ggX1_many_X1_keepResidue
theorem dX1_many_0 : decode cX1_many 0 = .ok (.iload_n 1, 1) := by decide +kernel
theorem dX1_many_1 : decode cX1_many 1 = .ok (.invokestatic 27, 3) := by decide +kernel
theorem dX1_many_4 : decode cX1_many 4 = .ok (.aload_n 0, 1) := by decide +kernel
theorem dX1_many_5 : decode cX1_many 5 = .ok (.iload_n 3, 1) := by decide +kernel
theorem dX1_many_6 : decode cX1_many 6 = .ok (.iload 4, 2) := by decide +kernel
theorem dX1_many_8 : decode cX1_many 8 = .ok (.invokevirtual 54, 3) := by decide +kernel
theorem dX1_many_11 : decode cX1_many 11 = .ok (.aload_n 0, 1) := by decide +kernel
theorem dX1_many_12 : decode cX1_many 12 = .ok (.iload_n 1, 1) := by decide +kernel
theorem dX1_many_13 : decode cX1_many 13 = .ok (.iload_n 2, 1) := by decide +kernel
theorem dX1_many_14 : decode cX1_many 14 = .ok (.i2l, 1) := by decide +kernel
theorem dX1_many_15 : decode cX1_many 15 = .ok (.aload_n 0, 1) := by decide +kernel
theorem dX1_many_16 : decode cX1_many 16 = .ok (.getfield 9, 3) := by decide +kernel
theorem dX1_many_19 : decode cX1_many 19 = .ok (.iload_n 3, 1) := by decide +kernel
theorem dX1_many_20 : decode cX1_many 20 = .ok (.iaload, 1) := by decide +kernel
theorem dX1_many_21 : decode cX1_many 21 = .ok (.i2l, 1) := by decide +kernel
theorem dX1_many_22 : decode cX1_many 22 = .ok (.lmul, 1) := by decide +kernel
theorem dX1_many_23 : decode cX1_many 23 = .ok (.iload 4, 2) := by decide +kernel
theorem dX1_many_25 : decode cX1_many 25 = .ok (.invokevirtual 82, 3) := by decide +kernel
theorem dX1_many_28 : decode cX1_many 28 = .ok (.lreturn, 1) := by decide +kernel
set_option maxRecDepth 20000 in
theorem ggX1_product_X1_needPlace : GoodIn wsX1_product wsX1_needPlace := goodIn_ca (goodIn_r _ [5, 6, 7] (by decide +kernel) (by decide +kernel)) (goodIn_sub (fun _ h => List.mem_cons_of_mem _ (List.mem_append_left _ (List.mem_append_left _ (List.mem_append_right _ h)))) (by decide +kernel))
set_option maxRecDepth 20000 in
theorem gX1_product_X1_needPlace : GoodIn wsX1_product (va_wsS RX1 27 yX1_needPlace wsX1_needPlace) := goodIn_app (goodIn_of _ (by decide +kernel)) ggX1_product_X1_needPlace
set_option maxRecDepth 20000 in
theorem ggX1_product_X1_needDivision : GoodIn wsX1_product wsX1_needDivision := goodIn_ca (goodIn_ca (goodIn_ca (goodIn_r _ [11, 12, 13, 1, 2, 3, 4, 5, 6, 7, 44, 45, 46, 47] (by decide +kernel) (by decide +kernel)) (goodIn_sub (fun _ h => List.mem_cons_of_mem _ (List.mem_append_left _ (List.mem_append_left _ (List.mem_append_left _ (List.mem_append_right _ h))))) (by decide +kernel))) (goodIn_sub (fun _ h => List.mem_cons_of_mem _ (List.mem_append_left _ (List.mem_append_right _ h))) (by decide +kernel))) (goodIn_sub (fun _ h => List.mem_cons_of_mem _ (List.mem_append_left _ (List.mem_append_left _ (List.mem_append_right _ h)))) (by decide +kernel))
set_option maxRecDepth 20000 in
theorem gX1_product_X1_needDivision : GoodIn wsX1_product (wsV RX1 54 RX1 yX1_needDivision wsX1_needDivision) := goodIn_app (goodIn_of _ (by decide +kernel)) ggX1_product_X1_needDivision
set_option maxRecDepth 20000 in
theorem ggX1_product_X1_keepResidue : GoodIn wsX1_product wsX1_keepResidue := goodIn_ca (goodIn_ca (goodIn_r _ [17, 1, 18, 19, 4, 20, 21, 22, 23, 24, 25, 26, 27, 28, 29, 30, 31, 32, 33, 34, 35, 36, 37, 38, 39, 40, 41, 42, 43, 44, 45, 46, 47] (by decide +kernel) (by decide +kernel)) (goodIn_sub (fun _ h => List.mem_cons_of_mem _ (List.mem_append_left _ (List.mem_append_left _ (List.mem_append_left _ (List.mem_append_right _ h))))) (by decide +kernel))) (goodIn_sub (fun _ h => List.mem_cons_of_mem _ (List.mem_append_right _ h)) (by decide +kernel))
set_option maxRecDepth 20000 in
theorem gX1_product_X1_keepResidue : GoodIn wsX1_product (wsV RX1 82 RX1 yX1_keepResidue wsX1_keepResidue) := goodIn_app (goodIn_of _ (by decide +kernel)) ggX1_product_X1_keepResidue
theorem dX1_product_0 : decode cX1_product 0 = .ok (.iload_n 1, 1) := by decide +kernel
theorem dX1_product_1 : decode cX1_product 1 = .ok (.invokestatic 27, 3) := by decide +kernel
theorem dX1_product_4 : decode cX1_product 4 = .ok (.iload_n 3, 1) := by decide +kernel
theorem dX1_product_5 : decode cX1_product 5 = .ok (.invokestatic 27, 3) := by decide +kernel
theorem dX1_product_8 : decode cX1_product 8 = .ok (.aload_n 0, 1) := by decide +kernel
theorem dX1_product_9 : decode cX1_product 9 = .ok (.iload_n 2, 1) := by decide +kernel
theorem dX1_product_10 : decode cX1_product 10 = .ok (.iload 4, 2) := by decide +kernel
theorem dX1_product_12 : decode cX1_product 12 = .ok (.invokevirtual 54, 3) := by decide +kernel
theorem dX1_product_15 : decode cX1_product 15 = .ok (.aload_n 0, 1) := by decide +kernel
theorem dX1_product_16 : decode cX1_product 16 = .ok (.iload_n 1, 1) := by decide +kernel
theorem dX1_product_17 : decode cX1_product 17 = .ok (.aload_n 0, 1) := by decide +kernel
theorem dX1_product_18 : decode cX1_product 18 = .ok (.getfield 9, 3) := by decide +kernel
theorem dX1_product_21 : decode cX1_product 21 = .ok (.iload_n 2, 1) := by decide +kernel
theorem dX1_product_22 : decode cX1_product 22 = .ok (.iaload, 1) := by decide +kernel
theorem dX1_product_23 : decode cX1_product 23 = .ok (.aload_n 0, 1) := by decide +kernel
theorem dX1_product_24 : decode cX1_product 24 = .ok (.getfield 9, 3) := by decide +kernel
theorem dX1_product_27 : decode cX1_product 27 = .ok (.iload_n 3, 1) := by decide +kernel
theorem dX1_product_28 : decode cX1_product 28 = .ok (.iaload, 1) := by decide +kernel
theorem dX1_product_29 : decode cX1_product 29 = .ok (.imul, 1) := by decide +kernel
theorem dX1_product_30 : decode cX1_product 30 = .ok (.i2l, 1) := by decide +kernel
theorem dX1_product_31 : decode cX1_product 31 = .ok (.iload 4, 2) := by decide +kernel
theorem dX1_product_33 : decode cX1_product 33 = .ok (.invokevirtual 82, 3) := by decide +kernel
theorem dX1_product_36 : decode cX1_product 36 = .ok (.lreturn, 1) := by decide +kernel
set_option maxRecDepth 20000 in
theorem ggX1_power_X1_needPlace : GoodIn wsX1_power wsX1_needPlace := goodIn_ca (goodIn_r _ [7, 8, 9] (by decide +kernel) (by decide +kernel)) (goodIn_sub (fun _ h => List.mem_cons_of_mem _ (List.mem_append_left _ (List.mem_append_left _ (List.mem_append_right _ h)))) (by decide +kernel))
set_option maxRecDepth 20000 in
theorem gX1_power_X1_needPlace : GoodIn wsX1_power (va_wsS RX1 27 yX1_needPlace wsX1_needPlace) := goodIn_app (goodIn_of _ (by decide +kernel)) ggX1_power_X1_needPlace
set_option maxRecDepth 20000 in
theorem ggX1_power_X1_needDivision : GoodIn wsX1_power wsX1_needDivision := goodIn_ca (goodIn_ca (goodIn_ca (goodIn_r _ [13, 14, 15, 3, 4, 5, 6, 7, 8, 9, 49, 50, 51, 52] (by decide +kernel) (by decide +kernel)) (goodIn_sub (fun _ h => List.mem_cons_of_mem _ (List.mem_append_left _ (List.mem_append_left _ (List.mem_append_left _ (List.mem_append_right _ h))))) (by decide +kernel))) (goodIn_sub (fun _ h => List.mem_cons_of_mem _ (List.mem_append_left _ (List.mem_append_right _ h))) (by decide +kernel))) (goodIn_sub (fun _ h => List.mem_cons_of_mem _ (List.mem_append_left _ (List.mem_append_left _ (List.mem_append_right _ h)))) (by decide +kernel))
set_option maxRecDepth 20000 in
theorem gX1_power_X1_needDivision : GoodIn wsX1_power (wsV RX1 54 RX1 yX1_needDivision wsX1_needDivision) := goodIn_app (goodIn_of _ (by decide +kernel)) ggX1_power_X1_needDivision
set_option maxRecDepth 20000 in
theorem ggX1_power_X1_powerOf : GoodIn wsX1_power wsX1_powerOf := goodIn_ca (goodIn_r _ [18, 19, 20, 6, 21, 22, 23, 24, 25] (by decide +kernel) (by decide +kernel)) (goodIn_sub (fun _ h => List.mem_cons_of_mem _ (List.mem_append_right _ h)) (by decide +kernel))
set_option maxRecDepth 20000 in
theorem gX1_power_X1_powerOf : GoodIn wsX1_power (va_wsS RX1 88 yX1_powerOf wsX1_powerOf) := goodIn_app (goodIn_of _ (by decide +kernel)) ggX1_power_X1_powerOf
set_option maxRecDepth 20000 in
theorem ggX1_power_X1_keepResidue : GoodIn wsX1_power wsX1_keepResidue := goodIn_ca (goodIn_ca (goodIn_r _ [29, 3, 19, 20, 6, 21, 22, 23, 24, 25, 30, 31, 32, 33, 34, 35, 36, 37, 38, 39, 40, 41, 42, 43, 44, 45, 46, 47, 48, 49, 50, 51, 52] (by decide +kernel) (by decide +kernel)) (goodIn_sub (fun _ h => List.mem_cons_of_mem _ (List.mem_append_left _ (List.mem_append_left _ (List.mem_append_left _ (List.mem_append_right _ h))))) (by decide +kernel))) (goodIn_sub (fun _ h => List.mem_cons_of_mem _ (List.mem_append_right _ h)) (by decide +kernel))
set_option maxRecDepth 20000 in
theorem gX1_power_X1_keepResidue : GoodIn wsX1_power (wsV RX1 82 RX1 yX1_keepResidue wsX1_keepResidue) := goodIn_app (goodIn_of _ (by decide +kernel)) ggX1_power_X1_keepResidue
theorem dX1_power_0 : decode cX1_power 0 = .ok (.iload_n 1, 1) := by decide +kernel
theorem dX1_power_1 : decode cX1_power 1 = .ok (.invokestatic 27, 3) := by decide +kernel
theorem dX1_power_4 : decode cX1_power 4 = .ok (.iload_n 2, 1) := by decide +kernel
theorem dX1_power_5 : decode cX1_power 5 = .ok (.invokestatic 27, 3) := by decide +kernel
theorem dX1_power_8 : decode cX1_power 8 = .ok (.iload 4, 2) := by decide +kernel
theorem dX1_power_10 : decode cX1_power 10 = .ok (.invokestatic 27, 3) := by decide +kernel
theorem dX1_power_13 : decode cX1_power 13 = .ok (.iload_n 3, 1) := by decide +kernel
theorem dX1_power_14 : decode cX1_power 14 = .ok (.ifCond .lt 10, 3) := by decide +kernel
theorem dX1_power_17 : decode cX1_power 17 = .ok (.iload_n 3, 1) := by decide +kernel
theorem dX1_power_18 : decode cX1_power 18 = .ok (.sipush 1000, 3) := by decide +kernel
theorem dX1_power_21 : decode cX1_power 21 = .ok (.if_icmp .le 13, 3) := by decide +kernel
theorem dX1_power_24 : decode cX1_power 24 = .ok (.new 31, 3) := by decide +kernel
theorem dX1_power_27 : decode cX1_power 27 = .ok (.dup, 1) := by decide +kernel
theorem dX1_power_28 : decode cX1_power 28 = .ok (.ldc 86, 2) := by decide +kernel
theorem dX1_power_30 : decode cX1_power 30 = .ok (.invokespecial 35, 3) := by decide +kernel
theorem dX1_power_33 : decode cX1_power 33 = .ok (.athrow, 1) := by decide +kernel
theorem dX1_power_34 : decode cX1_power 34 = .ok (.aload_n 0, 1) := by decide +kernel
theorem dX1_power_35 : decode cX1_power 35 = .ok (.iload_n 2, 1) := by decide +kernel
theorem dX1_power_36 : decode cX1_power 36 = .ok (.iload 4, 2) := by decide +kernel
theorem dX1_power_38 : decode cX1_power 38 = .ok (.invokevirtual 54, 3) := by decide +kernel
theorem dX1_power_41 : decode cX1_power 41 = .ok (.aload_n 0, 1) := by decide +kernel
theorem dX1_power_42 : decode cX1_power 42 = .ok (.iload_n 1, 1) := by decide +kernel
theorem dX1_power_43 : decode cX1_power 43 = .ok (.aload_n 0, 1) := by decide +kernel
theorem dX1_power_44 : decode cX1_power 44 = .ok (.getfield 9, 3) := by decide +kernel
theorem dX1_power_47 : decode cX1_power 47 = .ok (.iload_n 2, 1) := by decide +kernel
theorem dX1_power_48 : decode cX1_power 48 = .ok (.iaload, 1) := by decide +kernel
theorem dX1_power_49 : decode cX1_power 49 = .ok (.iload_n 3, 1) := by decide +kernel
theorem dX1_power_50 : decode cX1_power 50 = .ok (.aload_n 0, 1) := by decide +kernel
theorem dX1_power_51 : decode cX1_power 51 = .ok (.getfield 9, 3) := by decide +kernel
theorem dX1_power_54 : decode cX1_power 54 = .ok (.iload 4, 2) := by decide +kernel
theorem dX1_power_56 : decode cX1_power 56 = .ok (.iaload, 1) := by decide +kernel
theorem dX1_power_57 : decode cX1_power 57 = .ok (.invokestatic 88, 3) := by decide +kernel
theorem dX1_power_60 : decode cX1_power 60 = .ok (.i2l, 1) := by decide +kernel
theorem dX1_power_61 : decode cX1_power 61 = .ok (.iload 4, 2) := by decide +kernel
theorem dX1_power_63 : decode cX1_power 63 = .ok (.invokevirtual 82, 3) := by decide +kernel
theorem dX1_power_66 : decode cX1_power 66 = .ok (.lreturn, 1) := by decide +kernel
set_option maxRecDepth 20000 in
theorem ggX1_inverse_X1_needPlace : GoodIn wsX1_inverse wsX1_needPlace := goodIn_ca (goodIn_r _ [7, 8, 9] (by decide +kernel) (by decide +kernel)) (goodIn_sub (fun _ h => List.mem_cons_of_mem _ (List.mem_append_left _ (List.mem_append_right _ h))) (by decide +kernel))
set_option maxRecDepth 20000 in
theorem gX1_inverse_X1_needPlace : GoodIn wsX1_inverse (va_wsS RX1 27 yX1_needPlace wsX1_needPlace) := goodIn_app (goodIn_of _ (by decide +kernel)) ggX1_inverse_X1_needPlace
set_option maxRecDepth 20000 in
theorem ggX1_inverse_X1_needDivision : GoodIn wsX1_inverse wsX1_needDivision := goodIn_ca (goodIn_ca (goodIn_ca (goodIn_r _ [13, 1, 2, 3, 4, 5, 6, 7, 8, 9, 71, 72, 73, 74] (by decide +kernel) (by decide +kernel)) (goodIn_sub (fun _ h => List.mem_cons_of_mem _ (List.mem_append_left _ (List.mem_append_left _ (List.mem_append_left _ (List.mem_append_right _ h))))) (by decide +kernel))) (goodIn_sub (fun _ h => List.mem_cons_of_mem _ (List.mem_append_left _ (List.mem_append_left _ (List.mem_append_right _ h)))) (by decide +kernel))) (goodIn_sub (fun _ h => List.mem_cons_of_mem _ (List.mem_append_left _ (List.mem_append_right _ h))) (by decide +kernel))
set_option maxRecDepth 20000 in
theorem gX1_inverse_X1_needDivision : GoodIn wsX1_inverse (wsV RX1 54 RX1 yX1_needDivision wsX1_needDivision) := goodIn_app (goodIn_of _ (by decide +kernel)) ggX1_inverse_X1_needDivision
set_option maxRecDepth 20000 in
theorem ggX1_inverse_X1_inverseOf : GoodIn wsX1_inverse wsX1_inverseOf := goodIn_ca (goodIn_ca (goodIn_r _ [17, 18, 19, 20, 21, 22, 23, 24, 25, 26, 27, 6, 28, 29, 30, 31, 32, 33, 34, 35, 36, 37, 38, 39, 40, 41, 42, 43, 44, 45, 46, 47, 48, 49, 50, 51, 71, 72, 73, 74, 75, 76, 77, 78] (by decide +kernel) (by decide +kernel)) (goodIn_sub (fun _ h => List.mem_cons_of_mem _ (List.mem_append_left _ (List.mem_append_left _ (List.mem_append_left _ (List.mem_append_right _ h))))) (by decide +kernel))) (goodIn_sub (fun _ h => List.mem_cons_of_mem _ (List.mem_append_right _ h)) (by decide +kernel))
set_option maxRecDepth 20000 in
theorem gX1_inverse_X1_inverseOf : GoodIn wsX1_inverse (wsV RX1 92 RX1 yX1_inverseOf wsX1_inverseOf) := goodIn_app (goodIn_of _ (by decide +kernel)) ggX1_inverse_X1_inverseOf
set_option maxRecDepth 20000 in
theorem ggX1_inverse_X1_keep : GoodIn wsX1_inverse wsX1_keep := goodIn_ca (goodIn_r _ [55, 3, 56, 57, 58, 59, 6, 60, 61, 62, 63, 64, 29, 30, 31, 32, 65, 66, 67, 68, 69, 70, 71, 72, 73, 74] (by decide +kernel) (by decide +kernel)) (goodIn_sub (fun _ h => List.mem_cons_of_mem _ (List.mem_append_left _ (List.mem_append_left _ (List.mem_append_left _ (List.mem_append_right _ h))))) (by decide +kernel))
set_option maxRecDepth 20000 in
theorem gX1_inverse_X1_keep : GoodIn wsX1_inverse (wsV RX1 42 RX1 yX1_keep wsX1_keep) := goodIn_app (goodIn_of _ (by decide +kernel)) ggX1_inverse_X1_keep
theorem dX1_inverse_0 : decode cX1_inverse 0 = .ok (.iload_n 1, 1) := by decide +kernel
theorem dX1_inverse_1 : decode cX1_inverse 1 = .ok (.invokestatic 27, 3) := by decide +kernel
theorem dX1_inverse_4 : decode cX1_inverse 4 = .ok (.aload_n 0, 1) := by decide +kernel
theorem dX1_inverse_5 : decode cX1_inverse 5 = .ok (.iload_n 2, 1) := by decide +kernel
theorem dX1_inverse_6 : decode cX1_inverse 6 = .ok (.iload_n 3, 1) := by decide +kernel
theorem dX1_inverse_7 : decode cX1_inverse 7 = .ok (.invokevirtual 54, 3) := by decide +kernel
theorem dX1_inverse_10 : decode cX1_inverse 10 = .ok (.aload_n 0, 1) := by decide +kernel
theorem dX1_inverse_11 : decode cX1_inverse 11 = .ok (.aload_n 0, 1) := by decide +kernel
theorem dX1_inverse_12 : decode cX1_inverse 12 = .ok (.getfield 9, 3) := by decide +kernel
theorem dX1_inverse_15 : decode cX1_inverse 15 = .ok (.iload_n 2, 1) := by decide +kernel
theorem dX1_inverse_16 : decode cX1_inverse 16 = .ok (.iaload, 1) := by decide +kernel
theorem dX1_inverse_17 : decode cX1_inverse 17 = .ok (.aload_n 0, 1) := by decide +kernel
theorem dX1_inverse_18 : decode cX1_inverse 18 = .ok (.getfield 9, 3) := by decide +kernel
theorem dX1_inverse_21 : decode cX1_inverse 21 = .ok (.iload_n 3, 1) := by decide +kernel
theorem dX1_inverse_22 : decode cX1_inverse 22 = .ok (.iaload, 1) := by decide +kernel
theorem dX1_inverse_23 : decode cX1_inverse 23 = .ok (.invokevirtual 92, 3) := by decide +kernel
theorem dX1_inverse_26 : decode cX1_inverse 26 = .ok (.istore 4, 2) := by decide +kernel
theorem dX1_inverse_28 : decode cX1_inverse 28 = .ok (.iload 4, 2) := by decide +kernel
theorem dX1_inverse_30 : decode cX1_inverse 30 = .ok (.sipush 128, 3) := by decide +kernel
theorem dX1_inverse_33 : decode cX1_inverse 33 = .ok (.if_icmp .ne 13, 3) := by decide +kernel
theorem dX1_inverse_36 : decode cX1_inverse 36 = .ok (.new 95, 3) := by decide +kernel
theorem dX1_inverse_39 : decode cX1_inverse 39 = .ok (.dup, 1) := by decide +kernel
theorem dX1_inverse_40 : decode cX1_inverse 40 = .ok (.ldc 97, 2) := by decide +kernel
theorem dX1_inverse_42 : decode cX1_inverse 42 = .ok (.invokespecial 99, 3) := by decide +kernel
theorem dX1_inverse_45 : decode cX1_inverse 45 = .ok (.athrow, 1) := by decide +kernel
theorem dX1_inverse_46 : decode cX1_inverse 46 = .ok (.aload_n 0, 1) := by decide +kernel
theorem dX1_inverse_47 : decode cX1_inverse 47 = .ok (.iload_n 1, 1) := by decide +kernel
theorem dX1_inverse_48 : decode cX1_inverse 48 = .ok (.iload 4, 2) := by decide +kernel
theorem dX1_inverse_50 : decode cX1_inverse 50 = .ok (.iconst 0, 1) := by decide +kernel
theorem dX1_inverse_51 : decode cX1_inverse 51 = .ok (.invokevirtual 42, 3) := by decide +kernel
theorem dX1_inverse_54 : decode cX1_inverse 54 = .ok (.lreturn, 1) := by decide +kernel
set_option maxRecDepth 20000 in
theorem ggX1_order_X1_needDivision : GoodIn wsX1_order wsX1_needDivision := goodIn_ca (goodIn_ca (goodIn_ca (goodIn_r _ [10, 11, 12, 1, 13, 14, 9, 15, 16, 17, 39, 40, 41, 42] (by decide +kernel) (by decide +kernel)) (goodIn_sub (fun _ h => List.mem_cons_of_mem _ (List.mem_append_left _ (List.mem_append_left _ (List.mem_append_left _ (List.mem_append_right _ h))))) (by decide +kernel))) (goodIn_sub (fun _ h => List.mem_cons_of_mem _ (List.mem_append_left _ (List.mem_append_left _ (List.mem_append_right _ h)))) (by decide +kernel))) (goodIn_sub (fun _ h => List.mem_cons_of_mem _ (List.mem_append_left _ (List.mem_append_right _ h))) (by decide +kernel))
set_option maxRecDepth 20000 in
theorem gX1_order_X1_needDivision : GoodIn wsX1_order (wsV RX1 54 RX1 yX1_needDivision wsX1_needDivision) := goodIn_app (goodIn_of _ (by decide +kernel)) ggX1_order_X1_needDivision
set_option maxRecDepth 20000 in
theorem ggX1_order_X1_measureOf : GoodIn wsX1_order wsX1_measureOf := goodIn_ca (goodIn_ca (goodIn_r _ [21, 22, 2, 3, 4, 5, 23, 24, 25, 26, 27, 28, 29, 30, 31, 9, 32, 33, 34, 35, 36, 37, 38, 39, 40, 41, 42, 43, 44, 45, 46] (by decide +kernel) (by decide +kernel)) (goodIn_sub (fun _ h => List.mem_cons_of_mem _ (List.mem_append_left _ (List.mem_append_left _ (List.mem_append_left _ (List.mem_append_right _ h))))) (by decide +kernel))) (goodIn_sub (fun _ h => List.mem_cons_of_mem _ (List.mem_append_right _ h)) (by decide +kernel))
set_option maxRecDepth 20000 in
theorem gX1_order_X1_measureOf : GoodIn wsX1_order (wsV RX1 100 RX1 yX1_measureOf wsX1_measureOf) := goodIn_app (goodIn_of _ (by decide +kernel)) ggX1_order_X1_measureOf
set_option maxRecDepth 20000 in
theorem ggX1_order_X1_quotient : GoodIn wsX1_order wsX1_quotient := goodIn_ca (goodIn_r _ [35] (by decide +kernel) (by decide +kernel)) (goodIn_sub (fun _ h => List.mem_cons_of_mem _ (List.mem_append_right _ h)) (by decide +kernel))
set_option maxRecDepth 20000 in
theorem gX1_order_X1_quotient : GoodIn wsX1_order (va_wsS RX1 103 yX1_quotient wsX1_quotient) := goodIn_app (goodIn_of _ (by decide +kernel)) ggX1_order_X1_quotient
theorem dX1_order_0 : decode cX1_order 0 = .ok (.aload_n 0, 1) := by decide +kernel
theorem dX1_order_1 : decode cX1_order 1 = .ok (.iload_n 1, 1) := by decide +kernel
theorem dX1_order_2 : decode cX1_order 2 = .ok (.iload_n 2, 1) := by decide +kernel
theorem dX1_order_3 : decode cX1_order 3 = .ok (.invokevirtual 54, 3) := by decide +kernel
theorem dX1_order_6 : decode cX1_order 6 = .ok (.aload_n 0, 1) := by decide +kernel
theorem dX1_order_7 : decode cX1_order 7 = .ok (.getfield 9, 3) := by decide +kernel
theorem dX1_order_10 : decode cX1_order 10 = .ok (.iload_n 2, 1) := by decide +kernel
theorem dX1_order_11 : decode cX1_order 11 = .ok (.iaload, 1) := by decide +kernel
theorem dX1_order_12 : decode cX1_order 12 = .ok (.aload_n 0, 1) := by decide +kernel
theorem dX1_order_13 : decode cX1_order 13 = .ok (.aload_n 0, 1) := by decide +kernel
theorem dX1_order_14 : decode cX1_order 14 = .ok (.getfield 9, 3) := by decide +kernel
theorem dX1_order_17 : decode cX1_order 17 = .ok (.iload_n 1, 1) := by decide +kernel
theorem dX1_order_18 : decode cX1_order 18 = .ok (.iaload, 1) := by decide +kernel
theorem dX1_order_19 : decode cX1_order 19 = .ok (.aload_n 0, 1) := by decide +kernel
theorem dX1_order_20 : decode cX1_order 20 = .ok (.getfield 9, 3) := by decide +kernel
theorem dX1_order_23 : decode cX1_order 23 = .ok (.iload_n 2, 1) := by decide +kernel
theorem dX1_order_24 : decode cX1_order 24 = .ok (.iaload, 1) := by decide +kernel
theorem dX1_order_25 : decode cX1_order 25 = .ok (.invokevirtual 100, 3) := by decide +kernel
theorem dX1_order_28 : decode cX1_order 28 = .ok (.invokestatic 103, 3) := by decide +kernel
theorem dX1_order_31 : decode cX1_order 31 = .ok (.invokestatic 65, 3) := by decide +kernel
theorem dX1_order_34 : decode cX1_order 34 = .ok (.ireturn, 1) := by decide +kernel
set_option maxRecDepth 20000 in
theorem ggX1_measure_X1_needPlace : GoodIn wsX1_measure wsX1_needPlace := goodIn_ca (goodIn_r _ [5, 6, 7] (by decide +kernel) (by decide +kernel)) (goodIn_sub (fun _ h => List.mem_cons_of_mem _ (List.mem_append_left _ (List.mem_append_right _ h))) (by decide +kernel))
set_option maxRecDepth 20000 in
theorem gX1_measure_X1_needPlace : GoodIn wsX1_measure (va_wsS RX1 27 yX1_needPlace wsX1_needPlace) := goodIn_app (goodIn_of _ (by decide +kernel)) ggX1_measure_X1_needPlace
set_option maxRecDepth 20000 in
theorem ggX1_measure_X1_measureOf : GoodIn wsX1_measure wsX1_measureOf := goodIn_ca (goodIn_ca (goodIn_r _ [11, 12, 13, 14, 15, 16, 17, 18, 19, 20, 21, 22, 23, 24, 25, 4, 26, 27, 28, 29, 30, 31, 32, 52, 53, 54, 55, 56, 57, 58, 59] (by decide +kernel) (by decide +kernel)) (goodIn_sub (fun _ h => List.mem_cons_of_mem _ (List.mem_append_left _ (List.mem_append_left _ (List.mem_append_right _ h)))) (by decide +kernel))) (goodIn_sub (fun _ h => List.mem_cons_of_mem _ (List.mem_append_right _ h)) (by decide +kernel))
set_option maxRecDepth 20000 in
theorem gX1_measure_X1_measureOf : GoodIn wsX1_measure (wsV RX1 100 RX1 yX1_measureOf wsX1_measureOf) := goodIn_app (goodIn_of _ (by decide +kernel)) ggX1_measure_X1_measureOf
set_option maxRecDepth 20000 in
theorem ggX1_measure_X1_keep : GoodIn wsX1_measure wsX1_keep := goodIn_ca (goodIn_r _ [36, 1, 37, 38, 39, 40, 4, 41, 42, 43, 44, 45, 13, 14, 15, 16, 46, 47, 48, 49, 50, 51, 52, 53, 54, 55] (by decide +kernel) (by decide +kernel)) (goodIn_sub (fun _ h => List.mem_cons_of_mem _ (List.mem_append_left _ (List.mem_append_left _ (List.mem_append_right _ h)))) (by decide +kernel))
set_option maxRecDepth 20000 in
theorem gX1_measure_X1_keep : GoodIn wsX1_measure (wsV RX1 42 RX1 yX1_keep wsX1_keep) := goodIn_app (goodIn_of _ (by decide +kernel)) ggX1_measure_X1_keep
theorem dX1_measure_0 : decode cX1_measure 0 = .ok (.iload_n 1, 1) := by decide +kernel
theorem dX1_measure_1 : decode cX1_measure 1 = .ok (.invokestatic 27, 3) := by decide +kernel
theorem dX1_measure_4 : decode cX1_measure 4 = .ok (.iload_n 2, 1) := by decide +kernel
theorem dX1_measure_5 : decode cX1_measure 5 = .ok (.invokestatic 27, 3) := by decide +kernel
theorem dX1_measure_8 : decode cX1_measure 8 = .ok (.iload_n 3, 1) := by decide +kernel
theorem dX1_measure_9 : decode cX1_measure 9 = .ok (.invokestatic 27, 3) := by decide +kernel
theorem dX1_measure_12 : decode cX1_measure 12 = .ok (.aload_n 0, 1) := by decide +kernel
theorem dX1_measure_13 : decode cX1_measure 13 = .ok (.iload_n 1, 1) := by decide +kernel
theorem dX1_measure_14 : decode cX1_measure 14 = .ok (.aload_n 0, 1) := by decide +kernel
theorem dX1_measure_15 : decode cX1_measure 15 = .ok (.aload_n 0, 1) := by decide +kernel
theorem dX1_measure_16 : decode cX1_measure 16 = .ok (.getfield 9, 3) := by decide +kernel
theorem dX1_measure_19 : decode cX1_measure 19 = .ok (.iload_n 2, 1) := by decide +kernel
theorem dX1_measure_20 : decode cX1_measure 20 = .ok (.iaload, 1) := by decide +kernel
theorem dX1_measure_21 : decode cX1_measure 21 = .ok (.aload_n 0, 1) := by decide +kernel
theorem dX1_measure_22 : decode cX1_measure 22 = .ok (.getfield 9, 3) := by decide +kernel
theorem dX1_measure_25 : decode cX1_measure 25 = .ok (.iload_n 3, 1) := by decide +kernel
theorem dX1_measure_26 : decode cX1_measure 26 = .ok (.iaload, 1) := by decide +kernel
theorem dX1_measure_27 : decode cX1_measure 27 = .ok (.invokevirtual 100, 3) := by decide +kernel
theorem dX1_measure_30 : decode cX1_measure 30 = .ok (.iconst 0, 1) := by decide +kernel
theorem dX1_measure_31 : decode cX1_measure 31 = .ok (.invokevirtual 42, 3) := by decide +kernel
theorem dX1_measure_34 : decode cX1_measure 34 = .ok (.lreturn, 1) := by decide +kernel
set_option maxRecDepth 20000 in
theorem ggX1_steps_X1_needPlace : GoodIn wsX1_steps wsX1_needPlace := goodIn_ca (goodIn_r _ [6, 7, 8] (by decide +kernel) (by decide +kernel)) (goodIn_sub (fun _ h => List.mem_cons_of_mem _ (List.mem_append_left _ (List.mem_append_right _ h))) (by decide +kernel))
set_option maxRecDepth 20000 in
theorem gX1_steps_X1_needPlace : GoodIn wsX1_steps (va_wsS RX1 27 yX1_needPlace wsX1_needPlace) := goodIn_app (goodIn_of _ (by decide +kernel)) ggX1_steps_X1_needPlace
set_option maxRecDepth 20000 in
theorem ggX1_steps_X0_takeRests : GoodIn wsX1_steps wsX0_takeRests := goodIn_ca (goodIn_ca (goodIn_r _ [12, 13, 14, 15, 16, 17, 5, 18, 19, 20, 21, 22, 23, 24, 25, 26, 27, 28, 33, 34, 35, 36] (by decide +kernel) (by decide +kernel)) (goodIn_sub (fun _ h => List.mem_cons_of_mem _ (List.mem_append_left _ (List.mem_append_left _ (List.mem_append_right _ h)))) (by decide +kernel))) (goodIn_sub (fun _ h => List.mem_cons_of_mem _ (List.mem_append_right _ h)) (by decide +kernel))
set_option maxRecDepth 20000 in
theorem gX1_steps_X0_takeRests_n106 : GoodIn wsX1_steps (wsX0_takeRests) := ggX1_steps_X0_takeRests
theorem dX1_steps_0 : decode cX1_steps 0 = .ok (.iload_n 1, 1) := by decide +kernel
theorem dX1_steps_1 : decode cX1_steps 1 = .ok (.invokestatic 27, 3) := by decide +kernel
theorem dX1_steps_4 : decode cX1_steps 4 = .ok (.iload_n 2, 1) := by decide +kernel
theorem dX1_steps_5 : decode cX1_steps 5 = .ok (.invokestatic 27, 3) := by decide +kernel
theorem dX1_steps_8 : decode cX1_steps 8 = .ok (.aload_n 0, 1) := by decide +kernel
theorem dX1_steps_9 : decode cX1_steps 9 = .ok (.getfield 24, 3) := by decide +kernel
theorem dX1_steps_12 : decode cX1_steps 12 = .ok (.aload_n 0, 1) := by decide +kernel
theorem dX1_steps_13 : decode cX1_steps 13 = .ok (.getfield 9, 3) := by decide +kernel
theorem dX1_steps_16 : decode cX1_steps 16 = .ok (.iload_n 1, 1) := by decide +kernel
theorem dX1_steps_17 : decode cX1_steps 17 = .ok (.iaload, 1) := by decide +kernel
theorem dX1_steps_18 : decode cX1_steps 18 = .ok (.aload_n 0, 1) := by decide +kernel
theorem dX1_steps_19 : decode cX1_steps 19 = .ok (.getfield 9, 3) := by decide +kernel
theorem dX1_steps_22 : decode cX1_steps 22 = .ok (.iload_n 2, 1) := by decide +kernel
theorem dX1_steps_23 : decode cX1_steps 23 = .ok (.iaload, 1) := by decide +kernel
theorem dX1_steps_24 : decode cX1_steps 24 = .ok (.invokevirtual 106, 3) := by decide +kernel
theorem dX1_steps_27 : decode cX1_steps 27 = .ok (.aload_n 0, 1) := by decide +kernel
theorem dX1_steps_28 : decode cX1_steps 28 = .ok (.getfield 24, 3) := by decide +kernel
theorem dX1_steps_31 : decode cX1_steps 31 = .ok (.getfield 109, 3) := by decide +kernel
theorem dX1_steps_34 : decode cX1_steps 34 = .ok (.ireturn, 1) := by decide +kernel
set_option maxRecDepth 20000 in
theorem ggX1_digits_X1_needDivision : GoodIn wsX1_digits wsX1_needDivision := goodIn_ca (goodIn_ca (goodIn_ca (goodIn_r _ [7, 8, 9, 2, 10, 11, 6, 12, 13, 14, 35, 36, 37, 38] (by decide +kernel) (by decide +kernel)) (goodIn_sub (fun _ h => List.mem_cons_of_mem _ (List.mem_append_left _ (List.mem_append_left _ (List.mem_append_left _ (List.mem_append_right _ h))))) (by decide +kernel))) (goodIn_sub (fun _ h => List.mem_cons_of_mem _ (List.mem_append_left _ (List.mem_append_left _ (List.mem_append_right _ h)))) (by decide +kernel))) (goodIn_sub (fun _ h => List.mem_cons_of_mem _ (List.mem_append_left _ (List.mem_append_right _ h))) (by decide +kernel))
set_option maxRecDepth 20000 in
theorem gX1_digits_X1_needDivision : GoodIn wsX1_digits (wsV RX1 54 RX1 yX1_needDivision wsX1_needDivision) := goodIn_app (goodIn_of _ (by decide +kernel)) ggX1_digits_X1_needDivision
set_option maxRecDepth 20000 in
theorem ggX1_digits_X0_takeRests : GoodIn wsX1_digits wsX0_takeRests := goodIn_ca (goodIn_ca (goodIn_r _ [18, 19, 20, 21, 22, 23, 6, 24, 25, 26, 27, 28, 29, 30, 31, 32, 33, 34, 39, 40, 41, 42] (by decide +kernel) (by decide +kernel)) (goodIn_sub (fun _ h => List.mem_cons_of_mem _ (List.mem_append_left _ (List.mem_append_left _ (List.mem_append_left _ (List.mem_append_right _ h))))) (by decide +kernel))) (goodIn_sub (fun _ h => List.mem_cons_of_mem _ (List.mem_append_right _ h)) (by decide +kernel))
set_option maxRecDepth 20000 in
theorem gX1_digits_X0_takeRests_n106 : GoodIn wsX1_digits (wsX0_takeRests) := ggX1_digits_X0_takeRests
theorem dX1_digits_0 : decode cX1_digits 0 = .ok (.aload_n 0, 1) := by decide +kernel
theorem dX1_digits_1 : decode cX1_digits 1 = .ok (.iload_n 1, 1) := by decide +kernel
theorem dX1_digits_2 : decode cX1_digits 2 = .ok (.iload_n 2, 1) := by decide +kernel
theorem dX1_digits_3 : decode cX1_digits 3 = .ok (.invokevirtual 54, 3) := by decide +kernel
theorem dX1_digits_6 : decode cX1_digits 6 = .ok (.aload_n 0, 1) := by decide +kernel
theorem dX1_digits_7 : decode cX1_digits 7 = .ok (.getfield 20, 3) := by decide +kernel
theorem dX1_digits_10 : decode cX1_digits 10 = .ok (.aload_n 0, 1) := by decide +kernel
theorem dX1_digits_11 : decode cX1_digits 11 = .ok (.getfield 9, 3) := by decide +kernel
theorem dX1_digits_14 : decode cX1_digits 14 = .ok (.iload_n 1, 1) := by decide +kernel
theorem dX1_digits_15 : decode cX1_digits 15 = .ok (.iaload, 1) := by decide +kernel
theorem dX1_digits_16 : decode cX1_digits 16 = .ok (.aload_n 0, 1) := by decide +kernel
theorem dX1_digits_17 : decode cX1_digits 17 = .ok (.getfield 9, 3) := by decide +kernel
theorem dX1_digits_20 : decode cX1_digits 20 = .ok (.iload_n 2, 1) := by decide +kernel
theorem dX1_digits_21 : decode cX1_digits 21 = .ok (.iaload, 1) := by decide +kernel
theorem dX1_digits_22 : decode cX1_digits 22 = .ok (.invokevirtual 106, 3) := by decide +kernel
theorem dX1_digits_25 : decode cX1_digits 25 = .ok (.aload_n 0, 1) := by decide +kernel
theorem dX1_digits_26 : decode cX1_digits 26 = .ok (.getfield 20, 3) := by decide +kernel
theorem dX1_digits_29 : decode cX1_digits 29 = .ok (.getfield 109, 3) := by decide +kernel
theorem dX1_digits_32 : decode cX1_digits 32 = .ok (.ireturn, 1) := by decide +kernel
theorem dX1_digit_0 : decode cX1_digit 0 = .ok (.iload_n 1, 1) := by decide +kernel
theorem dX1_digit_1 : decode cX1_digit 1 = .ok (.ifCond .lt 14, 3) := by decide +kernel
theorem dX1_digit_4 : decode cX1_digit 4 = .ok (.iload_n 1, 1) := by decide +kernel
theorem dX1_digit_5 : decode cX1_digit 5 = .ok (.aload_n 0, 1) := by decide +kernel
theorem dX1_digit_6 : decode cX1_digit 6 = .ok (.getfield 20, 3) := by decide +kernel
theorem dX1_digit_9 : decode cX1_digit 9 = .ok (.getfield 109, 3) := by decide +kernel
theorem dX1_digit_12 : decode cX1_digit 12 = .ok (.if_icmp .lt 13, 3) := by decide +kernel
theorem dX1_digit_15 : decode cX1_digit 15 = .ok (.new 113, 3) := by decide +kernel
theorem dX1_digit_18 : decode cX1_digit 18 = .ok (.dup, 1) := by decide +kernel
theorem dX1_digit_19 : decode cX1_digit 19 = .ok (.ldc 115, 2) := by decide +kernel
theorem dX1_digit_21 : decode cX1_digit 21 = .ok (.invokespecial 117, 3) := by decide +kernel
theorem dX1_digit_24 : decode cX1_digit 24 = .ok (.athrow, 1) := by decide +kernel
theorem dX1_digit_25 : decode cX1_digit 25 = .ok (.aload_n 0, 1) := by decide +kernel
theorem dX1_digit_26 : decode cX1_digit 26 = .ok (.getfield 20, 3) := by decide +kernel
theorem dX1_digit_29 : decode cX1_digit 29 = .ok (.getfield 118, 3) := by decide +kernel
theorem dX1_digit_32 : decode cX1_digit 32 = .ok (.iload_n 1, 1) := by decide +kernel
theorem dX1_digit_33 : decode cX1_digit 33 = .ok (.iaload, 1) := by decide +kernel
theorem dX1_digit_34 : decode cX1_digit 34 = .ok (.ireturn, 1) := by decide +kernel
set_option maxRecDepth 20000 in
theorem ggX1_above_X1_needDigits : GoodIn wsX1_above wsX1_needDigits := goodIn_ca (goodIn_r _ [6, 7, 8, 1, 19, 20, 21, 22, 23, 24, 25, 26] (by decide +kernel) (by decide +kernel)) (goodIn_sub (fun _ h => List.mem_cons_of_mem _ (List.mem_append_left _ (List.mem_append_right _ h))) (by decide +kernel))
set_option maxRecDepth 20000 in
theorem gX1_above_X1_needDigits : GoodIn wsX1_above (wsV RX1 121 RX1 yX1_needDigits wsX1_needDigits) := goodIn_app (goodIn_of _ (by decide +kernel)) ggX1_above_X1_needDigits
set_option maxRecDepth 20000 in
theorem ggX1_above_X0_aboveLine : GoodIn wsX1_above wsX0_aboveLine := goodIn_ca (goodIn_r _ [12, 13, 14, 15, 10, 16, 17, 18, 23, 24, 25, 26] (by decide +kernel) (by decide +kernel)) (goodIn_sub (fun _ h => List.mem_cons_of_mem _ (List.mem_append_right _ h)) (by decide +kernel))
set_option maxRecDepth 20000 in
theorem gX1_above_X0_aboveLine_n124 : GoodIn wsX1_above (wsX0_aboveLine) := ggX1_above_X0_aboveLine
theorem dX1_above_0 : decode cX1_above 0 = .ok (.aload_n 0, 1) := by decide +kernel
theorem dX1_above_1 : decode cX1_above 1 = .ok (.iload_n 1, 1) := by decide +kernel
theorem dX1_above_2 : decode cX1_above 2 = .ok (.invokevirtual 121, 3) := by decide +kernel
theorem dX1_above_5 : decode cX1_above 5 = .ok (.aload_n 0, 1) := by decide +kernel
theorem dX1_above_6 : decode cX1_above 6 = .ok (.getfield 20, 3) := by decide +kernel
theorem dX1_above_9 : decode cX1_above 9 = .ok (.iload_n 1, 1) := by decide +kernel
theorem dX1_above_10 : decode cX1_above 10 = .ok (.invokevirtual 124, 3) := by decide +kernel
theorem dX1_above_13 : decode cX1_above 13 = .ok (.ireturn, 1) := by decide +kernel
set_option maxRecDepth 20000 in
theorem ggX1_below_X1_needDigits : GoodIn wsX1_below wsX1_needDigits := goodIn_ca (goodIn_r _ [6, 7, 8, 1, 19, 20, 21, 22, 23, 24, 25, 26] (by decide +kernel) (by decide +kernel)) (goodIn_sub (fun _ h => List.mem_cons_of_mem _ (List.mem_append_left _ (List.mem_append_right _ h))) (by decide +kernel))
set_option maxRecDepth 20000 in
theorem gX1_below_X1_needDigits : GoodIn wsX1_below (wsV RX1 121 RX1 yX1_needDigits wsX1_needDigits) := goodIn_app (goodIn_of _ (by decide +kernel)) ggX1_below_X1_needDigits
set_option maxRecDepth 20000 in
theorem ggX1_below_X0_belowLine : GoodIn wsX1_below wsX0_belowLine := goodIn_ca (goodIn_r _ [12, 13, 14, 15, 10, 16, 17, 18, 23, 24, 25, 26] (by decide +kernel) (by decide +kernel)) (goodIn_sub (fun _ h => List.mem_cons_of_mem _ (List.mem_append_right _ h)) (by decide +kernel))
set_option maxRecDepth 20000 in
theorem gX1_below_X0_belowLine_n127 : GoodIn wsX1_below (wsX0_belowLine) := ggX1_below_X0_belowLine
theorem dX1_below_0 : decode cX1_below 0 = .ok (.aload_n 0, 1) := by decide +kernel
theorem dX1_below_1 : decode cX1_below 1 = .ok (.iload_n 1, 1) := by decide +kernel
theorem dX1_below_2 : decode cX1_below 2 = .ok (.invokevirtual 121, 3) := by decide +kernel
theorem dX1_below_5 : decode cX1_below 5 = .ok (.aload_n 0, 1) := by decide +kernel
theorem dX1_below_6 : decode cX1_below 6 = .ok (.getfield 20, 3) := by decide +kernel
theorem dX1_below_9 : decode cX1_below 9 = .ok (.iload_n 1, 1) := by decide +kernel
theorem dX1_below_10 : decode cX1_below 10 = .ok (.invokevirtual 127, 3) := by decide +kernel
theorem dX1_below_13 : decode cX1_below 13 = .ok (.ireturn, 1) := by decide +kernel
theorem dX1_sum_0 : decode cX1_sum 0 = .ok (.iconst 0, 1) := by decide +kernel
theorem dX1_sum_1 : decode cX1_sum 1 = .ok (.istore_n 1, 1) := by decide +kernel
theorem dX1_sum_2 : decode cX1_sum 2 = .ok (.iconst 0, 1) := by decide +kernel
theorem dX1_sum_3 : decode cX1_sum 3 = .ok (.istore_n 2, 1) := by decide +kernel
theorem dX1_sum_4 : decode cX1_sum 4 = .ok (.iload_n 2, 1) := by decide +kernel
theorem dX1_sum_5 : decode cX1_sum 5 = .ok (.bipush 12, 2) := by decide +kernel
theorem dX1_sum_7 : decode cX1_sum 7 = .ok (.if_icmp .ge 18, 3) := by decide +kernel
theorem dX1_sum_10 : decode cX1_sum 10 = .ok (.iload_n 1, 1) := by decide +kernel
theorem dX1_sum_11 : decode cX1_sum 11 = .ok (.aload_n 0, 1) := by decide +kernel
theorem dX1_sum_12 : decode cX1_sum 12 = .ok (.getfield 9, 3) := by decide +kernel
theorem dX1_sum_15 : decode cX1_sum 15 = .ok (.iload_n 2, 1) := by decide +kernel
theorem dX1_sum_16 : decode cX1_sum 16 = .ok (.iaload, 1) := by decide +kernel
theorem dX1_sum_17 : decode cX1_sum 17 = .ok (.iadd, 1) := by decide +kernel
theorem dX1_sum_18 : decode cX1_sum 18 = .ok (.istore_n 1, 1) := by decide +kernel
theorem dX1_sum_19 : decode cX1_sum 19 = .ok (.iinc 2 1, 3) := by decide +kernel
theorem dX1_sum_22 : decode cX1_sum 22 = .ok (.goto (-18), 3) := by decide +kernel
theorem dX1_sum_25 : decode cX1_sum 25 = .ok (.iload_n 1, 1) := by decide +kernel
theorem dX1_sum_26 : decode cX1_sum 26 = .ok (.ireturn, 1) := by decide +kernel
set_option maxRecDepth 20000 in
theorem ggX1_checksum_X1_bitsAt : GoodIn wsX1_checksum wsX1_bitsAt := goodIn_ca (goodIn_r _ [8, 9, 10, 11, 12, 7, 13, 14, 15, 16, 17, 18, 19, 20, 21, 22, 23, 24, 25, 26, 27, 28] (by decide +kernel) (by decide +kernel)) (goodIn_sub (fun _ h => List.mem_cons_of_mem _ (List.mem_append_right _ h)) (by decide +kernel))
set_option maxRecDepth 20000 in
theorem gX1_checksum_X1_bitsAt : GoodIn wsX1_checksum (wsV RX1 38 RX1 yX1_bitsAt wsX1_bitsAt) := goodIn_app (goodIn_of _ (by decide +kernel)) ggX1_checksum_X1_bitsAt
theorem dX1_checksum_0 : decode cX1_checksum 0 = .ok (.ldc2_w 130, 3) := by decide +kernel
theorem dX1_checksum_3 : decode cX1_checksum 3 = .ok (.lstore_n 1, 1) := by decide +kernel
theorem dX1_checksum_4 : decode cX1_checksum 4 = .ok (.iconst 0, 1) := by decide +kernel
theorem dX1_checksum_5 : decode cX1_checksum 5 = .ok (.istore_n 3, 1) := by decide +kernel
theorem dX1_checksum_6 : decode cX1_checksum 6 = .ok (.iload_n 3, 1) := by decide +kernel
theorem dX1_checksum_7 : decode cX1_checksum 7 = .ok (.bipush 12, 2) := by decide +kernel
theorem dX1_checksum_9 : decode cX1_checksum 9 = .ok (.if_icmp .ge 21, 3) := by decide +kernel
theorem dX1_checksum_12 : decode cX1_checksum 12 = .ok (.ldc2_w 132, 3) := by decide +kernel
theorem dX1_checksum_15 : decode cX1_checksum 15 = .ok (.lload_n 1, 1) := by decide +kernel
theorem dX1_checksum_16 : decode cX1_checksum 16 = .ok (.lmul, 1) := by decide +kernel
theorem dX1_checksum_17 : decode cX1_checksum 17 = .ok (.aload_n 0, 1) := by decide +kernel
theorem dX1_checksum_18 : decode cX1_checksum 18 = .ok (.iload_n 3, 1) := by decide +kernel
theorem dX1_checksum_19 : decode cX1_checksum 19 = .ok (.invokevirtual 38, 3) := by decide +kernel
theorem dX1_checksum_22 : decode cX1_checksum 22 = .ok (.ladd, 1) := by decide +kernel
theorem dX1_checksum_23 : decode cX1_checksum 23 = .ok (.lstore_n 1, 1) := by decide +kernel
theorem dX1_checksum_24 : decode cX1_checksum 24 = .ok (.iinc 3 1, 3) := by decide +kernel
theorem dX1_checksum_27 : decode cX1_checksum 27 = .ok (.goto (-21), 3) := by decide +kernel
theorem dX1_checksum_30 : decode cX1_checksum 30 = .ok (.ldc2_w 132, 3) := by decide +kernel
theorem dX1_checksum_33 : decode cX1_checksum 33 = .ok (.lload_n 1, 1) := by decide +kernel
theorem dX1_checksum_34 : decode cX1_checksum 34 = .ok (.lmul, 1) := by decide +kernel
theorem dX1_checksum_35 : decode cX1_checksum 35 = .ok (.aload_n 0, 1) := by decide +kernel
theorem dX1_checksum_36 : decode cX1_checksum 36 = .ok (.getfield 20, 3) := by decide +kernel
theorem dX1_checksum_39 : decode cX1_checksum 39 = .ok (.getfield 109, 3) := by decide +kernel
theorem dX1_checksum_42 : decode cX1_checksum 42 = .ok (.i2l, 1) := by decide +kernel
theorem dX1_checksum_43 : decode cX1_checksum 43 = .ok (.ladd, 1) := by decide +kernel
theorem dX1_checksum_44 : decode cX1_checksum 44 = .ok (.lstore_n 1, 1) := by decide +kernel
theorem dX1_checksum_45 : decode cX1_checksum 45 = .ok (.iconst 0, 1) := by decide +kernel
theorem dX1_checksum_46 : decode cX1_checksum 46 = .ok (.istore_n 3, 1) := by decide +kernel
theorem dX1_checksum_47 : decode cX1_checksum 47 = .ok (.iload_n 3, 1) := by decide +kernel
theorem dX1_checksum_48 : decode cX1_checksum 48 = .ok (.aload_n 0, 1) := by decide +kernel
theorem dX1_checksum_49 : decode cX1_checksum 49 = .ok (.getfield 20, 3) := by decide +kernel
theorem dX1_checksum_52 : decode cX1_checksum 52 = .ok (.getfield 109, 3) := by decide +kernel
theorem dX1_checksum_55 : decode cX1_checksum 55 = .ok (.if_icmp .ge 26, 3) := by decide +kernel
theorem dX1_checksum_58 : decode cX1_checksum 58 = .ok (.ldc2_w 132, 3) := by decide +kernel
theorem dX1_checksum_61 : decode cX1_checksum 61 = .ok (.lload_n 1, 1) := by decide +kernel
theorem dX1_checksum_62 : decode cX1_checksum 62 = .ok (.lmul, 1) := by decide +kernel
theorem dX1_checksum_63 : decode cX1_checksum 63 = .ok (.aload_n 0, 1) := by decide +kernel
theorem dX1_checksum_64 : decode cX1_checksum 64 = .ok (.getfield 20, 3) := by decide +kernel
theorem dX1_checksum_67 : decode cX1_checksum 67 = .ok (.getfield 118, 3) := by decide +kernel
theorem dX1_checksum_70 : decode cX1_checksum 70 = .ok (.iload_n 3, 1) := by decide +kernel
theorem dX1_checksum_71 : decode cX1_checksum 71 = .ok (.iaload, 1) := by decide +kernel
theorem dX1_checksum_72 : decode cX1_checksum 72 = .ok (.i2l, 1) := by decide +kernel
theorem dX1_checksum_73 : decode cX1_checksum 73 = .ok (.ladd, 1) := by decide +kernel
theorem dX1_checksum_74 : decode cX1_checksum 74 = .ok (.lstore_n 1, 1) := by decide +kernel
theorem dX1_checksum_75 : decode cX1_checksum 75 = .ok (.iinc 3 1, 3) := by decide +kernel
theorem dX1_checksum_78 : decode cX1_checksum 78 = .ok (.goto (-31), 3) := by decide +kernel
theorem dX1_checksum_81 : decode cX1_checksum 81 = .ok (.lload_n 1, 1) := by decide +kernel
theorem dX1_checksum_82 : decode cX1_checksum 82 = .ok (.lreturn, 1) := by decide +kernel
set_option maxRecDepth 20000 in
theorem ggX1_isTrue_X1_isTrueBy : GoodIn wsX1_isTrue wsX1_isTrueBy := goodIn_ca (goodIn_ca (goodIn_r _ [6, 1, 7, 8, 5, 9, 10, 11, 12, 13, 14, 15, 16, 17, 18, 19, 20, 21, 22, 23, 24, 25, 26, 27, 28, 29, 30, 31, 32, 33, 34, 35, 36, 37, 38, 39, 40, 41, 42, 43, 44, 45, 46, 47, 48, 49, 50, 51, 52, 53, 54, 55, 56, 57, 58, 59, 60, 61, 62, 63, 64, 65, 66, 67, 68, 69, 70, 71, 72, 73, 74, 75, 76, 77, 78, 79, 80, 81, 82, 83, 84, 85, 86, 87, 88, 89, 90, 91, 92, 93, 94, 95, 96, 97, 98, 99] (by decide +kernel) (by decide +kernel)) (goodIn_sub (fun _ h => List.mem_cons_of_mem _ (List.mem_append_left _ (List.mem_append_right _ h))) (by decide +kernel))) (goodIn_sub (fun _ h => List.mem_cons_of_mem _ (List.mem_append_right _ h)) (by decide +kernel))
set_option maxRecDepth 20000 in
theorem gX1_isTrue_X1_isTrueBy : GoodIn wsX1_isTrue (wsV RX1 134 RX1 yX1_isTrueBy wsX1_isTrueBy) := goodIn_app (goodIn_of _ (by decide +kernel)) ggX1_isTrue_X1_isTrueBy
theorem dX1_isTrue_0 : decode cX1_isTrue 0 = .ok (.iconst 0, 1) := by decide +kernel
theorem dX1_isTrue_1 : decode cX1_isTrue 1 = .ok (.istore_n 1, 1) := by decide +kernel
theorem dX1_isTrue_2 : decode cX1_isTrue 2 = .ok (.iload_n 1, 1) := by decide +kernel
theorem dX1_isTrue_3 : decode cX1_isTrue 3 = .ok (.bipush 12, 2) := by decide +kernel
theorem dX1_isTrue_5 : decode cX1_isTrue 5 = .ok (.if_icmp .ge 33, 3) := by decide +kernel
theorem dX1_isTrue_8 : decode cX1_isTrue 8 = .ok (.aload_n 0, 1) := by decide +kernel
theorem dX1_isTrue_9 : decode cX1_isTrue 9 = .ok (.getfield 9, 3) := by decide +kernel
theorem dX1_isTrue_12 : decode cX1_isTrue 12 = .ok (.iload_n 1, 1) := by decide +kernel
theorem dX1_isTrue_13 : decode cX1_isTrue 13 = .ok (.iaload, 1) := by decide +kernel
theorem dX1_isTrue_14 : decode cX1_isTrue 14 = .ok (.ifCond .eq 18, 3) := by decide +kernel
theorem dX1_isTrue_17 : decode cX1_isTrue 17 = .ok (.aload_n 0, 1) := by decide +kernel
theorem dX1_isTrue_18 : decode cX1_isTrue 18 = .ok (.aload_n 0, 1) := by decide +kernel
theorem dX1_isTrue_19 : decode cX1_isTrue 19 = .ok (.getfield 9, 3) := by decide +kernel
theorem dX1_isTrue_22 : decode cX1_isTrue 22 = .ok (.iload_n 1, 1) := by decide +kernel
theorem dX1_isTrue_23 : decode cX1_isTrue 23 = .ok (.iaload, 1) := by decide +kernel
theorem dX1_isTrue_24 : decode cX1_isTrue 24 = .ok (.invokevirtual 134, 3) := by decide +kernel
theorem dX1_isTrue_27 : decode cX1_isTrue 27 = .ok (.ifCond .ne 5, 3) := by decide +kernel
theorem dX1_isTrue_30 : decode cX1_isTrue 30 = .ok (.iconst 0, 1) := by decide +kernel
theorem dX1_isTrue_31 : decode cX1_isTrue 31 = .ok (.ireturn, 1) := by decide +kernel
theorem dX1_isTrue_32 : decode cX1_isTrue 32 = .ok (.iinc 1 1, 3) := by decide +kernel
theorem dX1_isTrue_35 : decode cX1_isTrue 35 = .ok (.goto (-33), 3) := by decide +kernel
theorem dX1_isTrue_38 : decode cX1_isTrue 38 = .ok (.iconst 1, 1) := by decide +kernel
theorem dX1_isTrue_39 : decode cX1_isTrue 39 = .ok (.ireturn, 1) := by decide +kernel
theorem dX1_needPlace_0 : decode cX1_needPlace 0 = .ok (.iload_n 0, 1) := by decide +kernel
theorem dX1_needPlace_1 : decode cX1_needPlace 1 = .ok (.ifCond .lt 9, 3) := by decide +kernel
theorem dX1_needPlace_4 : decode cX1_needPlace 4 = .ok (.iload_n 0, 1) := by decide +kernel
theorem dX1_needPlace_5 : decode cX1_needPlace 5 = .ok (.bipush 12, 2) := by decide +kernel
theorem dX1_needPlace_7 : decode cX1_needPlace 7 = .ok (.if_icmp .lt 13, 3) := by decide +kernel
theorem dX1_needPlace_10 : decode cX1_needPlace 10 = .ok (.new 113, 3) := by decide +kernel
theorem dX1_needPlace_13 : decode cX1_needPlace 13 = .ok (.dup, 1) := by decide +kernel
theorem dX1_needPlace_14 : decode cX1_needPlace 14 = .ok (.ldc 138, 2) := by decide +kernel
theorem dX1_needPlace_16 : decode cX1_needPlace 16 = .ok (.invokespecial 117, 3) := by decide +kernel
theorem dX1_needPlace_19 : decode cX1_needPlace 19 = .ok (.athrow, 1) := by decide +kernel
theorem dX1_needPlace_20 : decode cX1_needPlace 20 = .ok (.return_, 1) := by decide +kernel
set_option maxRecDepth 20000 in
theorem ggX1_needDivision_X1_needPlace : GoodIn wsX1_needDivision wsX1_needPlace := goodIn_ca (goodIn_r _ [7, 8, 9] (by decide +kernel) (by decide +kernel)) (goodIn_sub (fun _ h => List.mem_cons_of_mem _ (List.mem_append_right _ h)) (by decide +kernel))
set_option maxRecDepth 20000 in
theorem gX1_needDivision_X1_needPlace : GoodIn wsX1_needDivision (va_wsS RX1 27 yX1_needPlace wsX1_needPlace) := goodIn_app (goodIn_of _ (by decide +kernel)) ggX1_needDivision_X1_needPlace
theorem dX1_needDivision_0 : decode cX1_needDivision 0 = .ok (.iload_n 1, 1) := by decide +kernel
theorem dX1_needDivision_1 : decode cX1_needDivision 1 = .ok (.invokestatic 27, 3) := by decide +kernel
theorem dX1_needDivision_4 : decode cX1_needDivision 4 = .ok (.iload_n 2, 1) := by decide +kernel
theorem dX1_needDivision_5 : decode cX1_needDivision 5 = .ok (.invokestatic 27, 3) := by decide +kernel
theorem dX1_needDivision_8 : decode cX1_needDivision 8 = .ok (.aload_n 0, 1) := by decide +kernel
theorem dX1_needDivision_9 : decode cX1_needDivision 9 = .ok (.getfield 9, 3) := by decide +kernel
theorem dX1_needDivision_12 : decode cX1_needDivision 12 = .ok (.iload_n 2, 1) := by decide +kernel
theorem dX1_needDivision_13 : decode cX1_needDivision 13 = .ok (.iaload, 1) := by decide +kernel
theorem dX1_needDivision_14 : decode cX1_needDivision 14 = .ok (.ifCond .ne 13, 3) := by decide +kernel
theorem dX1_needDivision_17 : decode cX1_needDivision 17 = .ok (.new 95, 3) := by decide +kernel
theorem dX1_needDivision_20 : decode cX1_needDivision 20 = .ok (.dup, 1) := by decide +kernel
theorem dX1_needDivision_21 : decode cX1_needDivision 21 = .ok (.ldc 140, 2) := by decide +kernel
theorem dX1_needDivision_23 : decode cX1_needDivision 23 = .ok (.invokespecial 99, 3) := by decide +kernel
theorem dX1_needDivision_26 : decode cX1_needDivision 26 = .ok (.athrow, 1) := by decide +kernel
theorem dX1_needDivision_27 : decode cX1_needDivision 27 = .ok (.return_, 1) := by decide +kernel
theorem dX1_needDigits_0 : decode cX1_needDigits 0 = .ok (.iload_n 1, 1) := by decide +kernel
theorem dX1_needDigits_1 : decode cX1_needDigits 1 = .ok (.ifCond .lt 14, 3) := by decide +kernel
theorem dX1_needDigits_4 : decode cX1_needDigits 4 = .ok (.iload_n 1, 1) := by decide +kernel
theorem dX1_needDigits_5 : decode cX1_needDigits 5 = .ok (.aload_n 0, 1) := by decide +kernel
theorem dX1_needDigits_6 : decode cX1_needDigits 6 = .ok (.getfield 20, 3) := by decide +kernel
theorem dX1_needDigits_9 : decode cX1_needDigits 9 = .ok (.getfield 109, 3) := by decide +kernel
theorem dX1_needDigits_12 : decode cX1_needDigits 12 = .ok (.if_icmp .le 13, 3) := by decide +kernel
theorem dX1_needDigits_15 : decode cX1_needDigits 15 = .ok (.new 113, 3) := by decide +kernel
theorem dX1_needDigits_18 : decode cX1_needDigits 18 = .ok (.dup, 1) := by decide +kernel
theorem dX1_needDigits_19 : decode cX1_needDigits 19 = .ok (.ldc 142, 2) := by decide +kernel
theorem dX1_needDigits_21 : decode cX1_needDigits 21 = .ok (.invokespecial 117, 3) := by decide +kernel
theorem dX1_needDigits_24 : decode cX1_needDigits 24 = .ok (.athrow, 1) := by decide +kernel
theorem dX1_needDigits_25 : decode cX1_needDigits 25 = .ok (.return_, 1) := by decide +kernel
set_option maxRecDepth 20000 in
theorem ggX1_keep_X1_bitsAt : GoodIn wsX1_keep wsX1_bitsAt := goodIn_ca (goodIn_r _ [7, 1, 2, 8, 9, 6, 10, 11, 12, 13, 14, 15, 16, 17, 18, 19, 20, 21, 22, 23, 24, 25] (by decide +kernel) (by decide +kernel)) (goodIn_sub (fun _ h => List.mem_cons_of_mem _ (List.mem_append_right _ h)) (by decide +kernel))
set_option maxRecDepth 20000 in
theorem gX1_keep_X1_bitsAt : GoodIn wsX1_keep (wsV RX1 38 RX1 yX1_bitsAt wsX1_bitsAt) := goodIn_app (goodIn_of _ (by decide +kernel)) ggX1_keep_X1_bitsAt
theorem dX1_keep_0 : decode cX1_keep 0 = .ok (.aload_n 0, 1) := by decide +kernel
theorem dX1_keep_1 : decode cX1_keep 1 = .ok (.getfield 9, 3) := by decide +kernel
theorem dX1_keep_4 : decode cX1_keep 4 = .ok (.iload_n 1, 1) := by decide +kernel
theorem dX1_keep_5 : decode cX1_keep 5 = .ok (.iload_n 2, 1) := by decide +kernel
theorem dX1_keep_6 : decode cX1_keep 6 = .ok (.iastore, 1) := by decide +kernel
theorem dX1_keep_7 : decode cX1_keep 7 = .ok (.aload_n 0, 1) := by decide +kernel
theorem dX1_keep_8 : decode cX1_keep 8 = .ok (.getfield 13, 3) := by decide +kernel
theorem dX1_keep_11 : decode cX1_keep 11 = .ok (.iload_n 1, 1) := by decide +kernel
theorem dX1_keep_12 : decode cX1_keep 12 = .ok (.iload_n 3, 1) := by decide +kernel
theorem dX1_keep_13 : decode cX1_keep 13 = .ok (.bastore, 1) := by decide +kernel
theorem dX1_keep_14 : decode cX1_keep 14 = .ok (.aload_n 0, 1) := by decide +kernel
theorem dX1_keep_15 : decode cX1_keep 15 = .ok (.iload_n 1, 1) := by decide +kernel
theorem dX1_keep_16 : decode cX1_keep 16 = .ok (.invokevirtual 38, 3) := by decide +kernel
theorem dX1_keep_19 : decode cX1_keep 19 = .ok (.lreturn, 1) := by decide +kernel
set_option maxRecDepth 20000 in
theorem ggX1_keepSigned_X1_isUnder : GoodIn wsX1_keepSigned wsX1_isUnder := goodIn_ca (goodIn_r _ [5, 6, 7, 30, 31, 32, 33] (by decide +kernel) (by decide +kernel)) (goodIn_sub (fun _ h => List.mem_cons_of_mem _ (List.mem_append_right _ h)) (by decide +kernel))
set_option maxRecDepth 20000 in
theorem gX1_keepSigned_X1_isUnder : GoodIn wsX1_keepSigned (wsV RX1 144 RX1 yX1_isUnder wsX1_isUnder) := goodIn_app (goodIn_of _ (by decide +kernel)) ggX1_keepSigned_X1_isUnder
set_option maxRecDepth 20000 in
theorem ggX1_keepSigned_X1_keep : GoodIn wsX1_keepSigned wsX1_keep := goodIn_ca (goodIn_r _ [11, 6, 7, 12, 13, 14, 4, 15, 16, 17, 18, 19, 20, 21, 22, 23, 24, 25, 26, 27, 28, 29, 30, 31, 32, 33] (by decide +kernel) (by decide +kernel)) (goodIn_sub (fun _ h => List.mem_cons_of_mem _ (List.mem_append_right _ h)) (by decide +kernel))
set_option maxRecDepth 20000 in
theorem gX1_keepSigned_X1_keep : GoodIn wsX1_keepSigned (wsV RX1 42 RX1 yX1_keep wsX1_keep) := goodIn_app (goodIn_of _ (by decide +kernel)) ggX1_keepSigned_X1_keep
theorem dX1_keepSigned_0 : decode cX1_keepSigned 0 = .ok (.aload_n 0, 1) := by decide +kernel
theorem dX1_keepSigned_1 : decode cX1_keepSigned 1 = .ok (.iload_n 1, 1) := by decide +kernel
theorem dX1_keepSigned_2 : decode cX1_keepSigned 2 = .ok (.iload_n 2, 1) := by decide +kernel
theorem dX1_keepSigned_3 : decode cX1_keepSigned 3 = .ok (.iload_n 2, 1) := by decide +kernel
theorem dX1_keepSigned_4 : decode cX1_keepSigned 4 = .ok (.ifCond .ne 15, 3) := by decide +kernel
theorem dX1_keepSigned_7 : decode cX1_keepSigned 7 = .ok (.aload_n 0, 1) := by decide +kernel
theorem dX1_keepSigned_8 : decode cX1_keepSigned 8 = .ok (.iload_n 3, 1) := by decide +kernel
theorem dX1_keepSigned_9 : decode cX1_keepSigned 9 = .ok (.invokevirtual 144, 3) := by decide +kernel
theorem dX1_keepSigned_12 : decode cX1_keepSigned 12 = .ok (.ifCond .eq 7, 3) := by decide +kernel
theorem dX1_keepSigned_15 : decode cX1_keepSigned 15 = .ok (.iconst 1, 1) := by decide +kernel
theorem dX1_keepSigned_16 : decode cX1_keepSigned 16 = .ok (.goto 4, 3) := by decide +kernel
theorem dX1_keepSigned_19 : decode cX1_keepSigned 19 = .ok (.iconst 0, 1) := by decide +kernel
theorem dX1_keepSigned_20 : decode cX1_keepSigned 20 = .ok (.invokevirtual 42, 3) := by decide +kernel
theorem dX1_keepSigned_23 : decode cX1_keepSigned 23 = .ok (.lreturn, 1) := by decide +kernel
theorem dX1_isUnder_0 : decode cX1_isUnder 0 = .ok (.aload_n 0, 1) := by decide +kernel
theorem dX1_isUnder_1 : decode cX1_isUnder 1 = .ok (.getfield 9, 3) := by decide +kernel
theorem dX1_isUnder_4 : decode cX1_isUnder 4 = .ok (.iload_n 1, 1) := by decide +kernel
theorem dX1_isUnder_5 : decode cX1_isUnder 5 = .ok (.iaload, 1) := by decide +kernel
theorem dX1_isUnder_6 : decode cX1_isUnder 6 = .ok (.ifCond .lt 12, 3) := by decide +kernel
theorem dX1_isUnder_9 : decode cX1_isUnder 9 = .ok (.aload_n 0, 1) := by decide +kernel
theorem dX1_isUnder_10 : decode cX1_isUnder 10 = .ok (.getfield 13, 3) := by decide +kernel
theorem dX1_isUnder_13 : decode cX1_isUnder 13 = .ok (.iload_n 1, 1) := by decide +kernel
theorem dX1_isUnder_14 : decode cX1_isUnder 14 = .ok (.baload, 1) := by decide +kernel
theorem dX1_isUnder_15 : decode cX1_isUnder 15 = .ok (.ifCond .eq 7, 3) := by decide +kernel
theorem dX1_isUnder_18 : decode cX1_isUnder 18 = .ok (.iconst 1, 1) := by decide +kernel
theorem dX1_isUnder_19 : decode cX1_isUnder 19 = .ok (.goto 4, 3) := by decide +kernel
theorem dX1_isUnder_22 : decode cX1_isUnder 22 = .ok (.iconst 0, 1) := by decide +kernel
theorem dX1_isUnder_23 : decode cX1_isUnder 23 = .ok (.ireturn, 1) := by decide +kernel
set_option maxRecDepth 20000 in
theorem ggX1_keepRest_X1_needPlace : GoodIn wsX1_keepRest wsX1_needPlace := goodIn_ca (goodIn_r _ [5, 6, 7] (by decide +kernel) (by decide +kernel)) (goodIn_sub (fun _ h => List.mem_cons_of_mem _ (List.mem_append_left _ (List.mem_append_left _ (List.mem_append_right _ h)))) (by decide +kernel))
set_option maxRecDepth 20000 in
theorem gX1_keepRest_X1_needPlace : GoodIn wsX1_keepRest (va_wsS RX1 27 yX1_needPlace wsX1_needPlace) := goodIn_app (goodIn_of _ (by decide +kernel)) ggX1_keepRest_X1_needPlace
set_option maxRecDepth 20000 in
theorem ggX1_keepRest_X1_needDivision : GoodIn wsX1_keepRest wsX1_needDivision := goodIn_ca (goodIn_ca (goodIn_ca (goodIn_r _ [11, 12, 13, 1, 2, 3, 4, 5, 6, 7, 57, 58, 59, 60] (by decide +kernel) (by decide +kernel)) (goodIn_sub (fun _ h => List.mem_cons_of_mem _ (List.mem_append_left _ (List.mem_append_left _ (List.mem_append_left _ (List.mem_append_right _ h))))) (by decide +kernel))) (goodIn_sub (fun _ h => List.mem_cons_of_mem _ (List.mem_append_left _ (List.mem_append_right _ h))) (by decide +kernel))) (goodIn_sub (fun _ h => List.mem_cons_of_mem _ (List.mem_append_left _ (List.mem_append_left _ (List.mem_append_right _ h)))) (by decide +kernel))
set_option maxRecDepth 20000 in
theorem gX1_keepRest_X1_needDivision : GoodIn wsX1_keepRest (wsV RX1 54 RX1 yX1_needDivision wsX1_needDivision) := goodIn_app (goodIn_of _ (by decide +kernel)) ggX1_keepRest_X1_needDivision
set_option maxRecDepth 20000 in
theorem ggX1_keepRest_X1_restOf : GoodIn wsX1_keepRest wsX1_restOf := goodIn_ca (goodIn_r _ [16, 17, 18, 4, 19, 20, 21, 22, 23, 24, 25, 26, 27, 28, 29] (by decide +kernel) (by decide +kernel)) (goodIn_sub (fun _ h => List.mem_cons_of_mem _ (List.mem_append_right _ h)) (by decide +kernel))
set_option maxRecDepth 20000 in
theorem gX1_keepRest_X1_restOf : GoodIn wsX1_keepRest (va_wsS RX1 62 yX1_restOf wsX1_restOf) := goodIn_app (goodIn_of _ (by decide +kernel)) ggX1_keepRest_X1_restOf
set_option maxRecDepth 20000 in
theorem ggX1_keepRest_X1_keepSigned : GoodIn wsX1_keepRest wsX1_keepSigned := goodIn_ca (goodIn_r _ [33, 34, 35, 36, 4, 37, 1, 38, 39, 40, 41, 42, 43, 44, 45, 46, 47, 48, 49, 50, 20, 21, 22, 23, 51, 52, 53, 54, 55, 56, 57, 58, 59, 60] (by decide +kernel) (by decide +kernel)) (goodIn_sub (fun _ h => List.mem_cons_of_mem _ (List.mem_append_left _ (List.mem_append_left _ (List.mem_append_left _ (List.mem_append_right _ h))))) (by decide +kernel))
set_option maxRecDepth 20000 in
theorem gX1_keepRest_X1_keepSigned : GoodIn wsX1_keepRest (wsV RX1 74 RX1 yX1_keepSigned wsX1_keepSigned) := goodIn_app (goodIn_of _ (by decide +kernel)) ggX1_keepRest_X1_keepSigned
theorem dX1_keepRest_0 : decode cX1_keepRest 0 = .ok (.iload_n 1, 1) := by decide +kernel
theorem dX1_keepRest_1 : decode cX1_keepRest 1 = .ok (.invokestatic 27, 3) := by decide +kernel
theorem dX1_keepRest_4 : decode cX1_keepRest 4 = .ok (.aload_n 0, 1) := by decide +kernel
theorem dX1_keepRest_5 : decode cX1_keepRest 5 = .ok (.iload_n 2, 1) := by decide +kernel
theorem dX1_keepRest_6 : decode cX1_keepRest 6 = .ok (.iload_n 3, 1) := by decide +kernel
theorem dX1_keepRest_7 : decode cX1_keepRest 7 = .ok (.invokevirtual 54, 3) := by decide +kernel
theorem dX1_keepRest_10 : decode cX1_keepRest 10 = .ok (.aload_n 0, 1) := by decide +kernel
theorem dX1_keepRest_11 : decode cX1_keepRest 11 = .ok (.iload_n 1, 1) := by decide +kernel
theorem dX1_keepRest_12 : decode cX1_keepRest 12 = .ok (.aload_n 0, 1) := by decide +kernel
theorem dX1_keepRest_13 : decode cX1_keepRest 13 = .ok (.getfield 9, 3) := by decide +kernel
theorem dX1_keepRest_16 : decode cX1_keepRest 16 = .ok (.iload_n 2, 1) := by decide +kernel
theorem dX1_keepRest_17 : decode cX1_keepRest 17 = .ok (.iaload, 1) := by decide +kernel
theorem dX1_keepRest_18 : decode cX1_keepRest 18 = .ok (.aload_n 0, 1) := by decide +kernel
theorem dX1_keepRest_19 : decode cX1_keepRest 19 = .ok (.getfield 9, 3) := by decide +kernel
theorem dX1_keepRest_22 : decode cX1_keepRest 22 = .ok (.iload_n 3, 1) := by decide +kernel
theorem dX1_keepRest_23 : decode cX1_keepRest 23 = .ok (.iaload, 1) := by decide +kernel
theorem dX1_keepRest_24 : decode cX1_keepRest 24 = .ok (.invokestatic 62, 3) := by decide +kernel
theorem dX1_keepRest_27 : decode cX1_keepRest 27 = .ok (.iload_n 2, 1) := by decide +kernel
theorem dX1_keepRest_28 : decode cX1_keepRest 28 = .ok (.invokevirtual 74, 3) := by decide +kernel
theorem dX1_keepRest_31 : decode cX1_keepRest 31 = .ok (.lreturn, 1) := by decide +kernel
set_option maxRecDepth 20000 in
theorem ggX1_keepResidue_X1_residueOf : GoodIn wsX1_keepResidue wsX1_residueOf := goodIn_ca (goodIn_r _ [5, 6, 7, 8, 9] (by decide +kernel) (by decide +kernel)) (goodIn_sub (fun _ h => List.mem_cons_of_mem _ (List.mem_append_right _ h)) (by decide +kernel))
set_option maxRecDepth 20000 in
theorem gX1_keepResidue_X1_residueOf : GoodIn wsX1_keepResidue (va_wsS RX1 147 yX1_residueOf wsX1_residueOf) := goodIn_app (goodIn_of _ (by decide +kernel)) ggX1_keepResidue_X1_residueOf
set_option maxRecDepth 20000 in
theorem ggX1_keepResidue_X1_keep : GoodIn wsX1_keepResidue wsX1_keep := goodIn_ca (goodIn_r _ [13, 1, 14, 15, 16, 17, 4, 18, 19, 20, 21, 22, 6, 7, 8, 9, 23, 24, 25, 26, 27, 28, 29, 30, 31, 32] (by decide +kernel) (by decide +kernel)) (goodIn_sub (fun _ h => List.mem_cons_of_mem _ (List.mem_append_left _ (List.mem_append_right _ h))) (by decide +kernel))
set_option maxRecDepth 20000 in
theorem gX1_keepResidue_X1_keep : GoodIn wsX1_keepResidue (wsV RX1 42 RX1 yX1_keep wsX1_keep) := goodIn_app (goodIn_of _ (by decide +kernel)) ggX1_keepResidue_X1_keep
theorem dX1_keepResidue_0 : decode cX1_keepResidue 0 = .ok (.aload_n 0, 1) := by decide +kernel
theorem dX1_keepResidue_1 : decode cX1_keepResidue 1 = .ok (.iload_n 1, 1) := by decide +kernel
theorem dX1_keepResidue_2 : decode cX1_keepResidue 2 = .ok (.lload_n 2, 1) := by decide +kernel
theorem dX1_keepResidue_3 : decode cX1_keepResidue 3 = .ok (.aload_n 0, 1) := by decide +kernel
theorem dX1_keepResidue_4 : decode cX1_keepResidue 4 = .ok (.getfield 9, 3) := by decide +kernel
theorem dX1_keepResidue_7 : decode cX1_keepResidue 7 = .ok (.iload 4, 2) := by decide +kernel
theorem dX1_keepResidue_9 : decode cX1_keepResidue 9 = .ok (.iaload, 1) := by decide +kernel
theorem dX1_keepResidue_10 : decode cX1_keepResidue 10 = .ok (.invokestatic 147, 3) := by decide +kernel
theorem dX1_keepResidue_13 : decode cX1_keepResidue 13 = .ok (.iconst 0, 1) := by decide +kernel
theorem dX1_keepResidue_14 : decode cX1_keepResidue 14 = .ok (.invokevirtual 42, 3) := by decide +kernel
theorem dX1_keepResidue_17 : decode cX1_keepResidue 17 = .ok (.lreturn, 1) := by decide +kernel
set_option maxRecDepth 20000 in
theorem ggX1_bitsAt_X1_bitsOf : GoodIn wsX1_bitsAt wsX1_bitsOf := goodIn_r _ [6, 7, 8, 9, 10, 11, 12, 13, 14, 15, 16, 17] (by decide +kernel) (by decide +kernel)
set_option maxRecDepth 20000 in
theorem gX1_bitsAt_X1_bitsOf : GoodIn wsX1_bitsAt (va_wsS RX1 151 yX1_bitsOf wsX1_bitsOf) := goodIn_app (goodIn_of _ (by decide +kernel)) ggX1_bitsAt_X1_bitsOf
theorem dX1_bitsAt_0 : decode cX1_bitsAt 0 = .ok (.aload_n 0, 1) := by decide +kernel
theorem dX1_bitsAt_1 : decode cX1_bitsAt 1 = .ok (.getfield 9, 3) := by decide +kernel
theorem dX1_bitsAt_4 : decode cX1_bitsAt 4 = .ok (.iload_n 1, 1) := by decide +kernel
theorem dX1_bitsAt_5 : decode cX1_bitsAt 5 = .ok (.iaload, 1) := by decide +kernel
theorem dX1_bitsAt_6 : decode cX1_bitsAt 6 = .ok (.aload_n 0, 1) := by decide +kernel
theorem dX1_bitsAt_7 : decode cX1_bitsAt 7 = .ok (.getfield 13, 3) := by decide +kernel
theorem dX1_bitsAt_10 : decode cX1_bitsAt 10 = .ok (.iload_n 1, 1) := by decide +kernel
theorem dX1_bitsAt_11 : decode cX1_bitsAt 11 = .ok (.baload, 1) := by decide +kernel
theorem dX1_bitsAt_12 : decode cX1_bitsAt 12 = .ok (.invokestatic 151, 3) := by decide +kernel
theorem dX1_bitsAt_15 : decode cX1_bitsAt 15 = .ok (.lreturn, 1) := by decide +kernel
set_option maxRecDepth 20000 in
theorem ggX1_bitsOf_J6_numberOfLeadingZeros_0f7a4 : GoodIn wsX1_bitsOf wsJ6_numberOfLeadingZeros_0f7a4 := goodIn_r _ [10, 11] (by decide +kernel) (by decide +kernel)
set_option maxRecDepth 20000 in
theorem gX1_bitsOf_J6_numberOfLeadingZeros_0f7a4 : GoodIn wsX1_bitsOf (va_wsS RX1 157 yJ6_numberOfLeadingZeros_0f7a4 wsJ6_numberOfLeadingZeros_0f7a4) := goodIn_app (goodIn_of _ (by decide +kernel)) ggX1_bitsOf_J6_numberOfLeadingZeros_0f7a4
theorem dX1_bitsOf_0 : decode cX1_bitsOf 0 = .ok (.iload_n 0, 1) := by decide +kernel
theorem dX1_bitsOf_1 : decode cX1_bitsOf 1 = .ok (.ifCond .ne 15, 3) := by decide +kernel
theorem dX1_bitsOf_4 : decode cX1_bitsOf 4 = .ok (.iload_n 1, 1) := by decide +kernel
theorem dX1_bitsOf_5 : decode cX1_bitsOf 5 = .ok (.ifCond .eq 9, 3) := by decide +kernel
theorem dX1_bitsOf_8 : decode cX1_bitsOf 8 = .ok (.ldc2_w 155, 3) := by decide +kernel
theorem dX1_bitsOf_11 : decode cX1_bitsOf 11 = .ok (.goto 4, 3) := by decide +kernel
theorem dX1_bitsOf_14 : decode cX1_bitsOf 14 = .ok (.lconst 0, 1) := by decide +kernel
theorem dX1_bitsOf_15 : decode cX1_bitsOf 15 = .ok (.lreturn, 1) := by decide +kernel
theorem dX1_bitsOf_16 : decode cX1_bitsOf 16 = .ok (.iload_n 0, 1) := by decide +kernel
theorem dX1_bitsOf_17 : decode cX1_bitsOf 17 = .ok (.invokestatic 65, 3) := by decide +kernel
theorem dX1_bitsOf_20 : decode cX1_bitsOf 20 = .ok (.istore_n 2, 1) := by decide +kernel
theorem dX1_bitsOf_21 : decode cX1_bitsOf 21 = .ok (.bipush 31, 2) := by decide +kernel
theorem dX1_bitsOf_23 : decode cX1_bitsOf 23 = .ok (.iload_n 2, 1) := by decide +kernel
theorem dX1_bitsOf_24 : decode cX1_bitsOf 24 = .ok (.invokestatic 157, 3) := by decide +kernel
theorem dX1_bitsOf_27 : decode cX1_bitsOf 27 = .ok (.isub, 1) := by decide +kernel
theorem dX1_bitsOf_28 : decode cX1_bitsOf 28 = .ok (.istore_n 3, 1) := by decide +kernel
theorem dX1_bitsOf_29 : decode cX1_bitsOf 29 = .ok (.sipush 1020, 3) := by decide +kernel
theorem dX1_bitsOf_32 : decode cX1_bitsOf 32 = .ok (.iload_n 3, 1) := by decide +kernel
theorem dX1_bitsOf_33 : decode cX1_bitsOf 33 = .ok (.iadd, 1) := by decide +kernel
theorem dX1_bitsOf_34 : decode cX1_bitsOf 34 = .ok (.i2l, 1) := by decide +kernel
theorem dX1_bitsOf_35 : decode cX1_bitsOf 35 = .ok (.bipush 52, 2) := by decide +kernel
theorem dX1_bitsOf_37 : decode cX1_bitsOf 37 = .ok (.lshl, 1) := by decide +kernel
theorem dX1_bitsOf_38 : decode cX1_bitsOf 38 = .ok (.lstore 4, 2) := by decide +kernel
theorem dX1_bitsOf_40 : decode cX1_bitsOf 40 = .ok (.iload_n 2, 1) := by decide +kernel
theorem dX1_bitsOf_41 : decode cX1_bitsOf 41 = .ok (.i2l, 1) := by decide +kernel
theorem dX1_bitsOf_42 : decode cX1_bitsOf 42 = .ok (.bipush 52, 2) := by decide +kernel
theorem dX1_bitsOf_44 : decode cX1_bitsOf 44 = .ok (.iload_n 3, 1) := by decide +kernel
theorem dX1_bitsOf_45 : decode cX1_bitsOf 45 = .ok (.isub, 1) := by decide +kernel
theorem dX1_bitsOf_46 : decode cX1_bitsOf 46 = .ok (.lshl, 1) := by decide +kernel
theorem dX1_bitsOf_47 : decode cX1_bitsOf 47 = .ok (.ldc2_w 160, 3) := by decide +kernel
theorem dX1_bitsOf_50 : decode cX1_bitsOf 50 = .ok (.land, 1) := by decide +kernel
theorem dX1_bitsOf_51 : decode cX1_bitsOf 51 = .ok (.lstore 6, 2) := by decide +kernel
theorem dX1_bitsOf_53 : decode cX1_bitsOf 53 = .ok (.iload_n 0, 1) := by decide +kernel
theorem dX1_bitsOf_54 : decode cX1_bitsOf 54 = .ok (.ifCond .ge 9, 3) := by decide +kernel
theorem dX1_bitsOf_57 : decode cX1_bitsOf 57 = .ok (.ldc2_w 155, 3) := by decide +kernel
theorem dX1_bitsOf_60 : decode cX1_bitsOf 60 = .ok (.goto 4, 3) := by decide +kernel
theorem dX1_bitsOf_63 : decode cX1_bitsOf 63 = .ok (.lconst 0, 1) := by decide +kernel
theorem dX1_bitsOf_64 : decode cX1_bitsOf 64 = .ok (.lload 4, 2) := by decide +kernel
theorem dX1_bitsOf_66 : decode cX1_bitsOf 66 = .ok (.lor, 1) := by decide +kernel
theorem dX1_bitsOf_67 : decode cX1_bitsOf 67 = .ok (.lload 6, 2) := by decide +kernel
theorem dX1_bitsOf_69 : decode cX1_bitsOf 69 = .ok (.lor, 1) := by decide +kernel
theorem dX1_bitsOf_70 : decode cX1_bitsOf 70 = .ok (.lreturn, 1) := by decide +kernel
theorem dX1_quotient_0 : decode cX1_quotient 0 = .ok (.iload_n 1, 1) := by decide +kernel
theorem dX1_quotient_1 : decode cX1_quotient 1 = .ok (.ifCond .ne 7, 3) := by decide +kernel
theorem dX1_quotient_4 : decode cX1_quotient 4 = .ok (.iconst 0, 1) := by decide +kernel
theorem dX1_quotient_5 : decode cX1_quotient 5 = .ok (.goto 6, 3) := by decide +kernel
theorem dX1_quotient_8 : decode cX1_quotient 8 = .ok (.iload_n 0, 1) := by decide +kernel
theorem dX1_quotient_9 : decode cX1_quotient 9 = .ok (.iload_n 1, 1) := by decide +kernel
theorem dX1_quotient_10 : decode cX1_quotient 10 = .ok (.idiv, 1) := by decide +kernel
theorem dX1_quotient_11 : decode cX1_quotient 11 = .ok (.ireturn, 1) := by decide +kernel
theorem dX1_cutOf_0 : decode cX1_cutOf 0 = .ok (.iload_n 1, 1) := by decide +kernel
theorem dX1_cutOf_1 : decode cX1_cutOf 1 = .ok (.ifCond .ne 7, 3) := by decide +kernel
theorem dX1_cutOf_4 : decode cX1_cutOf 4 = .ok (.iconst 0, 1) := by decide +kernel
theorem dX1_cutOf_5 : decode cX1_cutOf 5 = .ok (.goto 6, 3) := by decide +kernel
theorem dX1_cutOf_8 : decode cX1_cutOf 8 = .ok (.iload_n 0, 1) := by decide +kernel
theorem dX1_cutOf_9 : decode cX1_cutOf 9 = .ok (.iload_n 1, 1) := by decide +kernel
theorem dX1_cutOf_10 : decode cX1_cutOf 10 = .ok (.irem, 1) := by decide +kernel
theorem dX1_cutOf_11 : decode cX1_cutOf 11 = .ok (.ireturn, 1) := by decide +kernel
set_option maxRecDepth 20000 in
theorem ggX1_nearest_X1_quotient : GoodIn wsX1_nearest wsX1_quotient := goodIn_ca (goodIn_r _ [8] (by decide +kernel) (by decide +kernel)) (goodIn_sub (fun _ h => List.mem_cons_of_mem _ (List.mem_append_right _ h)) (by decide +kernel))
set_option maxRecDepth 20000 in
theorem gX1_nearest_X1_quotient : GoodIn wsX1_nearest (va_wsS RX1 103 yX1_quotient wsX1_quotient) := goodIn_app (goodIn_of _ (by decide +kernel)) ggX1_nearest_X1_quotient
set_option maxRecDepth 20000 in
theorem ggX1_nearest_X1_cutOf : GoodIn wsX1_nearest wsX1_cutOf := goodIn_ca (goodIn_r _ [11] (by decide +kernel) (by decide +kernel)) (goodIn_sub (fun _ h => List.mem_cons_of_mem _ (List.mem_append_right _ h)) (by decide +kernel))
set_option maxRecDepth 20000 in
theorem gX1_nearest_X1_cutOf : GoodIn wsX1_nearest (va_wsS RX1 71 yX1_cutOf wsX1_cutOf) := goodIn_app (goodIn_of _ (by decide +kernel)) ggX1_nearest_X1_cutOf
theorem dX1_nearest_0 : decode cX1_nearest 0 = .ok (.iload_n 0, 1) := by decide +kernel
theorem dX1_nearest_1 : decode cX1_nearest 1 = .ok (.iload_n 1, 1) := by decide +kernel
theorem dX1_nearest_2 : decode cX1_nearest 2 = .ok (.invokestatic 103, 3) := by decide +kernel
theorem dX1_nearest_5 : decode cX1_nearest 5 = .ok (.istore_n 2, 1) := by decide +kernel
theorem dX1_nearest_6 : decode cX1_nearest 6 = .ok (.iconst 2, 1) := by decide +kernel
theorem dX1_nearest_7 : decode cX1_nearest 7 = .ok (.iload_n 0, 1) := by decide +kernel
theorem dX1_nearest_8 : decode cX1_nearest 8 = .ok (.iload_n 1, 1) := by decide +kernel
theorem dX1_nearest_9 : decode cX1_nearest 9 = .ok (.invokestatic 71, 3) := by decide +kernel
theorem dX1_nearest_12 : decode cX1_nearest 12 = .ok (.invokestatic 65, 3) := by decide +kernel
theorem dX1_nearest_15 : decode cX1_nearest 15 = .ok (.imul, 1) := by decide +kernel
theorem dX1_nearest_16 : decode cX1_nearest 16 = .ok (.iload_n 1, 1) := by decide +kernel
theorem dX1_nearest_17 : decode cX1_nearest 17 = .ok (.invokestatic 65, 3) := by decide +kernel
theorem dX1_nearest_20 : decode cX1_nearest 20 = .ok (.isub, 1) := by decide +kernel
theorem dX1_nearest_21 : decode cX1_nearest 21 = .ok (.istore_n 3, 1) := by decide +kernel
theorem dX1_nearest_22 : decode cX1_nearest 22 = .ok (.iload_n 2, 1) := by decide +kernel
theorem dX1_nearest_23 : decode cX1_nearest 23 = .ok (.iconst 1, 1) := by decide +kernel
theorem dX1_nearest_24 : decode cX1_nearest 24 = .ok (.iand, 1) := by decide +kernel
theorem dX1_nearest_25 : decode cX1_nearest 25 = .ok (.ifCond .eq 7, 3) := by decide +kernel
theorem dX1_nearest_28 : decode cX1_nearest 28 = .ok (.iconst 1, 1) := by decide +kernel
theorem dX1_nearest_29 : decode cX1_nearest 29 = .ok (.goto 4, 3) := by decide +kernel
theorem dX1_nearest_32 : decode cX1_nearest 32 = .ok (.iconst 0, 1) := by decide +kernel
theorem dX1_nearest_33 : decode cX1_nearest 33 = .ok (.istore 4, 2) := by decide +kernel
theorem dX1_nearest_35 : decode cX1_nearest 35 = .ok (.iload_n 3, 1) := by decide +kernel
theorem dX1_nearest_36 : decode cX1_nearest 36 = .ok (.ifCond .lt 12, 3) := by decide +kernel
theorem dX1_nearest_39 : decode cX1_nearest 39 = .ok (.iload_n 3, 1) := by decide +kernel
theorem dX1_nearest_40 : decode cX1_nearest 40 = .ok (.ifCond .ne 10, 3) := by decide +kernel
theorem dX1_nearest_43 : decode cX1_nearest 43 = .ok (.iload 4, 2) := by decide +kernel
theorem dX1_nearest_45 : decode cX1_nearest 45 = .ok (.ifCond .ne 5, 3) := by decide +kernel
theorem dX1_nearest_48 : decode cX1_nearest 48 = .ok (.iload_n 2, 1) := by decide +kernel
theorem dX1_nearest_49 : decode cX1_nearest 49 = .ok (.ireturn, 1) := by decide +kernel
theorem dX1_nearest_50 : decode cX1_nearest 50 = .ok (.iload_n 0, 1) := by decide +kernel
theorem dX1_nearest_51 : decode cX1_nearest 51 = .ok (.ifCond .ge 7, 3) := by decide +kernel
theorem dX1_nearest_54 : decode cX1_nearest 54 = .ok (.iconst 1, 1) := by decide +kernel
theorem dX1_nearest_55 : decode cX1_nearest 55 = .ok (.goto 4, 3) := by decide +kernel
theorem dX1_nearest_58 : decode cX1_nearest 58 = .ok (.iconst 0, 1) := by decide +kernel
theorem dX1_nearest_59 : decode cX1_nearest 59 = .ok (.iload_n 1, 1) := by decide +kernel
theorem dX1_nearest_60 : decode cX1_nearest 60 = .ok (.ifCond .ge 7, 3) := by decide +kernel
theorem dX1_nearest_63 : decode cX1_nearest 63 = .ok (.iconst 1, 1) := by decide +kernel
theorem dX1_nearest_64 : decode cX1_nearest 64 = .ok (.goto 4, 3) := by decide +kernel
theorem dX1_nearest_67 : decode cX1_nearest 67 = .ok (.iconst 0, 1) := by decide +kernel
theorem dX1_nearest_68 : decode cX1_nearest 68 = .ok (.if_icmp .ne 9, 3) := by decide +kernel
theorem dX1_nearest_71 : decode cX1_nearest 71 = .ok (.iload_n 2, 1) := by decide +kernel
theorem dX1_nearest_72 : decode cX1_nearest 72 = .ok (.iconst 1, 1) := by decide +kernel
theorem dX1_nearest_73 : decode cX1_nearest 73 = .ok (.iadd, 1) := by decide +kernel
theorem dX1_nearest_74 : decode cX1_nearest 74 = .ok (.goto 6, 3) := by decide +kernel
theorem dX1_nearest_77 : decode cX1_nearest 77 = .ok (.iload_n 2, 1) := by decide +kernel
theorem dX1_nearest_78 : decode cX1_nearest 78 = .ok (.iconst 1, 1) := by decide +kernel
theorem dX1_nearest_79 : decode cX1_nearest 79 = .ok (.isub, 1) := by decide +kernel
theorem dX1_nearest_80 : decode cX1_nearest 80 = .ok (.ireturn, 1) := by decide +kernel
set_option maxRecDepth 20000 in
theorem ggX1_restOf_X1_nearest : GoodIn wsX1_restOf wsX1_nearest := goodIn_ca (goodIn_r _ [4, 5, 6, 7, 8, 9, 10, 3, 11, 12, 13, 14] (by decide +kernel) (by decide +kernel)) (goodIn_sub (fun _ h => List.mem_cons_of_mem _ (List.mem_append_right _ h)) (by decide +kernel))
set_option maxRecDepth 20000 in
theorem gX1_restOf_X1_nearest : GoodIn wsX1_restOf (va_wsS RX1 58 yX1_nearest wsX1_nearest) := goodIn_app (goodIn_of _ (by decide +kernel)) ggX1_restOf_X1_nearest
theorem dX1_restOf_0 : decode cX1_restOf 0 = .ok (.iload_n 0, 1) := by decide +kernel
theorem dX1_restOf_1 : decode cX1_restOf 1 = .ok (.iload_n 0, 1) := by decide +kernel
theorem dX1_restOf_2 : decode cX1_restOf 2 = .ok (.iload_n 1, 1) := by decide +kernel
theorem dX1_restOf_3 : decode cX1_restOf 3 = .ok (.invokestatic 58, 3) := by decide +kernel
theorem dX1_restOf_6 : decode cX1_restOf 6 = .ok (.iload_n 1, 1) := by decide +kernel
theorem dX1_restOf_7 : decode cX1_restOf 7 = .ok (.imul, 1) := by decide +kernel
theorem dX1_restOf_8 : decode cX1_restOf 8 = .ok (.isub, 1) := by decide +kernel
theorem dX1_restOf_9 : decode cX1_restOf 9 = .ok (.ireturn, 1) := by decide +kernel
theorem dX1_residueOf_0 : decode cX1_residueOf 0 = .ok (.iload_n 2, 1) := by decide +kernel
theorem dX1_residueOf_1 : decode cX1_residueOf 1 = .ok (.invokestatic 65, 3) := by decide +kernel
theorem dX1_residueOf_4 : decode cX1_residueOf 4 = .ok (.istore_n 3, 1) := by decide +kernel
theorem dX1_residueOf_5 : decode cX1_residueOf 5 = .ok (.iload_n 3, 1) := by decide +kernel
theorem dX1_residueOf_6 : decode cX1_residueOf 6 = .ok (.ifCond .ne 5, 3) := by decide +kernel
theorem dX1_residueOf_9 : decode cX1_residueOf 9 = .ok (.iconst 0, 1) := by decide +kernel
theorem dX1_residueOf_10 : decode cX1_residueOf 10 = .ok (.ireturn, 1) := by decide +kernel
theorem dX1_residueOf_11 : decode cX1_residueOf 11 = .ok (.lload_n 0, 1) := by decide +kernel
theorem dX1_residueOf_12 : decode cX1_residueOf 12 = .ok (.iload_n 3, 1) := by decide +kernel
theorem dX1_residueOf_13 : decode cX1_residueOf 13 = .ok (.i2l, 1) := by decide +kernel
theorem dX1_residueOf_14 : decode cX1_residueOf 14 = .ok (.lrem, 1) := by decide +kernel
theorem dX1_residueOf_15 : decode cX1_residueOf 15 = .ok (.l2i, 1) := by decide +kernel
theorem dX1_residueOf_16 : decode cX1_residueOf 16 = .ok (.istore 4, 2) := by decide +kernel
theorem dX1_residueOf_18 : decode cX1_residueOf 18 = .ok (.iconst 2, 1) := by decide +kernel
theorem dX1_residueOf_19 : decode cX1_residueOf 19 = .ok (.iload 4, 2) := by decide +kernel
theorem dX1_residueOf_21 : decode cX1_residueOf 21 = .ok (.imul, 1) := by decide +kernel
theorem dX1_residueOf_22 : decode cX1_residueOf 22 = .ok (.iload_n 3, 1) := by decide +kernel
theorem dX1_residueOf_23 : decode cX1_residueOf 23 = .ok (.if_icmp .le 8, 3) := by decide +kernel
theorem dX1_residueOf_26 : decode cX1_residueOf 26 = .ok (.iload 4, 2) := by decide +kernel
theorem dX1_residueOf_28 : decode cX1_residueOf 28 = .ok (.iload_n 3, 1) := by decide +kernel
theorem dX1_residueOf_29 : decode cX1_residueOf 29 = .ok (.isub, 1) := by decide +kernel
theorem dX1_residueOf_30 : decode cX1_residueOf 30 = .ok (.ireturn, 1) := by decide +kernel
theorem dX1_residueOf_31 : decode cX1_residueOf 31 = .ok (.iconst 2, 1) := by decide +kernel
theorem dX1_residueOf_32 : decode cX1_residueOf 32 = .ok (.iload 4, 2) := by decide +kernel
theorem dX1_residueOf_34 : decode cX1_residueOf 34 = .ok (.imul, 1) := by decide +kernel
theorem dX1_residueOf_35 : decode cX1_residueOf 35 = .ok (.iload_n 3, 1) := by decide +kernel
theorem dX1_residueOf_36 : decode cX1_residueOf 36 = .ok (.ineg, 1) := by decide +kernel
theorem dX1_residueOf_37 : decode cX1_residueOf 37 = .ok (.if_icmp .gt 10, 3) := by decide +kernel
theorem dX1_residueOf_40 : decode cX1_residueOf 40 = .ok (.iload 4, 2) := by decide +kernel
theorem dX1_residueOf_42 : decode cX1_residueOf 42 = .ok (.iload_n 3, 1) := by decide +kernel
theorem dX1_residueOf_43 : decode cX1_residueOf 43 = .ok (.iadd, 1) := by decide +kernel
theorem dX1_residueOf_44 : decode cX1_residueOf 44 = .ok (.goto 5, 3) := by decide +kernel
theorem dX1_residueOf_47 : decode cX1_residueOf 47 = .ok (.iload 4, 2) := by decide +kernel
theorem dX1_residueOf_49 : decode cX1_residueOf 49 = .ok (.ireturn, 1) := by decide +kernel
set_option maxRecDepth 20000 in
theorem ggX1_powerOf_X1_residueOf : GoodIn wsX1_powerOf wsX1_residueOf := goodIn_ca (goodIn_r _ [4, 5, 6, 7, 8] (by decide +kernel) (by decide +kernel)) (goodIn_sub (fun _ h => List.mem_cons_of_mem _ (List.mem_append_right _ h)) (by decide +kernel))
set_option maxRecDepth 20000 in
theorem gX1_powerOf_X1_residueOf : GoodIn wsX1_powerOf (va_wsS RX1 147 yX1_residueOf wsX1_residueOf) := goodIn_app (goodIn_of _ (by decide +kernel)) ggX1_powerOf_X1_residueOf
theorem dX1_powerOf_0 : decode cX1_powerOf 0 = .ok (.lconst 1, 1) := by decide +kernel
theorem dX1_powerOf_1 : decode cX1_powerOf 1 = .ok (.iload_n 2, 1) := by decide +kernel
theorem dX1_powerOf_2 : decode cX1_powerOf 2 = .ok (.invokestatic 147, 3) := by decide +kernel
theorem dX1_powerOf_5 : decode cX1_powerOf 5 = .ok (.istore_n 3, 1) := by decide +kernel
theorem dX1_powerOf_6 : decode cX1_powerOf 6 = .ok (.iconst 0, 1) := by decide +kernel
theorem dX1_powerOf_7 : decode cX1_powerOf 7 = .ok (.istore 4, 2) := by decide +kernel
theorem dX1_powerOf_9 : decode cX1_powerOf 9 = .ok (.iload 4, 2) := by decide +kernel
theorem dX1_powerOf_11 : decode cX1_powerOf 11 = .ok (.iload_n 1, 1) := by decide +kernel
theorem dX1_powerOf_12 : decode cX1_powerOf 12 = .ok (.if_icmp .ge 18, 3) := by decide +kernel
theorem dX1_powerOf_15 : decode cX1_powerOf 15 = .ok (.iload_n 3, 1) := by decide +kernel
theorem dX1_powerOf_16 : decode cX1_powerOf 16 = .ok (.iload_n 0, 1) := by decide +kernel
theorem dX1_powerOf_17 : decode cX1_powerOf 17 = .ok (.imul, 1) := by decide +kernel
theorem dX1_powerOf_18 : decode cX1_powerOf 18 = .ok (.i2l, 1) := by decide +kernel
theorem dX1_powerOf_19 : decode cX1_powerOf 19 = .ok (.iload_n 2, 1) := by decide +kernel
theorem dX1_powerOf_20 : decode cX1_powerOf 20 = .ok (.invokestatic 147, 3) := by decide +kernel
theorem dX1_powerOf_23 : decode cX1_powerOf 23 = .ok (.istore_n 3, 1) := by decide +kernel
theorem dX1_powerOf_24 : decode cX1_powerOf 24 = .ok (.iinc 4 1, 3) := by decide +kernel
theorem dX1_powerOf_27 : decode cX1_powerOf 27 = .ok (.goto (-18), 3) := by decide +kernel
theorem dX1_powerOf_30 : decode cX1_powerOf 30 = .ok (.iload_n 3, 1) := by decide +kernel
theorem dX1_powerOf_31 : decode cX1_powerOf 31 = .ok (.ireturn, 1) := by decide +kernel
set_option maxRecDepth 20000 in
theorem ggX1_measureOf_X0_takeRests : GoodIn wsX1_measureOf wsX0_takeRests := goodIn_ca (goodIn_ca (goodIn_r _ [9, 10, 11, 12, 13, 14, 15, 16, 2, 3, 4, 5, 17, 18, 19, 20, 21, 22, 27, 28, 29, 30] (by decide +kernel) (by decide +kernel)) (goodIn_sub (fun _ h => List.mem_cons_of_mem _ (List.mem_append_left _ (List.mem_append_right _ h))) (by decide +kernel))) (goodIn_sub (fun _ h => List.mem_cons_of_mem _ (List.mem_append_right _ h)) (by decide +kernel))
set_option maxRecDepth 20000 in
theorem gX1_measureOf_X0_takeRests_n106 : GoodIn wsX1_measureOf (wsX0_takeRests) := ggX1_measureOf_X0_takeRests
theorem dX1_measureOf_0 : decode cX1_measureOf 0 = .ok (.aload_n 0, 1) := by decide +kernel
theorem dX1_measureOf_1 : decode cX1_measureOf 1 = .ok (.getfield 24, 3) := by decide +kernel
theorem dX1_measureOf_4 : decode cX1_measureOf 4 = .ok (.iload_n 1, 1) := by decide +kernel
theorem dX1_measureOf_5 : decode cX1_measureOf 5 = .ok (.iload_n 2, 1) := by decide +kernel
theorem dX1_measureOf_6 : decode cX1_measureOf 6 = .ok (.invokevirtual 106, 3) := by decide +kernel
theorem dX1_measureOf_9 : decode cX1_measureOf 9 = .ok (.aload_n 0, 1) := by decide +kernel
theorem dX1_measureOf_10 : decode cX1_measureOf 10 = .ok (.getfield 24, 3) := by decide +kernel
theorem dX1_measureOf_13 : decode cX1_measureOf 13 = .ok (.getfield 162, 3) := by decide +kernel
theorem dX1_measureOf_16 : decode cX1_measureOf 16 = .ok (.invokestatic 65, 3) := by decide +kernel
theorem dX1_measureOf_19 : decode cX1_measureOf 19 = .ok (.ireturn, 1) := by decide +kernel
set_option maxRecDepth 20000 in
theorem ggX1_inverseOf_X0_takeRests : GoodIn wsX1_inverseOf wsX0_takeRests := goodIn_ca (goodIn_ca (goodIn_r _ [5, 6, 7, 8, 9, 10, 11, 12, 13, 14, 15, 16, 17, 18, 19, 20, 21, 22, 40, 41, 42, 43] (by decide +kernel) (by decide +kernel)) (goodIn_sub (fun _ h => List.mem_cons_of_mem _ (List.mem_append_left _ (List.mem_append_right _ h))) (by decide +kernel))) (goodIn_sub (fun _ h => List.mem_cons_of_mem _ (List.mem_append_right _ h)) (by decide +kernel))
set_option maxRecDepth 20000 in
theorem gX1_inverseOf_X0_takeRests_n106 : GoodIn wsX1_inverseOf (wsX0_takeRests) := ggX1_inverseOf_X0_takeRests
set_option maxRecDepth 20000 in
theorem ggX1_inverseOf_X0_belowLine : GoodIn wsX1_inverseOf wsX0_belowLine := goodIn_ca (goodIn_r _ [25, 26, 27, 28, 3, 29, 7, 8, 40, 41, 42, 43] (by decide +kernel) (by decide +kernel)) (goodIn_sub (fun _ h => List.mem_cons_of_mem _ (List.mem_append_left _ (List.mem_append_right _ h))) (by decide +kernel))
set_option maxRecDepth 20000 in
theorem gX1_inverseOf_X0_belowLine_n127 : GoodIn wsX1_inverseOf (wsX0_belowLine) := ggX1_inverseOf_X0_belowLine
set_option maxRecDepth 20000 in
theorem ggX1_inverseOf_X1_residueOf : GoodIn wsX1_inverseOf wsX1_residueOf := goodIn_ca (goodIn_r _ [32, 13, 14, 15, 16] (by decide +kernel) (by decide +kernel)) (goodIn_sub (fun _ h => List.mem_cons_of_mem _ (List.mem_append_right _ h)) (by decide +kernel))
set_option maxRecDepth 20000 in
theorem gX1_inverseOf_X1_residueOf : GoodIn wsX1_inverseOf (va_wsS RX1 147 yX1_residueOf wsX1_residueOf) := goodIn_app (goodIn_of _ (by decide +kernel)) ggX1_inverseOf_X1_residueOf
set_option maxRecDepth 20000 in
theorem ggX1_inverseOf_X1_isInverse : GoodIn wsX1_inverseOf wsX1_isInverse := goodIn_ca (goodIn_r _ [35, 30, 31, 11, 32, 13, 14, 15, 16] (by decide +kernel) (by decide +kernel)) (goodIn_sub (fun _ h => List.mem_cons_of_mem _ (List.mem_append_right _ h)) (by decide +kernel))
set_option maxRecDepth 20000 in
theorem gX1_inverseOf_X1_isInverse : GoodIn wsX1_inverseOf (va_wsS RX1 165 yX1_isInverse wsX1_isInverse) := goodIn_app (goodIn_of _ (by decide +kernel)) ggX1_inverseOf_X1_isInverse
theorem dX1_inverseOf_0 : decode cX1_inverseOf 0 = .ok (.aload_n 0, 1) := by decide +kernel
theorem dX1_inverseOf_1 : decode cX1_inverseOf 1 = .ok (.getfield 24, 3) := by decide +kernel
theorem dX1_inverseOf_4 : decode cX1_inverseOf 4 = .ok (.iload_n 1, 1) := by decide +kernel
theorem dX1_inverseOf_5 : decode cX1_inverseOf 5 = .ok (.iload_n 2, 1) := by decide +kernel
theorem dX1_inverseOf_6 : decode cX1_inverseOf 6 = .ok (.invokevirtual 106, 3) := by decide +kernel
theorem dX1_inverseOf_9 : decode cX1_inverseOf 9 = .ok (.aload_n 0, 1) := by decide +kernel
theorem dX1_inverseOf_10 : decode cX1_inverseOf 10 = .ok (.getfield 24, 3) := by decide +kernel
theorem dX1_inverseOf_13 : decode cX1_inverseOf 13 = .ok (.aload_n 0, 1) := by decide +kernel
theorem dX1_inverseOf_14 : decode cX1_inverseOf 14 = .ok (.getfield 24, 3) := by decide +kernel
theorem dX1_inverseOf_17 : decode cX1_inverseOf 17 = .ok (.getfield 109, 3) := by decide +kernel
theorem dX1_inverseOf_20 : decode cX1_inverseOf 20 = .ok (.iconst 1, 1) := by decide +kernel
theorem dX1_inverseOf_21 : decode cX1_inverseOf 21 = .ok (.isub, 1) := by decide +kernel
theorem dX1_inverseOf_22 : decode cX1_inverseOf 22 = .ok (.invokevirtual 127, 3) := by decide +kernel
theorem dX1_inverseOf_25 : decode cX1_inverseOf 25 = .ok (.i2l, 1) := by decide +kernel
theorem dX1_inverseOf_26 : decode cX1_inverseOf 26 = .ok (.iload_n 2, 1) := by decide +kernel
theorem dX1_inverseOf_27 : decode cX1_inverseOf 27 = .ok (.invokestatic 147, 3) := by decide +kernel
theorem dX1_inverseOf_30 : decode cX1_inverseOf 30 = .ok (.istore_n 3, 1) := by decide +kernel
theorem dX1_inverseOf_31 : decode cX1_inverseOf 31 = .ok (.iload_n 3, 1) := by decide +kernel
theorem dX1_inverseOf_32 : decode cX1_inverseOf 32 = .ok (.iload_n 1, 1) := by decide +kernel
theorem dX1_inverseOf_33 : decode cX1_inverseOf 33 = .ok (.iload_n 2, 1) := by decide +kernel
theorem dX1_inverseOf_34 : decode cX1_inverseOf 34 = .ok (.invokestatic 165, 3) := by decide +kernel
theorem dX1_inverseOf_37 : decode cX1_inverseOf 37 = .ok (.ifCond .eq 5, 3) := by decide +kernel
theorem dX1_inverseOf_40 : decode cX1_inverseOf 40 = .ok (.iload_n 3, 1) := by decide +kernel
theorem dX1_inverseOf_41 : decode cX1_inverseOf 41 = .ok (.ireturn, 1) := by decide +kernel
theorem dX1_inverseOf_42 : decode cX1_inverseOf 42 = .ok (.iload_n 3, 1) := by decide +kernel
theorem dX1_inverseOf_43 : decode cX1_inverseOf 43 = .ok (.ineg, 1) := by decide +kernel
theorem dX1_inverseOf_44 : decode cX1_inverseOf 44 = .ok (.i2l, 1) := by decide +kernel
theorem dX1_inverseOf_45 : decode cX1_inverseOf 45 = .ok (.iload_n 2, 1) := by decide +kernel
theorem dX1_inverseOf_46 : decode cX1_inverseOf 46 = .ok (.invokestatic 147, 3) := by decide +kernel
theorem dX1_inverseOf_49 : decode cX1_inverseOf 49 = .ok (.istore 4, 2) := by decide +kernel
theorem dX1_inverseOf_51 : decode cX1_inverseOf 51 = .ok (.iload 4, 2) := by decide +kernel
theorem dX1_inverseOf_53 : decode cX1_inverseOf 53 = .ok (.iload_n 1, 1) := by decide +kernel
theorem dX1_inverseOf_54 : decode cX1_inverseOf 54 = .ok (.iload_n 2, 1) := by decide +kernel
theorem dX1_inverseOf_55 : decode cX1_inverseOf 55 = .ok (.invokestatic 165, 3) := by decide +kernel
theorem dX1_inverseOf_58 : decode cX1_inverseOf 58 = .ok (.ifCond .eq 8, 3) := by decide +kernel
theorem dX1_inverseOf_61 : decode cX1_inverseOf 61 = .ok (.iload 4, 2) := by decide +kernel
theorem dX1_inverseOf_63 : decode cX1_inverseOf 63 = .ok (.goto 6, 3) := by decide +kernel
theorem dX1_inverseOf_66 : decode cX1_inverseOf 66 = .ok (.sipush 128, 3) := by decide +kernel
theorem dX1_inverseOf_69 : decode cX1_inverseOf 69 = .ok (.ireturn, 1) := by decide +kernel
set_option maxRecDepth 20000 in
theorem ggX1_isInverse_X1_residueOf : GoodIn wsX1_isInverse wsX1_residueOf := goodIn_ca (goodIn_r _ [4, 5, 6, 7, 8] (by decide +kernel) (by decide +kernel)) (goodIn_sub (fun _ h => List.mem_cons_of_mem _ (List.mem_append_right _ h)) (by decide +kernel))
set_option maxRecDepth 20000 in
theorem gX1_isInverse_X1_residueOf : GoodIn wsX1_isInverse (va_wsS RX1 147 yX1_residueOf wsX1_residueOf) := goodIn_app (goodIn_of _ (by decide +kernel)) ggX1_isInverse_X1_residueOf
theorem dX1_isInverse_0 : decode cX1_isInverse 0 = .ok (.iload_n 0, 1) := by decide +kernel
theorem dX1_isInverse_1 : decode cX1_isInverse 1 = .ok (.iload_n 1, 1) := by decide +kernel
theorem dX1_isInverse_2 : decode cX1_isInverse 2 = .ok (.imul, 1) := by decide +kernel
theorem dX1_isInverse_3 : decode cX1_isInverse 3 = .ok (.i2l, 1) := by decide +kernel
theorem dX1_isInverse_4 : decode cX1_isInverse 4 = .ok (.iload_n 2, 1) := by decide +kernel
theorem dX1_isInverse_5 : decode cX1_isInverse 5 = .ok (.invokestatic 147, 3) := by decide +kernel
theorem dX1_isInverse_8 : decode cX1_isInverse 8 = .ok (.lconst 1, 1) := by decide +kernel
theorem dX1_isInverse_9 : decode cX1_isInverse 9 = .ok (.iload_n 2, 1) := by decide +kernel
theorem dX1_isInverse_10 : decode cX1_isInverse 10 = .ok (.invokestatic 147, 3) := by decide +kernel
theorem dX1_isInverse_13 : decode cX1_isInverse 13 = .ok (.if_icmp .ne 7, 3) := by decide +kernel
theorem dX1_isInverse_16 : decode cX1_isInverse 16 = .ok (.iconst 1, 1) := by decide +kernel
theorem dX1_isInverse_17 : decode cX1_isInverse 17 = .ok (.goto 4, 3) := by decide +kernel
theorem dX1_isInverse_20 : decode cX1_isInverse 20 = .ok (.iconst 0, 1) := by decide +kernel
theorem dX1_isInverse_21 : decode cX1_isInverse 21 = .ok (.ireturn, 1) := by decide +kernel
set_option maxRecDepth 20000 in
theorem ggX1_isTrueBy_X1_isClockTrue : GoodIn wsX1_isTrueBy wsX1_isClockTrue := goodIn_ca (goodIn_r _ [5, 6, 7, 8, 9, 10, 11, 4, 12] (by decide +kernel) (by decide +kernel)) (goodIn_sub (fun _ h => List.mem_cons_of_mem _ (List.mem_append_right _ h)) (by decide +kernel))
set_option maxRecDepth 20000 in
theorem gX1_isTrueBy_X1_isClockTrue : GoodIn wsX1_isTrueBy (va_wsS RX1 169 yX1_isClockTrue wsX1_isClockTrue) := goodIn_app (goodIn_of _ (by decide +kernel)) ggX1_isTrueBy_X1_isClockTrue
set_option maxRecDepth 20000 in
theorem ggX1_isTrueBy_X1_isRestTrue : GoodIn wsX1_isTrueBy wsX1_isRestTrue := goodIn_ca (goodIn_r _ [15, 6, 7, 8, 9, 16, 17, 4, 18, 19, 20, 21, 22, 23, 24, 25, 26, 27] (by decide +kernel) (by decide +kernel)) (goodIn_sub (fun _ h => List.mem_cons_of_mem _ (List.mem_append_right _ h)) (by decide +kernel))
set_option maxRecDepth 20000 in
theorem gX1_isTrueBy_X1_isRestTrue : GoodIn wsX1_isTrueBy (va_wsS RX1 172 yX1_isRestTrue wsX1_isRestTrue) := goodIn_app (goodIn_of _ (by decide +kernel)) ggX1_isTrueBy_X1_isRestTrue
set_option maxRecDepth 20000 in
theorem ggX1_isTrueBy_X1_isUnder : GoodIn wsX1_isTrueBy wsX1_isUnder := goodIn_ca (goodIn_r _ [31, 1, 32, 88, 89, 90, 91] (by decide +kernel) (by decide +kernel)) (goodIn_sub (fun _ h => List.mem_cons_of_mem _ (List.mem_append_left _ (List.mem_append_right _ h))) (by decide +kernel))
set_option maxRecDepth 20000 in
theorem gX1_isTrueBy_X1_isUnder : GoodIn wsX1_isTrueBy (wsV RX1 144 RX1 yX1_isUnder wsX1_isUnder) := goodIn_app (goodIn_of _ (by decide +kernel)) ggX1_isTrueBy_X1_isUnder
set_option maxRecDepth 20000 in
theorem ggX1_isTrueBy_X1_isSignTrue : GoodIn wsX1_isTrueBy wsX1_isSignTrue := goodIn_ca (goodIn_r _ [35, 36, 16, 17, 4, 18, 19, 20, 21, 6, 7, 8, 9, 22, 23, 24, 25, 26, 27, 37, 38, 39, 40, 41, 42, 43, 44, 45] (by decide +kernel) (by decide +kernel)) (goodIn_sub (fun _ h => List.mem_cons_of_mem _ (List.mem_append_right _ h)) (by decide +kernel))
set_option maxRecDepth 20000 in
theorem gX1_isTrueBy_X1_isSignTrue : GoodIn wsX1_isTrueBy (va_wsS RX1 176 yX1_isSignTrue wsX1_isSignTrue) := goodIn_app (goodIn_of _ (by decide +kernel)) ggX1_isTrueBy_X1_isSignTrue
set_option maxRecDepth 20000 in
theorem ggX1_isTrueBy_X1_isResidueTrue : GoodIn wsX1_isTrueBy wsX1_isResidueTrue := goodIn_ca (goodIn_ca (goodIn_r _ [49, 6, 7, 8, 9, 10, 11, 4, 12, 25, 26, 27, 50, 51, 52, 53, 54, 55, 56, 57, 58, 59, 60, 61, 62, 20, 21, 22, 23, 24, 63, 64, 65, 66, 67, 68, 69, 70, 71, 72, 73, 74, 75, 76, 88, 89, 90, 91, 92, 93, 94, 95] (by decide +kernel) (by decide +kernel)) (goodIn_sub (fun _ h => List.mem_cons_of_mem _ (List.mem_append_right _ h)) (by decide +kernel))) (goodIn_sub (fun _ h => List.mem_cons_of_mem _ (List.mem_append_left _ (List.mem_append_right _ h))) (by decide +kernel))
set_option maxRecDepth 20000 in
theorem gX1_isTrueBy_X1_isResidueTrue : GoodIn wsX1_isTrueBy (wsV RX1 180 RX1 yX1_isResidueTrue wsX1_isResidueTrue) := goodIn_app (goodIn_of _ (by decide +kernel)) ggX1_isTrueBy_X1_isResidueTrue
set_option maxRecDepth 20000 in
theorem ggX1_isTrueBy_X1_isRingTrue : GoodIn wsX1_isTrueBy wsX1_isRingTrue := goodIn_ca (goodIn_ca (goodIn_r _ [80, 1, 10, 11, 4, 12, 6, 7, 8, 9, 88, 89, 90, 91] (by decide +kernel) (by decide +kernel)) (goodIn_sub (fun _ h => List.mem_cons_of_mem _ (List.mem_append_left _ (List.mem_append_right _ h))) (by decide +kernel))) (goodIn_sub (fun _ h => List.mem_cons_of_mem _ (List.mem_append_right _ h)) (by decide +kernel))
set_option maxRecDepth 20000 in
theorem gX1_isTrueBy_X1_isRingTrue : GoodIn wsX1_isTrueBy (wsV RX1 183 RX1 yX1_isRingTrue wsX1_isRingTrue) := goodIn_app (goodIn_of _ (by decide +kernel)) ggX1_isTrueBy_X1_isRingTrue
set_option maxRecDepth 20000 in
theorem ggX1_isTrueBy_X1_isMeasureTrue : GoodIn wsX1_isTrueBy wsX1_isMeasureTrue := goodIn_ca (goodIn_ca (goodIn_r _ [84, 54, 6, 7, 8, 9, 73, 74, 75, 4, 76, 55, 56, 57, 58, 59, 60, 61, 62, 20, 21, 22, 23, 24, 25, 26, 27, 85, 86, 87, 66, 67, 68, 69, 63, 64, 65, 88, 89, 90, 91, 92, 93, 94, 95] (by decide +kernel) (by decide +kernel)) (goodIn_sub (fun _ h => List.mem_cons_of_mem _ (List.mem_append_left _ (List.mem_append_right _ h))) (by decide +kernel))) (goodIn_sub (fun _ h => List.mem_cons_of_mem _ (List.mem_append_right _ h)) (by decide +kernel))
set_option maxRecDepth 20000 in
theorem gX1_isTrueBy_X1_isMeasureTrue : GoodIn wsX1_isTrueBy (wsV RX1 186 RX1 yX1_isMeasureTrue wsX1_isMeasureTrue) := goodIn_app (goodIn_of _ (by decide +kernel)) ggX1_isTrueBy_X1_isMeasureTrue
theorem dX1_isTrueBy_0 : decode cX1_isTrueBy 0 = .ok (.iload_n 1, 1) := by decide +kernel
theorem dX1_isTrueBy_1 : decode cX1_isTrueBy 1 = .ok (.invokestatic 169, 3) := by decide +kernel
theorem dX1_isTrueBy_4 : decode cX1_isTrueBy 4 = .ok (.ifCond .ne 5, 3) := by decide +kernel
theorem dX1_isTrueBy_7 : decode cX1_isTrueBy 7 = .ok (.iconst 0, 1) := by decide +kernel
theorem dX1_isTrueBy_8 : decode cX1_isTrueBy 8 = .ok (.ireturn, 1) := by decide +kernel
theorem dX1_isTrueBy_9 : decode cX1_isTrueBy 9 = .ok (.iconst 0, 1) := by decide +kernel
theorem dX1_isTrueBy_10 : decode cX1_isTrueBy 10 = .ok (.istore_n 2, 1) := by decide +kernel
theorem dX1_isTrueBy_11 : decode cX1_isTrueBy 11 = .ok (.iload_n 2, 1) := by decide +kernel
theorem dX1_isTrueBy_12 : decode cX1_isTrueBy 12 = .ok (.bipush 12, 2) := by decide +kernel
theorem dX1_isTrueBy_14 : decode cX1_isTrueBy 14 = .ok (.if_icmp .ge 78, 3) := by decide +kernel
theorem dX1_isTrueBy_17 : decode cX1_isTrueBy 17 = .ok (.aload_n 0, 1) := by decide +kernel
theorem dX1_isTrueBy_18 : decode cX1_isTrueBy 18 = .ok (.getfield 9, 3) := by decide +kernel
theorem dX1_isTrueBy_21 : decode cX1_isTrueBy 21 = .ok (.iload_n 2, 1) := by decide +kernel
theorem dX1_isTrueBy_22 : decode cX1_isTrueBy 22 = .ok (.iaload, 1) := by decide +kernel
theorem dX1_isTrueBy_23 : decode cX1_isTrueBy 23 = .ok (.istore_n 3, 1) := by decide +kernel
theorem dX1_isTrueBy_24 : decode cX1_isTrueBy 24 = .ok (.iload_n 3, 1) := by decide +kernel
theorem dX1_isTrueBy_25 : decode cX1_isTrueBy 25 = .ok (.iload_n 1, 1) := by decide +kernel
theorem dX1_isTrueBy_26 : decode cX1_isTrueBy 26 = .ok (.invokestatic 172, 3) := by decide +kernel
theorem dX1_isTrueBy_29 : decode cX1_isTrueBy 29 = .ok (.ifCond .eq 20, 3) := by decide +kernel
theorem dX1_isTrueBy_32 : decode cX1_isTrueBy 32 = .ok (.iload_n 3, 1) := by decide +kernel
theorem dX1_isTrueBy_33 : decode cX1_isTrueBy 33 = .ok (.aload_n 0, 1) := by decide +kernel
theorem dX1_isTrueBy_34 : decode cX1_isTrueBy 34 = .ok (.iload_n 2, 1) := by decide +kernel
theorem dX1_isTrueBy_35 : decode cX1_isTrueBy 35 = .ok (.invokevirtual 144, 3) := by decide +kernel
theorem dX1_isTrueBy_38 : decode cX1_isTrueBy 38 = .ok (.iload_n 1, 1) := by decide +kernel
theorem dX1_isTrueBy_39 : decode cX1_isTrueBy 39 = .ok (.invokestatic 176, 3) := by decide +kernel
theorem dX1_isTrueBy_42 : decode cX1_isTrueBy 42 = .ok (.ifCond .eq 7, 3) := by decide +kernel
theorem dX1_isTrueBy_45 : decode cX1_isTrueBy 45 = .ok (.iconst 1, 1) := by decide +kernel
theorem dX1_isTrueBy_46 : decode cX1_isTrueBy 46 = .ok (.goto 4, 3) := by decide +kernel
theorem dX1_isTrueBy_49 : decode cX1_isTrueBy 49 = .ok (.iconst 0, 1) := by decide +kernel
theorem dX1_isTrueBy_50 : decode cX1_isTrueBy 50 = .ok (.istore 4, 2) := by decide +kernel
theorem dX1_isTrueBy_52 : decode cX1_isTrueBy 52 = .ok (.iload 4, 2) := by decide +kernel
theorem dX1_isTrueBy_54 : decode cX1_isTrueBy 54 = .ok (.ifCond .eq 30, 3) := by decide +kernel
theorem dX1_isTrueBy_57 : decode cX1_isTrueBy 57 = .ok (.aload_n 0, 1) := by decide +kernel
theorem dX1_isTrueBy_58 : decode cX1_isTrueBy 58 = .ok (.iload_n 3, 1) := by decide +kernel
theorem dX1_isTrueBy_59 : decode cX1_isTrueBy 59 = .ok (.iload_n 1, 1) := by decide +kernel
theorem dX1_isTrueBy_60 : decode cX1_isTrueBy 60 = .ok (.invokevirtual 180, 3) := by decide +kernel
theorem dX1_isTrueBy_63 : decode cX1_isTrueBy 63 = .ok (.ifCond .eq 21, 3) := by decide +kernel
theorem dX1_isTrueBy_66 : decode cX1_isTrueBy 66 = .ok (.aload_n 0, 1) := by decide +kernel
theorem dX1_isTrueBy_67 : decode cX1_isTrueBy 67 = .ok (.iload_n 2, 1) := by decide +kernel
theorem dX1_isTrueBy_68 : decode cX1_isTrueBy 68 = .ok (.iload_n 1, 1) := by decide +kernel
theorem dX1_isTrueBy_69 : decode cX1_isTrueBy 69 = .ok (.invokevirtual 183, 3) := by decide +kernel
theorem dX1_isTrueBy_72 : decode cX1_isTrueBy 72 = .ok (.ifCond .eq 12, 3) := by decide +kernel
theorem dX1_isTrueBy_75 : decode cX1_isTrueBy 75 = .ok (.aload_n 0, 1) := by decide +kernel
theorem dX1_isTrueBy_76 : decode cX1_isTrueBy 76 = .ok (.iload_n 3, 1) := by decide +kernel
theorem dX1_isTrueBy_77 : decode cX1_isTrueBy 77 = .ok (.iload_n 1, 1) := by decide +kernel
theorem dX1_isTrueBy_78 : decode cX1_isTrueBy 78 = .ok (.invokevirtual 186, 3) := by decide +kernel
theorem dX1_isTrueBy_81 : decode cX1_isTrueBy 81 = .ok (.ifCond .ne 5, 3) := by decide +kernel
theorem dX1_isTrueBy_84 : decode cX1_isTrueBy 84 = .ok (.iconst 0, 1) := by decide +kernel
theorem dX1_isTrueBy_85 : decode cX1_isTrueBy 85 = .ok (.ireturn, 1) := by decide +kernel
theorem dX1_isTrueBy_86 : decode cX1_isTrueBy 86 = .ok (.iinc 2 1, 3) := by decide +kernel
theorem dX1_isTrueBy_89 : decode cX1_isTrueBy 89 = .ok (.goto (-78), 3) := by decide +kernel
theorem dX1_isTrueBy_92 : decode cX1_isTrueBy 92 = .ok (.iconst 1, 1) := by decide +kernel
theorem dX1_isTrueBy_93 : decode cX1_isTrueBy 93 = .ok (.ireturn, 1) := by decide +kernel
set_option maxRecDepth 20000 in
theorem ggX1_isRestTrue_X1_restOf : GoodIn wsX1_isRestTrue wsX1_restOf := goodIn_ca (goodIn_r _ [8, 9, 10, 7, 11, 1, 2, 3, 4, 12, 13, 14, 15, 16, 17] (by decide +kernel) (by decide +kernel)) (goodIn_sub (fun _ h => List.mem_cons_of_mem _ (List.mem_append_right _ h)) (by decide +kernel))
set_option maxRecDepth 20000 in
theorem gX1_isRestTrue_X1_restOf : GoodIn wsX1_isRestTrue (va_wsS RX1 62 yX1_restOf wsX1_restOf) := goodIn_app (goodIn_of _ (by decide +kernel)) ggX1_isRestTrue_X1_restOf
set_option maxRecDepth 20000 in
theorem ggX1_isRestTrue_X1_nearest : GoodIn wsX1_isRestTrue wsX1_nearest := goodIn_ca (goodIn_r _ [11, 1, 2, 3, 4, 12, 13, 7, 14, 15, 16, 17] (by decide +kernel) (by decide +kernel)) (goodIn_sub (fun _ h => List.mem_cons_of_mem _ (List.mem_append_right _ h)) (by decide +kernel))
set_option maxRecDepth 20000 in
theorem gX1_isRestTrue_X1_nearest : GoodIn wsX1_isRestTrue (va_wsS RX1 58 yX1_nearest wsX1_nearest) := goodIn_app (goodIn_of _ (by decide +kernel)) ggX1_isRestTrue_X1_nearest
set_option maxRecDepth 20000 in
theorem ggX1_isRestTrue_X1_cutOf : GoodIn wsX1_isRestTrue wsX1_cutOf := goodIn_ca (goodIn_r _ [17] (by decide +kernel) (by decide +kernel)) (goodIn_sub (fun _ h => List.mem_cons_of_mem _ (List.mem_append_right _ h)) (by decide +kernel))
set_option maxRecDepth 20000 in
theorem gX1_isRestTrue_X1_cutOf : GoodIn wsX1_isRestTrue (va_wsS RX1 71 yX1_cutOf wsX1_cutOf) := goodIn_app (goodIn_of _ (by decide +kernel)) ggX1_isRestTrue_X1_cutOf
theorem dX1_isRestTrue_0 : decode cX1_isRestTrue 0 = .ok (.iload_n 0, 1) := by decide +kernel
theorem dX1_isRestTrue_1 : decode cX1_isRestTrue 1 = .ok (.iload_n 1, 1) := by decide +kernel
theorem dX1_isRestTrue_2 : decode cX1_isRestTrue 2 = .ok (.invokestatic 62, 3) := by decide +kernel
theorem dX1_isRestTrue_5 : decode cX1_isRestTrue 5 = .ok (.istore_n 2, 1) := by decide +kernel
theorem dX1_isRestTrue_6 : decode cX1_isRestTrue 6 = .ok (.iconst 2, 1) := by decide +kernel
theorem dX1_isRestTrue_7 : decode cX1_isRestTrue 7 = .ok (.iload_n 2, 1) := by decide +kernel
theorem dX1_isRestTrue_8 : decode cX1_isRestTrue 8 = .ok (.invokestatic 65, 3) := by decide +kernel
theorem dX1_isRestTrue_11 : decode cX1_isRestTrue 11 = .ok (.imul, 1) := by decide +kernel
theorem dX1_isRestTrue_12 : decode cX1_isRestTrue 12 = .ok (.istore_n 3, 1) := by decide +kernel
theorem dX1_isRestTrue_13 : decode cX1_isRestTrue 13 = .ok (.iload_n 1, 1) := by decide +kernel
theorem dX1_isRestTrue_14 : decode cX1_isRestTrue 14 = .ok (.invokestatic 65, 3) := by decide +kernel
theorem dX1_isRestTrue_17 : decode cX1_isRestTrue 17 = .ok (.istore 4, 2) := by decide +kernel
theorem dX1_isRestTrue_19 : decode cX1_isRestTrue 19 = .ok (.iload_n 3, 1) := by decide +kernel
theorem dX1_isRestTrue_20 : decode cX1_isRestTrue 20 = .ok (.iload 4, 2) := by decide +kernel
theorem dX1_isRestTrue_22 : decode cX1_isRestTrue 22 = .ok (.if_icmp .lt 19, 3) := by decide +kernel
theorem dX1_isRestTrue_25 : decode cX1_isRestTrue 25 = .ok (.iload_n 3, 1) := by decide +kernel
theorem dX1_isRestTrue_26 : decode cX1_isRestTrue 26 = .ok (.iload 4, 2) := by decide +kernel
theorem dX1_isRestTrue_28 : decode cX1_isRestTrue 28 = .ok (.if_icmp .ne 17, 3) := by decide +kernel
theorem dX1_isRestTrue_31 : decode cX1_isRestTrue 31 = .ok (.iload_n 0, 1) := by decide +kernel
theorem dX1_isRestTrue_32 : decode cX1_isRestTrue 32 = .ok (.iload_n 1, 1) := by decide +kernel
theorem dX1_isRestTrue_33 : decode cX1_isRestTrue 33 = .ok (.invokestatic 58, 3) := by decide +kernel
theorem dX1_isRestTrue_36 : decode cX1_isRestTrue 36 = .ok (.iconst 1, 1) := by decide +kernel
theorem dX1_isRestTrue_37 : decode cX1_isRestTrue 37 = .ok (.iand, 1) := by decide +kernel
theorem dX1_isRestTrue_38 : decode cX1_isRestTrue 38 = .ok (.ifCond .ne 7, 3) := by decide +kernel
theorem dX1_isRestTrue_41 : decode cX1_isRestTrue 41 = .ok (.iconst 1, 1) := by decide +kernel
theorem dX1_isRestTrue_42 : decode cX1_isRestTrue 42 = .ok (.goto 4, 3) := by decide +kernel
theorem dX1_isRestTrue_45 : decode cX1_isRestTrue 45 = .ok (.iconst 0, 1) := by decide +kernel
theorem dX1_isRestTrue_46 : decode cX1_isRestTrue 46 = .ok (.istore 5, 2) := by decide +kernel
theorem dX1_isRestTrue_48 : decode cX1_isRestTrue 48 = .ok (.iload_n 0, 1) := by decide +kernel
theorem dX1_isRestTrue_49 : decode cX1_isRestTrue 49 = .ok (.iload_n 1, 1) := by decide +kernel
theorem dX1_isRestTrue_50 : decode cX1_isRestTrue 50 = .ok (.ineg, 1) := by decide +kernel
theorem dX1_isRestTrue_51 : decode cX1_isRestTrue 51 = .ok (.invokestatic 62, 3) := by decide +kernel
theorem dX1_isRestTrue_54 : decode cX1_isRestTrue 54 = .ok (.iload_n 2, 1) := by decide +kernel
theorem dX1_isRestTrue_55 : decode cX1_isRestTrue 55 = .ok (.if_icmp .ne 27, 3) := by decide +kernel
theorem dX1_isRestTrue_58 : decode cX1_isRestTrue 58 = .ok (.iload_n 0, 1) := by decide +kernel
theorem dX1_isRestTrue_59 : decode cX1_isRestTrue 59 = .ok (.ineg, 1) := by decide +kernel
theorem dX1_isRestTrue_60 : decode cX1_isRestTrue 60 = .ok (.iload_n 1, 1) := by decide +kernel
theorem dX1_isRestTrue_61 : decode cX1_isRestTrue 61 = .ok (.invokestatic 62, 3) := by decide +kernel
theorem dX1_isRestTrue_64 : decode cX1_isRestTrue 64 = .ok (.iload_n 2, 1) := by decide +kernel
theorem dX1_isRestTrue_65 : decode cX1_isRestTrue 65 = .ok (.ineg, 1) := by decide +kernel
theorem dX1_isRestTrue_66 : decode cX1_isRestTrue 66 = .ok (.if_icmp .ne 16, 3) := by decide +kernel
theorem dX1_isRestTrue_69 : decode cX1_isRestTrue 69 = .ok (.iload_n 2, 1) := by decide +kernel
theorem dX1_isRestTrue_70 : decode cX1_isRestTrue 70 = .ok (.iload_n 1, 1) := by decide +kernel
theorem dX1_isRestTrue_71 : decode cX1_isRestTrue 71 = .ok (.invokestatic 62, 3) := by decide +kernel
theorem dX1_isRestTrue_74 : decode cX1_isRestTrue 74 = .ok (.iload_n 2, 1) := by decide +kernel
theorem dX1_isRestTrue_75 : decode cX1_isRestTrue 75 = .ok (.if_icmp .ne 7, 3) := by decide +kernel
theorem dX1_isRestTrue_78 : decode cX1_isRestTrue 78 = .ok (.iconst 1, 1) := by decide +kernel
theorem dX1_isRestTrue_79 : decode cX1_isRestTrue 79 = .ok (.goto 4, 3) := by decide +kernel
theorem dX1_isRestTrue_82 : decode cX1_isRestTrue 82 = .ok (.iconst 0, 1) := by decide +kernel
theorem dX1_isRestTrue_83 : decode cX1_isRestTrue 83 = .ok (.istore 6, 2) := by decide +kernel
theorem dX1_isRestTrue_85 : decode cX1_isRestTrue 85 = .ok (.iload_n 2, 1) := by decide +kernel
theorem dX1_isRestTrue_86 : decode cX1_isRestTrue 86 = .ok (.iload_n 0, 1) := by decide +kernel
theorem dX1_isRestTrue_87 : decode cX1_isRestTrue 87 = .ok (.iload_n 1, 1) := by decide +kernel
theorem dX1_isRestTrue_88 : decode cX1_isRestTrue 88 = .ok (.invokestatic 71, 3) := by decide +kernel
theorem dX1_isRestTrue_91 : decode cX1_isRestTrue 91 = .ok (.isub, 1) := by decide +kernel
theorem dX1_isRestTrue_92 : decode cX1_isRestTrue 92 = .ok (.invokestatic 65, 3) := by decide +kernel
theorem dX1_isRestTrue_95 : decode cX1_isRestTrue 95 = .ok (.istore 7, 2) := by decide +kernel
theorem dX1_isRestTrue_97 : decode cX1_isRestTrue 97 = .ok (.iload 5, 2) := by decide +kernel
theorem dX1_isRestTrue_99 : decode cX1_isRestTrue 99 = .ok (.ifCond .eq 24, 3) := by decide +kernel
theorem dX1_isRestTrue_102 : decode cX1_isRestTrue 102 = .ok (.iload 6, 2) := by decide +kernel
theorem dX1_isRestTrue_104 : decode cX1_isRestTrue 104 = .ok (.ifCond .eq 19, 3) := by decide +kernel
theorem dX1_isRestTrue_107 : decode cX1_isRestTrue 107 = .ok (.iload 7, 2) := by decide +kernel
theorem dX1_isRestTrue_109 : decode cX1_isRestTrue 109 = .ok (.ifCond .eq 10, 3) := by decide +kernel
theorem dX1_isRestTrue_112 : decode cX1_isRestTrue 112 = .ok (.iload 7, 2) := by decide +kernel
theorem dX1_isRestTrue_114 : decode cX1_isRestTrue 114 = .ok (.iload 4, 2) := by decide +kernel
theorem dX1_isRestTrue_116 : decode cX1_isRestTrue 116 = .ok (.if_icmp .ne 7, 3) := by decide +kernel
theorem dX1_isRestTrue_119 : decode cX1_isRestTrue 119 = .ok (.iconst 1, 1) := by decide +kernel
theorem dX1_isRestTrue_120 : decode cX1_isRestTrue 120 = .ok (.goto 4, 3) := by decide +kernel
theorem dX1_isRestTrue_123 : decode cX1_isRestTrue 123 = .ok (.iconst 0, 1) := by decide +kernel
theorem dX1_isRestTrue_124 : decode cX1_isRestTrue 124 = .ok (.ireturn, 1) := by decide +kernel
set_option maxRecDepth 20000 in
theorem ggX1_isSignTrue_X1_restOf : GoodIn wsX1_isSignTrue wsX1_restOf := goodIn_ca (goodIn_r _ [5, 6, 7, 4, 8, 9, 10, 11, 12, 13, 14, 15, 16, 17, 18] (by decide +kernel) (by decide +kernel)) (goodIn_sub (fun _ h => List.mem_cons_of_mem _ (List.mem_append_right _ h)) (by decide +kernel))
set_option maxRecDepth 20000 in
theorem gX1_isSignTrue_X1_restOf : GoodIn wsX1_isSignTrue (va_wsS RX1 62 yX1_restOf wsX1_restOf) := goodIn_app (goodIn_of _ (by decide +kernel)) ggX1_isSignTrue_X1_restOf
set_option maxRecDepth 20000 in
theorem ggX1_isSignTrue_X1_bitsOf : GoodIn wsX1_isSignTrue wsX1_bitsOf := goodIn_r _ [21, 1, 9, 10, 11, 12, 22, 23, 24, 25, 26, 27] (by decide +kernel) (by decide +kernel)
set_option maxRecDepth 20000 in
theorem gX1_isSignTrue_X1_bitsOf : GoodIn wsX1_isSignTrue (va_wsS RX1 151 yX1_bitsOf wsX1_bitsOf) := goodIn_app (goodIn_of _ (by decide +kernel)) ggX1_isSignTrue_X1_bitsOf
theorem dX1_isSignTrue_0 : decode cX1_isSignTrue 0 = .ok (.iload_n 0, 1) := by decide +kernel
theorem dX1_isSignTrue_1 : decode cX1_isSignTrue 1 = .ok (.iload_n 2, 1) := by decide +kernel
theorem dX1_isSignTrue_2 : decode cX1_isSignTrue 2 = .ok (.invokestatic 62, 3) := by decide +kernel
theorem dX1_isSignTrue_5 : decode cX1_isSignTrue 5 = .ok (.iload_n 1, 1) := by decide +kernel
theorem dX1_isSignTrue_6 : decode cX1_isSignTrue 6 = .ok (.invokestatic 151, 3) := by decide +kernel
theorem dX1_isSignTrue_9 : decode cX1_isSignTrue 9 = .ok (.lstore_n 3, 1) := by decide +kernel
theorem dX1_isSignTrue_10 : decode cX1_isSignTrue 10 = .ok (.iload_n 0, 1) := by decide +kernel
theorem dX1_isSignTrue_11 : decode cX1_isSignTrue 11 = .ok (.ineg, 1) := by decide +kernel
theorem dX1_isSignTrue_12 : decode cX1_isSignTrue 12 = .ok (.iload_n 2, 1) := by decide +kernel
theorem dX1_isSignTrue_13 : decode cX1_isSignTrue 13 = .ok (.invokestatic 62, 3) := by decide +kernel
theorem dX1_isSignTrue_16 : decode cX1_isSignTrue 16 = .ok (.iload_n 1, 1) := by decide +kernel
theorem dX1_isSignTrue_17 : decode cX1_isSignTrue 17 = .ok (.ifCond .ne 7, 3) := by decide +kernel
theorem dX1_isSignTrue_20 : decode cX1_isSignTrue 20 = .ok (.iconst 1, 1) := by decide +kernel
theorem dX1_isSignTrue_21 : decode cX1_isSignTrue 21 = .ok (.goto 4, 3) := by decide +kernel
theorem dX1_isSignTrue_24 : decode cX1_isSignTrue 24 = .ok (.iconst 0, 1) := by decide +kernel
theorem dX1_isSignTrue_25 : decode cX1_isSignTrue 25 = .ok (.invokestatic 151, 3) := by decide +kernel
theorem dX1_isSignTrue_28 : decode cX1_isSignTrue 28 = .ok (.lstore 5, 2) := by decide +kernel
theorem dX1_isSignTrue_30 : decode cX1_isSignTrue 30 = .ok (.lload 5, 2) := by decide +kernel
theorem dX1_isSignTrue_32 : decode cX1_isSignTrue 32 = .ok (.lload_n 3, 1) := by decide +kernel
theorem dX1_isSignTrue_33 : decode cX1_isSignTrue 33 = .ok (.ldc2_w 155, 3) := by decide +kernel
theorem dX1_isSignTrue_36 : decode cX1_isSignTrue 36 = .ok (.lxor, 1) := by decide +kernel
theorem dX1_isSignTrue_37 : decode cX1_isSignTrue 37 = .ok (.lcmp, 1) := by decide +kernel
theorem dX1_isSignTrue_38 : decode cX1_isSignTrue 38 = .ok (.ifCond .ne 30, 3) := by decide +kernel
theorem dX1_isSignTrue_41 : decode cX1_isSignTrue 41 = .ok (.iload_n 0, 1) := by decide +kernel
theorem dX1_isSignTrue_42 : decode cX1_isSignTrue 42 = .ok (.iload_n 2, 1) := by decide +kernel
theorem dX1_isSignTrue_43 : decode cX1_isSignTrue 43 = .ok (.invokestatic 62, 3) := by decide +kernel
theorem dX1_isSignTrue_46 : decode cX1_isSignTrue 46 = .ok (.ifCond .ne 18, 3) := by decide +kernel
theorem dX1_isSignTrue_49 : decode cX1_isSignTrue 49 = .ok (.lload_n 3, 1) := by decide +kernel
theorem dX1_isSignTrue_50 : decode cX1_isSignTrue 50 = .ok (.lconst 0, 1) := by decide +kernel
theorem dX1_isSignTrue_51 : decode cX1_isSignTrue 51 = .ok (.lcmp, 1) := by decide +kernel
theorem dX1_isSignTrue_52 : decode cX1_isSignTrue 52 = .ok (.ifCond .ge 7, 3) := by decide +kernel
theorem dX1_isSignTrue_55 : decode cX1_isSignTrue 55 = .ok (.iconst 1, 1) := by decide +kernel
theorem dX1_isSignTrue_56 : decode cX1_isSignTrue 56 = .ok (.goto 4, 3) := by decide +kernel
theorem dX1_isSignTrue_59 : decode cX1_isSignTrue 59 = .ok (.iconst 0, 1) := by decide +kernel
theorem dX1_isSignTrue_60 : decode cX1_isSignTrue 60 = .ok (.iload_n 1, 1) := by decide +kernel
theorem dX1_isSignTrue_61 : decode cX1_isSignTrue 61 = .ok (.if_icmp .ne 7, 3) := by decide +kernel
theorem dX1_isSignTrue_64 : decode cX1_isSignTrue 64 = .ok (.iconst 1, 1) := by decide +kernel
theorem dX1_isSignTrue_65 : decode cX1_isSignTrue 65 = .ok (.goto 4, 3) := by decide +kernel
theorem dX1_isSignTrue_68 : decode cX1_isSignTrue 68 = .ok (.iconst 0, 1) := by decide +kernel
theorem dX1_isSignTrue_69 : decode cX1_isSignTrue 69 = .ok (.ireturn, 1) := by decide +kernel
set_option maxRecDepth 20000 in
theorem ggX1_isClockTrue_X1_residueOf : GoodIn wsX1_isClockTrue wsX1_residueOf := goodIn_ca (goodIn_r _ [8, 1, 2, 3, 4] (by decide +kernel) (by decide +kernel)) (goodIn_sub (fun _ h => List.mem_cons_of_mem _ (List.mem_append_right _ h)) (by decide +kernel))
set_option maxRecDepth 20000 in
theorem gX1_isClockTrue_X1_residueOf : GoodIn wsX1_isClockTrue (va_wsS RX1 147 yX1_residueOf wsX1_residueOf) := goodIn_app (goodIn_of _ (by decide +kernel)) ggX1_isClockTrue_X1_residueOf
theorem dX1_isClockTrue_0 : decode cX1_isClockTrue 0 = .ok (.iload_n 0, 1) := by decide +kernel
theorem dX1_isClockTrue_1 : decode cX1_isClockTrue 1 = .ok (.invokestatic 65, 3) := by decide +kernel
theorem dX1_isClockTrue_4 : decode cX1_isClockTrue 4 = .ok (.istore_n 1, 1) := by decide +kernel
theorem dX1_isClockTrue_5 : decode cX1_isClockTrue 5 = .ok (.iconst 0, 1) := by decide +kernel
theorem dX1_isClockTrue_6 : decode cX1_isClockTrue 6 = .ok (.istore_n 2, 1) := by decide +kernel
theorem dX1_isClockTrue_7 : decode cX1_isClockTrue 7 = .ok (.iload_n 1, 1) := by decide +kernel
theorem dX1_isClockTrue_8 : decode cX1_isClockTrue 8 = .ok (.ineg, 1) := by decide +kernel
theorem dX1_isClockTrue_9 : decode cX1_isClockTrue 9 = .ok (.istore_n 3, 1) := by decide +kernel
theorem dX1_isClockTrue_10 : decode cX1_isClockTrue 10 = .ok (.iload_n 3, 1) := by decide +kernel
theorem dX1_isClockTrue_11 : decode cX1_isClockTrue 11 = .ok (.iload_n 1, 1) := by decide +kernel
theorem dX1_isClockTrue_12 : decode cX1_isClockTrue 12 = .ok (.if_icmp .gt 22, 3) := by decide +kernel
theorem dX1_isClockTrue_15 : decode cX1_isClockTrue 15 = .ok (.iload_n 3, 1) := by decide +kernel
theorem dX1_isClockTrue_16 : decode cX1_isClockTrue 16 = .ok (.i2l, 1) := by decide +kernel
theorem dX1_isClockTrue_17 : decode cX1_isClockTrue 17 = .ok (.iload_n 0, 1) := by decide +kernel
theorem dX1_isClockTrue_18 : decode cX1_isClockTrue 18 = .ok (.invokestatic 147, 3) := by decide +kernel
theorem dX1_isClockTrue_21 : decode cX1_isClockTrue 21 = .ok (.iload_n 3, 1) := by decide +kernel
theorem dX1_isClockTrue_22 : decode cX1_isClockTrue 22 = .ok (.if_icmp .ne 6, 3) := by decide +kernel
theorem dX1_isClockTrue_25 : decode cX1_isClockTrue 25 = .ok (.iinc 2 1, 3) := by decide +kernel
theorem dX1_isClockTrue_28 : decode cX1_isClockTrue 28 = .ok (.iinc 3 1, 3) := by decide +kernel
theorem dX1_isClockTrue_31 : decode cX1_isClockTrue 31 = .ok (.goto (-21), 3) := by decide +kernel
theorem dX1_isClockTrue_34 : decode cX1_isClockTrue 34 = .ok (.iload_n 2, 1) := by decide +kernel
theorem dX1_isClockTrue_35 : decode cX1_isClockTrue 35 = .ok (.iload_n 1, 1) := by decide +kernel
theorem dX1_isClockTrue_36 : decode cX1_isClockTrue 36 = .ok (.if_icmp .ne 7, 3) := by decide +kernel
theorem dX1_isClockTrue_39 : decode cX1_isClockTrue 39 = .ok (.iconst 1, 1) := by decide +kernel
theorem dX1_isClockTrue_40 : decode cX1_isClockTrue 40 = .ok (.goto 4, 3) := by decide +kernel
theorem dX1_isClockTrue_43 : decode cX1_isClockTrue 43 = .ok (.iconst 0, 1) := by decide +kernel
theorem dX1_isClockTrue_44 : decode cX1_isClockTrue 44 = .ok (.ireturn, 1) := by decide +kernel
set_option maxRecDepth 20000 in
theorem ggX1_isResidueTrue_X1_residueOf : GoodIn wsX1_isResidueTrue wsX1_residueOf := goodIn_ca (goodIn_r _ [8, 1, 2, 3, 4] (by decide +kernel) (by decide +kernel)) (goodIn_sub (fun _ h => List.mem_cons_of_mem _ (List.mem_append_left _ (List.mem_append_right _ h))) (by decide +kernel))
set_option maxRecDepth 20000 in
theorem gX1_isResidueTrue_X1_residueOf : GoodIn wsX1_isResidueTrue (va_wsS RX1 147 yX1_residueOf wsX1_residueOf) := goodIn_app (goodIn_of _ (by decide +kernel)) ggX1_isResidueTrue_X1_residueOf
set_option maxRecDepth 20000 in
theorem ggX1_isResidueTrue_X1_cutOf : GoodIn wsX1_isResidueTrue wsX1_cutOf := goodIn_ca (goodIn_r _ [11] (by decide +kernel) (by decide +kernel)) (goodIn_sub (fun _ h => List.mem_cons_of_mem _ (List.mem_append_left _ (List.mem_append_right _ h))) (by decide +kernel))
set_option maxRecDepth 20000 in
theorem gX1_isResidueTrue_X1_cutOf : GoodIn wsX1_isResidueTrue (va_wsS RX1 71 yX1_cutOf wsX1_cutOf) := goodIn_app (goodIn_of _ (by decide +kernel)) ggX1_isResidueTrue_X1_cutOf
set_option maxRecDepth 20000 in
theorem ggX1_isResidueTrue_X1_inverseOf : GoodIn wsX1_isResidueTrue wsX1_inverseOf := goodIn_ca (goodIn_ca (goodIn_r _ [15, 16, 17, 18, 19, 20, 21, 22, 23, 24, 25, 7, 26, 1, 2, 3, 4, 27, 28, 29, 9, 10, 11, 30, 31, 32, 33, 34, 35, 36, 5, 6, 8, 37, 38, 39, 44, 45, 46, 47, 48, 49, 50, 51] (by decide +kernel) (by decide +kernel)) (goodIn_sub (fun _ h => List.mem_cons_of_mem _ (List.mem_append_right _ h)) (by decide +kernel))) (goodIn_sub (fun _ h => List.mem_cons_of_mem _ (List.mem_append_left _ (List.mem_append_right _ h))) (by decide +kernel))
set_option maxRecDepth 20000 in
theorem gX1_isResidueTrue_X1_inverseOf : GoodIn wsX1_isResidueTrue (wsV RX1 92 RX1 yX1_inverseOf wsX1_inverseOf) := goodIn_app (goodIn_of _ (by decide +kernel)) ggX1_isResidueTrue_X1_inverseOf
set_option maxRecDepth 20000 in
theorem ggX1_isResidueTrue_X1_measureOf : GoodIn wsX1_isResidueTrue wsX1_measureOf := goodIn_ca (goodIn_ca (goodIn_r _ [43, 16, 1, 2, 3, 4, 17, 18, 19, 20, 21, 22, 23, 24, 25, 7, 26, 27, 28, 29, 9, 10, 11, 44, 45, 46, 47, 48, 49, 50, 51] (by decide +kernel) (by decide +kernel)) (goodIn_sub (fun _ h => List.mem_cons_of_mem _ (List.mem_append_right _ h)) (by decide +kernel))) (goodIn_sub (fun _ h => List.mem_cons_of_mem _ (List.mem_append_left _ (List.mem_append_right _ h))) (by decide +kernel))
set_option maxRecDepth 20000 in
theorem gX1_isResidueTrue_X1_measureOf : GoodIn wsX1_isResidueTrue (wsV RX1 100 RX1 yX1_measureOf wsX1_measureOf) := goodIn_app (goodIn_of _ (by decide +kernel)) ggX1_isResidueTrue_X1_measureOf
theorem dX1_isResidueTrue_0 : decode cX1_isResidueTrue 0 = .ok (.iload_n 1, 1) := by decide +kernel
theorem dX1_isResidueTrue_1 : decode cX1_isResidueTrue 1 = .ok (.i2l, 1) := by decide +kernel
theorem dX1_isResidueTrue_2 : decode cX1_isResidueTrue 2 = .ok (.iload_n 2, 1) := by decide +kernel
theorem dX1_isResidueTrue_3 : decode cX1_isResidueTrue 3 = .ok (.invokestatic 147, 3) := by decide +kernel
theorem dX1_isResidueTrue_6 : decode cX1_isResidueTrue 6 = .ok (.istore_n 3, 1) := by decide +kernel
theorem dX1_isResidueTrue_7 : decode cX1_isResidueTrue 7 = .ok (.iload_n 2, 1) := by decide +kernel
theorem dX1_isResidueTrue_8 : decode cX1_isResidueTrue 8 = .ok (.invokestatic 65, 3) := by decide +kernel
theorem dX1_isResidueTrue_11 : decode cX1_isResidueTrue 11 = .ok (.istore 4, 2) := by decide +kernel
theorem dX1_isResidueTrue_13 : decode cX1_isResidueTrue 13 = .ok (.iconst 2, 1) := by decide +kernel
theorem dX1_isResidueTrue_14 : decode cX1_isResidueTrue 14 = .ok (.iload_n 3, 1) := by decide +kernel
theorem dX1_isResidueTrue_15 : decode cX1_isResidueTrue 15 = .ok (.imul, 1) := by decide +kernel
theorem dX1_isResidueTrue_16 : decode cX1_isResidueTrue 16 = .ok (.iload 4, 2) := by decide +kernel
theorem dX1_isResidueTrue_18 : decode cX1_isResidueTrue 18 = .ok (.ineg, 1) := by decide +kernel
theorem dX1_isResidueTrue_19 : decode cX1_isResidueTrue 19 = .ok (.if_icmp .le 25, 3) := by decide +kernel
theorem dX1_isResidueTrue_22 : decode cX1_isResidueTrue 22 = .ok (.iconst 2, 1) := by decide +kernel
theorem dX1_isResidueTrue_23 : decode cX1_isResidueTrue 23 = .ok (.iload_n 3, 1) := by decide +kernel
theorem dX1_isResidueTrue_24 : decode cX1_isResidueTrue 24 = .ok (.imul, 1) := by decide +kernel
theorem dX1_isResidueTrue_25 : decode cX1_isResidueTrue 25 = .ok (.iload 4, 2) := by decide +kernel
theorem dX1_isResidueTrue_27 : decode cX1_isResidueTrue 27 = .ok (.if_icmp .gt 17, 3) := by decide +kernel
theorem dX1_isResidueTrue_30 : decode cX1_isResidueTrue 30 = .ok (.iload_n 1, 1) := by decide +kernel
theorem dX1_isResidueTrue_31 : decode cX1_isResidueTrue 31 = .ok (.iload_n 3, 1) := by decide +kernel
theorem dX1_isResidueTrue_32 : decode cX1_isResidueTrue 32 = .ok (.isub, 1) := by decide +kernel
theorem dX1_isResidueTrue_33 : decode cX1_isResidueTrue 33 = .ok (.iload_n 2, 1) := by decide +kernel
theorem dX1_isResidueTrue_34 : decode cX1_isResidueTrue 34 = .ok (.invokestatic 71, 3) := by decide +kernel
theorem dX1_isResidueTrue_37 : decode cX1_isResidueTrue 37 = .ok (.ifCond .ne 7, 3) := by decide +kernel
theorem dX1_isResidueTrue_40 : decode cX1_isResidueTrue 40 = .ok (.iconst 1, 1) := by decide +kernel
theorem dX1_isResidueTrue_41 : decode cX1_isResidueTrue 41 = .ok (.goto 4, 3) := by decide +kernel
theorem dX1_isResidueTrue_44 : decode cX1_isResidueTrue 44 = .ok (.iconst 0, 1) := by decide +kernel
theorem dX1_isResidueTrue_45 : decode cX1_isResidueTrue 45 = .ok (.istore 5, 2) := by decide +kernel
theorem dX1_isResidueTrue_47 : decode cX1_isResidueTrue 47 = .ok (.aload_n 0, 1) := by decide +kernel
theorem dX1_isResidueTrue_48 : decode cX1_isResidueTrue 48 = .ok (.iload_n 1, 1) := by decide +kernel
theorem dX1_isResidueTrue_49 : decode cX1_isResidueTrue 49 = .ok (.iload_n 2, 1) := by decide +kernel
theorem dX1_isResidueTrue_50 : decode cX1_isResidueTrue 50 = .ok (.invokevirtual 92, 3) := by decide +kernel
theorem dX1_isResidueTrue_53 : decode cX1_isResidueTrue 53 = .ok (.sipush 128, 3) := by decide +kernel
theorem dX1_isResidueTrue_56 : decode cX1_isResidueTrue 56 = .ok (.if_icmp .eq 7, 3) := by decide +kernel
theorem dX1_isResidueTrue_59 : decode cX1_isResidueTrue 59 = .ok (.iconst 1, 1) := by decide +kernel
theorem dX1_isResidueTrue_60 : decode cX1_isResidueTrue 60 = .ok (.goto 4, 3) := by decide +kernel
theorem dX1_isResidueTrue_63 : decode cX1_isResidueTrue 63 = .ok (.iconst 0, 1) := by decide +kernel
theorem dX1_isResidueTrue_64 : decode cX1_isResidueTrue 64 = .ok (.istore 6, 2) := by decide +kernel
theorem dX1_isResidueTrue_66 : decode cX1_isResidueTrue 66 = .ok (.iload 5, 2) := by decide +kernel
theorem dX1_isResidueTrue_68 : decode cX1_isResidueTrue 68 = .ok (.ifCond .eq 27, 3) := by decide +kernel
theorem dX1_isResidueTrue_71 : decode cX1_isResidueTrue 71 = .ok (.iload 6, 2) := by decide +kernel
theorem dX1_isResidueTrue_73 : decode cX1_isResidueTrue 73 = .ok (.aload_n 0, 1) := by decide +kernel
theorem dX1_isResidueTrue_74 : decode cX1_isResidueTrue 74 = .ok (.iload_n 1, 1) := by decide +kernel
theorem dX1_isResidueTrue_75 : decode cX1_isResidueTrue 75 = .ok (.iload_n 2, 1) := by decide +kernel
theorem dX1_isResidueTrue_76 : decode cX1_isResidueTrue 76 = .ok (.invokevirtual 100, 3) := by decide +kernel
theorem dX1_isResidueTrue_79 : decode cX1_isResidueTrue 79 = .ok (.iconst 1, 1) := by decide +kernel
theorem dX1_isResidueTrue_80 : decode cX1_isResidueTrue 80 = .ok (.if_icmp .ne 7, 3) := by decide +kernel
theorem dX1_isResidueTrue_83 : decode cX1_isResidueTrue 83 = .ok (.iconst 1, 1) := by decide +kernel
theorem dX1_isResidueTrue_84 : decode cX1_isResidueTrue 84 = .ok (.goto 4, 3) := by decide +kernel
theorem dX1_isResidueTrue_87 : decode cX1_isResidueTrue 87 = .ok (.iconst 0, 1) := by decide +kernel
theorem dX1_isResidueTrue_88 : decode cX1_isResidueTrue 88 = .ok (.if_icmp .ne 7, 3) := by decide +kernel
theorem dX1_isResidueTrue_91 : decode cX1_isResidueTrue 91 = .ok (.iconst 1, 1) := by decide +kernel
theorem dX1_isResidueTrue_92 : decode cX1_isResidueTrue 92 = .ok (.goto 4, 3) := by decide +kernel
theorem dX1_isResidueTrue_95 : decode cX1_isResidueTrue 95 = .ok (.iconst 0, 1) := by decide +kernel
theorem dX1_isResidueTrue_96 : decode cX1_isResidueTrue 96 = .ok (.ireturn, 1) := by decide +kernel
set_option maxRecDepth 20000 in
theorem ggX1_isRingTrue_X1_residueOf : GoodIn wsX1_isRingTrue wsX1_residueOf := goodIn_ca (goodIn_r _ [5, 6, 7, 8, 9] (by decide +kernel) (by decide +kernel)) (goodIn_sub (fun _ h => List.mem_cons_of_mem _ (List.mem_append_right _ h)) (by decide +kernel))
set_option maxRecDepth 20000 in
theorem gX1_isRingTrue_X1_residueOf : GoodIn wsX1_isRingTrue (va_wsS RX1 147 yX1_residueOf wsX1_residueOf) := goodIn_app (goodIn_of _ (by decide +kernel)) ggX1_isRingTrue_X1_residueOf
theorem dX1_isRingTrue_0 : decode cX1_isRingTrue 0 = .ok (.aload_n 0, 1) := by decide +kernel
theorem dX1_isRingTrue_1 : decode cX1_isRingTrue 1 = .ok (.getfield 9, 3) := by decide +kernel
theorem dX1_isRingTrue_4 : decode cX1_isRingTrue 4 = .ok (.iload_n 1, 1) := by decide +kernel
theorem dX1_isRingTrue_5 : decode cX1_isRingTrue 5 = .ok (.iaload, 1) := by decide +kernel
theorem dX1_isRingTrue_6 : decode cX1_isRingTrue 6 = .ok (.istore_n 3, 1) := by decide +kernel
theorem dX1_isRingTrue_7 : decode cX1_isRingTrue 7 = .ok (.iload_n 3, 1) := by decide +kernel
theorem dX1_isRingTrue_8 : decode cX1_isRingTrue 8 = .ok (.i2l, 1) := by decide +kernel
theorem dX1_isRingTrue_9 : decode cX1_isRingTrue 9 = .ok (.iload_n 2, 1) := by decide +kernel
theorem dX1_isRingTrue_10 : decode cX1_isRingTrue 10 = .ok (.invokestatic 147, 3) := by decide +kernel
theorem dX1_isRingTrue_13 : decode cX1_isRingTrue 13 = .ok (.istore 4, 2) := by decide +kernel
theorem dX1_isRingTrue_15 : decode cX1_isRingTrue 15 = .ok (.iload_n 1, 1) := by decide +kernel
theorem dX1_isRingTrue_16 : decode cX1_isRingTrue 16 = .ok (.istore 5, 2) := by decide +kernel
theorem dX1_isRingTrue_18 : decode cX1_isRingTrue 18 = .ok (.iload 5, 2) := by decide +kernel
theorem dX1_isRingTrue_20 : decode cX1_isRingTrue 20 = .ok (.bipush 12, 2) := by decide +kernel
theorem dX1_isRingTrue_22 : decode cX1_isRingTrue 22 = .ok (.if_icmp .ge 97, 3) := by decide +kernel
theorem dX1_isRingTrue_25 : decode cX1_isRingTrue 25 = .ok (.aload_n 0, 1) := by decide +kernel
theorem dX1_isRingTrue_26 : decode cX1_isRingTrue 26 = .ok (.getfield 9, 3) := by decide +kernel
theorem dX1_isRingTrue_29 : decode cX1_isRingTrue 29 = .ok (.iload 5, 2) := by decide +kernel
theorem dX1_isRingTrue_31 : decode cX1_isRingTrue 31 = .ok (.iaload, 1) := by decide +kernel
theorem dX1_isRingTrue_32 : decode cX1_isRingTrue 32 = .ok (.istore 6, 2) := by decide +kernel
theorem dX1_isRingTrue_34 : decode cX1_isRingTrue 34 = .ok (.iload 6, 2) := by decide +kernel
theorem dX1_isRingTrue_36 : decode cX1_isRingTrue 36 = .ok (.i2l, 1) := by decide +kernel
theorem dX1_isRingTrue_37 : decode cX1_isRingTrue 37 = .ok (.iload_n 2, 1) := by decide +kernel
theorem dX1_isRingTrue_38 : decode cX1_isRingTrue 38 = .ok (.invokestatic 147, 3) := by decide +kernel
theorem dX1_isRingTrue_41 : decode cX1_isRingTrue 41 = .ok (.istore 7, 2) := by decide +kernel
theorem dX1_isRingTrue_43 : decode cX1_isRingTrue 43 = .ok (.iload 4, 2) := by decide +kernel
theorem dX1_isRingTrue_45 : decode cX1_isRingTrue 45 = .ok (.iload 7, 2) := by decide +kernel
theorem dX1_isRingTrue_47 : decode cX1_isRingTrue 47 = .ok (.iadd, 1) := by decide +kernel
theorem dX1_isRingTrue_48 : decode cX1_isRingTrue 48 = .ok (.i2l, 1) := by decide +kernel
theorem dX1_isRingTrue_49 : decode cX1_isRingTrue 49 = .ok (.iload_n 2, 1) := by decide +kernel
theorem dX1_isRingTrue_50 : decode cX1_isRingTrue 50 = .ok (.invokestatic 147, 3) := by decide +kernel
theorem dX1_isRingTrue_53 : decode cX1_isRingTrue 53 = .ok (.iload_n 3, 1) := by decide +kernel
theorem dX1_isRingTrue_54 : decode cX1_isRingTrue 54 = .ok (.iload 6, 2) := by decide +kernel
theorem dX1_isRingTrue_56 : decode cX1_isRingTrue 56 = .ok (.iadd, 1) := by decide +kernel
theorem dX1_isRingTrue_57 : decode cX1_isRingTrue 57 = .ok (.i2l, 1) := by decide +kernel
theorem dX1_isRingTrue_58 : decode cX1_isRingTrue 58 = .ok (.iload_n 2, 1) := by decide +kernel
theorem dX1_isRingTrue_59 : decode cX1_isRingTrue 59 = .ok (.invokestatic 147, 3) := by decide +kernel
theorem dX1_isRingTrue_62 : decode cX1_isRingTrue 62 = .ok (.if_icmp .ne 7, 3) := by decide +kernel
theorem dX1_isRingTrue_65 : decode cX1_isRingTrue 65 = .ok (.iconst 1, 1) := by decide +kernel
theorem dX1_isRingTrue_66 : decode cX1_isRingTrue 66 = .ok (.goto 4, 3) := by decide +kernel
theorem dX1_isRingTrue_69 : decode cX1_isRingTrue 69 = .ok (.iconst 0, 1) := by decide +kernel
theorem dX1_isRingTrue_70 : decode cX1_isRingTrue 70 = .ok (.istore 8, 2) := by decide +kernel
theorem dX1_isRingTrue_72 : decode cX1_isRingTrue 72 = .ok (.iload 4, 2) := by decide +kernel
theorem dX1_isRingTrue_74 : decode cX1_isRingTrue 74 = .ok (.iload 7, 2) := by decide +kernel
theorem dX1_isRingTrue_76 : decode cX1_isRingTrue 76 = .ok (.imul, 1) := by decide +kernel
theorem dX1_isRingTrue_77 : decode cX1_isRingTrue 77 = .ok (.i2l, 1) := by decide +kernel
theorem dX1_isRingTrue_78 : decode cX1_isRingTrue 78 = .ok (.iload_n 2, 1) := by decide +kernel
theorem dX1_isRingTrue_79 : decode cX1_isRingTrue 79 = .ok (.invokestatic 147, 3) := by decide +kernel
theorem dX1_isRingTrue_82 : decode cX1_isRingTrue 82 = .ok (.iload_n 3, 1) := by decide +kernel
theorem dX1_isRingTrue_83 : decode cX1_isRingTrue 83 = .ok (.iload 6, 2) := by decide +kernel
theorem dX1_isRingTrue_85 : decode cX1_isRingTrue 85 = .ok (.imul, 1) := by decide +kernel
theorem dX1_isRingTrue_86 : decode cX1_isRingTrue 86 = .ok (.i2l, 1) := by decide +kernel
theorem dX1_isRingTrue_87 : decode cX1_isRingTrue 87 = .ok (.iload_n 2, 1) := by decide +kernel
theorem dX1_isRingTrue_88 : decode cX1_isRingTrue 88 = .ok (.invokestatic 147, 3) := by decide +kernel
theorem dX1_isRingTrue_91 : decode cX1_isRingTrue 91 = .ok (.if_icmp .ne 7, 3) := by decide +kernel
theorem dX1_isRingTrue_94 : decode cX1_isRingTrue 94 = .ok (.iconst 1, 1) := by decide +kernel
theorem dX1_isRingTrue_95 : decode cX1_isRingTrue 95 = .ok (.goto 4, 3) := by decide +kernel
theorem dX1_isRingTrue_98 : decode cX1_isRingTrue 98 = .ok (.iconst 0, 1) := by decide +kernel
theorem dX1_isRingTrue_99 : decode cX1_isRingTrue 99 = .ok (.istore 9, 2) := by decide +kernel
theorem dX1_isRingTrue_101 : decode cX1_isRingTrue 101 = .ok (.iload 8, 2) := by decide +kernel
theorem dX1_isRingTrue_103 : decode cX1_isRingTrue 103 = .ok (.ifCond .eq 8, 3) := by decide +kernel
theorem dX1_isRingTrue_106 : decode cX1_isRingTrue 106 = .ok (.iload 9, 2) := by decide +kernel
theorem dX1_isRingTrue_108 : decode cX1_isRingTrue 108 = .ok (.ifCond .ne 5, 3) := by decide +kernel
theorem dX1_isRingTrue_111 : decode cX1_isRingTrue 111 = .ok (.iconst 0, 1) := by decide +kernel
theorem dX1_isRingTrue_112 : decode cX1_isRingTrue 112 = .ok (.ireturn, 1) := by decide +kernel
theorem dX1_isRingTrue_113 : decode cX1_isRingTrue 113 = .ok (.iinc 5 1, 3) := by decide +kernel
theorem dX1_isRingTrue_116 : decode cX1_isRingTrue 116 = .ok (.goto (-98), 3) := by decide +kernel
theorem dX1_isRingTrue_119 : decode cX1_isRingTrue 119 = .ok (.iconst 1, 1) := by decide +kernel
theorem dX1_isRingTrue_120 : decode cX1_isRingTrue 120 = .ok (.ireturn, 1) := by decide +kernel
set_option maxRecDepth 20000 in
theorem ggX1_isMeasureTrue_X1_measureOf : GoodIn wsX1_isMeasureTrue wsX1_measureOf := goodIn_ca (goodIn_ca (goodIn_r _ [10, 1, 2, 3, 4, 5, 11, 12, 13, 14, 15, 16, 17, 18, 19, 9, 20, 21, 22, 23, 24, 25, 26, 37, 38, 39, 40, 41, 42, 43, 44] (by decide +kernel) (by decide +kernel)) (goodIn_sub (fun _ h => List.mem_cons_of_mem _ (List.mem_append_left _ (List.mem_append_right _ h))) (by decide +kernel))) (goodIn_sub (fun _ h => List.mem_cons_of_mem _ (List.mem_append_right _ h)) (by decide +kernel))
set_option maxRecDepth 20000 in
theorem gX1_isMeasureTrue_X1_measureOf : GoodIn wsX1_isMeasureTrue (wsV RX1 100 RX1 yX1_measureOf wsX1_measureOf) := goodIn_app (goodIn_of _ (by decide +kernel)) ggX1_isMeasureTrue_X1_measureOf
set_option maxRecDepth 20000 in
theorem ggX1_isMeasureTrue_X0_aboveLine : GoodIn wsX1_isMeasureTrue wsX0_aboveLine := goodIn_ca (goodIn_r _ [29, 30, 31, 32, 12, 33, 16, 17, 41, 42, 43, 44] (by decide +kernel) (by decide +kernel)) (goodIn_sub (fun _ h => List.mem_cons_of_mem _ (List.mem_append_left _ (List.mem_append_right _ h))) (by decide +kernel))
set_option maxRecDepth 20000 in
theorem gX1_isMeasureTrue_X0_aboveLine_n124 : GoodIn wsX1_isMeasureTrue (wsX0_aboveLine) := ggX1_isMeasureTrue_X0_aboveLine
set_option maxRecDepth 20000 in
theorem ggX1_isMeasureTrue_X0_belowLine : GoodIn wsX1_isMeasureTrue wsX0_belowLine := goodIn_ca (goodIn_r _ [36, 30, 31, 32, 12, 33, 16, 17, 41, 42, 43, 44] (by decide +kernel) (by decide +kernel)) (goodIn_sub (fun _ h => List.mem_cons_of_mem _ (List.mem_append_left _ (List.mem_append_right _ h))) (by decide +kernel))
set_option maxRecDepth 20000 in
theorem gX1_isMeasureTrue_X0_belowLine_n127 : GoodIn wsX1_isMeasureTrue (wsX0_belowLine) := ggX1_isMeasureTrue_X0_belowLine
set_option maxRecDepth 20000 in
theorem ggX1_isMeasureTrue_X1_cutOf : GoodIn wsX1_isMeasureTrue wsX1_cutOf := goodIn_ca (goodIn_r _ [26] (by decide +kernel) (by decide +kernel)) (goodIn_sub (fun _ h => List.mem_cons_of_mem _ (List.mem_append_right _ h)) (by decide +kernel))
set_option maxRecDepth 20000 in
theorem gX1_isMeasureTrue_X1_cutOf : GoodIn wsX1_isMeasureTrue (va_wsS RX1 71 yX1_cutOf wsX1_cutOf) := goodIn_app (goodIn_of _ (by decide +kernel)) ggX1_isMeasureTrue_X1_cutOf
theorem dX1_isMeasureTrue_0 : decode cX1_isMeasureTrue 0 = .ok (.aload_n 0, 1) := by decide +kernel
theorem dX1_isMeasureTrue_1 : decode cX1_isMeasureTrue 1 = .ok (.iload_n 1, 1) := by decide +kernel
theorem dX1_isMeasureTrue_2 : decode cX1_isMeasureTrue 2 = .ok (.iload_n 2, 1) := by decide +kernel
theorem dX1_isMeasureTrue_3 : decode cX1_isMeasureTrue 3 = .ok (.invokevirtual 100, 3) := by decide +kernel
theorem dX1_isMeasureTrue_6 : decode cX1_isMeasureTrue 6 = .ok (.istore_n 3, 1) := by decide +kernel
theorem dX1_isMeasureTrue_7 : decode cX1_isMeasureTrue 7 = .ok (.aload_n 0, 1) := by decide +kernel
theorem dX1_isMeasureTrue_8 : decode cX1_isMeasureTrue 8 = .ok (.getfield 24, 3) := by decide +kernel
theorem dX1_isMeasureTrue_11 : decode cX1_isMeasureTrue 11 = .ok (.getfield 109, 3) := by decide +kernel
theorem dX1_isMeasureTrue_14 : decode cX1_isMeasureTrue 14 = .ok (.istore 4, 2) := by decide +kernel
theorem dX1_isMeasureTrue_16 : decode cX1_isMeasureTrue 16 = .ok (.aload_n 0, 1) := by decide +kernel
theorem dX1_isMeasureTrue_17 : decode cX1_isMeasureTrue 17 = .ok (.getfield 24, 3) := by decide +kernel
theorem dX1_isMeasureTrue_20 : decode cX1_isMeasureTrue 20 = .ok (.iload 4, 2) := by decide +kernel
theorem dX1_isMeasureTrue_22 : decode cX1_isMeasureTrue 22 = .ok (.invokevirtual 124, 3) := by decide +kernel
theorem dX1_isMeasureTrue_25 : decode cX1_isMeasureTrue 25 = .ok (.istore 5, 2) := by decide +kernel
theorem dX1_isMeasureTrue_27 : decode cX1_isMeasureTrue 27 = .ok (.aload_n 0, 1) := by decide +kernel
theorem dX1_isMeasureTrue_28 : decode cX1_isMeasureTrue 28 = .ok (.getfield 24, 3) := by decide +kernel
theorem dX1_isMeasureTrue_31 : decode cX1_isMeasureTrue 31 = .ok (.iload 4, 2) := by decide +kernel
theorem dX1_isMeasureTrue_33 : decode cX1_isMeasureTrue 33 = .ok (.invokevirtual 127, 3) := by decide +kernel
theorem dX1_isMeasureTrue_36 : decode cX1_isMeasureTrue 36 = .ok (.istore 6, 2) := by decide +kernel
theorem dX1_isMeasureTrue_38 : decode cX1_isMeasureTrue 38 = .ok (.iload_n 3, 1) := by decide +kernel
theorem dX1_isMeasureTrue_39 : decode cX1_isMeasureTrue 39 = .ok (.ifCond .le 23, 3) := by decide +kernel
theorem dX1_isMeasureTrue_42 : decode cX1_isMeasureTrue 42 = .ok (.iload_n 1, 1) := by decide +kernel
theorem dX1_isMeasureTrue_43 : decode cX1_isMeasureTrue 43 = .ok (.iload_n 3, 1) := by decide +kernel
theorem dX1_isMeasureTrue_44 : decode cX1_isMeasureTrue 44 = .ok (.invokestatic 71, 3) := by decide +kernel
theorem dX1_isMeasureTrue_47 : decode cX1_isMeasureTrue 47 = .ok (.ifCond .ne 15, 3) := by decide +kernel
theorem dX1_isMeasureTrue_50 : decode cX1_isMeasureTrue 50 = .ok (.iload_n 2, 1) := by decide +kernel
theorem dX1_isMeasureTrue_51 : decode cX1_isMeasureTrue 51 = .ok (.iload_n 3, 1) := by decide +kernel
theorem dX1_isMeasureTrue_52 : decode cX1_isMeasureTrue 52 = .ok (.invokestatic 71, 3) := by decide +kernel
theorem dX1_isMeasureTrue_55 : decode cX1_isMeasureTrue 55 = .ok (.ifCond .ne 7, 3) := by decide +kernel
theorem dX1_isMeasureTrue_58 : decode cX1_isMeasureTrue 58 = .ok (.iconst 1, 1) := by decide +kernel
theorem dX1_isMeasureTrue_59 : decode cX1_isMeasureTrue 59 = .ok (.goto 4, 3) := by decide +kernel
theorem dX1_isMeasureTrue_62 : decode cX1_isMeasureTrue 62 = .ok (.iconst 0, 1) := by decide +kernel
theorem dX1_isMeasureTrue_63 : decode cX1_isMeasureTrue 63 = .ok (.istore 7, 2) := by decide +kernel
theorem dX1_isMeasureTrue_65 : decode cX1_isMeasureTrue 65 = .ok (.iload 5, 2) := by decide +kernel
theorem dX1_isMeasureTrue_67 : decode cX1_isMeasureTrue 67 = .ok (.invokestatic 65, 3) := by decide +kernel
theorem dX1_isMeasureTrue_70 : decode cX1_isMeasureTrue 70 = .ok (.iload_n 3, 1) := by decide +kernel
theorem dX1_isMeasureTrue_71 : decode cX1_isMeasureTrue 71 = .ok (.imul, 1) := by decide +kernel
theorem dX1_isMeasureTrue_72 : decode cX1_isMeasureTrue 72 = .ok (.iload_n 1, 1) := by decide +kernel
theorem dX1_isMeasureTrue_73 : decode cX1_isMeasureTrue 73 = .ok (.invokestatic 65, 3) := by decide +kernel
theorem dX1_isMeasureTrue_76 : decode cX1_isMeasureTrue 76 = .ok (.if_icmp .ne 32, 3) := by decide +kernel
theorem dX1_isMeasureTrue_79 : decode cX1_isMeasureTrue 79 = .ok (.iload 6, 2) := by decide +kernel
theorem dX1_isMeasureTrue_81 : decode cX1_isMeasureTrue 81 = .ok (.invokestatic 65, 3) := by decide +kernel
theorem dX1_isMeasureTrue_84 : decode cX1_isMeasureTrue 84 = .ok (.iload_n 3, 1) := by decide +kernel
theorem dX1_isMeasureTrue_85 : decode cX1_isMeasureTrue 85 = .ok (.imul, 1) := by decide +kernel
theorem dX1_isMeasureTrue_86 : decode cX1_isMeasureTrue 86 = .ok (.iload_n 2, 1) := by decide +kernel
theorem dX1_isMeasureTrue_87 : decode cX1_isMeasureTrue 87 = .ok (.invokestatic 65, 3) := by decide +kernel
theorem dX1_isMeasureTrue_90 : decode cX1_isMeasureTrue 90 = .ok (.if_icmp .ne 18, 3) := by decide +kernel
theorem dX1_isMeasureTrue_93 : decode cX1_isMeasureTrue 93 = .ok (.iload 5, 2) := by decide +kernel
theorem dX1_isMeasureTrue_95 : decode cX1_isMeasureTrue 95 = .ok (.iload_n 2, 1) := by decide +kernel
theorem dX1_isMeasureTrue_96 : decode cX1_isMeasureTrue 96 = .ok (.imul, 1) := by decide +kernel
theorem dX1_isMeasureTrue_97 : decode cX1_isMeasureTrue 97 = .ok (.iload 6, 2) := by decide +kernel
theorem dX1_isMeasureTrue_99 : decode cX1_isMeasureTrue 99 = .ok (.iload_n 1, 1) := by decide +kernel
theorem dX1_isMeasureTrue_100 : decode cX1_isMeasureTrue 100 = .ok (.imul, 1) := by decide +kernel
theorem dX1_isMeasureTrue_101 : decode cX1_isMeasureTrue 101 = .ok (.if_icmp .ne 7, 3) := by decide +kernel
theorem dX1_isMeasureTrue_104 : decode cX1_isMeasureTrue 104 = .ok (.iconst 1, 1) := by decide +kernel
theorem dX1_isMeasureTrue_105 : decode cX1_isMeasureTrue 105 = .ok (.goto 4, 3) := by decide +kernel
theorem dX1_isMeasureTrue_108 : decode cX1_isMeasureTrue 108 = .ok (.iconst 0, 1) := by decide +kernel
theorem dX1_isMeasureTrue_109 : decode cX1_isMeasureTrue 109 = .ok (.istore 8, 2) := by decide +kernel
theorem dX1_isMeasureTrue_111 : decode cX1_isMeasureTrue 111 = .ok (.iload 5, 2) := by decide +kernel
theorem dX1_isMeasureTrue_113 : decode cX1_isMeasureTrue 113 = .ok (.aload_n 0, 1) := by decide +kernel
theorem dX1_isMeasureTrue_114 : decode cX1_isMeasureTrue 114 = .ok (.getfield 24, 3) := by decide +kernel
theorem dX1_isMeasureTrue_117 : decode cX1_isMeasureTrue 117 = .ok (.iload 4, 2) := by decide +kernel
theorem dX1_isMeasureTrue_119 : decode cX1_isMeasureTrue 119 = .ok (.iconst 1, 1) := by decide +kernel
theorem dX1_isMeasureTrue_120 : decode cX1_isMeasureTrue 120 = .ok (.isub, 1) := by decide +kernel
theorem dX1_isMeasureTrue_121 : decode cX1_isMeasureTrue 121 = .ok (.invokevirtual 127, 3) := by decide +kernel
theorem dX1_isMeasureTrue_124 : decode cX1_isMeasureTrue 124 = .ok (.imul, 1) := by decide +kernel
theorem dX1_isMeasureTrue_125 : decode cX1_isMeasureTrue 125 = .ok (.iload 6, 2) := by decide +kernel
theorem dX1_isMeasureTrue_127 : decode cX1_isMeasureTrue 127 = .ok (.aload_n 0, 1) := by decide +kernel
theorem dX1_isMeasureTrue_128 : decode cX1_isMeasureTrue 128 = .ok (.getfield 24, 3) := by decide +kernel
theorem dX1_isMeasureTrue_131 : decode cX1_isMeasureTrue 131 = .ok (.iload 4, 2) := by decide +kernel
theorem dX1_isMeasureTrue_133 : decode cX1_isMeasureTrue 133 = .ok (.iconst 1, 1) := by decide +kernel
theorem dX1_isMeasureTrue_134 : decode cX1_isMeasureTrue 134 = .ok (.isub, 1) := by decide +kernel
theorem dX1_isMeasureTrue_135 : decode cX1_isMeasureTrue 135 = .ok (.invokevirtual 124, 3) := by decide +kernel
theorem dX1_isMeasureTrue_138 : decode cX1_isMeasureTrue 138 = .ok (.imul, 1) := by decide +kernel
theorem dX1_isMeasureTrue_139 : decode cX1_isMeasureTrue 139 = .ok (.isub, 1) := by decide +kernel
theorem dX1_isMeasureTrue_140 : decode cX1_isMeasureTrue 140 = .ok (.istore 9, 2) := by decide +kernel
theorem dX1_isMeasureTrue_142 : decode cX1_isMeasureTrue 142 = .ok (.iload 7, 2) := by decide +kernel
theorem dX1_isMeasureTrue_144 : decode cX1_isMeasureTrue 144 = .ok (.ifCond .eq 31, 3) := by decide +kernel
theorem dX1_isMeasureTrue_147 : decode cX1_isMeasureTrue 147 = .ok (.iload 8, 2) := by decide +kernel
theorem dX1_isMeasureTrue_149 : decode cX1_isMeasureTrue 149 = .ok (.ifCond .eq 26, 3) := by decide +kernel
theorem dX1_isMeasureTrue_152 : decode cX1_isMeasureTrue 152 = .ok (.iload 9, 2) := by decide +kernel
theorem dX1_isMeasureTrue_154 : decode cX1_isMeasureTrue 154 = .ok (.invokestatic 65, 3) := by decide +kernel
theorem dX1_isMeasureTrue_157 : decode cX1_isMeasureTrue 157 = .ok (.iconst 1, 1) := by decide +kernel
theorem dX1_isMeasureTrue_158 : decode cX1_isMeasureTrue 158 = .ok (.if_icmp .ne 17, 3) := by decide +kernel
theorem dX1_isMeasureTrue_161 : decode cX1_isMeasureTrue 161 = .ok (.aload_n 0, 1) := by decide +kernel
theorem dX1_isMeasureTrue_162 : decode cX1_isMeasureTrue 162 = .ok (.getfield 24, 3) := by decide +kernel
theorem dX1_isMeasureTrue_165 : decode cX1_isMeasureTrue 165 = .ok (.getfield 189, 3) := by decide +kernel
theorem dX1_isMeasureTrue_168 : decode cX1_isMeasureTrue 168 = .ok (.ifCond .eq 7, 3) := by decide +kernel
theorem dX1_isMeasureTrue_171 : decode cX1_isMeasureTrue 171 = .ok (.iconst 1, 1) := by decide +kernel
theorem dX1_isMeasureTrue_172 : decode cX1_isMeasureTrue 172 = .ok (.goto 4, 3) := by decide +kernel
theorem dX1_isMeasureTrue_175 : decode cX1_isMeasureTrue 175 = .ok (.iconst 0, 1) := by decide +kernel
theorem dX1_isMeasureTrue_176 : decode cX1_isMeasureTrue 176 = .ok (.ireturn, 1) := by decide +kernel
