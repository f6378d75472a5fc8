theorem dX3_last_2 : decode cX3_last 2 = .ok (.iconst 0, 1) := by decide +kernel
theorem dX3_last_3 : decode cX3_last 3 = .ok (.istore_n 3, 1) := by decide +kernel
theorem dX3_last_4 : decode cX3_last 4 = .ok (.iload_n 3, 1) := by decide +kernel
theorem dX3_last_5 : decode cX3_last 5 = .ok (.aload_n 0, 1) := by decide +kernel
theorem dX3_last_6 : decode cX3_last 6 = .ok (.getfield 38, 3) := by decide +kernel
theorem dX3_last_9 : decode cX3_last 9 = .ok (.if_icmp .ge 25, 3) := by decide +kernel
theorem dX3_last_12 : decode cX3_last 12 = .ok (.aload_n 0, 1) := by decide +kernel
theorem dX3_last_13 : decode cX3_last 13 = .ok (.getfield 7, 3) := by decide +kernel
theorem dX3_last_16 : decode cX3_last 16 = .ok (.iload_n 3, 1) := by decide +kernel
theorem dX3_last_17 : decode cX3_last 17 = .ok (.iaload, 1) := by decide +kernel
theorem dX3_last_18 : decode cX3_last 18 = .ok (.iload_n 1, 1) := by decide +kernel
theorem dX3_last_19 : decode cX3_last 19 = .ok (.if_icmp .ne 7, 3) := by decide +kernel
theorem dX3_last_22 : decode cX3_last 22 = .ok (.iload_n 3, 1) := by decide +kernel
theorem dX3_last_23 : decode cX3_last 23 = .ok (.goto 4, 3) := by decide +kernel
theorem dX3_last_26 : decode cX3_last 26 = .ok (.iload_n 2, 1) := by decide +kernel
theorem dX3_last_27 : decode cX3_last 27 = .ok (.istore_n 2, 1) := by decide +kernel
theorem dX3_last_28 : decode cX3_last 28 = .ok (.iinc 3 1, 3) := by decide +kernel
theorem dX3_last_31 : decode cX3_last 31 = .ok (.goto (-27), 3) := by decide +kernel
theorem dX3_last_34 : decode cX3_last 34 = .ok (.iload_n 2, 1) := by decide +kernel
theorem dX3_last_35 : decode cX3_last 35 = .ok (.ireturn, 1) := by decide +kernel
set_option maxRecDepth 20000 in
theorem ggX3_kindOf_X3_last : GoodIn wsX3_kindOf wsX3_last := goodIn_r _ [6, 7, 8, 9, 10, 11, 12, 13, 14, 15, 16, 17, 18, 19] (by decide +kernel) (by decide +kernel)
set_option maxRecDepth 20000 in
theorem gX3_kindOf_X3_last : GoodIn wsX3_kindOf (wsV RX3 45 RX3 yX3_last wsX3_last) := goodIn_app (goodIn_of _ (by decide +kernel)) ggX3_kindOf_X3_last
theorem dX3_kindOf_0 : decode cX3_kindOf 0 = .ok (.aload_n 0, 1) := by decide +kernel
theorem dX3_kindOf_1 : decode cX3_kindOf 1 = .ok (.iload_n 1, 1) := by decide +kernel
theorem dX3_kindOf_2 : decode cX3_kindOf 2 = .ok (.invokevirtual 45, 3) := by decide +kernel
theorem dX3_kindOf_5 : decode cX3_kindOf 5 = .ok (.istore_n 2, 1) := by decide +kernel
theorem dX3_kindOf_6 : decode cX3_kindOf 6 = .ok (.iload_n 2, 1) := by decide +kernel
theorem dX3_kindOf_7 : decode cX3_kindOf 7 = .ok (.ifCond .ge 7, 3) := by decide +kernel
theorem dX3_kindOf_10 : decode cX3_kindOf 10 = .ok (.iconst 0, 1) := by decide +kernel
theorem dX3_kindOf_11 : decode cX3_kindOf 11 = .ok (.goto 9, 3) := by decide +kernel
theorem dX3_kindOf_14 : decode cX3_kindOf 14 = .ok (.aload_n 0, 1) := by decide +kernel
theorem dX3_kindOf_15 : decode cX3_kindOf 15 = .ok (.getfield 16, 3) := by decide +kernel
theorem dX3_kindOf_18 : decode cX3_kindOf 18 = .ok (.iload_n 2, 1) := by decide +kernel
theorem dX3_kindOf_19 : decode cX3_kindOf 19 = .ok (.iaload, 1) := by decide +kernel
theorem dX3_kindOf_20 : decode cX3_kindOf 20 = .ok (.ireturn, 1) := by decide +kernel
set_option maxRecDepth 20000 in
theorem ggX3_valueOf_X3_last : GoodIn wsX3_valueOf wsX3_last := goodIn_r _ [6, 7, 8, 9, 10, 11, 12, 13, 14, 15, 16, 17, 18, 19] (by decide +kernel) (by decide +kernel)
set_option maxRecDepth 20000 in
theorem gX3_valueOf_X3_last : GoodIn wsX3_valueOf (wsV RX3 45 RX3 yX3_last wsX3_last) := goodIn_app (goodIn_of _ (by decide +kernel)) ggX3_valueOf_X3_last
theorem dX3_valueOf_0 : decode cX3_valueOf 0 = .ok (.aload_n 0, 1) := by decide +kernel
theorem dX3_valueOf_1 : decode cX3_valueOf 1 = .ok (.iload_n 1, 1) := by decide +kernel
theorem dX3_valueOf_2 : decode cX3_valueOf 2 = .ok (.invokevirtual 45, 3) := by decide +kernel
theorem dX3_valueOf_5 : decode cX3_valueOf 5 = .ok (.istore_n 2, 1) := by decide +kernel
theorem dX3_valueOf_6 : decode cX3_valueOf 6 = .ok (.iload_n 2, 1) := by decide +kernel
theorem dX3_valueOf_7 : decode cX3_valueOf 7 = .ok (.ifCond .ge 7, 3) := by decide +kernel
theorem dX3_valueOf_10 : decode cX3_valueOf 10 = .ok (.iconst 0, 1) := by decide +kernel
theorem dX3_valueOf_11 : decode cX3_valueOf 11 = .ok (.goto 9, 3) := by decide +kernel
theorem dX3_valueOf_14 : decode cX3_valueOf 14 = .ok (.aload_n 0, 1) := by decide +kernel
theorem dX3_valueOf_15 : decode cX3_valueOf 15 = .ok (.getfield 19, 3) := by decide +kernel
theorem dX3_valueOf_18 : decode cX3_valueOf 18 = .ok (.iload_n 2, 1) := by decide +kernel
theorem dX3_valueOf_19 : decode cX3_valueOf 19 = .ok (.iaload, 1) := by decide +kernel
theorem dX3_valueOf_20 : decode cX3_valueOf 20 = .ok (.ireturn, 1) := by decide +kernel
theorem dX3_size_0 : decode cX3_size 0 = .ok (.iload_n 1, 1) := by decide +kernel
theorem dX3_size_1 : decode cX3_size 1 = .ok (.ifCond .ne 7, 3) := by decide +kernel
theorem dX3_size_4 : decode cX3_size 4 = .ok (.iconst 0, 1) := by decide +kernel
theorem dX3_size_5 : decode cX3_size 5 = .ok (.goto 18, 3) := by decide +kernel
theorem dX3_size_8 : decode cX3_size 8 = .ok (.aload_n 0, 1) := by decide +kernel
theorem dX3_size_9 : decode cX3_size 9 = .ok (.getfield 26, 3) := by decide +kernel
theorem dX3_size_12 : decode cX3_size 12 = .ok (.iload_n 1, 1) := by decide +kernel
theorem dX3_size_13 : decode cX3_size 13 = .ok (.iconst 1, 1) := by decide +kernel
theorem dX3_size_14 : decode cX3_size 14 = .ok (.iadd, 1) := by decide +kernel
theorem dX3_size_15 : decode cX3_size 15 = .ok (.iaload, 1) := by decide +kernel
theorem dX3_size_16 : decode cX3_size 16 = .ok (.aload_n 0, 1) := by decide +kernel
theorem dX3_size_17 : decode cX3_size 17 = .ok (.getfield 26, 3) := by decide +kernel
theorem dX3_size_20 : decode cX3_size 20 = .ok (.iload_n 1, 1) := by decide +kernel
theorem dX3_size_21 : decode cX3_size 21 = .ok (.iaload, 1) := by decide +kernel
theorem dX3_size_22 : decode cX3_size 22 = .ok (.isub, 1) := by decide +kernel
theorem dX3_size_23 : decode cX3_size 23 = .ok (.ireturn, 1) := by decide +kernel
set_option maxRecDepth 20000 in
theorem ggX3_set_X3_isCell : GoodIn wsX3_set wsX3_isCell := goodIn_r _ [5] (by decide +kernel) (by decide +kernel)
set_option maxRecDepth 20000 in
theorem gX3_set_X3_isCell : GoodIn wsX3_set (va_wsS RX3 49 yX3_isCell wsX3_isCell) := goodIn_app (goodIn_of _ (by decide +kernel)) ggX3_set_X3_isCell
set_option maxRecDepth 20000 in
theorem ggX3_set_X3_assign : GoodIn wsX3_set wsX3_assign := goodIn_r _ [9, 10, 11, 12, 13, 14, 15, 16, 17, 18, 4, 19, 20, 21, 22, 23, 24, 25, 26, 27, 28, 29, 30] (by decide +kernel) (by decide +kernel)
set_option maxRecDepth 20000 in
theorem gX3_set_X3_assign : GoodIn wsX3_set (wsV RX3 53 RX3 yX3_assign wsX3_assign) := goodIn_app (goodIn_of _ (by decide +kernel)) ggX3_set_X3_assign
theorem dX3_set_0 : decode cX3_set 0 = .ok (.aload_n 0, 1) := by decide +kernel
theorem dX3_set_1 : decode cX3_set 1 = .ok (.iconst 0, 1) := by decide +kernel
theorem dX3_set_2 : decode cX3_set 2 = .ok (.putfield 32, 3) := by decide +kernel
theorem dX3_set_5 : decode cX3_set 5 = .ok (.iload_n 1, 1) := by decide +kernel
theorem dX3_set_6 : decode cX3_set 6 = .ok (.invokestatic 49, 3) := by decide +kernel
theorem dX3_set_9 : decode cX3_set 9 = .ok (.ifCond .ne 5, 3) := by decide +kernel
theorem dX3_set_12 : decode cX3_set 12 = .ok (.iconst 0, 1) := by decide +kernel
theorem dX3_set_13 : decode cX3_set 13 = .ok (.ireturn, 1) := by decide +kernel
theorem dX3_set_14 : decode cX3_set 14 = .ok (.aload_n 0, 1) := by decide +kernel
theorem dX3_set_15 : decode cX3_set 15 = .ok (.iload_n 1, 1) := by decide +kernel
theorem dX3_set_16 : decode cX3_set 16 = .ok (.iconst 0, 1) := by decide +kernel
theorem dX3_set_17 : decode cX3_set 17 = .ok (.iload_n 2, 1) := by decide +kernel
theorem dX3_set_18 : decode cX3_set 18 = .ok (.iload_n 3, 1) := by decide +kernel
theorem dX3_set_19 : decode cX3_set 19 = .ok (.invokevirtual 53, 3) := by decide +kernel
theorem dX3_set_22 : decode cX3_set 22 = .ok (.iconst 1, 1) := by decide +kernel
theorem dX3_set_23 : decode cX3_set 23 = .ok (.ireturn, 1) := by decide +kernel
set_option maxRecDepth 20000 in
theorem ggX3_mean_X3_isName : GoodIn wsX3_mean wsX3_isName := goodIn_r _ [5] (by decide +kernel) (by decide +kernel)
set_option maxRecDepth 20000 in
theorem gX3_mean_X3_isName : GoodIn wsX3_mean (va_wsS RX3 57 yX3_isName wsX3_isName) := goodIn_app (goodIn_of _ (by decide +kernel)) ggX3_mean_X3_isName
set_option maxRecDepth 20000 in
theorem ggX3_mean_X3_assign : GoodIn wsX3_mean wsX3_assign := goodIn_r _ [9, 10, 11, 12, 13, 14, 15, 16, 17, 18, 4, 19, 20, 21, 22, 23, 24, 25, 26, 27, 28, 29, 30] (by decide +kernel) (by decide +kernel)
set_option maxRecDepth 20000 in
theorem gX3_mean_X3_assign : GoodIn wsX3_mean (wsV RX3 53 RX3 yX3_assign wsX3_assign) := goodIn_app (goodIn_of _ (by decide +kernel)) ggX3_mean_X3_assign
theorem dX3_mean_0 : decode cX3_mean 0 = .ok (.aload_n 0, 1) := by decide +kernel
theorem dX3_mean_1 : decode cX3_mean 1 = .ok (.iconst 0, 1) := by decide +kernel
theorem dX3_mean_2 : decode cX3_mean 2 = .ok (.putfield 32, 3) := by decide +kernel
theorem dX3_mean_5 : decode cX3_mean 5 = .ok (.iload_n 1, 1) := by decide +kernel
theorem dX3_mean_6 : decode cX3_mean 6 = .ok (.invokestatic 57, 3) := by decide +kernel
theorem dX3_mean_9 : decode cX3_mean 9 = .ok (.ifCond .eq 18, 3) := by decide +kernel
theorem dX3_mean_12 : decode cX3_mean 12 = .ok (.iload_n 2, 1) := by decide +kernel
theorem dX3_mean_13 : decode cX3_mean 13 = .ok (.ifCond .lt 14, 3) := by decide +kernel
theorem dX3_mean_16 : decode cX3_mean 16 = .ok (.iload_n 2, 1) := by decide +kernel
theorem dX3_mean_17 : decode cX3_mean 17 = .ok (.bipush 8, 2) := by decide +kernel
theorem dX3_mean_19 : decode cX3_mean 19 = .ok (.if_icmp .gt 8, 3) := by decide +kernel
theorem dX3_mean_22 : decode cX3_mean 22 = .ok (.iload_n 2, 1) := by decide +kernel
theorem dX3_mean_23 : decode cX3_mean 23 = .ok (.iconst 3, 1) := by decide +kernel
theorem dX3_mean_24 : decode cX3_mean 24 = .ok (.if_icmp .ne 5, 3) := by decide +kernel
theorem dX3_mean_27 : decode cX3_mean 27 = .ok (.iconst 0, 1) := by decide +kernel
theorem dX3_mean_28 : decode cX3_mean 28 = .ok (.ireturn, 1) := by decide +kernel
theorem dX3_mean_29 : decode cX3_mean 29 = .ok (.aload_n 0, 1) := by decide +kernel
theorem dX3_mean_30 : decode cX3_mean 30 = .ok (.sipush 3000, 3) := by decide +kernel
theorem dX3_mean_33 : decode cX3_mean 33 = .ok (.iload_n 1, 1) := by decide +kernel
theorem dX3_mean_34 : decode cX3_mean 34 = .ok (.iadd, 1) := by decide +kernel
theorem dX3_mean_35 : decode cX3_mean 35 = .ok (.iload_n 2, 1) := by decide +kernel
theorem dX3_mean_36 : decode cX3_mean 36 = .ok (.iload_n 3, 1) := by decide +kernel
theorem dX3_mean_37 : decode cX3_mean 37 = .ok (.iload 4, 2) := by decide +kernel
theorem dX3_mean_39 : decode cX3_mean 39 = .ok (.invokevirtual 53, 3) := by decide +kernel
theorem dX3_mean_42 : decode cX3_mean 42 = .ok (.iconst 1, 1) := by decide +kernel
theorem dX3_mean_43 : decode cX3_mean 43 = .ok (.ireturn, 1) := by decide +kernel
theorem dX3_draft_0 : decode cX3_draft 0 = .ok (.aload_n 0, 1) := by decide +kernel
theorem dX3_draft_1 : decode cX3_draft 1 = .ok (.iconst 0, 1) := by decide +kernel
theorem dX3_draft_2 : decode cX3_draft 2 = .ok (.putfield 32, 3) := by decide +kernel
theorem dX3_draft_5 : decode cX3_draft 5 = .ok (.aload_n 0, 1) := by decide +kernel
theorem dX3_draft_6 : decode cX3_draft 6 = .ok (.getfield 60, 3) := by decide +kernel
theorem dX3_draft_9 : decode cX3_draft 9 = .ok (.sipush 200, 3) := by decide +kernel
theorem dX3_draft_12 : decode cX3_draft 12 = .ok (.if_icmp .ne 5, 3) := by decide +kernel
theorem dX3_draft_15 : decode cX3_draft 15 = .ok (.iconst 0, 1) := by decide +kernel
theorem dX3_draft_16 : decode cX3_draft 16 = .ok (.ireturn, 1) := by decide +kernel
theorem dX3_draft_17 : decode cX3_draft 17 = .ok (.aload_n 0, 1) := by decide +kernel
theorem dX3_draft_18 : decode cX3_draft 18 = .ok (.getfield 29, 3) := by decide +kernel
theorem dX3_draft_21 : decode cX3_draft 21 = .ok (.aload_n 0, 1) := by decide +kernel
theorem dX3_draft_22 : decode cX3_draft 22 = .ok (.getfield 26, 3) := by decide +kernel
theorem dX3_draft_25 : decode cX3_draft 25 = .ok (.aload_n 0, 1) := by decide +kernel
theorem dX3_draft_26 : decode cX3_draft 26 = .ok (.getfield 22, 3) := by decide +kernel
theorem dX3_draft_29 : decode cX3_draft 29 = .ok (.iaload, 1) := by decide +kernel
theorem dX3_draft_30 : decode cX3_draft 30 = .ok (.aload_n 0, 1) := by decide +kernel
theorem dX3_draft_31 : decode cX3_draft 31 = .ok (.getfield 60, 3) := by decide +kernel
theorem dX3_draft_34 : decode cX3_draft 34 = .ok (.iadd, 1) := by decide +kernel
theorem dX3_draft_35 : decode cX3_draft 35 = .ok (.iload_n 1, 1) := by decide +kernel
theorem dX3_draft_36 : decode cX3_draft 36 = .ok (.iastore, 1) := by decide +kernel
theorem dX3_draft_37 : decode cX3_draft 37 = .ok (.aload_n 0, 1) := by decide +kernel
theorem dX3_draft_38 : decode cX3_draft 38 = .ok (.dup, 1) := by decide +kernel
theorem dX3_draft_39 : decode cX3_draft 39 = .ok (.getfield 60, 3) := by decide +kernel
theorem dX3_draft_42 : decode cX3_draft 42 = .ok (.iconst 1, 1) := by decide +kernel
theorem dX3_draft_43 : decode cX3_draft 43 = .ok (.iadd, 1) := by decide +kernel
theorem dX3_draft_44 : decode cX3_draft 44 = .ok (.putfield 60, 3) := by decide +kernel
theorem dX3_draft_47 : decode cX3_draft 47 = .ok (.iconst 1, 1) := by decide +kernel
theorem dX3_draft_48 : decode cX3_draft 48 = .ok (.ireturn, 1) := by decide +kernel
theorem dX3_taken_0 : decode cX3_taken 0 = .ok (.aload_n 0, 1) := by decide +kernel
theorem dX3_taken_1 : decode cX3_taken 1 = .ok (.getfield 22, 3) := by decide +kernel
theorem dX3_taken_4 : decode cX3_taken 4 = .ok (.istore_n 1, 1) := by decide +kernel
theorem dX3_taken_5 : decode cX3_taken 5 = .ok (.aload_n 0, 1) := by decide +kernel
theorem dX3_taken_6 : decode cX3_taken 6 = .ok (.dup, 1) := by decide +kernel
theorem dX3_taken_7 : decode cX3_taken 7 = .ok (.getfield 22, 3) := by decide +kernel
theorem dX3_taken_10 : decode cX3_taken 10 = .ok (.iconst 1, 1) := by decide +kernel
theorem dX3_taken_11 : decode cX3_taken 11 = .ok (.iadd, 1) := by decide +kernel
theorem dX3_taken_12 : decode cX3_taken 12 = .ok (.putfield 22, 3) := by decide +kernel
theorem dX3_taken_15 : decode cX3_taken 15 = .ok (.aload_n 0, 1) := by decide +kernel
theorem dX3_taken_16 : decode cX3_taken 16 = .ok (.getfield 26, 3) := by decide +kernel
theorem dX3_taken_19 : decode cX3_taken 19 = .ok (.aload_n 0, 1) := by decide +kernel
theorem dX3_taken_20 : decode cX3_taken 20 = .ok (.getfield 22, 3) := by decide +kernel
theorem dX3_taken_23 : decode cX3_taken 23 = .ok (.aload_n 0, 1) := by decide +kernel
theorem dX3_taken_24 : decode cX3_taken 24 = .ok (.getfield 26, 3) := by decide +kernel
theorem dX3_taken_27 : decode cX3_taken 27 = .ok (.iload_n 1, 1) := by decide +kernel
theorem dX3_taken_28 : decode cX3_taken 28 = .ok (.iaload, 1) := by decide +kernel
theorem dX3_taken_29 : decode cX3_taken 29 = .ok (.aload_n 0, 1) := by decide +kernel
theorem dX3_taken_30 : decode cX3_taken 30 = .ok (.getfield 60, 3) := by decide +kernel
theorem dX3_taken_33 : decode cX3_taken 33 = .ok (.iadd, 1) := by decide +kernel
theorem dX3_taken_34 : decode cX3_taken 34 = .ok (.iastore, 1) := by decide +kernel
theorem dX3_taken_35 : decode cX3_taken 35 = .ok (.aload_n 0, 1) := by decide +kernel
theorem dX3_taken_36 : decode cX3_taken 36 = .ok (.iconst 0, 1) := by decide +kernel
theorem dX3_taken_37 : decode cX3_taken 37 = .ok (.putfield 60, 3) := by decide +kernel
theorem dX3_taken_40 : decode cX3_taken 40 = .ok (.iload_n 1, 1) := by decide +kernel
theorem dX3_taken_41 : decode cX3_taken 41 = .ok (.ireturn, 1) := by decide +kernel
set_option maxRecDepth 20000 in
theorem ggX3_define_X3_isName : GoodIn wsX3_define wsX3_isName := goodIn_r _ [5] (by decide +kernel) (by decide +kernel)
set_option maxRecDepth 20000 in
theorem gX3_define_X3_isName : GoodIn wsX3_define (va_wsS RX3 57 yX3_isName wsX3_isName) := goodIn_app (goodIn_of _ (by decide +kernel)) ggX3_define_X3_isName
set_option maxRecDepth 20000 in
theorem ggX3_define_X3_fails : GoodIn wsX3_define wsX3_fails := goodIn_r _ [9, 1, 35, 36, 37, 38, 39, 40, 41, 42, 43, 44, 45] (by decide +kernel) (by decide +kernel)
set_option maxRecDepth 20000 in
theorem gX3_define_X3_fails : GoodIn wsX3_define (wsV RX3 63 RX3 yX3_fails wsX3_fails) := goodIn_app (goodIn_of _ (by decide +kernel)) ggX3_define_X3_fails
set_option maxRecDepth 20000 in
theorem ggX3_define_X3_taken : GoodIn wsX3_define wsX3_taken := goodIn_r _ [13, 14, 15, 16, 35, 36, 37, 38, 39, 40, 41, 42, 43, 44, 45] (by decide +kernel) (by decide +kernel)
set_option maxRecDepth 20000 in
theorem gX3_define_X3_taken : GoodIn wsX3_define (wsV RX3 67 RX3 yX3_taken wsX3_taken) := goodIn_app (goodIn_of _ (by decide +kernel)) ggX3_define_X3_taken
set_option maxRecDepth 20000 in
theorem ggX3_define_X3_assign : GoodIn wsX3_define wsX3_assign := goodIn_r _ [20, 21, 22, 23, 24, 25, 26, 27, 28, 29, 4, 30, 35, 36, 37, 38, 39, 40, 41, 42, 43, 44, 45] (by decide +kernel) (by decide +kernel)
set_option maxRecDepth 20000 in
theorem gX3_define_X3_assign : GoodIn wsX3_define (wsV RX3 53 RX3 yX3_assign wsX3_assign) := goodIn_app (goodIn_of _ (by decide +kernel)) ggX3_define_X3_assign
set_option maxRecDepth 20000 in
theorem ggX3_define_X3_size : GoodIn wsX3_define wsX3_size := goodIn_r _ [34, 15, 35, 36, 37, 38, 39, 40, 41, 42, 43, 44, 45] (by decide +kernel) (by decide +kernel)
set_option maxRecDepth 20000 in
theorem gX3_define_X3_size : GoodIn wsX3_define (wsV RX3 70 RX3 yX3_size wsX3_size) := goodIn_app (goodIn_of _ (by decide +kernel)) ggX3_define_X3_size
theorem dX3_define_0 : decode cX3_define 0 = .ok (.iload_n 1, 1) := by decide +kernel
theorem dX3_define_1 : decode cX3_define 1 = .ok (.invokestatic 57, 3) := by decide +kernel
theorem dX3_define_4 : decode cX3_define 4 = .ok (.ifCond .ne 8, 3) := by decide +kernel
theorem dX3_define_7 : decode cX3_define 7 = .ok (.aload_n 0, 1) := by decide +kernel
theorem dX3_define_8 : decode cX3_define 8 = .ok (.invokevirtual 63, 3) := by decide +kernel
theorem dX3_define_11 : decode cX3_define 11 = .ok (.ireturn, 1) := by decide +kernel
theorem dX3_define_12 : decode cX3_define 12 = .ok (.aload_n 0, 1) := by decide +kernel
theorem dX3_define_13 : decode cX3_define 13 = .ok (.iconst 0, 1) := by decide +kernel
theorem dX3_define_14 : decode cX3_define 14 = .ok (.putfield 32, 3) := by decide +kernel
theorem dX3_define_17 : decode cX3_define 17 = .ok (.aload_n 0, 1) := by decide +kernel
theorem dX3_define_18 : decode cX3_define 18 = .ok (.invokevirtual 67, 3) := by decide +kernel
theorem dX3_define_21 : decode cX3_define 21 = .ok (.istore_n 3, 1) := by decide +kernel
theorem dX3_define_22 : decode cX3_define 22 = .ok (.aload_n 0, 1) := by decide +kernel
theorem dX3_define_23 : decode cX3_define 23 = .ok (.sipush 3000, 3) := by decide +kernel
theorem dX3_define_26 : decode cX3_define 26 = .ok (.iload_n 1, 1) := by decide +kernel
theorem dX3_define_27 : decode cX3_define 27 = .ok (.iadd, 1) := by decide +kernel
theorem dX3_define_28 : decode cX3_define 28 = .ok (.iconst 3, 1) := by decide +kernel
theorem dX3_define_29 : decode cX3_define 29 = .ok (.iload_n 3, 1) := by decide +kernel
theorem dX3_define_30 : decode cX3_define 30 = .ok (.iload_n 2, 1) := by decide +kernel
theorem dX3_define_31 : decode cX3_define 31 = .ok (.invokevirtual 53, 3) := by decide +kernel
theorem dX3_define_34 : decode cX3_define 34 = .ok (.aload_n 0, 1) := by decide +kernel
theorem dX3_define_35 : decode cX3_define 35 = .ok (.iload_n 3, 1) := by decide +kernel
theorem dX3_define_36 : decode cX3_define 36 = .ok (.invokevirtual 70, 3) := by decide +kernel
theorem dX3_define_39 : decode cX3_define 39 = .ok (.ireturn, 1) := by decide +kernel
set_option maxRecDepth 20000 in
theorem ggX3_let_X3_isName : GoodIn wsX3_let wsX3_isName := goodIn_r _ [5] (by decide +kernel) (by decide +kernel)
set_option maxRecDepth 20000 in
theorem gX3_let_X3_isName : GoodIn wsX3_let (va_wsS RX3 57 yX3_isName wsX3_isName) := goodIn_app (goodIn_of _ (by decide +kernel)) ggX3_let_X3_isName
set_option maxRecDepth 20000 in
theorem ggX3_let_X3_kindOf : GoodIn wsX3_let wsX3_kindOf := goodIn_r _ [9, 10, 11, 12, 13, 4, 14, 15, 16, 32, 33, 34, 35, 36, 37, 38, 39, 40, 41, 42] (by decide +kernel) (by decide +kernel)
set_option maxRecDepth 20000 in
theorem gX3_let_X3_kindOf : GoodIn wsX3_let (wsV RX3 73 RX3 yX3_kindOf wsX3_kindOf) := goodIn_app (goodIn_of _ (by decide +kernel)) ggX3_let_X3_kindOf
set_option maxRecDepth 20000 in
theorem ggX3_let_X3_valueOf : GoodIn wsX3_let wsX3_valueOf := goodIn_r _ [20, 21, 11, 12, 13, 4, 14, 15, 16, 32, 33, 34, 35, 36, 37, 38, 39, 40, 41, 42] (by decide +kernel) (by decide +kernel)
set_option maxRecDepth 20000 in
theorem gX3_let_X3_valueOf : GoodIn wsX3_let (wsV RX3 76 RX3 yX3_valueOf wsX3_valueOf) := goodIn_app (goodIn_of _ (by decide +kernel)) ggX3_let_X3_valueOf
set_option maxRecDepth 20000 in
theorem ggX3_let_X3_assign : GoodIn wsX3_let wsX3_assign := goodIn_r _ [25, 26, 16, 15, 27, 10, 21, 28, 29, 30, 4, 31, 32, 33, 34, 35, 36, 37, 38, 39, 40, 41, 42] (by decide +kernel) (by decide +kernel)
set_option maxRecDepth 20000 in
theorem gX3_let_X3_assign : GoodIn wsX3_let (wsV RX3 53 RX3 yX3_assign wsX3_assign) := goodIn_app (goodIn_of _ (by decide +kernel)) ggX3_let_X3_assign
theorem dX3_let_0 : decode cX3_let 0 = .ok (.aload_n 0, 1) := by decide +kernel
theorem dX3_let_1 : decode cX3_let 1 = .ok (.iconst 0, 1) := by decide +kernel
theorem dX3_let_2 : decode cX3_let 2 = .ok (.putfield 32, 3) := by decide +kernel
theorem dX3_let_5 : decode cX3_let 5 = .ok (.iload_n 1, 1) := by decide +kernel
theorem dX3_let_6 : decode cX3_let 6 = .ok (.invokestatic 57, 3) := by decide +kernel
theorem dX3_let_9 : decode cX3_let 9 = .ok (.ifCond .eq 10, 3) := by decide +kernel
theorem dX3_let_12 : decode cX3_let 12 = .ok (.iload_n 2, 1) := by decide +kernel
theorem dX3_let_13 : decode cX3_let 13 = .ok (.invokestatic 57, 3) := by decide +kernel
theorem dX3_let_16 : decode cX3_let 16 = .ok (.ifCond .ne 5, 3) := by decide +kernel
theorem dX3_let_19 : decode cX3_let 19 = .ok (.iconst 0, 1) := by decide +kernel
theorem dX3_let_20 : decode cX3_let 20 = .ok (.ireturn, 1) := by decide +kernel
theorem dX3_let_21 : decode cX3_let 21 = .ok (.aload_n 0, 1) := by decide +kernel
theorem dX3_let_22 : decode cX3_let 22 = .ok (.sipush 3000, 3) := by decide +kernel
theorem dX3_let_25 : decode cX3_let 25 = .ok (.iload_n 1, 1) := by decide +kernel
theorem dX3_let_26 : decode cX3_let 26 = .ok (.iadd, 1) := by decide +kernel
theorem dX3_let_27 : decode cX3_let 27 = .ok (.aload_n 0, 1) := by decide +kernel
theorem dX3_let_28 : decode cX3_let 28 = .ok (.sipush 3000, 3) := by decide +kernel
theorem dX3_let_31 : decode cX3_let 31 = .ok (.iload_n 2, 1) := by decide +kernel
theorem dX3_let_32 : decode cX3_let 32 = .ok (.iadd, 1) := by decide +kernel
theorem dX3_let_33 : decode cX3_let 33 = .ok (.invokevirtual 73, 3) := by decide +kernel
theorem dX3_let_36 : decode cX3_let 36 = .ok (.aload_n 0, 1) := by decide +kernel
theorem dX3_let_37 : decode cX3_let 37 = .ok (.sipush 3000, 3) := by decide +kernel
theorem dX3_let_40 : decode cX3_let 40 = .ok (.iload_n 2, 1) := by decide +kernel
theorem dX3_let_41 : decode cX3_let 41 = .ok (.iadd, 1) := by decide +kernel
theorem dX3_let_42 : decode cX3_let 42 = .ok (.invokevirtual 76, 3) := by decide +kernel
theorem dX3_let_45 : decode cX3_let 45 = .ok (.iload_n 3, 1) := by decide +kernel
theorem dX3_let_46 : decode cX3_let 46 = .ok (.invokevirtual 53, 3) := by decide +kernel
theorem dX3_let_49 : decode cX3_let 49 = .ok (.iconst 1, 1) := by decide +kernel
theorem dX3_let_50 : decode cX3_let 50 = .ok (.ireturn, 1) := by decide +kernel
set_option maxRecDepth 20000 in
theorem ggX3_shape_X3_taken : GoodIn wsX3_shape wsX3_taken := goodIn_r _ [6, 7, 8, 9, 28, 29, 30, 31, 32, 33, 34, 35, 36, 37, 38] (by decide +kernel) (by decide +kernel)
set_option maxRecDepth 20000 in
theorem gX3_shape_X3_taken : GoodIn wsX3_shape (wsV RX3 67 RX3 yX3_taken wsX3_taken) := goodIn_app (goodIn_of _ (by decide +kernel)) ggX3_shape_X3_taken
set_option maxRecDepth 20000 in
theorem ggX3_shape_X3_assign : GoodIn wsX3_shape wsX3_assign := goodIn_r _ [13, 14, 15, 16, 17, 18, 19, 20, 21, 22, 5, 23, 28, 29, 30, 31, 32, 33, 34, 35, 36, 37, 38] (by decide +kernel) (by decide +kernel)
set_option maxRecDepth 20000 in
theorem gX3_shape_X3_assign : GoodIn wsX3_shape (wsV RX3 53 RX3 yX3_assign wsX3_assign) := goodIn_app (goodIn_of _ (by decide +kernel)) ggX3_shape_X3_assign
set_option maxRecDepth 20000 in
theorem ggX3_shape_X3_size : GoodIn wsX3_shape wsX3_size := goodIn_r _ [27, 8, 28, 29, 30, 31, 32, 33, 34, 35, 36, 37, 38] (by decide +kernel) (by decide +kernel)
set_option maxRecDepth 20000 in
theorem gX3_shape_X3_size : GoodIn wsX3_shape (wsV RX3 70 RX3 yX3_size wsX3_size) := goodIn_app (goodIn_of _ (by decide +kernel)) ggX3_shape_X3_size
theorem dX3_shape_0 : decode cX3_shape 0 = .ok (.aload_n 0, 1) := by decide +kernel
theorem dX3_shape_1 : decode cX3_shape 1 = .ok (.iconst 0, 1) := by decide +kernel
theorem dX3_shape_2 : decode cX3_shape 2 = .ok (.putfield 32, 3) := by decide +kernel
theorem dX3_shape_5 : decode cX3_shape 5 = .ok (.aload_n 0, 1) := by decide +kernel
theorem dX3_shape_6 : decode cX3_shape 6 = .ok (.invokevirtual 67, 3) := by decide +kernel
theorem dX3_shape_9 : decode cX3_shape 9 = .ok (.istore_n 2, 1) := by decide +kernel
theorem dX3_shape_10 : decode cX3_shape 10 = .ok (.aload_n 0, 1) := by decide +kernel
theorem dX3_shape_11 : decode cX3_shape 11 = .ok (.sipush 4000, 3) := by decide +kernel
theorem dX3_shape_14 : decode cX3_shape 14 = .ok (.iconst 3, 1) := by decide +kernel
theorem dX3_shape_15 : decode cX3_shape 15 = .ok (.iload_n 2, 1) := by decide +kernel
theorem dX3_shape_16 : decode cX3_shape 16 = .ok (.iload_n 1, 1) := by decide +kernel
theorem dX3_shape_17 : decode cX3_shape 17 = .ok (.invokevirtual 53, 3) := by decide +kernel
theorem dX3_shape_20 : decode cX3_shape 20 = .ok (.aload_n 0, 1) := by decide +kernel
theorem dX3_shape_21 : decode cX3_shape 21 = .ok (.iload_n 2, 1) := by decide +kernel
theorem dX3_shape_22 : decode cX3_shape 22 = .ok (.invokevirtual 70, 3) := by decide +kernel
theorem dX3_shape_25 : decode cX3_shape 25 = .ok (.ireturn, 1) := by decide +kernel
set_option maxRecDepth 20000 in
theorem ggX3_get_X3_isCell : GoodIn wsX3_get wsX3_isCell := goodIn_r _ [5] (by decide +kernel) (by decide +kernel)
set_option maxRecDepth 20000 in
theorem gX3_get_X3_isCell : GoodIn wsX3_get (va_wsS RX3 49 yX3_isCell wsX3_isCell) := goodIn_app (goodIn_of _ (by decide +kernel)) ggX3_get_X3_isCell
set_option maxRecDepth 20000 in
theorem ggX3_get_X3_fails : GoodIn wsX3_get wsX3_fails := goodIn_r _ [9, 1, 21, 22, 23, 24, 25, 26, 27, 28, 29, 30, 31] (by decide +kernel) (by decide +kernel)
set_option maxRecDepth 20000 in
theorem gX3_get_X3_fails : GoodIn wsX3_get (wsV RX3 63 RX3 yX3_fails wsX3_fails) := goodIn_app (goodIn_of _ (by decide +kernel)) ggX3_get_X3_fails
set_option maxRecDepth 20000 in
theorem ggX3_get_X3_valueOf : GoodIn wsX3_get wsX3_valueOf := goodIn_r _ [13, 14, 15, 16, 17, 4, 18, 19, 20, 21, 22, 23, 24, 25, 26, 27, 28, 29, 30, 31] (by decide +kernel) (by decide +kernel)
set_option maxRecDepth 20000 in
theorem gX3_get_X3_valueOf : GoodIn wsX3_get (wsV RX3 76 RX3 yX3_valueOf wsX3_valueOf) := goodIn_app (goodIn_of _ (by decide +kernel)) ggX3_get_X3_valueOf
theorem dX3_get_0 : decode cX3_get 0 = .ok (.iload_n 1, 1) := by decide +kernel
theorem dX3_get_1 : decode cX3_get 1 = .ok (.invokestatic 49, 3) := by decide +kernel
theorem dX3_get_4 : decode cX3_get 4 = .ok (.ifCond .ne 8, 3) := by decide +kernel
theorem dX3_get_7 : decode cX3_get 7 = .ok (.aload_n 0, 1) := by decide +kernel
theorem dX3_get_8 : decode cX3_get 8 = .ok (.invokevirtual 63, 3) := by decide +kernel
theorem dX3_get_11 : decode cX3_get 11 = .ok (.ireturn, 1) := by decide +kernel
theorem dX3_get_12 : decode cX3_get 12 = .ok (.aload_n 0, 1) := by decide +kernel
theorem dX3_get_13 : decode cX3_get 13 = .ok (.iconst 0, 1) := by decide +kernel
theorem dX3_get_14 : decode cX3_get 14 = .ok (.putfield 32, 3) := by decide +kernel
theorem dX3_get_17 : decode cX3_get 17 = .ok (.aload_n 0, 1) := by decide +kernel
theorem dX3_get_18 : decode cX3_get 18 = .ok (.iload_n 1, 1) := by decide +kernel
theorem dX3_get_19 : decode cX3_get 19 = .ok (.invokevirtual 76, 3) := by decide +kernel
theorem dX3_get_22 : decode cX3_get 22 = .ok (.ireturn, 1) := by decide +kernel
set_option maxRecDepth 20000 in
theorem ggX3_about_X3_isName : GoodIn wsX3_about wsX3_isName := goodIn_r _ [5] (by decide +kernel) (by decide +kernel)
set_option maxRecDepth 20000 in
theorem gX3_about_X3_isName : GoodIn wsX3_about (va_wsS RX3 57 yX3_isName wsX3_isName) := goodIn_app (goodIn_of _ (by decide +kernel)) ggX3_about_X3_isName
set_option maxRecDepth 20000 in
theorem ggX3_about_X3_fails : GoodIn wsX3_about wsX3_fails := goodIn_r _ [9, 1, 31, 32, 33, 34, 35, 36, 37, 38, 39, 40, 41] (by decide +kernel) (by decide +kernel)
set_option maxRecDepth 20000 in
theorem gX3_about_X3_fails : GoodIn wsX3_about (wsV RX3 63 RX3 yX3_fails wsX3_fails) := goodIn_app (goodIn_of _ (by decide +kernel)) ggX3_about_X3_fails
set_option maxRecDepth 20000 in
theorem ggX3_about_X3_kindOf : GoodIn wsX3_about wsX3_kindOf := goodIn_r _ [13, 14, 15, 16, 17, 4, 18, 19, 20, 31, 32, 33, 34, 35, 36, 37, 38, 39, 40, 41] (by decide +kernel) (by decide +kernel)
set_option maxRecDepth 20000 in
theorem gX3_about_X3_kindOf : GoodIn wsX3_about (wsV RX3 73 RX3 yX3_kindOf wsX3_kindOf) := goodIn_app (goodIn_of _ (by decide +kernel)) ggX3_about_X3_kindOf
set_option maxRecDepth 20000 in
theorem ggX3_about_X3_valueOf : GoodIn wsX3_about wsX3_valueOf := goodIn_r _ [24, 25, 15, 16, 17, 4, 18, 19, 20, 31, 32, 33, 34, 35, 36, 37, 38, 39, 40, 41] (by decide +kernel) (by decide +kernel)
set_option maxRecDepth 20000 in
theorem gX3_about_X3_valueOf : GoodIn wsX3_about (wsV RX3 76 RX3 yX3_valueOf wsX3_valueOf) := goodIn_app (goodIn_of _ (by decide +kernel)) ggX3_about_X3_valueOf
set_option maxRecDepth 20000 in
theorem ggX3_about_X3_size : GoodIn wsX3_about wsX3_size := goodIn_r _ [29, 30, 31, 32, 33, 34, 35, 36, 37, 38, 39, 40, 41] (by decide +kernel) (by decide +kernel)
set_option maxRecDepth 20000 in
theorem gX3_about_X3_size : GoodIn wsX3_about (wsV RX3 70 RX3 yX3_size wsX3_size) := goodIn_app (goodIn_of _ (by decide +kernel)) ggX3_about_X3_size
theorem dX3_about_0 : decode cX3_about 0 = .ok (.iload_n 1, 1) := by decide +kernel
theorem dX3_about_1 : decode cX3_about 1 = .ok (.invokestatic 57, 3) := by decide +kernel
theorem dX3_about_4 : decode cX3_about 4 = .ok (.ifCond .eq 12, 3) := by decide +kernel
theorem dX3_about_7 : decode cX3_about 7 = .ok (.iload_n 2, 1) := by decide +kernel
theorem dX3_about_8 : decode cX3_about 8 = .ok (.ifCond .lt 8, 3) := by decide +kernel
theorem dX3_about_11 : decode cX3_about 11 = .ok (.iload_n 2, 1) := by decide +kernel
theorem dX3_about_12 : decode cX3_about 12 = .ok (.iconst 1, 1) := by decide +kernel
theorem dX3_about_13 : decode cX3_about 13 = .ok (.if_icmp .le 8, 3) := by decide +kernel
theorem dX3_about_16 : decode cX3_about 16 = .ok (.aload_n 0, 1) := by decide +kernel
theorem dX3_about_17 : decode cX3_about 17 = .ok (.invokevirtual 63, 3) := by decide +kernel
theorem dX3_about_20 : decode cX3_about 20 = .ok (.ireturn, 1) := by decide +kernel
theorem dX3_about_21 : decode cX3_about 21 = .ok (.aload_n 0, 1) := by decide +kernel
theorem dX3_about_22 : decode cX3_about 22 = .ok (.iconst 0, 1) := by decide +kernel
theorem dX3_about_23 : decode cX3_about 23 = .ok (.putfield 32, 3) := by decide +kernel
theorem dX3_about_26 : decode cX3_about 26 = .ok (.aload_n 0, 1) := by decide +kernel
theorem dX3_about_27 : decode cX3_about 27 = .ok (.sipush 3000, 3) := by decide +kernel
theorem dX3_about_30 : decode cX3_about 30 = .ok (.iload_n 1, 1) := by decide +kernel
theorem dX3_about_31 : decode cX3_about 31 = .ok (.iadd, 1) := by decide +kernel
theorem dX3_about_32 : decode cX3_about 32 = .ok (.invokevirtual 73, 3) := by decide +kernel
theorem dX3_about_35 : decode cX3_about 35 = .ok (.istore_n 3, 1) := by decide +kernel
theorem dX3_about_36 : decode cX3_about 36 = .ok (.iload_n 2, 1) := by decide +kernel
theorem dX3_about_37 : decode cX3_about 37 = .ok (.ifCond .ne 7, 3) := by decide +kernel
theorem dX3_about_40 : decode cX3_about 40 = .ok (.iload_n 3, 1) := by decide +kernel
theorem dX3_about_41 : decode cX3_about 41 = .ok (.goto 33, 3) := by decide +kernel
theorem dX3_about_44 : decode cX3_about 44 = .ok (.iload_n 3, 1) := by decide +kernel
theorem dX3_about_45 : decode cX3_about 45 = .ok (.iconst 3, 1) := by decide +kernel
theorem dX3_about_46 : decode cX3_about 46 = .ok (.if_icmp .ne 19, 3) := by decide +kernel
theorem dX3_about_49 : decode cX3_about 49 = .ok (.aload_n 0, 1) := by decide +kernel
theorem dX3_about_50 : decode cX3_about 50 = .ok (.aload_n 0, 1) := by decide +kernel
theorem dX3_about_51 : decode cX3_about 51 = .ok (.sipush 3000, 3) := by decide +kernel
theorem dX3_about_54 : decode cX3_about 54 = .ok (.iload_n 1, 1) := by decide +kernel
theorem dX3_about_55 : decode cX3_about 55 = .ok (.iadd, 1) := by decide +kernel
theorem dX3_about_56 : decode cX3_about 56 = .ok (.invokevirtual 76, 3) := by decide +kernel
theorem dX3_about_59 : decode cX3_about 59 = .ok (.invokevirtual 70, 3) := by decide +kernel
theorem dX3_about_62 : decode cX3_about 62 = .ok (.goto 12, 3) := by decide +kernel
theorem dX3_about_65 : decode cX3_about 65 = .ok (.aload_n 0, 1) := by decide +kernel
theorem dX3_about_66 : decode cX3_about 66 = .ok (.sipush 3000, 3) := by decide +kernel
theorem dX3_about_69 : decode cX3_about 69 = .ok (.iload_n 1, 1) := by decide +kernel
theorem dX3_about_70 : decode cX3_about 70 = .ok (.iadd, 1) := by decide +kernel
theorem dX3_about_71 : decode cX3_about 71 = .ok (.invokevirtual 76, 3) := by decide +kernel
theorem dX3_about_74 : decode cX3_about 74 = .ok (.ireturn, 1) := by decide +kernel
set_option maxRecDepth 20000 in
theorem ggX3_number_X3_valueOf : GoodIn wsX3_number wsX3_valueOf := goodIn_r _ [8, 9, 10, 11, 12, 7, 13, 14, 15, 32, 33, 34, 35, 36, 37, 38, 39, 40, 41, 42] (by decide +kernel) (by decide +kernel)
set_option maxRecDepth 20000 in
theorem gX3_number_X3_valueOf : GoodIn wsX3_number (wsV RX3 76 RX3 yX3_valueOf wsX3_valueOf) := goodIn_app (goodIn_of _ (by decide +kernel)) ggX3_number_X3_valueOf
set_option maxRecDepth 20000 in
theorem ggX3_number_X3_size : GoodIn wsX3_number wsX3_size := goodIn_r _ [19, 3, 32, 33, 34, 35, 36, 37, 38, 39, 40, 41, 42] (by decide +kernel) (by decide +kernel)
set_option maxRecDepth 20000 in
theorem gX3_number_X3_size : GoodIn wsX3_number (wsV RX3 70 RX3 yX3_size wsX3_size) := goodIn_app (goodIn_of _ (by decide +kernel)) ggX3_number_X3_size
set_option maxRecDepth 20000 in
theorem ggX3_number_X3_isName : GoodIn wsX3_number wsX3_isName := goodIn_r _ [22] (by decide +kernel) (by decide +kernel)
set_option maxRecDepth 20000 in
theorem gX3_number_X3_isName : GoodIn wsX3_number (va_wsS RX3 57 yX3_isName wsX3_isName) := goodIn_app (goodIn_of _ (by decide +kernel)) ggX3_number_X3_isName
set_option maxRecDepth 20000 in
theorem ggX3_number_X3_kindOf : GoodIn wsX3_number wsX3_kindOf := goodIn_r _ [26, 27, 10, 11, 12, 7, 13, 14, 15, 32, 33, 34, 35, 36, 37, 38, 39, 40, 41, 42] (by decide +kernel) (by decide +kernel)
set_option maxRecDepth 20000 in
theorem gX3_number_X3_kindOf : GoodIn wsX3_number (wsV RX3 73 RX3 yX3_kindOf wsX3_kindOf) := goodIn_app (goodIn_of _ (by decide +kernel)) ggX3_number_X3_kindOf
set_option maxRecDepth 20000 in
theorem ggX3_number_X3_fails : GoodIn wsX3_number wsX3_fails := goodIn_r _ [31, 1, 32, 33, 34, 35, 36, 37, 38, 39, 40, 41, 42] (by decide +kernel) (by decide +kernel)
set_option maxRecDepth 20000 in
theorem gX3_number_X3_fails : GoodIn wsX3_number (wsV RX3 63 RX3 yX3_fails wsX3_fails) := goodIn_app (goodIn_of _ (by decide +kernel)) ggX3_number_X3_fails
theorem dX3_number_0 : decode cX3_number 0 = .ok (.aload_n 0, 1) := by decide +kernel
theorem dX3_number_1 : decode cX3_number 1 = .ok (.iconst 0, 1) := by decide +kernel
theorem dX3_number_2 : decode cX3_number 2 = .ok (.putfield 32, 3) := by decide +kernel
theorem dX3_number_5 : decode cX3_number 5 = .ok (.iload_n 1, 1) := by decide +kernel
theorem dX3_number_6 : decode cX3_number 6 = .ok (.iconst (-1), 1) := by decide +kernel
theorem dX3_number_7 : decode cX3_number 7 = .ok (.if_icmp .ne 20, 3) := by decide +kernel
theorem dX3_number_10 : decode cX3_number 10 = .ok (.iload_n 2, 1) := by decide +kernel
theorem dX3_number_11 : decode cX3_number 11 = .ok (.iconst (-1), 1) := by decide +kernel
theorem dX3_number_12 : decode cX3_number 12 = .ok (.if_icmp .ne 15, 3) := by decide +kernel
theorem dX3_number_15 : decode cX3_number 15 = .ok (.aload_n 0, 1) := by decide +kernel
theorem dX3_number_16 : decode cX3_number 16 = .ok (.aload_n 0, 1) := by decide +kernel
theorem dX3_number_17 : decode cX3_number 17 = .ok (.sipush 4000, 3) := by decide +kernel
theorem dX3_number_20 : decode cX3_number 20 = .ok (.invokevirtual 76, 3) := by decide +kernel
theorem dX3_number_23 : decode cX3_number 23 = .ok (.invokevirtual 70, 3) := by decide +kernel
theorem dX3_number_26 : decode cX3_number 26 = .ok (.ireturn, 1) := by decide +kernel
theorem dX3_number_27 : decode cX3_number 27 = .ok (.iload_n 1, 1) := by decide +kernel
theorem dX3_number_28 : decode cX3_number 28 = .ok (.iconst (-1), 1) := by decide +kernel
theorem dX3_number_29 : decode cX3_number 29 = .ok (.if_icmp .ne 9, 3) := by decide +kernel
theorem dX3_number_32 : decode cX3_number 32 = .ok (.sipush 4000, 3) := by decide +kernel
theorem dX3_number_35 : decode cX3_number 35 = .ok (.goto 19, 3) := by decide +kernel
theorem dX3_number_38 : decode cX3_number 38 = .ok (.iload_n 1, 1) := by decide +kernel
theorem dX3_number_39 : decode cX3_number 39 = .ok (.invokestatic 57, 3) := by decide +kernel
theorem dX3_number_42 : decode cX3_number 42 = .ok (.ifCond .eq 11, 3) := by decide +kernel
theorem dX3_number_45 : decode cX3_number 45 = .ok (.sipush 3000, 3) := by decide +kernel
theorem dX3_number_48 : decode cX3_number 48 = .ok (.iload_n 1, 1) := by decide +kernel
theorem dX3_number_49 : decode cX3_number 49 = .ok (.iadd, 1) := by decide +kernel
theorem dX3_number_50 : decode cX3_number 50 = .ok (.goto 4, 3) := by decide +kernel
theorem dX3_number_53 : decode cX3_number 53 = .ok (.iconst (-1), 1) := by decide +kernel
theorem dX3_number_54 : decode cX3_number 54 = .ok (.istore_n 3, 1) := by decide +kernel
theorem dX3_number_55 : decode cX3_number 55 = .ok (.iload_n 3, 1) := by decide +kernel
theorem dX3_number_56 : decode cX3_number 56 = .ok (.ifCond .lt 27, 3) := by decide +kernel
theorem dX3_number_59 : decode cX3_number 59 = .ok (.iload_n 3, 1) := by decide +kernel
theorem dX3_number_60 : decode cX3_number 60 = .ok (.sipush 4000, 3) := by decide +kernel
theorem dX3_number_63 : decode cX3_number 63 = .ok (.if_icmp .eq 12, 3) := by decide +kernel
theorem dX3_number_66 : decode cX3_number 66 = .ok (.aload_n 0, 1) := by decide +kernel
theorem dX3_number_67 : decode cX3_number 67 = .ok (.iload_n 3, 1) := by decide +kernel
theorem dX3_number_68 : decode cX3_number 68 = .ok (.invokevirtual 73, 3) := by decide +kernel
theorem dX3_number_71 : decode cX3_number 71 = .ok (.iconst 3, 1) := by decide +kernel
theorem dX3_number_72 : decode cX3_number 72 = .ok (.if_icmp .ne 11, 3) := by decide +kernel
theorem dX3_number_75 : decode cX3_number 75 = .ok (.aload_n 0, 1) := by decide +kernel
theorem dX3_number_76 : decode cX3_number 76 = .ok (.iload_n 3, 1) := by decide +kernel
theorem dX3_number_77 : decode cX3_number 77 = .ok (.invokevirtual 76, 3) := by decide +kernel
theorem dX3_number_80 : decode cX3_number 80 = .ok (.goto 4, 3) := by decide +kernel
theorem dX3_number_83 : decode cX3_number 83 = .ok (.iconst 0, 1) := by decide +kernel
theorem dX3_number_84 : decode cX3_number 84 = .ok (.istore 4, 2) := by decide +kernel
theorem dX3_number_86 : decode cX3_number 86 = .ok (.iload_n 2, 1) := by decide +kernel
theorem dX3_number_87 : decode cX3_number 87 = .ok (.ifCond .lt 13, 3) := by decide +kernel
theorem dX3_number_90 : decode cX3_number 90 = .ok (.iload_n 2, 1) := by decide +kernel
theorem dX3_number_91 : decode cX3_number 91 = .ok (.aload_n 0, 1) := by decide +kernel
theorem dX3_number_92 : decode cX3_number 92 = .ok (.iload 4, 2) := by decide +kernel
theorem dX3_number_94 : decode cX3_number 94 = .ok (.invokevirtual 70, 3) := by decide +kernel
theorem dX3_number_97 : decode cX3_number 97 = .ok (.if_icmp .lt 10, 3) := by decide +kernel
theorem dX3_number_100 : decode cX3_number 100 = .ok (.aload_n 0, 1) := by decide +kernel
theorem dX3_number_101 : decode cX3_number 101 = .ok (.invokevirtual 63, 3) := by decide +kernel
theorem dX3_number_104 : decode cX3_number 104 = .ok (.goto 17, 3) := by decide +kernel
theorem dX3_number_107 : decode cX3_number 107 = .ok (.aload_n 0, 1) := by decide +kernel
theorem dX3_number_108 : decode cX3_number 108 = .ok (.getfield 29, 3) := by decide +kernel
theorem dX3_number_111 : decode cX3_number 111 = .ok (.aload_n 0, 1) := by decide +kernel
theorem dX3_number_112 : decode cX3_number 112 = .ok (.getfield 26, 3) := by decide +kernel
theorem dX3_number_115 : decode cX3_number 115 = .ok (.iload 4, 2) := by decide +kernel
theorem dX3_number_117 : decode cX3_number 117 = .ok (.iaload, 1) := by decide +kernel
theorem dX3_number_118 : decode cX3_number 118 = .ok (.iload_n 2, 1) := by decide +kernel
theorem dX3_number_119 : decode cX3_number 119 = .ok (.iadd, 1) := by decide +kernel
theorem dX3_number_120 : decode cX3_number 120 = .ok (.iaload, 1) := by decide +kernel
theorem dX3_number_121 : decode cX3_number 121 = .ok (.ireturn, 1) := by decide +kernel
set_option maxRecDepth 20000 in
theorem ggX3_kept_X3_size : GoodIn wsX3_kept wsX3_size := goodIn_r _ [10, 11, 12, 13, 14, 15, 16, 17, 18, 19, 20, 21, 22] (by decide +kernel) (by decide +kernel)
set_option maxRecDepth 20000 in
theorem gX3_kept_X3_size : GoodIn wsX3_kept (wsV RX3 70 RX3 yX3_size wsX3_size) := goodIn_app (goodIn_of _ (by decide +kernel)) ggX3_kept_X3_size
theorem dX3_kept_0 : decode cX3_kept 0 = .ok (.iconst 0, 1) := by decide +kernel
theorem dX3_kept_1 : decode cX3_kept 1 = .ok (.istore_n 1, 1) := by decide +kernel
theorem dX3_kept_2 : decode cX3_kept 2 = .ok (.iconst 1, 1) := by decide +kernel
theorem dX3_kept_3 : decode cX3_kept 3 = .ok (.istore_n 2, 1) := by decide +kernel
theorem dX3_kept_4 : decode cX3_kept 4 = .ok (.iload_n 2, 1) := by decide +kernel
theorem dX3_kept_5 : decode cX3_kept 5 = .ok (.aload_n 0, 1) := by decide +kernel
theorem dX3_kept_6 : decode cX3_kept 6 = .ok (.getfield 22, 3) := by decide +kernel
theorem dX3_kept_9 : decode cX3_kept 9 = .ok (.if_icmp .ge 103, 3) := by decide +kernel
theorem dX3_kept_12 : decode cX3_kept 12 = .ok (.iconst 0, 1) := by decide +kernel
theorem dX3_kept_13 : decode cX3_kept 13 = .ok (.istore_n 3, 1) := by decide +kernel
theorem dX3_kept_14 : decode cX3_kept 14 = .ok (.iconst 0, 1) := by decide +kernel
theorem dX3_kept_15 : decode cX3_kept 15 = .ok (.istore 4, 2) := by decide +kernel
theorem dX3_kept_17 : decode cX3_kept 17 = .ok (.iload 4, 2) := by decide +kernel
theorem dX3_kept_19 : decode cX3_kept 19 = .ok (.aload_n 0, 1) := by decide +kernel
theorem dX3_kept_20 : decode cX3_kept 20 = .ok (.getfield 38, 3) := by decide +kernel
theorem dX3_kept_23 : decode cX3_kept 23 = .ok (.if_icmp .ge 67, 3) := by decide +kernel
theorem dX3_kept_26 : decode cX3_kept 26 = .ok (.iload_n 3, 1) := by decide +kernel
theorem dX3_kept_27 : decode cX3_kept 27 = .ok (.ifCond .ne 51, 3) := by decide +kernel
theorem dX3_kept_30 : decode cX3_kept 30 = .ok (.aload_n 0, 1) := by decide +kernel
theorem dX3_kept_31 : decode cX3_kept 31 = .ok (.getfield 7, 3) := by decide +kernel
theorem dX3_kept_34 : decode cX3_kept 34 = .ok (.iload 4, 2) := by decide +kernel
theorem dX3_kept_36 : decode cX3_kept 36 = .ok (.iaload, 1) := by decide +kernel
theorem dX3_kept_37 : decode cX3_kept 37 = .ok (.sipush 3000, 3) := by decide +kernel
theorem dX3_kept_40 : decode cX3_kept 40 = .ok (.if_icmp .lt 42, 3) := by decide +kernel
theorem dX3_kept_43 : decode cX3_kept 43 = .ok (.aload_n 0, 1) := by decide +kernel
theorem dX3_kept_44 : decode cX3_kept 44 = .ok (.getfield 7, 3) := by decide +kernel
theorem dX3_kept_47 : decode cX3_kept 47 = .ok (.iload 4, 2) := by decide +kernel
theorem dX3_kept_49 : decode cX3_kept 49 = .ok (.iaload, 1) := by decide +kernel
theorem dX3_kept_50 : decode cX3_kept 50 = .ok (.sipush 4000, 3) := by decide +kernel
theorem dX3_kept_53 : decode cX3_kept 53 = .ok (.if_icmp .ge 29, 3) := by decide +kernel
theorem dX3_kept_56 : decode cX3_kept 56 = .ok (.aload_n 0, 1) := by decide +kernel
theorem dX3_kept_57 : decode cX3_kept 57 = .ok (.getfield 16, 3) := by decide +kernel
theorem dX3_kept_60 : decode cX3_kept 60 = .ok (.iload 4, 2) := by decide +kernel
theorem dX3_kept_62 : decode cX3_kept 62 = .ok (.iaload, 1) := by decide +kernel
theorem dX3_kept_63 : decode cX3_kept 63 = .ok (.iconst 3, 1) := by decide +kernel
theorem dX3_kept_64 : decode cX3_kept 64 = .ok (.if_icmp .ne 18, 3) := by decide +kernel
theorem dX3_kept_67 : decode cX3_kept 67 = .ok (.aload_n 0, 1) := by decide +kernel
theorem dX3_kept_68 : decode cX3_kept 68 = .ok (.getfield 19, 3) := by decide +kernel
theorem dX3_kept_71 : decode cX3_kept 71 = .ok (.iload 4, 2) := by decide +kernel
theorem dX3_kept_73 : decode cX3_kept 73 = .ok (.iaload, 1) := by decide +kernel
theorem dX3_kept_74 : decode cX3_kept 74 = .ok (.iload_n 2, 1) := by decide +kernel
theorem dX3_kept_75 : decode cX3_kept 75 = .ok (.if_icmp .ne 7, 3) := by decide +kernel
theorem dX3_kept_78 : decode cX3_kept 78 = .ok (.iconst 1, 1) := by decide +kernel
theorem dX3_kept_79 : decode cX3_kept 79 = .ok (.goto 4, 3) := by decide +kernel
theorem dX3_kept_82 : decode cX3_kept 82 = .ok (.iconst 0, 1) := by decide +kernel
theorem dX3_kept_83 : decode cX3_kept 83 = .ok (.istore_n 3, 1) := by decide +kernel
theorem dX3_kept_84 : decode cX3_kept 84 = .ok (.iinc 4 1, 3) := by decide +kernel
theorem dX3_kept_87 : decode cX3_kept 87 = .ok (.goto (-70), 3) := by decide +kernel
theorem dX3_kept_90 : decode cX3_kept 90 = .ok (.iload_n 1, 1) := by decide +kernel
theorem dX3_kept_91 : decode cX3_kept 91 = .ok (.iload_n 3, 1) := by decide +kernel
theorem dX3_kept_92 : decode cX3_kept 92 = .ok (.ifCond .eq 11, 3) := by decide +kernel
theorem dX3_kept_95 : decode cX3_kept 95 = .ok (.aload_n 0, 1) := by decide +kernel
theorem dX3_kept_96 : decode cX3_kept 96 = .ok (.iload_n 2, 1) := by decide +kernel
theorem dX3_kept_97 : decode cX3_kept 97 = .ok (.invokevirtual 70, 3) := by decide +kernel
theorem dX3_kept_100 : decode cX3_kept 100 = .ok (.goto 4, 3) := by decide +kernel
theorem dX3_kept_103 : decode cX3_kept 103 = .ok (.iconst 0, 1) := by decide +kernel
theorem dX3_kept_104 : decode cX3_kept 104 = .ok (.iadd, 1) := by decide +kernel
theorem dX3_kept_105 : decode cX3_kept 105 = .ok (.istore_n 1, 1) := by decide +kernel
theorem dX3_kept_106 : decode cX3_kept 106 = .ok (.iinc 2 1, 3) := by decide +kernel
theorem dX3_kept_109 : decode cX3_kept 109 = .ok (.goto (-105), 3) := by decide +kernel
theorem dX3_kept_112 : decode cX3_kept 112 = .ok (.iload_n 1, 1) := by decide +kernel
theorem dX3_kept_113 : decode cX3_kept 113 = .ok (.ireturn, 1) := by decide +kernel
set_option maxRecDepth 20000 in
theorem ggX3_count_X3_kept : GoodIn wsX3_count wsX3_kept := goodIn_r _ [8, 9, 10, 11, 12, 13, 14, 15, 16, 7, 17, 18, 19, 20, 21, 22, 23, 24, 25, 26, 27, 28, 29] (by decide +kernel) (by decide +kernel)
set_option maxRecDepth 20000 in
theorem gX3_count_X3_kept : GoodIn wsX3_count (wsV RX3 79 RX3 yX3_kept wsX3_kept) := goodIn_app (goodIn_of _ (by decide +kernel)) ggX3_count_X3_kept
theorem dX3_count_0 : decode cX3_count 0 = .ok (.aload_n 0, 1) := by decide +kernel
theorem dX3_count_1 : decode cX3_count 1 = .ok (.iconst 0, 1) := by decide +kernel
theorem dX3_count_2 : decode cX3_count 2 = .ok (.putfield 32, 3) := by decide +kernel
theorem dX3_count_5 : decode cX3_count 5 = .ok (.iload_n 1, 1) := by decide +kernel
theorem dX3_count_6 : decode cX3_count 6 = .ok (.ifCond .ne 10, 3) := by decide +kernel
theorem dX3_count_9 : decode cX3_count 9 = .ok (.aload_n 0, 1) := by decide +kernel
theorem dX3_count_10 : decode cX3_count 10 = .ok (.getfield 35, 3) := by decide +kernel
theorem dX3_count_13 : decode cX3_count 13 = .ok (.goto 28, 3) := by decide +kernel
theorem dX3_count_16 : decode cX3_count 16 = .ok (.iload_n 1, 1) := by decide +kernel
theorem dX3_count_17 : decode cX3_count 17 = .ok (.iconst 1, 1) := by decide +kernel
theorem dX3_count_18 : decode cX3_count 18 = .ok (.if_icmp .ne 10, 3) := by decide +kernel
theorem dX3_count_21 : decode cX3_count 21 = .ok (.aload_n 0, 1) := by decide +kernel
theorem dX3_count_22 : decode cX3_count 22 = .ok (.getfield 60, 3) := by decide +kernel
theorem dX3_count_25 : decode cX3_count 25 = .ok (.goto 16, 3) := by decide +kernel
theorem dX3_count_28 : decode cX3_count 28 = .ok (.iload_n 1, 1) := by decide +kernel
theorem dX3_count_29 : decode cX3_count 29 = .ok (.iconst 2, 1) := by decide +kernel
theorem dX3_count_30 : decode cX3_count 30 = .ok (.if_icmp .ne 10, 3) := by decide +kernel
theorem dX3_count_33 : decode cX3_count 33 = .ok (.aload_n 0, 1) := by decide +kernel
theorem dX3_count_34 : decode cX3_count 34 = .ok (.invokevirtual 79, 3) := by decide +kernel
theorem dX3_count_37 : decode cX3_count 37 = .ok (.goto 4, 3) := by decide +kernel
theorem dX3_count_40 : decode cX3_count 40 = .ok (.iconst (-1), 1) := by decide +kernel
theorem dX3_count_41 : decode cX3_count 41 = .ok (.ireturn, 1) := by decide +kernel
set_option maxRecDepth 20000 in
theorem ggL_define_X2_define : GoodIn wsL_define wsX2_define := goodIn_ca (goodIn_r _ [6, 7, 8, 9, 10, 11, 12, 5, 13, 14, 15, 16, 17, 18, 19, 20, 21, 22, 23, 24, 25, 26, 27, 28, 29, 30, 31, 32, 33, 34, 35, 36, 37, 38, 39, 40, 41, 42, 43, 44, 45, 46, 47, 48, 49, 50, 51, 52, 53, 54, 55, 56, 57, 58, 59, 60, 61, 62, 63, 64, 65, 66, 67, 68, 69, 70, 71, 72, 73, 74, 75, 76, 77, 78, 79, 80, 81, 82, 83, 84, 85, 86, 87, 88, 89, 90, 91, 92, 93, 94, 95, 96, 97, 98, 99, 100, 101] (by decide +kernel) (by decide +kernel)) (goodIn_sub (fun _ h => List.mem_cons_of_mem _ (List.mem_append_right _ h)) (by decide +kernel))
set_option maxRecDepth 20000 in
theorem gL_define_X2_define : GoodIn wsL_define (wsV RL 7 RX2 yX2_define wsX2_define) := goodIn_app (goodIn_of _ (by decide +kernel)) ggL_define_X2_define
theorem dL_define_0 : decode cL_define 0 = .ok (.aload_n 3, 1) := by decide +kernel
theorem dL_define_1 : decode cL_define 1 = .ok (.iconst 0, 1) := by decide +kernel
theorem dL_define_2 : decode cL_define 2 = .ok (.aload_n 0, 1) := by decide +kernel
theorem dL_define_3 : decode cL_define 3 = .ok (.iload_n 1, 1) := by decide +kernel
theorem dL_define_4 : decode cL_define 4 = .ok (.iload_n 2, 1) := by decide +kernel
theorem dL_define_5 : decode cL_define 5 = .ok (.invokevirtual 7, 3) := by decide +kernel
theorem dL_define_8 : decode cL_define 8 = .ok (.i2l, 1) := by decide +kernel
theorem dL_define_9 : decode cL_define 9 = .ok (.lastore, 1) := by decide +kernel
theorem dL_define_10 : decode cL_define 10 = .ok (.goto 7, 3) := by decide +kernel
theorem dL_define_13 : decode cL_define 13 = .ok (.astore 4, 2) := by decide +kernel
theorem dL_define_15 : decode cL_define 15 = .ok (.iconst 1, 1) := by decide +kernel
theorem dL_define_16 : decode cL_define 16 = .ok (.ireturn, 1) := by decide +kernel
theorem dL_define_17 : decode cL_define 17 = .ok (.iconst 0, 1) := by decide +kernel
theorem dL_define_18 : decode cL_define 18 = .ok (.ireturn, 1) := by decide +kernel
set_option maxRecDepth 20000 in
theorem ggL_get_X2_get : GoodIn wsL_get wsX2_get := goodIn_ca (goodIn_r _ [6, 7, 8, 9, 10, 11, 5, 12, 13, 14, 15, 16, 17, 18, 19, 20, 21, 22, 23, 24, 25, 26, 27, 28, 29, 30, 31, 32] (by decide +kernel) (by decide +kernel)) (goodIn_sub (fun _ h => List.mem_cons_of_mem _ (List.mem_append_right _ h)) (by decide +kernel))
set_option maxRecDepth 20000 in
theorem gL_get_X2_get : GoodIn wsL_get (wsV RL 15 RX2 yX2_get wsX2_get) := goodIn_app (goodIn_of _ (by decide +kernel)) ggL_get_X2_get
theorem dL_get_0 : decode cL_get 0 = .ok (.aload_n 2, 1) := by decide +kernel
theorem dL_get_1 : decode cL_get 1 = .ok (.iconst 0, 1) := by decide +kernel
theorem dL_get_2 : decode cL_get 2 = .ok (.aload_n 0, 1) := by decide +kernel
theorem dL_get_3 : decode cL_get 3 = .ok (.iload_n 1, 1) := by decide +kernel
theorem dL_get_4 : decode cL_get 4 = .ok (.invokevirtual 15, 3) := by decide +kernel
theorem dL_get_7 : decode cL_get 7 = .ok (.i2l, 1) := by decide +kernel
theorem dL_get_8 : decode cL_get 8 = .ok (.lastore, 1) := by decide +kernel
theorem dL_get_9 : decode cL_get 9 = .ok (.goto 6, 3) := by decide +kernel
theorem dL_get_12 : decode cL_get 12 = .ok (.astore_n 3, 1) := by decide +kernel
theorem dL_get_13 : decode cL_get 13 = .ok (.iconst 1, 1) := by decide +kernel
theorem dL_get_14 : decode cL_get 14 = .ok (.ireturn, 1) := by decide +kernel
theorem dL_get_15 : decode cL_get 15 = .ok (.iconst 0, 1) := by decide +kernel
theorem dL_get_16 : decode cL_get 16 = .ok (.ireturn, 1) := by decide +kernel
set_option maxRecDepth 20000 in
theorem ggL_about_X2_about : GoodIn wsL_about wsX2_about := goodIn_ca (goodIn_r _ [6, 7, 8, 9, 10, 11, 12, 5, 13, 14, 15, 16, 17, 18, 19, 20, 21, 22, 23, 24, 25, 26, 27, 28, 29, 30, 31, 32, 33, 34, 35, 36, 37, 38, 39, 40, 41, 42, 43, 44, 45, 46, 47, 48, 49, 50, 51, 52, 53, 54, 55, 56, 57] (by decide +kernel) (by decide +kernel)) (goodIn_sub (fun _ h => List.mem_cons_of_mem _ (List.mem_append_right _ h)) (by decide +kernel))
set_option maxRecDepth 20000 in
theorem gL_about_X2_about : GoodIn wsL_about (wsV RL 19 RX2 yX2_about wsX2_about) := goodIn_app (goodIn_of _ (by decide +kernel)) ggL_about_X2_about
theorem dL_about_0 : decode cL_about 0 = .ok (.aload_n 3, 1) := by decide +kernel
theorem dL_about_1 : decode cL_about 1 = .ok (.iconst 0, 1) := by decide +kernel
theorem dL_about_2 : decode cL_about 2 = .ok (.aload_n 0, 1) := by decide +kernel
theorem dL_about_3 : decode cL_about 3 = .ok (.iload_n 1, 1) := by decide +kernel
theorem dL_about_4 : decode cL_about 4 = .ok (.iload_n 2, 1) := by decide +kernel
theorem dL_about_5 : decode cL_about 5 = .ok (.invokevirtual 19, 3) := by decide +kernel
theorem dL_about_8 : decode cL_about 8 = .ok (.i2l, 1) := by decide +kernel
theorem dL_about_9 : decode cL_about 9 = .ok (.lastore, 1) := by decide +kernel
theorem dL_about_10 : decode cL_about 10 = .ok (.goto 7, 3) := by decide +kernel
theorem dL_about_13 : decode cL_about 13 = .ok (.astore 4, 2) := by decide +kernel
theorem dL_about_15 : decode cL_about 15 = .ok (.iconst 1, 1) := by decide +kernel
theorem dL_about_16 : decode cL_about 16 = .ok (.ireturn, 1) := by decide +kernel
theorem dL_about_17 : decode cL_about 17 = .ok (.iconst 0, 1) := by decide +kernel
theorem dL_about_18 : decode cL_about 18 = .ok (.ireturn, 1) := by decide +kernel
set_option maxRecDepth 20000 in
theorem ggL_number_X2_number : GoodIn wsL_number wsX2_number := goodIn_ca (goodIn_r _ [6, 7, 8, 9, 10, 11, 12, 5, 13, 14, 15, 16, 17, 18, 19, 20, 21, 22, 23, 24, 25, 26, 27, 28, 29, 30, 31, 32, 33, 34, 35, 36, 37, 38, 39, 40, 41, 42, 43, 44, 45, 46, 47, 48, 49, 50, 51, 52, 53, 54, 55, 56, 57, 58, 59, 60, 61, 62, 63, 64, 65, 66, 67, 68, 69, 70, 71, 72, 73] (by decide +kernel) (by decide +kernel)) (goodIn_sub (fun _ h => List.mem_cons_of_mem _ (List.mem_append_right _ h)) (by decide +kernel))
set_option maxRecDepth 20000 in
theorem gL_number_X2_number : GoodIn wsL_number (wsV RL 23 RX2 yX2_number wsX2_number) := goodIn_app (goodIn_of _ (by decide +kernel)) ggL_number_X2_number
theorem dL_number_0 : decode cL_number 0 = .ok (.aload_n 3, 1) := by decide +kernel
theorem dL_number_1 : decode cL_number 1 = .ok (.iconst 0, 1) := by decide +kernel
theorem dL_number_2 : decode cL_number 2 = .ok (.aload_n 0, 1) := by decide +kernel
theorem dL_number_3 : decode cL_number 3 = .ok (.iload_n 1, 1) := by decide +kernel
theorem dL_number_4 : decode cL_number 4 = .ok (.iload_n 2, 1) := by decide +kernel
theorem dL_number_5 : decode cL_number 5 = .ok (.invokevirtual 23, 3) := by decide +kernel
theorem dL_number_8 : decode cL_number 8 = .ok (.i2l, 1) := by decide +kernel
theorem dL_number_9 : decode cL_number 9 = .ok (.lastore, 1) := by decide +kernel
theorem dL_number_10 : decode cL_number 10 = .ok (.goto 7, 3) := by decide +kernel
theorem dL_number_13 : decode cL_number 13 = .ok (.astore 4, 2) := by decide +kernel
theorem dL_number_15 : decode cL_number 15 = .ok (.iconst 1, 1) := by decide +kernel
theorem dL_number_16 : decode cL_number 16 = .ok (.ireturn, 1) := by decide +kernel
theorem dL_number_17 : decode cL_number 17 = .ok (.iconst 0, 1) := by decide +kernel
theorem dL_number_18 : decode cL_number 18 = .ok (.ireturn, 1) := by decide +kernel
set_option maxRecDepth 20000 in
theorem ggL_law_X2_init : GoodIn wsL_law wsX2_init := goodIn_r _ [9, 10, 11, 12, 13, 14, 15, 16, 17, 18, 19, 20, 21, 22, 23, 24, 25, 26, 27, 28, 29, 30, 31, 32, 33, 34, 35, 36, 37, 38, 39, 40, 41, 42, 43, 44, 45, 342, 343, 344, 345, 346, 347, 348, 349, 329, 330, 350, 351, 352, 353, 354, 355, 356, 357, 358] (by decide +kernel) (by decide +kernel)
set_option maxRecDepth 20000 in
theorem gL_law_X2_init : GoodIn wsL_law (wsX2_init) := ggL_law_X2_init
set_option maxRecDepth 20000 in
theorem ggL_law_X3_init : GoodIn wsL_law wsX3_init := goodIn_r _ [48, 49, 11, 12, 24, 50, 51, 52, 53, 54, 55, 56, 331, 332, 333, 334, 335, 336, 337, 338, 339, 340, 341] (by decide +kernel) (by decide +kernel)
set_option maxRecDepth 20000 in
theorem gL_law_X3_init : GoodIn wsL_law (wsX3_init) := ggL_law_X3_init
set_option maxRecDepth 20000 in
theorem ggL_law_X2_open : GoodIn wsL_law wsX2_open := goodIn_r _ [60, 20, 61, 62, 63, 19, 64, 44, 329, 330, 350, 351, 352, 353, 354, 355, 356, 357, 358] (by decide +kernel) (by decide +kernel)
set_option maxRecDepth 20000 in
theorem gL_law_X2_open : GoodIn wsL_law (wsV RL 30 RX2 yX2_open wsX2_open) := goodIn_app (goodIn_of _ (by decide +kernel)) ggL_law_X2_open
set_option maxRecDepth 20000 in
theorem ggL_law_X3_open : GoodIn wsL_law wsX3_open := goodIn_r _ [68, 69, 70, 331, 332, 333, 334, 335, 336, 337, 338, 339, 340, 341] (by decide +kernel) (by decide +kernel)
set_option maxRecDepth 20000 in
theorem gL_law_X3_open : GoodIn wsL_law (wsV RL 34 RX3 yX3_open wsX3_open) := goodIn_app (goodIn_of _ (by decide +kernel)) ggL_law_X3_open
set_option maxRecDepth 20000 in
theorem ggL_law_X2_close : GoodIn wsL_law wsX2_close := goodIn_r _ [74, 20, 75, 76, 77, 19, 78, 44, 43, 40, 79, 80, 81, 82, 39, 37, 38, 41, 42, 83, 84, 85, 86, 87, 88, 89, 45, 90, 91, 92, 15, 93, 28, 32, 27, 94, 95, 96, 97, 29, 329, 330, 350, 351, 352, 353, 354, 355, 356, 357, 358, 342, 343, 344, 345, 346, 347, 348, 349] (by decide +kernel) (by decide +kernel)
set_option maxRecDepth 20000 in
theorem gL_law_X2_close : GoodIn wsL_law (wsV RL 35 RX2 yX2_close wsX2_close) := goodIn_app (goodIn_of _ (by decide +kernel)) ggL_law_X2_close
set_option maxRecDepth 20000 in
theorem ggL_law_X3_close : GoodIn wsL_law wsX3_close := goodIn_r _ [101, 69, 70, 102, 103, 104, 5, 105, 106, 50, 51, 52, 53, 331, 332, 333, 334, 335, 336, 337, 338, 339, 340, 341] (by decide +kernel) (by decide +kernel)
set_option maxRecDepth 20000 in
theorem gL_law_X3_close : GoodIn wsL_law (wsV RL 38 RX3 yX3_close wsX3_close) := goodIn_app (goodIn_of _ (by decide +kernel)) ggL_law_X3_close
set_option maxRecDepth 20000 in
theorem ggL_law_X2_set : GoodIn wsL_law wsX2_set := goodIn_r _ [110, 20, 111, 112, 2, 113, 114, 115, 116, 19, 117, 37, 38, 83, 84, 85, 118, 119, 120, 121, 45, 122, 123, 124, 15, 125, 28, 32, 27, 94, 95, 96, 97, 29, 126, 127, 128, 129, 43, 39, 41, 42, 86, 87, 88, 89, 90, 91, 92, 93, 130, 131, 132, 133, 40, 134, 135, 136, 137, 44, 138, 139, 140, 141, 329, 330, 350, 351, 352, 353, 354, 355, 356, 357, 358, 342, 343, 344, 345, 346, 347, 348, 349] (by decide +kernel) (by decide +kernel)
set_option maxRecDepth 20000 in
theorem gL_law_X2_set : GoodIn wsL_law (wsV RL 39 RX2 yX2_set wsX2_set) := goodIn_app (goodIn_of _ (by decide +kernel)) ggL_law_X2_set
set_option maxRecDepth 20000 in
theorem ggL_law_X3_set : GoodIn wsL_law wsX3_set := goodIn_r _ [145, 69, 146, 147, 5, 148, 149, 150, 151, 152, 70, 50, 106, 51, 52, 53, 102, 103, 104, 105, 331, 332, 333, 334, 335, 336, 337, 338, 339, 340, 341] (by decide +kernel) (by decide +kernel)
set_option maxRecDepth 20000 in
theorem gL_law_X3_set : GoodIn wsL_law (wsV RL 43 RX3 yX3_set wsX3_set) := goodIn_app (goodIn_of _ (by decide +kernel)) ggL_law_X3_set
set_option maxRecDepth 20000 in
theorem ggL_law_X2_mean : GoodIn wsL_law wsX2_mean := goodIn_r _ [156, 20, 157, 158, 2, 159, 160, 161, 162, 114, 115, 116, 19, 117, 37, 38, 83, 84, 85, 118, 119, 120, 121, 45, 122, 123, 124, 15, 125, 28, 32, 27, 94, 95, 96, 97, 29, 126, 127, 128, 129, 43, 39, 41, 42, 86, 87, 88, 89, 90, 91, 92, 93, 130, 131, 132, 133, 40, 134, 135, 136, 137, 44, 138, 139, 140, 141, 329, 330, 350, 351, 352, 353, 354, 355, 356, 357, 358, 342, 343, 344, 345, 346, 347, 348, 349] (by decide +kernel) (by decide +kernel)
set_option maxRecDepth 20000 in
theorem gL_law_X2_mean : GoodIn wsL_law (wsV RL 44 RX2 yX2_mean wsX2_mean) := goodIn_app (goodIn_of _ (by decide +kernel)) ggL_law_X2_mean
set_option maxRecDepth 20000 in
theorem ggL_law_X3_mean : GoodIn wsL_law wsX3_mean := goodIn_r _ [166, 69, 167, 168, 5, 169, 149, 150, 151, 152, 70, 50, 106, 51, 52, 53, 102, 103, 104, 105, 331, 332, 333, 334, 335, 336, 337, 338, 339, 340, 341] (by decide +kernel) (by decide +kernel)
set_option maxRecDepth 20000 in
theorem gL_law_X3_mean : GoodIn wsL_law (wsV RL 48 RX3 yX3_mean wsX3_mean) := goodIn_app (goodIn_of _ (by decide +kernel)) ggL_law_X3_mean
set_option maxRecDepth 20000 in
theorem ggL_law_X2_draft : GoodIn wsL_law wsX2_draft := goodIn_r _ [173, 16, 174, 175, 176, 15, 177, 30, 31, 25, 329, 330, 342, 343, 344, 345, 346, 347, 348, 349] (by decide +kernel) (by decide +kernel)
set_option maxRecDepth 20000 in
theorem gL_law_X2_draft : GoodIn wsL_law (wsV RL 49 RX2 yX2_draft wsX2_draft) := goodIn_app (goodIn_of _ (by decide +kernel)) ggL_law_X2_draft
set_option maxRecDepth 20000 in
theorem ggL_law_X3_draft : GoodIn wsL_law wsX3_draft := goodIn_r _ [181, 69, 182, 56, 55, 54, 331, 332, 333, 334, 335, 336, 337, 338, 339, 340, 341] (by decide +kernel) (by decide +kernel)
set_option maxRecDepth 20000 in
theorem gL_law_X3_draft : GoodIn wsL_law (wsV RL 53 RX3 yX3_draft wsX3_draft) := goodIn_app (goodIn_of _ (by decide +kernel)) ggL_law_X3_draft
set_option maxRecDepth 20000 in
theorem ggL_law_L_define : GoodIn wsL_law wsL_define := goodIn_ca (goodIn_r _ [186, 187, 188, 189, 190, 2, 191, 192, 193, 16, 20, 157, 158, 159, 194, 195, 196, 15, 197, 31, 29, 26, 30, 27, 114, 115, 116, 19, 117, 37, 38, 83, 84, 85, 118, 119, 120, 121, 45, 122, 123, 124, 125, 28, 32, 94, 95, 96, 97, 126, 127, 128, 129, 43, 39, 41, 42, 86, 87, 88, 89, 90, 91, 92, 93, 130, 131, 132, 133, 40, 134, 135, 136, 137, 44, 138, 139, 140, 141, 198, 199, 200, 201, 329, 330, 342, 343, 344, 345, 346, 347, 348, 349, 350, 351, 352, 353, 354, 355, 356, 357, 358] (by decide +kernel) (by decide +kernel)) (goodIn_sub (fun _ h => List.mem_append_right _ h) (by decide +kernel))
set_option maxRecDepth 20000 in
theorem gL_law_L_define : GoodIn wsL_law (va_wsS RL 54 yL_define wsL_define) := goodIn_app (goodIn_of _ (by decide +kernel)) ggL_law_L_define
set_option maxRecDepth 20000 in
theorem ggL_law_X3_define : GoodIn wsL_law wsX3_define := goodIn_r _ [205, 69, 167, 168, 5, 169, 206, 207, 208, 209, 210, 211, 212, 213, 54, 55, 182, 149, 150, 151, 152, 70, 50, 106, 51, 52, 53, 102, 103, 104, 105, 214, 215, 216, 217, 331, 332, 333, 334, 335, 336, 337, 338, 339, 340, 341] (by decide +kernel) (by decide +kernel)
set_option maxRecDepth 20000 in
theorem gL_law_X3_define : GoodIn wsL_law (wsV RL 59 RX3 yX3_define wsX3_define) := goodIn_app (goodIn_of _ (by decide +kernel)) ggL_law_X3_define
set_option maxRecDepth 20000 in
theorem ggL_law_X3_thrown : GoodIn wsL_law wsX3_thrown := goodIn_r _ [221, 69, 331, 332, 333, 334, 335, 336, 337, 338, 339, 340, 341] (by decide +kernel) (by decide +kernel)
set_option maxRecDepth 20000 in
theorem gL_law_X3_thrown : GoodIn wsL_law (wsV RL 60 RX3 yX3_thrown wsX3_thrown) := goodIn_app (goodIn_of _ (by decide +kernel)) ggL_law_X3_thrown
set_option maxRecDepth 20000 in
theorem ggL_law_X2_let : GoodIn wsL_law wsX2_let := goodIn_r _ [225, 20, 157, 158, 2, 159, 226, 227, 228, 19, 229, 37, 83, 84, 85, 230, 231, 232, 233, 38, 114, 115, 116, 117, 118, 119, 120, 121, 45, 122, 123, 124, 15, 125, 28, 32, 27, 94, 95, 96, 97, 29, 126, 127, 128, 129, 43, 39, 41, 42, 86, 87, 88, 89, 90, 91, 92, 93, 130, 131, 132, 133, 40, 134, 135, 136, 137, 44, 138, 139, 140, 141, 329, 330, 350, 351, 352, 353, 354, 355, 356, 357, 358, 342, 343, 344, 345, 346, 347, 348, 349] (by decide +kernel) (by decide +kernel)
set_option maxRecDepth 20000 in
theorem gL_law_X2_let : GoodIn wsL_law (wsV RL 64 RX2 yX2_let wsX2_let) := goodIn_app (goodIn_of _ (by decide +kernel)) ggL_law_X2_let
set_option maxRecDepth 20000 in
theorem ggL_law_X3_let : GoodIn wsL_law wsX3_let := goodIn_r _ [237, 69, 167, 168, 5, 169, 238, 239, 240, 241, 52, 242, 243, 244, 245, 106, 50, 246, 247, 248, 249, 53, 149, 150, 151, 152, 70, 51, 102, 103, 104, 105, 331, 332, 333, 334, 335, 336, 337, 338, 339, 340, 341] (by decide +kernel) (by decide +kernel)
set_option maxRecDepth 20000 in
theorem gL_law_X3_let : GoodIn wsL_law (wsV RL 67 RX3 yX3_let wsX3_let) := goodIn_app (goodIn_of _ (by decide +kernel)) ggL_law_X3_let
set_option maxRecDepth 20000 in
theorem ggL_law_X2_shape : GoodIn wsL_law wsX2_shape := goodIn_r _ [253, 16, 20, 194, 195, 196, 15, 197, 31, 29, 26, 30, 27, 114, 115, 116, 19, 117, 37, 38, 83, 84, 85, 118, 119, 120, 121, 45, 122, 123, 124, 125, 28, 32, 94, 95, 96, 97, 126, 127, 128, 129, 43, 39, 41, 42, 86, 87, 88, 89, 90, 91, 92, 93, 130, 131, 132, 133, 40, 134, 135, 136, 137, 44, 138, 139, 140, 141, 198, 199, 200, 201, 329, 330, 342, 343, 344, 345, 346, 347, 348, 349, 350, 351, 352, 353, 354, 355, 356, 357, 358] (by decide +kernel) (by decide +kernel)
set_option maxRecDepth 20000 in
theorem gL_law_X2_shape : GoodIn wsL_law (wsV RL 68 RX2 yX2_shape wsX2_shape) := goodIn_app (goodIn_of _ (by decide +kernel)) ggL_law_X2_shape
set_option maxRecDepth 20000 in
theorem ggL_law_X3_shape : GoodIn wsL_law wsX3_shape := goodIn_r _ [257, 69, 210, 211, 212, 5, 213, 54, 55, 182, 149, 150, 151, 152, 70, 50, 106, 51, 52, 53, 102, 103, 104, 105, 214, 215, 216, 217, 331, 332, 333, 334, 335, 336, 337, 338, 339, 340, 341] (by decide +kernel) (by decide +kernel)
set_option maxRecDepth 20000 in
theorem gL_law_X3_shape : GoodIn wsL_law (wsV RL 72 RX3 yX3_shape wsX3_shape) := goodIn_app (goodIn_of _ (by decide +kernel)) ggL_law_X3_shape
set_option maxRecDepth 20000 in
theorem ggL_law_L_get : GoodIn wsL_law wsL_get := goodIn_ca (goodIn_r _ [260, 187, 261, 262, 263, 2, 264, 192, 193, 20, 111, 112, 113, 230, 231, 232, 19, 233, 38, 83, 84, 85, 329, 330, 350, 351, 352, 353, 354, 355, 356, 357, 358] (by decide +kernel) (by decide +kernel)) (goodIn_sub (fun _ h => List.mem_append_right _ h) (by decide +kernel))
set_option maxRecDepth 20000 in
theorem gL_law_L_get : GoodIn wsL_law (va_wsS RL 73 yL_get wsL_get) := goodIn_app (goodIn_of _ (by decide +kernel)) ggL_law_L_get
set_option maxRecDepth 20000 in
theorem ggL_law_X3_get : GoodIn wsL_law wsX3_get := goodIn_r _ [268, 69, 146, 147, 5, 148, 206, 207, 208, 209, 246, 247, 248, 249, 53, 242, 243, 244, 245, 106, 50, 331, 332, 333, 334, 335, 336, 337, 338, 339, 340, 341] (by decide +kernel) (by decide +kernel)
set_option maxRecDepth 20000 in
theorem gL_law_X3_get : GoodIn wsL_law (wsV RL 76 RX3 yX3_get wsX3_get) := goodIn_app (goodIn_of _ (by decide +kernel)) ggL_law_X3_get
set_option maxRecDepth 20000 in
theorem ggL_law_L_about : GoodIn wsL_law wsL_about := goodIn_ca (goodIn_r _ [271, 187, 272, 273, 274, 2, 275, 192, 193, 20, 16, 157, 158, 159, 226, 227, 228, 19, 229, 37, 83, 84, 85, 230, 231, 232, 233, 38, 198, 199, 200, 15, 201, 27, 94, 95, 96, 97, 29, 329, 330, 350, 351, 352, 353, 354, 355, 356, 357, 358, 342, 343, 344, 345, 346, 347, 348, 349] (by decide +kernel) (by decide +kernel)) (goodIn_sub (fun _ h => List.mem_append_right _ h) (by decide +kernel))
set_option maxRecDepth 20000 in
theorem gL_law_L_about : GoodIn wsL_law (va_wsS RL 77 yL_about wsL_about) := goodIn_app (goodIn_of _ (by decide +kernel)) ggL_law_L_about
set_option maxRecDepth 20000 in
theorem ggL_law_X3_about : GoodIn wsL_law wsX3_about := goodIn_r _ [279, 69, 167, 168, 5, 169, 206, 207, 208, 209, 238, 239, 240, 241, 52, 242, 243, 244, 245, 106, 50, 246, 247, 248, 249, 53, 214, 215, 216, 217, 55, 331, 332, 333, 334, 335, 336, 337, 338, 339, 340, 341] (by decide +kernel) (by decide +kernel)
set_option maxRecDepth 20000 in
theorem gL_law_X3_about : GoodIn wsL_law (wsV RL 80 RX3 yX3_about wsX3_about) := goodIn_app (goodIn_of _ (by decide +kernel)) ggL_law_X3_about
set_option maxRecDepth 20000 in
theorem ggL_law_L_number : GoodIn wsL_law wsL_number := goodIn_ca (goodIn_r _ [282, 187, 283, 284, 285, 2, 286, 192, 193, 16, 287, 288, 289, 290, 20, 230, 231, 232, 19, 233, 38, 83, 84, 85, 157, 158, 159, 226, 227, 228, 229, 37, 198, 199, 200, 15, 201, 27, 94, 95, 96, 97, 29, 291, 292, 293, 294, 295, 296, 297, 298, 299, 26, 25, 300, 329, 330, 350, 351, 352, 353, 354, 355, 356, 357, 358, 342, 343, 344, 345, 346, 347, 348, 349] (by decide +kernel) (by decide +kernel)) (goodIn_sub (fun _ h => List.mem_append_right _ h) (by decide +kernel))
set_option maxRecDepth 20000 in
theorem gL_law_L_number : GoodIn wsL_law (va_wsS RL 81 yL_number wsL_number) := goodIn_app (goodIn_of _ (by decide +kernel)) ggL_law_L_number
set_option maxRecDepth 20000 in
theorem ggL_law_X3_number : GoodIn wsL_law wsX3_number := goodIn_r _ [304, 69, 56, 55, 246, 247, 248, 5, 249, 53, 242, 243, 244, 245, 106, 50, 214, 215, 216, 217, 167, 168, 169, 238, 239, 240, 241, 52, 206, 207, 208, 209, 331, 332, 333, 334, 335, 336, 337, 338, 339, 340, 341] (by decide +kernel) (by decide +kernel)
set_option maxRecDepth 20000 in
theorem gL_law_X3_number : GoodIn wsL_law (wsV RL 83 RX3 yX3_number wsX3_number) := goodIn_app (goodIn_of _ (by decide +kernel)) ggL_law_X3_number
set_option maxRecDepth 20000 in
theorem ggL_law_X2_count : GoodIn wsL_law wsX2_count := goodIn_r _ [308, 20, 16, 309, 310, 311, 19, 312, 44, 313, 314, 315, 15, 316, 31, 317, 318, 319, 320, 32, 329, 330, 350, 351, 352, 353, 354, 355, 356, 357, 358, 342, 343, 344, 345, 346, 347, 348, 349] (by decide +kernel) (by decide +kernel)
set_option maxRecDepth 20000 in
theorem gL_law_X2_count : GoodIn wsL_law (wsV RL 84 RX2 yX2_count wsX2_count) := goodIn_app (goodIn_of _ (by decide +kernel)) ggL_law_X2_count
set_option maxRecDepth 20000 in
theorem ggL_law_X3_count : GoodIn wsL_law wsX3_count := goodIn_r _ [324, 69, 70, 182, 325, 326, 327, 5, 328, 54, 106, 50, 52, 53, 214, 215, 216, 217, 55, 331, 332, 333, 334, 335, 336, 337, 338, 339, 340, 341] (by decide +kernel) (by decide +kernel)
set_option maxRecDepth 20000 in
theorem gL_law_X3_count : GoodIn wsL_law (wsV RL 87 RX3 yX3_count wsX3_count) := goodIn_app (goodIn_of _ (by decide +kernel)) ggL_law_X3_count
theorem dL_law_0 : decode cL_law 0 = .ok (.new 8, 3) := by decide +kernel
theorem dL_law_3 : decode cL_law 3 = .ok (.dup, 1) := by decide +kernel
theorem dL_law_4 : decode cL_law 4 = .ok (.invokespecial 26, 3) := by decide +kernel
theorem dL_law_7 : decode cL_law 7 = .ok (.astore_n 1, 1) := by decide +kernel
theorem dL_law_8 : decode cL_law 8 = .ok (.new 27, 3) := by decide +kernel
theorem dL_law_11 : decode cL_law 11 = .ok (.dup, 1) := by decide +kernel
theorem dL_law_12 : decode cL_law 12 = .ok (.invokespecial 29, 3) := by decide +kernel
theorem dL_law_15 : decode cL_law 15 = .ok (.astore_n 2, 1) := by decide +kernel
theorem dL_law_16 : decode cL_law 16 = .ok (.iconst 1, 1) := by decide +kernel
theorem dL_law_17 : decode cL_law 17 = .ok (.newarray .long, 2) := by decide +kernel
theorem dL_law_19 : decode cL_law 19 = .ok (.astore_n 3, 1) := by decide +kernel
theorem dL_law_20 : decode cL_law 20 = .ok (.iconst 0, 1) := by decide +kernel
theorem dL_law_21 : decode cL_law 21 = .ok (.istore 4, 2) := by decide +kernel
theorem dL_law_23 : decode cL_law 23 = .ok (.iload 4, 2) := by decide +kernel
theorem dL_law_25 : decode cL_law 25 = .ok (.aload_n 0, 1) := by decide +kernel
theorem dL_law_26 : decode cL_law 26 = .ok (.arraylength, 1) := by decide +kernel
theorem dL_law_27 : decode cL_law 27 = .ok (.iconst 5, 1) := by decide +kernel
theorem dL_law_28 : decode cL_law 28 = .ok (.isub, 1) := by decide +kernel
theorem dL_law_29 : decode cL_law 29 = .ok (.if_icmp .gt 677, 3) := by decide +kernel
theorem dL_law_32 : decode cL_law 32 = .ok (.aload_n 0, 1) := by decide +kernel
theorem dL_law_33 : decode cL_law 33 = .ok (.iload 4, 2) := by decide +kernel
theorem dL_law_35 : decode cL_law 35 = .ok (.iaload, 1) := by decide +kernel
theorem dL_law_36 : decode cL_law 36 = .ok (.bipush 15, 2) := by decide +kernel
theorem dL_law_38 : decode cL_law 38 = .ok (.iand, 1) := by decide +kernel
theorem dL_law_39 : decode cL_law 39 = .ok (.tableswitch 661 0 11 #[61, 74, 87, 152, 229, 254, 338, 403, 444, 500, 568, 636], 61) := by decide +kernel
theorem dL_law_100 : decode cL_law 100 = .ok (.aload_n 1, 1) := by decide +kernel
theorem dL_law_101 : decode cL_law 101 = .ok (.invokevirtual 30, 3) := by decide +kernel
theorem dL_law_104 : decode cL_law 104 = .ok (.aload_n 2, 1) := by decide +kernel
theorem dL_law_105 : decode cL_law 105 = .ok (.invokevirtual 34, 3) := by decide +kernel
theorem dL_law_108 : decode cL_law 108 = .ok (.if_icmp .eq 592, 3) := by decide +kernel
theorem dL_law_111 : decode cL_law 111 = .ok (.iconst 0, 1) := by decide +kernel
theorem dL_law_112 : decode cL_law 112 = .ok (.ireturn, 1) := by decide +kernel
theorem dL_law_113 : decode cL_law 113 = .ok (.aload_n 1, 1) := by decide +kernel
theorem dL_law_114 : decode cL_law 114 = .ok (.invokevirtual 35, 3) := by decide +kernel
theorem dL_law_117 : decode cL_law 117 = .ok (.aload_n 2, 1) := by decide +kernel
theorem dL_law_118 : decode cL_law 118 = .ok (.invokevirtual 38, 3) := by decide +kernel
theorem dL_law_121 : decode cL_law 121 = .ok (.if_icmp .eq 579, 3) := by decide +kernel
theorem dL_law_124 : decode cL_law 124 = .ok (.iconst 0, 1) := by decide +kernel
theorem dL_law_125 : decode cL_law 125 = .ok (.ireturn, 1) := by decide +kernel
theorem dL_law_126 : decode cL_law 126 = .ok (.aload_n 1, 1) := by decide +kernel
theorem dL_law_127 : decode cL_law 127 = .ok (.aload_n 0, 1) := by decide +kernel
theorem dL_law_128 : decode cL_law 128 = .ok (.iload 4, 2) := by decide +kernel
theorem dL_law_130 : decode cL_law 130 = .ok (.iconst 1, 1) := by decide +kernel
theorem dL_law_131 : decode cL_law 131 = .ok (.iadd, 1) := by decide +kernel
theorem dL_law_132 : decode cL_law 132 = .ok (.iaload, 1) := by decide +kernel
theorem dL_law_133 : decode cL_law 133 = .ok (.aload_n 0, 1) := by decide +kernel
theorem dL_law_134 : decode cL_law 134 = .ok (.iload 4, 2) := by decide +kernel
theorem dL_law_136 : decode cL_law 136 = .ok (.iconst 2, 1) := by decide +kernel
theorem dL_law_137 : decode cL_law 137 = .ok (.iadd, 1) := by decide +kernel
theorem dL_law_138 : decode cL_law 138 = .ok (.iaload, 1) := by decide +kernel
theorem dL_law_139 : decode cL_law 139 = .ok (.aload_n 0, 1) := by decide +kernel
theorem dL_law_140 : decode cL_law 140 = .ok (.iload 4, 2) := by decide +kernel
theorem dL_law_142 : decode cL_law 142 = .ok (.iconst 3, 1) := by decide +kernel
theorem dL_law_143 : decode cL_law 143 = .ok (.iadd, 1) := by decide +kernel
theorem dL_law_144 : decode cL_law 144 = .ok (.iaload, 1) := by decide +kernel
theorem dL_law_145 : decode cL_law 145 = .ok (.ifCond .eq 7, 3) := by decide +kernel
theorem dL_law_148 : decode cL_law 148 = .ok (.iconst 1, 1) := by decide +kernel
theorem dL_law_149 : decode cL_law 149 = .ok (.goto 4, 3) := by decide +kernel
theorem dL_law_152 : decode cL_law 152 = .ok (.iconst 0, 1) := by decide +kernel
theorem dL_law_153 : decode cL_law 153 = .ok (.invokevirtual 39, 3) := by decide +kernel
theorem dL_law_156 : decode cL_law 156 = .ok (.aload_n 2, 1) := by decide +kernel
theorem dL_law_157 : decode cL_law 157 = .ok (.aload_n 0, 1) := by decide +kernel
theorem dL_law_158 : decode cL_law 158 = .ok (.iload 4, 2) := by decide +kernel
theorem dL_law_160 : decode cL_law 160 = .ok (.iconst 1, 1) := by decide +kernel
theorem dL_law_161 : decode cL_law 161 = .ok (.iadd, 1) := by decide +kernel
theorem dL_law_162 : decode cL_law 162 = .ok (.iaload, 1) := by decide +kernel
theorem dL_law_163 : decode cL_law 163 = .ok (.aload_n 0, 1) := by decide +kernel
theorem dL_law_164 : decode cL_law 164 = .ok (.iload 4, 2) := by decide +kernel
theorem dL_law_166 : decode cL_law 166 = .ok (.iconst 2, 1) := by decide +kernel
theorem dL_law_167 : decode cL_law 167 = .ok (.iadd, 1) := by decide +kernel
theorem dL_law_168 : decode cL_law 168 = .ok (.iaload, 1) := by decide +kernel
theorem dL_law_169 : decode cL_law 169 = .ok (.aload_n 0, 1) := by decide +kernel
theorem dL_law_170 : decode cL_law 170 = .ok (.iload 4, 2) := by decide +kernel
theorem dL_law_172 : decode cL_law 172 = .ok (.iconst 3, 1) := by decide +kernel
theorem dL_law_173 : decode cL_law 173 = .ok (.iadd, 1) := by decide +kernel
theorem dL_law_174 : decode cL_law 174 = .ok (.iaload, 1) := by decide +kernel
theorem dL_law_175 : decode cL_law 175 = .ok (.ifCond .eq 7, 3) := by decide +kernel
theorem dL_law_178 : decode cL_law 178 = .ok (.iconst 1, 1) := by decide +kernel
theorem dL_law_179 : decode cL_law 179 = .ok (.goto 4, 3) := by decide +kernel
theorem dL_law_182 : decode cL_law 182 = .ok (.iconst 0, 1) := by decide +kernel
theorem dL_law_183 : decode cL_law 183 = .ok (.invokevirtual 43, 3) := by decide +kernel
theorem dL_law_186 : decode cL_law 186 = .ok (.if_icmp .eq 514, 3) := by decide +kernel
theorem dL_law_189 : decode cL_law 189 = .ok (.iconst 0, 1) := by decide +kernel
theorem dL_law_190 : decode cL_law 190 = .ok (.ireturn, 1) := by decide +kernel
theorem dL_law_191 : decode cL_law 191 = .ok (.aload_n 1, 1) := by decide +kernel
theorem dL_law_192 : decode cL_law 192 = .ok (.aload_n 0, 1) := by decide +kernel
theorem dL_law_193 : decode cL_law 193 = .ok (.iload 4, 2) := by decide +kernel
theorem dL_law_195 : decode cL_law 195 = .ok (.iconst 1, 1) := by decide +kernel
theorem dL_law_196 : decode cL_law 196 = .ok (.iadd, 1) := by decide +kernel
theorem dL_law_197 : decode cL_law 197 = .ok (.iaload, 1) := by decide +kernel
theorem dL_law_198 : decode cL_law 198 = .ok (.aload_n 0, 1) := by decide +kernel
theorem dL_law_199 : decode cL_law 199 = .ok (.iload 4, 2) := by decide +kernel
theorem dL_law_201 : decode cL_law 201 = .ok (.iconst 2, 1) := by decide +kernel
theorem dL_law_202 : decode cL_law 202 = .ok (.iadd, 1) := by decide +kernel
theorem dL_law_203 : decode cL_law 203 = .ok (.iaload, 1) := by decide +kernel
theorem dL_law_204 : decode cL_law 204 = .ok (.aload_n 0, 1) := by decide +kernel
theorem dL_law_205 : decode cL_law 205 = .ok (.iload 4, 2) := by decide +kernel
theorem dL_law_207 : decode cL_law 207 = .ok (.iconst 3, 1) := by decide +kernel
theorem dL_law_208 : decode cL_law 208 = .ok (.iadd, 1) := by decide +kernel
theorem dL_law_209 : decode cL_law 209 = .ok (.iaload, 1) := by decide +kernel
theorem dL_law_210 : decode cL_law 210 = .ok (.aload_n 0, 1) := by decide +kernel
theorem dL_law_211 : decode cL_law 211 = .ok (.iload 4, 2) := by decide +kernel
theorem dL_law_213 : decode cL_law 213 = .ok (.iconst 4, 1) := by decide +kernel
theorem dL_law_214 : decode cL_law 214 = .ok (.iadd, 1) := by decide +kernel
theorem dL_law_215 : decode cL_law 215 = .ok (.iaload, 1) := by decide +kernel
theorem dL_law_216 : decode cL_law 216 = .ok (.ifCond .eq 7, 3) := by decide +kernel
theorem dL_law_219 : decode cL_law 219 = .ok (.iconst 1, 1) := by decide +kernel
theorem dL_law_220 : decode cL_law 220 = .ok (.goto 4, 3) := by decide +kernel
theorem dL_law_223 : decode cL_law 223 = .ok (.iconst 0, 1) := by decide +kernel
theorem dL_law_224 : decode cL_law 224 = .ok (.invokevirtual 44, 3) := by decide +kernel
theorem dL_law_227 : decode cL_law 227 = .ok (.aload_n 2, 1) := by decide +kernel
theorem dL_law_228 : decode cL_law 228 = .ok (.aload_n 0, 1) := by decide +kernel
theorem dL_law_229 : decode cL_law 229 = .ok (.iload 4, 2) := by decide +kernel
theorem dL_law_231 : decode cL_law 231 = .ok (.iconst 1, 1) := by decide +kernel
theorem dL_law_232 : decode cL_law 232 = .ok (.iadd, 1) := by decide +kernel
theorem dL_law_233 : decode cL_law 233 = .ok (.iaload, 1) := by decide +kernel
theorem dL_law_234 : decode cL_law 234 = .ok (.aload_n 0, 1) := by decide +kernel
theorem dL_law_235 : decode cL_law 235 = .ok (.iload 4, 2) := by decide +kernel
theorem dL_law_237 : decode cL_law 237 = .ok (.iconst 2, 1) := by decide +kernel
theorem dL_law_238 : decode cL_law 238 = .ok (.iadd, 1) := by decide +kernel
theorem dL_law_239 : decode cL_law 239 = .ok (.iaload, 1) := by decide +kernel
theorem dL_law_240 : decode cL_law 240 = .ok (.aload_n 0, 1) := by decide +kernel
theorem dL_law_241 : decode cL_law 241 = .ok (.iload 4, 2) := by decide +kernel
theorem dL_law_243 : decode cL_law 243 = .ok (.iconst 3, 1) := by decide +kernel
theorem dL_law_244 : decode cL_law 244 = .ok (.iadd, 1) := by decide +kernel
theorem dL_law_245 : decode cL_law 245 = .ok (.iaload, 1) := by decide +kernel
theorem dL_law_246 : decode cL_law 246 = .ok (.aload_n 0, 1) := by decide +kernel
theorem dL_law_247 : decode cL_law 247 = .ok (.iload 4, 2) := by decide +kernel
theorem dL_law_249 : decode cL_law 249 = .ok (.iconst 4, 1) := by decide +kernel
theorem dL_law_250 : decode cL_law 250 = .ok (.iadd, 1) := by decide +kernel
theorem dL_law_251 : decode cL_law 251 = .ok (.iaload, 1) := by decide +kernel
theorem dL_law_252 : decode cL_law 252 = .ok (.ifCond .eq 7, 3) := by decide +kernel
theorem dL_law_255 : decode cL_law 255 = .ok (.iconst 1, 1) := by decide +kernel
theorem dL_law_256 : decode cL_law 256 = .ok (.goto 4, 3) := by decide +kernel
theorem dL_law_259 : decode cL_law 259 = .ok (.iconst 0, 1) := by decide +kernel
theorem dL_law_260 : decode cL_law 260 = .ok (.invokevirtual 48, 3) := by decide +kernel
theorem dL_law_263 : decode cL_law 263 = .ok (.if_icmp .eq 437, 3) := by decide +kernel
theorem dL_law_266 : decode cL_law 266 = .ok (.iconst 0, 1) := by decide +kernel
theorem dL_law_267 : decode cL_law 267 = .ok (.ireturn, 1) := by decide +kernel
theorem dL_law_268 : decode cL_law 268 = .ok (.aload_n 1, 1) := by decide +kernel
theorem dL_law_269 : decode cL_law 269 = .ok (.aload_n 0, 1) := by decide +kernel
theorem dL_law_270 : decode cL_law 270 = .ok (.iload 4, 2) := by decide +kernel
theorem dL_law_272 : decode cL_law 272 = .ok (.iconst 1, 1) := by decide +kernel
theorem dL_law_273 : decode cL_law 273 = .ok (.iadd, 1) := by decide +kernel
theorem dL_law_274 : decode cL_law 274 = .ok (.iaload, 1) := by decide +kernel
theorem dL_law_275 : decode cL_law 275 = .ok (.invokevirtual 49, 3) := by decide +kernel
theorem dL_law_278 : decode cL_law 278 = .ok (.aload_n 2, 1) := by decide +kernel
theorem dL_law_279 : decode cL_law 279 = .ok (.aload_n 0, 1) := by decide +kernel
theorem dL_law_280 : decode cL_law 280 = .ok (.iload 4, 2) := by decide +kernel
theorem dL_law_282 : decode cL_law 282 = .ok (.iconst 1, 1) := by decide +kernel
theorem dL_law_283 : decode cL_law 283 = .ok (.iadd, 1) := by decide +kernel
theorem dL_law_284 : decode cL_law 284 = .ok (.iaload, 1) := by decide +kernel
theorem dL_law_285 : decode cL_law 285 = .ok (.invokevirtual 53, 3) := by decide +kernel
theorem dL_law_288 : decode cL_law 288 = .ok (.if_icmp .eq 412, 3) := by decide +kernel
theorem dL_law_291 : decode cL_law 291 = .ok (.iconst 0, 1) := by decide +kernel
theorem dL_law_292 : decode cL_law 292 = .ok (.ireturn, 1) := by decide +kernel
theorem dL_law_293 : decode cL_law 293 = .ok (.aload_n 1, 1) := by decide +kernel
theorem dL_law_294 : decode cL_law 294 = .ok (.aload_n 0, 1) := by decide +kernel
theorem dL_law_295 : decode cL_law 295 = .ok (.iload 4, 2) := by decide +kernel
theorem dL_law_297 : decode cL_law 297 = .ok (.iconst 1, 1) := by decide +kernel
theorem dL_law_298 : decode cL_law 298 = .ok (.iadd, 1) := by decide +kernel
theorem dL_law_299 : decode cL_law 299 = .ok (.iaload, 1) := by decide +kernel
theorem dL_law_300 : decode cL_law 300 = .ok (.aload_n 0, 1) := by decide +kernel
theorem dL_law_301 : decode cL_law 301 = .ok (.iload 4, 2) := by decide +kernel
theorem dL_law_303 : decode cL_law 303 = .ok (.iconst 2, 1) := by decide +kernel
theorem dL_law_304 : decode cL_law 304 = .ok (.iadd, 1) := by decide +kernel
theorem dL_law_305 : decode cL_law 305 = .ok (.iaload, 1) := by decide +kernel
theorem dL_law_306 : decode cL_law 306 = .ok (.ifCond .eq 7, 3) := by decide +kernel
theorem dL_law_309 : decode cL_law 309 = .ok (.iconst 1, 1) := by decide +kernel
theorem dL_law_310 : decode cL_law 310 = .ok (.goto 4, 3) := by decide +kernel
theorem dL_law_313 : decode cL_law 313 = .ok (.iconst 0, 1) := by decide +kernel
theorem dL_law_314 : decode cL_law 314 = .ok (.aload_n 3, 1) := by decide +kernel
theorem dL_law_315 : decode cL_law 315 = .ok (.invokestatic 54, 3) := by decide +kernel
theorem dL_law_318 : decode cL_law 318 = .ok (.istore 5, 2) := by decide +kernel
theorem dL_law_320 : decode cL_law 320 = .ok (.aload_n 2, 1) := by decide +kernel
theorem dL_law_321 : decode cL_law 321 = .ok (.aload_n 0, 1) := by decide +kernel
theorem dL_law_322 : decode cL_law 322 = .ok (.iload 4, 2) := by decide +kernel
theorem dL_law_324 : decode cL_law 324 = .ok (.iconst 1, 1) := by decide +kernel
theorem dL_law_325 : decode cL_law 325 = .ok (.iadd, 1) := by decide +kernel
theorem dL_law_326 : decode cL_law 326 = .ok (.iaload, 1) := by decide +kernel
theorem dL_law_327 : decode cL_law 327 = .ok (.aload_n 0, 1) := by decide +kernel
theorem dL_law_328 : decode cL_law 328 = .ok (.iload 4, 2) := by decide +kernel
theorem dL_law_330 : decode cL_law 330 = .ok (.iconst 2, 1) := by decide +kernel
theorem dL_law_331 : decode cL_law 331 = .ok (.iadd, 1) := by decide +kernel
theorem dL_law_332 : decode cL_law 332 = .ok (.iaload, 1) := by decide +kernel
theorem dL_law_333 : decode cL_law 333 = .ok (.ifCond .eq 7, 3) := by decide +kernel
theorem dL_law_336 : decode cL_law 336 = .ok (.iconst 1, 1) := by decide +kernel
theorem dL_law_337 : decode cL_law 337 = .ok (.goto 4, 3) := by decide +kernel
theorem dL_law_340 : decode cL_law 340 = .ok (.iconst 0, 1) := by decide +kernel
theorem dL_law_341 : decode cL_law 341 = .ok (.invokevirtual 59, 3) := by decide +kernel
theorem dL_law_344 : decode cL_law 344 = .ok (.istore 6, 2) := by decide +kernel
theorem dL_law_346 : decode cL_law 346 = .ok (.aload_n 2, 1) := by decide +kernel
theorem dL_law_347 : decode cL_law 347 = .ok (.invokevirtual 60, 3) := by decide +kernel
theorem dL_law_350 : decode cL_law 350 = .ok (.iload 5, 2) := by decide +kernel
theorem dL_law_352 : decode cL_law 352 = .ok (.if_icmp .eq 5, 3) := by decide +kernel
theorem dL_law_355 : decode cL_law 355 = .ok (.iconst 0, 1) := by decide +kernel
theorem dL_law_356 : decode cL_law 356 = .ok (.ireturn, 1) := by decide +kernel
theorem dL_law_357 : decode cL_law 357 = .ok (.iload 5, 2) := by decide +kernel
theorem dL_law_359 : decode cL_law 359 = .ok (.ifCond .ne 15, 3) := by decide +kernel
theorem dL_law_362 : decode cL_law 362 = .ok (.aload_n 3, 1) := by decide +kernel
theorem dL_law_363 : decode cL_law 363 = .ok (.iconst 0, 1) := by decide +kernel
theorem dL_law_364 : decode cL_law 364 = .ok (.laload, 1) := by decide +kernel
theorem dL_law_365 : decode cL_law 365 = .ok (.iload 6, 2) := by decide +kernel
theorem dL_law_367 : decode cL_law 367 = .ok (.i2l, 1) := by decide +kernel
theorem dL_law_368 : decode cL_law 368 = .ok (.lcmp, 1) := by decide +kernel
theorem dL_law_369 : decode cL_law 369 = .ok (.ifCond .eq 5, 3) := by decide +kernel
theorem dL_law_372 : decode cL_law 372 = .ok (.iconst 0, 1) := by decide +kernel
theorem dL_law_373 : decode cL_law 373 = .ok (.ireturn, 1) := by decide +kernel
theorem dL_law_374 : decode cL_law 374 = .ok (.goto 326, 3) := by decide +kernel
theorem dL_law_377 : decode cL_law 377 = .ok (.aload_n 1, 1) := by decide +kernel
theorem dL_law_378 : decode cL_law 378 = .ok (.aload_n 0, 1) := by decide +kernel
theorem dL_law_379 : decode cL_law 379 = .ok (.iload 4, 2) := by decide +kernel
theorem dL_law_381 : decode cL_law 381 = .ok (.iconst 1, 1) := by decide +kernel
theorem dL_law_382 : decode cL_law 382 = .ok (.iadd, 1) := by decide +kernel
theorem dL_law_383 : decode cL_law 383 = .ok (.iaload, 1) := by decide +kernel
theorem dL_law_384 : decode cL_law 384 = .ok (.aload_n 0, 1) := by decide +kernel
theorem dL_law_385 : decode cL_law 385 = .ok (.iload 4, 2) := by decide +kernel
theorem dL_law_387 : decode cL_law 387 = .ok (.iconst 2, 1) := by decide +kernel
theorem dL_law_388 : decode cL_law 388 = .ok (.iadd, 1) := by decide +kernel
theorem dL_law_389 : decode cL_law 389 = .ok (.iaload, 1) := by decide +kernel
theorem dL_law_390 : decode cL_law 390 = .ok (.aload_n 0, 1) := by decide +kernel
theorem dL_law_391 : decode cL_law 391 = .ok (.iload 4, 2) := by decide +kernel
theorem dL_law_393 : decode cL_law 393 = .ok (.iconst 3, 1) := by decide +kernel
theorem dL_law_394 : decode cL_law 394 = .ok (.iadd, 1) := by decide +kernel
theorem dL_law_395 : decode cL_law 395 = .ok (.iaload, 1) := by decide +kernel
theorem dL_law_396 : decode cL_law 396 = .ok (.ifCond .eq 7, 3) := by decide +kernel
theorem dL_law_399 : decode cL_law 399 = .ok (.iconst 1, 1) := by decide +kernel
theorem dL_law_400 : decode cL_law 400 = .ok (.goto 4, 3) := by decide +kernel
theorem dL_law_403 : decode cL_law 403 = .ok (.iconst 0, 1) := by decide +kernel
theorem dL_law_404 : decode cL_law 404 = .ok (.invokevirtual 64, 3) := by decide +kernel
theorem dL_law_407 : decode cL_law 407 = .ok (.aload_n 2, 1) := by decide +kernel
theorem dL_law_408 : decode cL_law 408 = .ok (.aload_n 0, 1) := by decide +kernel
theorem dL_law_409 : decode cL_law 409 = .ok (.iload 4, 2) := by decide +kernel
theorem dL_law_411 : decode cL_law 411 = .ok (.iconst 1, 1) := by decide +kernel
theorem dL_law_412 : decode cL_law 412 = .ok (.iadd, 1) := by decide +kernel
theorem dL_law_413 : decode cL_law 413 = .ok (.iaload, 1) := by decide +kernel
theorem dL_law_414 : decode cL_law 414 = .ok (.aload_n 0, 1) := by decide +kernel
theorem dL_law_415 : decode cL_law 415 = .ok (.iload 4, 2) := by decide +kernel
theorem dL_law_417 : decode cL_law 417 = .ok (.iconst 2, 1) := by decide +kernel
theorem dL_law_418 : decode cL_law 418 = .ok (.iadd, 1) := by decide +kernel
theorem dL_law_419 : decode cL_law 419 = .ok (.iaload, 1) := by decide +kernel
theorem dL_law_420 : decode cL_law 420 = .ok (.aload_n 0, 1) := by decide +kernel
theorem dL_law_421 : decode cL_law 421 = .ok (.iload 4, 2) := by decide +kernel
theorem dL_law_423 : decode cL_law 423 = .ok (.iconst 3, 1) := by decide +kernel
theorem dL_law_424 : decode cL_law 424 = .ok (.iadd, 1) := by decide +kernel
theorem dL_law_425 : decode cL_law 425 = .ok (.iaload, 1) := by decide +kernel
theorem dL_law_426 : decode cL_law 426 = .ok (.ifCond .eq 7, 3) := by decide +kernel
theorem dL_law_429 : decode cL_law 429 = .ok (.iconst 1, 1) := by decide +kernel
theorem dL_law_430 : decode cL_law 430 = .ok (.goto 4, 3) := by decide +kernel
theorem dL_law_433 : decode cL_law 433 = .ok (.iconst 0, 1) := by decide +kernel
theorem dL_law_434 : decode cL_law 434 = .ok (.invokevirtual 67, 3) := by decide +kernel
theorem dL_law_437 : decode cL_law 437 = .ok (.if_icmp .eq 263, 3) := by decide +kernel
theorem dL_law_440 : decode cL_law 440 = .ok (.iconst 0, 1) := by decide +kernel
theorem dL_law_441 : decode cL_law 441 = .ok (.ireturn, 1) := by decide +kernel
theorem dL_law_442 : decode cL_law 442 = .ok (.aload_n 1, 1) := by decide +kernel
theorem dL_law_443 : decode cL_law 443 = .ok (.aload_n 0, 1) := by decide +kernel
theorem dL_law_444 : decode cL_law 444 = .ok (.iload 4, 2) := by decide +kernel
theorem dL_law_446 : decode cL_law 446 = .ok (.iconst 1, 1) := by decide +kernel
theorem dL_law_447 : decode cL_law 447 = .ok (.iadd, 1) := by decide +kernel
theorem dL_law_448 : decode cL_law 448 = .ok (.iaload, 1) := by decide +kernel
theorem dL_law_449 : decode cL_law 449 = .ok (.ifCond .eq 7, 3) := by decide +kernel
theorem dL_law_452 : decode cL_law 452 = .ok (.iconst 1, 1) := by decide +kernel
theorem dL_law_453 : decode cL_law 453 = .ok (.goto 4, 3) := by decide +kernel
theorem dL_law_456 : decode cL_law 456 = .ok (.iconst 0, 1) := by decide +kernel
theorem dL_law_457 : decode cL_law 457 = .ok (.invokevirtual 68, 3) := by decide +kernel
theorem dL_law_460 : decode cL_law 460 = .ok (.aload_n 2, 1) := by decide +kernel
theorem dL_law_461 : decode cL_law 461 = .ok (.aload_n 0, 1) := by decide +kernel
theorem dL_law_462 : decode cL_law 462 = .ok (.iload 4, 2) := by decide +kernel
theorem dL_law_464 : decode cL_law 464 = .ok (.iconst 1, 1) := by decide +kernel
theorem dL_law_465 : decode cL_law 465 = .ok (.iadd, 1) := by decide +kernel
theorem dL_law_466 : decode cL_law 466 = .ok (.iaload, 1) := by decide +kernel
theorem dL_law_467 : decode cL_law 467 = .ok (.ifCond .eq 7, 3) := by decide +kernel
theorem dL_law_470 : decode cL_law 470 = .ok (.iconst 1, 1) := by decide +kernel
theorem dL_law_471 : decode cL_law 471 = .ok (.goto 4, 3) := by decide +kernel
theorem dL_law_474 : decode cL_law 474 = .ok (.iconst 0, 1) := by decide +kernel
theorem dL_law_475 : decode cL_law 475 = .ok (.invokevirtual 72, 3) := by decide +kernel
theorem dL_law_478 : decode cL_law 478 = .ok (.if_icmp .eq 222, 3) := by decide +kernel
theorem dL_law_481 : decode cL_law 481 = .ok (.iconst 0, 1) := by decide +kernel
theorem dL_law_482 : decode cL_law 482 = .ok (.ireturn, 1) := by decide +kernel
theorem dL_law_483 : decode cL_law 483 = .ok (.aload_n 1, 1) := by decide +kernel
theorem dL_law_484 : decode cL_law 484 = .ok (.aload_n 0, 1) := by decide +kernel
theorem dL_law_485 : decode cL_law 485 = .ok (.iload 4, 2) := by decide +kernel
theorem dL_law_487 : decode cL_law 487 = .ok (.iconst 1, 1) := by decide +kernel
theorem dL_law_488 : decode cL_law 488 = .ok (.iadd, 1) := by decide +kernel
theorem dL_law_489 : decode cL_law 489 = .ok (.iaload, 1) := by decide +kernel
theorem dL_law_490 : decode cL_law 490 = .ok (.aload_n 3, 1) := by decide +kernel
theorem dL_law_491 : decode cL_law 491 = .ok (.invokestatic 73, 3) := by decide +kernel
theorem dL_law_494 : decode cL_law 494 = .ok (.istore 5, 2) := by decide +kernel
theorem dL_law_496 : decode cL_law 496 = .ok (.aload_n 2, 1) := by decide +kernel
theorem dL_law_497 : decode cL_law 497 = .ok (.aload_n 0, 1) := by decide +kernel
theorem dL_law_498 : decode cL_law 498 = .ok (.iload 4, 2) := by decide +kernel
theorem dL_law_500 : decode cL_law 500 = .ok (.iconst 1, 1) := by decide +kernel
theorem dL_law_501 : decode cL_law 501 = .ok (.iadd, 1) := by decide +kernel
theorem dL_law_502 : decode cL_law 502 = .ok (.iaload, 1) := by decide +kernel
theorem dL_law_503 : decode cL_law 503 = .ok (.invokevirtual 76, 3) := by decide +kernel
theorem dL_law_506 : decode cL_law 506 = .ok (.istore 6, 2) := by decide +kernel
theorem dL_law_508 : decode cL_law 508 = .ok (.aload_n 2, 1) := by decide +kernel
theorem dL_law_509 : decode cL_law 509 = .ok (.invokevirtual 60, 3) := by decide +kernel
theorem dL_law_512 : decode cL_law 512 = .ok (.iload 5, 2) := by decide +kernel
theorem dL_law_514 : decode cL_law 514 = .ok (.if_icmp .eq 5, 3) := by decide +kernel
theorem dL_law_517 : decode cL_law 517 = .ok (.iconst 0, 1) := by decide +kernel
theorem dL_law_518 : decode cL_law 518 = .ok (.ireturn, 1) := by decide +kernel
theorem dL_law_519 : decode cL_law 519 = .ok (.iload 5, 2) := by decide +kernel
theorem dL_law_521 : decode cL_law 521 = .ok (.ifCond .ne 15, 3) := by decide +kernel
theorem dL_law_524 : decode cL_law 524 = .ok (.aload_n 3, 1) := by decide +kernel
theorem dL_law_525 : decode cL_law 525 = .ok (.iconst 0, 1) := by decide +kernel
theorem dL_law_526 : decode cL_law 526 = .ok (.laload, 1) := by decide +kernel
theorem dL_law_527 : decode cL_law 527 = .ok (.iload 6, 2) := by decide +kernel
theorem dL_law_529 : decode cL_law 529 = .ok (.i2l, 1) := by decide +kernel
theorem dL_law_530 : decode cL_law 530 = .ok (.lcmp, 1) := by decide +kernel
theorem dL_law_531 : decode cL_law 531 = .ok (.ifCond .eq 5, 3) := by decide +kernel
theorem dL_law_534 : decode cL_law 534 = .ok (.iconst 0, 1) := by decide +kernel
theorem dL_law_535 : decode cL_law 535 = .ok (.ireturn, 1) := by decide +kernel
theorem dL_law_536 : decode cL_law 536 = .ok (.goto 164, 3) := by decide +kernel
theorem dL_law_539 : decode cL_law 539 = .ok (.aload_n 1, 1) := by decide +kernel
theorem dL_law_540 : decode cL_law 540 = .ok (.aload_n 0, 1) := by decide +kernel
theorem dL_law_541 : decode cL_law 541 = .ok (.iload 4, 2) := by decide +kernel
theorem dL_law_543 : decode cL_law 543 = .ok (.iconst 1, 1) := by decide +kernel
theorem dL_law_544 : decode cL_law 544 = .ok (.iadd, 1) := by decide +kernel
theorem dL_law_545 : decode cL_law 545 = .ok (.iaload, 1) := by decide +kernel
theorem dL_law_546 : decode cL_law 546 = .ok (.aload_n 0, 1) := by decide +kernel
theorem dL_law_547 : decode cL_law 547 = .ok (.iload 4, 2) := by decide +kernel
theorem dL_law_549 : decode cL_law 549 = .ok (.iconst 2, 1) := by decide +kernel
theorem dL_law_550 : decode cL_law 550 = .ok (.iadd, 1) := by decide +kernel
theorem dL_law_551 : decode cL_law 551 = .ok (.iaload, 1) := by decide +kernel
theorem dL_law_552 : decode cL_law 552 = .ok (.aload_n 3, 1) := by decide +kernel
theorem dL_law_553 : decode cL_law 553 = .ok (.invokestatic 77, 3) := by decide +kernel
theorem dL_law_556 : decode cL_law 556 = .ok (.istore 5, 2) := by decide +kernel
theorem dL_law_558 : decode cL_law 558 = .ok (.aload_n 2, 1) := by decide +kernel
theorem dL_law_559 : decode cL_law 559 = .ok (.aload_n 0, 1) := by decide +kernel
theorem dL_law_560 : decode cL_law 560 = .ok (.iload 4, 2) := by decide +kernel
theorem dL_law_562 : decode cL_law 562 = .ok (.iconst 1, 1) := by decide +kernel
theorem dL_law_563 : decode cL_law 563 = .ok (.iadd, 1) := by decide +kernel
theorem dL_law_564 : decode cL_law 564 = .ok (.iaload, 1) := by decide +kernel
theorem dL_law_565 : decode cL_law 565 = .ok (.aload_n 0, 1) := by decide +kernel
theorem dL_law_566 : decode cL_law 566 = .ok (.iload 4, 2) := by decide +kernel
theorem dL_law_568 : decode cL_law 568 = .ok (.iconst 2, 1) := by decide +kernel
theorem dL_law_569 : decode cL_law 569 = .ok (.iadd, 1) := by decide +kernel
theorem dL_law_570 : decode cL_law 570 = .ok (.iaload, 1) := by decide +kernel
theorem dL_law_571 : decode cL_law 571 = .ok (.invokevirtual 80, 3) := by decide +kernel
theorem dL_law_574 : decode cL_law 574 = .ok (.istore 6, 2) := by decide +kernel
theorem dL_law_576 : decode cL_law 576 = .ok (.aload_n 2, 1) := by decide +kernel
theorem dL_law_577 : decode cL_law 577 = .ok (.invokevirtual 60, 3) := by decide +kernel
theorem dL_law_580 : decode cL_law 580 = .ok (.iload 5, 2) := by decide +kernel
theorem dL_law_582 : decode cL_law 582 = .ok (.if_icmp .eq 5, 3) := by decide +kernel
theorem dL_law_585 : decode cL_law 585 = .ok (.iconst 0, 1) := by decide +kernel
theorem dL_law_586 : decode cL_law 586 = .ok (.ireturn, 1) := by decide +kernel
theorem dL_law_587 : decode cL_law 587 = .ok (.iload 5, 2) := by decide +kernel
theorem dL_law_589 : decode cL_law 589 = .ok (.ifCond .ne 15, 3) := by decide +kernel
theorem dL_law_592 : decode cL_law 592 = .ok (.aload_n 3, 1) := by decide +kernel
theorem dL_law_593 : decode cL_law 593 = .ok (.iconst 0, 1) := by decide +kernel
theorem dL_law_594 : decode cL_law 594 = .ok (.laload, 1) := by decide +kernel
theorem dL_law_595 : decode cL_law 595 = .ok (.iload 6, 2) := by decide +kernel
theorem dL_law_597 : decode cL_law 597 = .ok (.i2l, 1) := by decide +kernel
theorem dL_law_598 : decode cL_law 598 = .ok (.lcmp, 1) := by decide +kernel
theorem dL_law_599 : decode cL_law 599 = .ok (.ifCond .eq 5, 3) := by decide +kernel
theorem dL_law_602 : decode cL_law 602 = .ok (.iconst 0, 1) := by decide +kernel
theorem dL_law_603 : decode cL_law 603 = .ok (.ireturn, 1) := by decide +kernel
theorem dL_law_604 : decode cL_law 604 = .ok (.goto 96, 3) := by decide +kernel
theorem dL_law_607 : decode cL_law 607 = .ok (.aload_n 1, 1) := by decide +kernel
theorem dL_law_608 : decode cL_law 608 = .ok (.aload_n 0, 1) := by decide +kernel
theorem dL_law_609 : decode cL_law 609 = .ok (.iload 4, 2) := by decide +kernel
theorem dL_law_611 : decode cL_law 611 = .ok (.iconst 1, 1) := by decide +kernel
theorem dL_law_612 : decode cL_law 612 = .ok (.iadd, 1) := by decide +kernel
theorem dL_law_613 : decode cL_law 613 = .ok (.iaload, 1) := by decide +kernel
theorem dL_law_614 : decode cL_law 614 = .ok (.aload_n 0, 1) := by decide +kernel
theorem dL_law_615 : decode cL_law 615 = .ok (.iload 4, 2) := by decide +kernel
theorem dL_law_617 : decode cL_law 617 = .ok (.iconst 2, 1) := by decide +kernel
theorem dL_law_618 : decode cL_law 618 = .ok (.iadd, 1) := by decide +kernel
theorem dL_law_619 : decode cL_law 619 = .ok (.iaload, 1) := by decide +kernel
theorem dL_law_620 : decode cL_law 620 = .ok (.aload_n 3, 1) := by decide +kernel
theorem dL_law_621 : decode cL_law 621 = .ok (.invokestatic 81, 3) := by decide +kernel
theorem dL_law_624 : decode cL_law 624 = .ok (.istore 5, 2) := by decide +kernel
theorem dL_law_626 : decode cL_law 626 = .ok (.aload_n 2, 1) := by decide +kernel
theorem dL_law_627 : decode cL_law 627 = .ok (.aload_n 0, 1) := by decide +kernel
theorem dL_law_628 : decode cL_law 628 = .ok (.iload 4, 2) := by decide +kernel
theorem dL_law_630 : decode cL_law 630 = .ok (.iconst 1, 1) := by decide +kernel
theorem dL_law_631 : decode cL_law 631 = .ok (.iadd, 1) := by decide +kernel
theorem dL_law_632 : decode cL_law 632 = .ok (.iaload, 1) := by decide +kernel
theorem dL_law_633 : decode cL_law 633 = .ok (.aload_n 0, 1) := by decide +kernel
theorem dL_law_634 : decode cL_law 634 = .ok (.iload 4, 2) := by decide +kernel
theorem dL_law_636 : decode cL_law 636 = .ok (.iconst 2, 1) := by decide +kernel
theorem dL_law_637 : decode cL_law 637 = .ok (.iadd, 1) := by decide +kernel
theorem dL_law_638 : decode cL_law 638 = .ok (.iaload, 1) := by decide +kernel
theorem dL_law_639 : decode cL_law 639 = .ok (.invokevirtual 83, 3) := by decide +kernel
theorem dL_law_642 : decode cL_law 642 = .ok (.istore 6, 2) := by decide +kernel
theorem dL_law_644 : decode cL_law 644 = .ok (.aload_n 2, 1) := by decide +kernel
theorem dL_law_645 : decode cL_law 645 = .ok (.invokevirtual 60, 3) := by decide +kernel
theorem dL_law_648 : decode cL_law 648 = .ok (.iload 5, 2) := by decide +kernel
theorem dL_law_650 : decode cL_law 650 = .ok (.if_icmp .eq 5, 3) := by decide +kernel
theorem dL_law_653 : decode cL_law 653 = .ok (.iconst 0, 1) := by decide +kernel
theorem dL_law_654 : decode cL_law 654 = .ok (.ireturn, 1) := by decide +kernel
theorem dL_law_655 : decode cL_law 655 = .ok (.iload 5, 2) := by decide +kernel
theorem dL_law_657 : decode cL_law 657 = .ok (.ifCond .ne 15, 3) := by decide +kernel
theorem dL_law_660 : decode cL_law 660 = .ok (.aload_n 3, 1) := by decide +kernel
theorem dL_law_661 : decode cL_law 661 = .ok (.iconst 0, 1) := by decide +kernel
theorem dL_law_662 : decode cL_law 662 = .ok (.laload, 1) := by decide +kernel
theorem dL_law_663 : decode cL_law 663 = .ok (.iload 6, 2) := by decide +kernel
theorem dL_law_665 : decode cL_law 665 = .ok (.i2l, 1) := by decide +kernel
theorem dL_law_666 : decode cL_law 666 = .ok (.lcmp, 1) := by decide +kernel
theorem dL_law_667 : decode cL_law 667 = .ok (.ifCond .eq 5, 3) := by decide +kernel
theorem dL_law_670 : decode cL_law 670 = .ok (.iconst 0, 1) := by decide +kernel
theorem dL_law_671 : decode cL_law 671 = .ok (.ireturn, 1) := by decide +kernel
theorem dL_law_672 : decode cL_law 672 = .ok (.goto 28, 3) := by decide +kernel
theorem dL_law_675 : decode cL_law 675 = .ok (.aload_n 1, 1) := by decide +kernel
theorem dL_law_676 : decode cL_law 676 = .ok (.aload_n 0, 1) := by decide +kernel
theorem dL_law_677 : decode cL_law 677 = .ok (.iload 4, 2) := by decide +kernel
theorem dL_law_679 : decode cL_law 679 = .ok (.iconst 1, 1) := by decide +kernel
theorem dL_law_680 : decode cL_law 680 = .ok (.iadd, 1) := by decide +kernel
theorem dL_law_681 : decode cL_law 681 = .ok (.iaload, 1) := by decide +kernel
theorem dL_law_682 : decode cL_law 682 = .ok (.invokevirtual 84, 3) := by decide +kernel
theorem dL_law_685 : decode cL_law 685 = .ok (.aload_n 2, 1) := by decide +kernel
theorem dL_law_686 : decode cL_law 686 = .ok (.aload_n 0, 1) := by decide +kernel
theorem dL_law_687 : decode cL_law 687 = .ok (.iload 4, 2) := by decide +kernel
theorem dL_law_689 : decode cL_law 689 = .ok (.iconst 1, 1) := by decide +kernel
theorem dL_law_690 : decode cL_law 690 = .ok (.iadd, 1) := by decide +kernel
theorem dL_law_691 : decode cL_law 691 = .ok (.iaload, 1) := by decide +kernel
theorem dL_law_692 : decode cL_law 692 = .ok (.invokevirtual 87, 3) := by decide +kernel
theorem dL_law_695 : decode cL_law 695 = .ok (.if_icmp .eq 5, 3) := by decide +kernel
theorem dL_law_698 : decode cL_law 698 = .ok (.iconst 0, 1) := by decide +kernel
theorem dL_law_699 : decode cL_law 699 = .ok (.ireturn, 1) := by decide +kernel
theorem dL_law_700 : decode cL_law 700 = .ok (.iinc 4 5, 3) := by decide +kernel
theorem dL_law_703 : decode cL_law 703 = .ok (.goto (-680), 3) := by decide +kernel
theorem dL_law_706 : decode cL_law 706 = .ok (.iconst 1, 1) := by decide +kernel
theorem dL_law_707 : decode cL_law 707 = .ok (.ireturn, 1) := by decide +kernel
abbrev vwCl : List vw_C := [(RX0, TX0, 9), (RX1, TX1, 8), (RX2, TX2, 2), (RX3, TX3, 11)]
