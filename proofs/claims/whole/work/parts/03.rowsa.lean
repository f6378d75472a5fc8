theorem dX0_init_0 : decode cX0_init 0 = .ok (.aload_n 0, 1) := by decide +kernel
theorem dX0_init_1 : decode cX0_init 1 = .ok (.invokespecial 3, 3) := by decide +kernel
theorem dX0_init_4 : decode cX0_init 4 = .ok (.aload_n 0, 1) := by decide +kernel
theorem dX0_init_5 : decode cX0_init 5 = .ok (.sipush 3367, 3) := by decide +kernel
theorem dX0_init_8 : decode cX0_init 8 = .ok (.newarray .int, 2) := by decide +kernel
theorem dX0_init_10 : decode cX0_init 10 = .ok (.putfield 9, 3) := by decide +kernel
theorem dX0_init_13 : decode cX0_init 13 = .ok (.aload_n 0, 1) := by decide +kernel
theorem dX0_init_14 : decode cX0_init 14 = .ok (.sipush 3367, 3) := by decide +kernel
theorem dX0_init_17 : decode cX0_init 17 = .ok (.newarray .int, 2) := by decide +kernel
theorem dX0_init_19 : decode cX0_init 19 = .ok (.putfield 15, 3) := by decide +kernel
theorem dX0_init_22 : decode cX0_init 22 = .ok (.aload_n 0, 1) := by decide +kernel
theorem dX0_init_23 : decode cX0_init 23 = .ok (.sipush 512, 3) := by decide +kernel
theorem dX0_init_26 : decode cX0_init 26 = .ok (.newarray .int, 2) := by decide +kernel
theorem dX0_init_28 : decode cX0_init 28 = .ok (.putfield 18, 3) := by decide +kernel
theorem dX0_init_31 : decode cX0_init 31 = .ok (.aload_n 0, 1) := by decide +kernel
theorem dX0_init_32 : decode cX0_init 32 = .ok (.sipush 512, 3) := by decide +kernel
theorem dX0_init_35 : decode cX0_init 35 = .ok (.newarray .int, 2) := by decide +kernel
theorem dX0_init_37 : decode cX0_init 37 = .ok (.putfield 21, 3) := by decide +kernel
theorem dX0_init_40 : decode cX0_init 40 = .ok (.aload_n 0, 1) := by decide +kernel
theorem dX0_init_41 : decode cX0_init 41 = .ok (.sipush 512, 3) := by decide +kernel
theorem dX0_init_44 : decode cX0_init 44 = .ok (.newarray .int, 2) := by decide +kernel
theorem dX0_init_46 : decode cX0_init 46 = .ok (.putfield 24, 3) := by decide +kernel
theorem dX0_init_49 : decode cX0_init 49 = .ok (.aload_n 0, 1) := by decide +kernel
theorem dX0_init_50 : decode cX0_init 50 = .ok (.sipush 512, 3) := by decide +kernel
theorem dX0_init_53 : decode cX0_init 53 = .ok (.newarray .int, 2) := by decide +kernel
theorem dX0_init_55 : decode cX0_init 55 = .ok (.putfield 27, 3) := by decide +kernel
theorem dX0_init_58 : decode cX0_init 58 = .ok (.aload_n 0, 1) := by decide +kernel
theorem dX0_init_59 : decode cX0_init 59 = .ok (.iconst 0, 1) := by decide +kernel
theorem dX0_init_60 : decode cX0_init 60 = .ok (.putfield 30, 3) := by decide +kernel
theorem dX0_init_63 : decode cX0_init 63 = .ok (.aload_n 0, 1) := by decide +kernel
theorem dX0_init_64 : decode cX0_init 64 = .ok (.iconst 0, 1) := by decide +kernel
theorem dX0_init_65 : decode cX0_init 65 = .ok (.putfield 34, 3) := by decide +kernel
theorem dX0_init_68 : decode cX0_init 68 = .ok (.aload_n 0, 1) := by decide +kernel
theorem dX0_init_69 : decode cX0_init 69 = .ok (.aload_n 1, 1) := by decide +kernel
theorem dX0_init_70 : decode cX0_init 70 = .ok (.putfield 37, 3) := by decide +kernel
theorem dX0_init_73 : decode cX0_init 73 = .ok (.return_, 1) := by decide +kernel
theorem dX0_depth_0 : decode cX0_depth 0 = .ok (.aload_n 0, 1) := by decide +kernel
theorem dX0_depth_1 : decode cX0_depth 1 = .ok (.getfield 34, 3) := by decide +kernel
theorem dX0_depth_4 : decode cX0_depth 4 = .ok (.ireturn, 1) := by decide +kernel
set_option maxRecDepth 20000 in
theorem ggX0_kindAt_X0_isPlace : GoodIn wsX0_kindAt wsX0_isPlace := goodIn_r _ [5] (by decide +kernel) (by decide +kernel)
set_option maxRecDepth 20000 in
theorem gX0_kindAt_X0_isPlace : GoodIn wsX0_kindAt (va_wsS RX0 41 yX0_isPlace wsX0_isPlace) := goodIn_app (goodIn_of _ (by decide +kernel)) ggX0_kindAt_X0_isPlace
theorem dX0_kindAt_0 : decode cX0_kindAt 0 = .ok (.iload_n 1, 1) := by decide +kernel
theorem dX0_kindAt_1 : decode cX0_kindAt 1 = .ok (.invokestatic 41, 3) := by decide +kernel
theorem dX0_kindAt_4 : decode cX0_kindAt 4 = .ok (.ifCond .eq 12, 3) := by decide +kernel
theorem dX0_kindAt_7 : decode cX0_kindAt 7 = .ok (.aload_n 0, 1) := by decide +kernel
theorem dX0_kindAt_8 : decode cX0_kindAt 8 = .ok (.getfield 9, 3) := by decide +kernel
theorem dX0_kindAt_11 : decode cX0_kindAt 11 = .ok (.iload_n 1, 1) := by decide +kernel
theorem dX0_kindAt_12 : decode cX0_kindAt 12 = .ok (.iaload, 1) := by decide +kernel
theorem dX0_kindAt_13 : decode cX0_kindAt 13 = .ok (.goto 4, 3) := by decide +kernel
theorem dX0_kindAt_16 : decode cX0_kindAt 16 = .ok (.iconst 0, 1) := by decide +kernel
theorem dX0_kindAt_17 : decode cX0_kindAt 17 = .ok (.ireturn, 1) := by decide +kernel
set_option maxRecDepth 20000 in
theorem ggX0_valueAt_X0_isPlace : GoodIn wsX0_valueAt wsX0_isPlace := goodIn_r _ [5] (by decide +kernel) (by decide +kernel)
set_option maxRecDepth 20000 in
theorem gX0_valueAt_X0_isPlace : GoodIn wsX0_valueAt (va_wsS RX0 41 yX0_isPlace wsX0_isPlace) := goodIn_app (goodIn_of _ (by decide +kernel)) ggX0_valueAt_X0_isPlace
theorem dX0_valueAt_0 : decode cX0_valueAt 0 = .ok (.iload_n 1, 1) := by decide +kernel
theorem dX0_valueAt_1 : decode cX0_valueAt 1 = .ok (.invokestatic 41, 3) := by decide +kernel
theorem dX0_valueAt_4 : decode cX0_valueAt 4 = .ok (.ifCond .eq 12, 3) := by decide +kernel
theorem dX0_valueAt_7 : decode cX0_valueAt 7 = .ok (.aload_n 0, 1) := by decide +kernel
theorem dX0_valueAt_8 : decode cX0_valueAt 8 = .ok (.getfield 15, 3) := by decide +kernel
theorem dX0_valueAt_11 : decode cX0_valueAt 11 = .ok (.iload_n 1, 1) := by decide +kernel
theorem dX0_valueAt_12 : decode cX0_valueAt 12 = .ok (.iaload, 1) := by decide +kernel
theorem dX0_valueAt_13 : decode cX0_valueAt 13 = .ok (.goto 4, 3) := by decide +kernel
theorem dX0_valueAt_16 : decode cX0_valueAt 16 = .ok (.iconst 0, 1) := by decide +kernel
theorem dX0_valueAt_17 : decode cX0_valueAt 17 = .ok (.ireturn, 1) := by decide +kernel
theorem dX0_enter_0 : decode cX0_enter 0 = .ok (.aload_n 0, 1) := by decide +kernel
theorem dX0_enter_1 : decode cX0_enter 1 = .ok (.getfield 34, 3) := by decide +kernel
theorem dX0_enter_4 : decode cX0_enter 4 = .ok (.sipush 200, 3) := by decide +kernel
theorem dX0_enter_7 : decode cX0_enter 7 = .ok (.if_icmp .lt 5, 3) := by decide +kernel
theorem dX0_enter_10 : decode cX0_enter 10 = .ok (.iconst 0, 1) := by decide +kernel
theorem dX0_enter_11 : decode cX0_enter 11 = .ok (.ireturn, 1) := by decide +kernel
theorem dX0_enter_12 : decode cX0_enter 12 = .ok (.aload_n 0, 1) := by decide +kernel
theorem dX0_enter_13 : decode cX0_enter 13 = .ok (.dup, 1) := by decide +kernel
theorem dX0_enter_14 : decode cX0_enter 14 = .ok (.getfield 34, 3) := by decide +kernel
theorem dX0_enter_17 : decode cX0_enter 17 = .ok (.iconst 1, 1) := by decide +kernel
theorem dX0_enter_18 : decode cX0_enter 18 = .ok (.iadd, 1) := by decide +kernel
theorem dX0_enter_19 : decode cX0_enter 19 = .ok (.putfield 34, 3) := by decide +kernel
theorem dX0_enter_22 : decode cX0_enter 22 = .ok (.iconst 1, 1) := by decide +kernel
theorem dX0_enter_23 : decode cX0_enter 23 = .ok (.ireturn, 1) := by decide +kernel
set_option maxRecDepth 20000 in
theorem ggX0_leave_X0_putBack : GoodIn wsX0_leave wsX0_putBack := goodIn_r _ [8, 9, 10, 11, 12, 13, 14, 15, 7, 16, 17, 18, 19, 20, 21, 22, 23, 24, 25, 26, 27, 28, 29, 30, 31, 32, 33, 34, 35, 36, 37, 38, 39, 40, 41, 42, 43, 44, 45, 46, 47, 48, 49, 50, 51] (by decide +kernel) (by decide +kernel)
set_option maxRecDepth 20000 in
theorem gX0_leave_X0_putBack : GoodIn wsX0_leave (wsV RX0 45 RX0 yX0_putBack wsX0_putBack) := goodIn_app (goodIn_of _ (by decide +kernel)) ggX0_leave_X0_putBack
theorem dX0_leave_0 : decode cX0_leave 0 = .ok (.aload_n 0, 1) := by decide +kernel
theorem dX0_leave_1 : decode cX0_leave 1 = .ok (.getfield 34, 3) := by decide +kernel
theorem dX0_leave_4 : decode cX0_leave 4 = .ok (.ifCond .ne 5, 3) := by decide +kernel
theorem dX0_leave_7 : decode cX0_leave 7 = .ok (.iconst 0, 1) := by decide +kernel
theorem dX0_leave_8 : decode cX0_leave 8 = .ok (.ireturn, 1) := by decide +kernel
theorem dX0_leave_9 : decode cX0_leave 9 = .ok (.aload_n 0, 1) := by decide +kernel
theorem dX0_leave_10 : decode cX0_leave 10 = .ok (.getfield 30, 3) := by decide +kernel
theorem dX0_leave_13 : decode cX0_leave 13 = .ok (.istore_n 1, 1) := by decide +kernel
theorem dX0_leave_14 : decode cX0_leave 14 = .ok (.iload_n 1, 1) := by decide +kernel
theorem dX0_leave_15 : decode cX0_leave 15 = .ok (.ifCond .le 31, 3) := by decide +kernel
theorem dX0_leave_18 : decode cX0_leave 18 = .ok (.aload_n 0, 1) := by decide +kernel
theorem dX0_leave_19 : decode cX0_leave 19 = .ok (.getfield 21, 3) := by decide +kernel
theorem dX0_leave_22 : decode cX0_leave 22 = .ok (.iload_n 1, 1) := by decide +kernel
theorem dX0_leave_23 : decode cX0_leave 23 = .ok (.iconst 1, 1) := by decide +kernel
theorem dX0_leave_24 : decode cX0_leave 24 = .ok (.isub, 1) := by decide +kernel
theorem dX0_leave_25 : decode cX0_leave 25 = .ok (.iaload, 1) := by decide +kernel
theorem dX0_leave_26 : decode cX0_leave 26 = .ok (.aload_n 0, 1) := by decide +kernel
theorem dX0_leave_27 : decode cX0_leave 27 = .ok (.getfield 34, 3) := by decide +kernel
theorem dX0_leave_30 : decode cX0_leave 30 = .ok (.if_icmp .ne 16, 3) := by decide +kernel
theorem dX0_leave_33 : decode cX0_leave 33 = .ok (.aload_n 0, 1) := by decide +kernel
theorem dX0_leave_34 : decode cX0_leave 34 = .ok (.iload_n 1, 1) := by decide +kernel
theorem dX0_leave_35 : decode cX0_leave 35 = .ok (.iconst 1, 1) := by decide +kernel
theorem dX0_leave_36 : decode cX0_leave 36 = .ok (.isub, 1) := by decide +kernel
theorem dX0_leave_37 : decode cX0_leave 37 = .ok (.invokevirtual 45, 3) := by decide +kernel
theorem dX0_leave_40 : decode cX0_leave 40 = .ok (.iinc 1 (-1), 3) := by decide +kernel
theorem dX0_leave_43 : decode cX0_leave 43 = .ok (.goto (-29), 3) := by decide +kernel
theorem dX0_leave_46 : decode cX0_leave 46 = .ok (.aload_n 0, 1) := by decide +kernel
theorem dX0_leave_47 : decode cX0_leave 47 = .ok (.iload_n 1, 1) := by decide +kernel
theorem dX0_leave_48 : decode cX0_leave 48 = .ok (.putfield 30, 3) := by decide +kernel
theorem dX0_leave_51 : decode cX0_leave 51 = .ok (.aload_n 0, 1) := by decide +kernel
theorem dX0_leave_52 : decode cX0_leave 52 = .ok (.dup, 1) := by decide +kernel
theorem dX0_leave_53 : decode cX0_leave 53 = .ok (.getfield 34, 3) := by decide +kernel
theorem dX0_leave_56 : decode cX0_leave 56 = .ok (.iconst 1, 1) := by decide +kernel
theorem dX0_leave_57 : decode cX0_leave 57 = .ok (.isub, 1) := by decide +kernel
theorem dX0_leave_58 : decode cX0_leave 58 = .ok (.putfield 34, 3) := by decide +kernel
theorem dX0_leave_61 : decode cX0_leave 61 = .ok (.iconst 1, 1) := by decide +kernel
theorem dX0_leave_62 : decode cX0_leave 62 = .ok (.ireturn, 1) := by decide +kernel
set_option maxRecDepth 20000 in
theorem ggX0_assign_X0_isPlace : GoodIn wsX0_assign wsX0_isPlace := goodIn_r _ [6] (by decide +kernel) (by decide +kernel)
set_option maxRecDepth 20000 in
theorem gX0_assign_X0_isPlace : GoodIn wsX0_assign (va_wsS RX0 41 yX0_isPlace wsX0_isPlace) := goodIn_app (goodIn_of _ (by decide +kernel)) ggX0_assign_X0_isPlace
set_option maxRecDepth 20000 in
theorem ggX0_assign_X0_tell : GoodIn wsX0_assign wsX0_tell := goodIn_r _ [10, 11, 12, 13, 14, 15, 16, 17, 18, 19, 20, 21, 22, 23, 24, 55, 56, 57, 58, 59, 60, 61, 62, 63, 64, 65, 66, 67, 68, 69, 70, 71] (by decide +kernel) (by decide +kernel)
set_option maxRecDepth 20000 in
theorem gX0_assign_X0_tell : GoodIn wsX0_assign (wsV RX0 49 RX0 yX0_tell wsX0_tell) := goodIn_app (goodIn_of _ (by decide +kernel)) ggX0_assign_X0_tell
set_option maxRecDepth 20000 in
theorem ggX0_assign_X0_forgetSaved : GoodIn wsX0_assign wsX0_forgetSaved := goodIn_r _ [28, 29, 30, 31, 32, 33, 34, 35, 5, 36, 11, 37, 38, 39, 15, 40, 17, 18, 19, 20, 21, 22, 23, 24, 41, 42, 43, 44, 45, 55, 56, 57, 58, 59, 60, 61, 62, 63, 64, 65, 66, 67, 68, 69, 70, 71] (by decide +kernel) (by decide +kernel)
set_option maxRecDepth 20000 in
theorem gX0_assign_X0_forgetSaved : GoodIn wsX0_assign (wsV RX0 53 RX0 yX0_forgetSaved wsX0_forgetSaved) := goodIn_app (goodIn_of _ (by decide +kernel)) ggX0_assign_X0_forgetSaved
set_option maxRecDepth 20000 in
theorem ggX0_assign_X0_mustSave : GoodIn wsX0_assign wsX0_mustSave := goodIn_r _ [49, 50, 29, 30, 45, 55, 56, 57, 58, 59, 60, 61, 62, 63] (by decide +kernel) (by decide +kernel)
set_option maxRecDepth 20000 in
theorem gX0_assign_X0_mustSave : GoodIn wsX0_assign (wsV RX0 56 RX0 yX0_mustSave wsX0_mustSave) := goodIn_app (goodIn_of _ (by decide +kernel)) ggX0_assign_X0_mustSave
set_option maxRecDepth 20000 in
theorem ggX0_assign_X0_save : GoodIn wsX0_assign wsX0_save := goodIn_r _ [54, 30, 29, 45, 50, 31, 1, 32, 2, 55, 56, 57, 58, 59, 60, 61, 62, 63] (by decide +kernel) (by decide +kernel)
set_option maxRecDepth 20000 in
theorem gX0_assign_X0_save : GoodIn wsX0_assign (wsV RX0 59 RX0 yX0_save wsX0_save) := goodIn_app (goodIn_of _ (by decide +kernel)) ggX0_assign_X0_save
set_option maxRecDepth 20000 in
theorem ggX0_assign_X0_untell : GoodIn wsX0_assign wsX0_untell := goodIn_r _ [36, 11, 37, 38, 39, 15, 40, 17, 18, 19, 20, 21, 22, 23, 24, 55, 56, 57, 58, 59, 60, 61, 62, 63, 64, 65, 66, 67, 68, 69, 70, 71] (by decide +kernel) (by decide +kernel)
set_option maxRecDepth 20000 in
theorem gX0_assign_X0_untell : GoodIn wsX0_assign (wsV RX0 62 RX0 yX0_untell wsX0_untell) := goodIn_app (goodIn_of _ (by decide +kernel)) ggX0_assign_X0_untell
theorem dX0_assign_0 : decode cX0_assign 0 = .ok (.iload_n 1, 1) := by decide +kernel
theorem dX0_assign_1 : decode cX0_assign 1 = .ok (.invokestatic 41, 3) := by decide +kernel
theorem dX0_assign_4 : decode cX0_assign 4 = .ok (.ifCond .ne 4, 3) := by decide +kernel
theorem dX0_assign_7 : decode cX0_assign 7 = .ok (.return_, 1) := by decide +kernel
theorem dX0_assign_8 : decode cX0_assign 8 = .ok (.aload_n 0, 1) := by decide +kernel
theorem dX0_assign_9 : decode cX0_assign 9 = .ok (.iload_n 2, 1) := by decide +kernel
theorem dX0_assign_10 : decode cX0_assign 10 = .ok (.iload_n 3, 1) := by decide +kernel
theorem dX0_assign_11 : decode cX0_assign 11 = .ok (.invokevirtual 49, 3) := by decide +kernel
theorem dX0_assign_14 : decode cX0_assign 14 = .ok (.iload 4, 2) := by decide +kernel
theorem dX0_assign_16 : decode cX0_assign 16 = .ok (.ifCond .eq 8, 3) := by decide +kernel
theorem dX0_assign_19 : decode cX0_assign 19 = .ok (.aload_n 0, 1) := by decide +kernel
theorem dX0_assign_20 : decode cX0_assign 20 = .ok (.iload_n 1, 1) := by decide +kernel
theorem dX0_assign_21 : decode cX0_assign 21 = .ok (.invokevirtual 53, 3) := by decide +kernel
theorem dX0_assign_24 : decode cX0_assign 24 = .ok (.iload 4, 2) := by decide +kernel
theorem dX0_assign_26 : decode cX0_assign 26 = .ok (.ifCond .ne 19, 3) := by decide +kernel
theorem dX0_assign_29 : decode cX0_assign 29 = .ok (.aload_n 0, 1) := by decide +kernel
theorem dX0_assign_30 : decode cX0_assign 30 = .ok (.iload_n 1, 1) := by decide +kernel
theorem dX0_assign_31 : decode cX0_assign 31 = .ok (.invokevirtual 56, 3) := by decide +kernel
theorem dX0_assign_34 : decode cX0_assign 34 = .ok (.ifCond .eq 11, 3) := by decide +kernel
theorem dX0_assign_37 : decode cX0_assign 37 = .ok (.aload_n 0, 1) := by decide +kernel
theorem dX0_assign_38 : decode cX0_assign 38 = .ok (.iload_n 1, 1) := by decide +kernel
theorem dX0_assign_39 : decode cX0_assign 39 = .ok (.invokevirtual 59, 3) := by decide +kernel
theorem dX0_assign_42 : decode cX0_assign 42 = .ok (.goto 19, 3) := by decide +kernel
theorem dX0_assign_45 : decode cX0_assign 45 = .ok (.aload_n 0, 1) := by decide +kernel
theorem dX0_assign_46 : decode cX0_assign 46 = .ok (.aload_n 0, 1) := by decide +kernel
theorem dX0_assign_47 : decode cX0_assign 47 = .ok (.getfield 9, 3) := by decide +kernel
theorem dX0_assign_50 : decode cX0_assign 50 = .ok (.iload_n 1, 1) := by decide +kernel
theorem dX0_assign_51 : decode cX0_assign 51 = .ok (.iaload, 1) := by decide +kernel
theorem dX0_assign_52 : decode cX0_assign 52 = .ok (.aload_n 0, 1) := by decide +kernel
theorem dX0_assign_53 : decode cX0_assign 53 = .ok (.getfield 15, 3) := by decide +kernel
theorem dX0_assign_56 : decode cX0_assign 56 = .ok (.iload_n 1, 1) := by decide +kernel
theorem dX0_assign_57 : decode cX0_assign 57 = .ok (.iaload, 1) := by decide +kernel
theorem dX0_assign_58 : decode cX0_assign 58 = .ok (.invokevirtual 62, 3) := by decide +kernel
theorem dX0_assign_61 : decode cX0_assign 61 = .ok (.aload_n 0, 1) := by decide +kernel
theorem dX0_assign_62 : decode cX0_assign 62 = .ok (.getfield 9, 3) := by decide +kernel
theorem dX0_assign_65 : decode cX0_assign 65 = .ok (.iload_n 1, 1) := by decide +kernel
theorem dX0_assign_66 : decode cX0_assign 66 = .ok (.iload_n 2, 1) := by decide +kernel
theorem dX0_assign_67 : decode cX0_assign 67 = .ok (.iastore, 1) := by decide +kernel
theorem dX0_assign_68 : decode cX0_assign 68 = .ok (.aload_n 0, 1) := by decide +kernel
theorem dX0_assign_69 : decode cX0_assign 69 = .ok (.getfield 15, 3) := by decide +kernel
theorem dX0_assign_72 : decode cX0_assign 72 = .ok (.iload_n 1, 1) := by decide +kernel
theorem dX0_assign_73 : decode cX0_assign 73 = .ok (.iload_n 3, 1) := by decide +kernel
theorem dX0_assign_74 : decode cX0_assign 74 = .ok (.iastore, 1) := by decide +kernel
theorem dX0_assign_75 : decode cX0_assign 75 = .ok (.return_, 1) := by decide +kernel
theorem dX0_isPlace_0 : decode cX0_isPlace 0 = .ok (.iload_n 0, 1) := by decide +kernel
theorem dX0_isPlace_1 : decode cX0_isPlace 1 = .ok (.ifCond .lt 14, 3) := by decide +kernel
theorem dX0_isPlace_4 : decode cX0_isPlace 4 = .ok (.iload_n 0, 1) := by decide +kernel
theorem dX0_isPlace_5 : decode cX0_isPlace 5 = .ok (.sipush 3367, 3) := by decide +kernel
theorem dX0_isPlace_8 : decode cX0_isPlace 8 = .ok (.if_icmp .ge 7, 3) := by decide +kernel
theorem dX0_isPlace_11 : decode cX0_isPlace 11 = .ok (.iconst 1, 1) := by decide +kernel
theorem dX0_isPlace_12 : decode cX0_isPlace 12 = .ok (.goto 4, 3) := by decide +kernel
theorem dX0_isPlace_15 : decode cX0_isPlace 15 = .ok (.iconst 0, 1) := by decide +kernel
theorem dX0_isPlace_16 : decode cX0_isPlace 16 = .ok (.ireturn, 1) := by decide +kernel
theorem dX0_mustSave_0 : decode cX0_mustSave 0 = .ok (.aload_n 0, 1) := by decide +kernel
theorem dX0_mustSave_1 : decode cX0_mustSave 1 = .ok (.getfield 34, 3) := by decide +kernel
theorem dX0_mustSave_4 : decode cX0_mustSave 4 = .ok (.ifCond .eq 15, 3) := by decide +kernel
theorem dX0_mustSave_7 : decode cX0_mustSave 7 = .ok (.aload_n 0, 1) := by decide +kernel
theorem dX0_mustSave_8 : decode cX0_mustSave 8 = .ok (.getfield 30, 3) := by decide +kernel
theorem dX0_mustSave_11 : decode cX0_mustSave 11 = .ok (.aload_n 0, 1) := by decide +kernel
theorem dX0_mustSave_12 : decode cX0_mustSave 12 = .ok (.getfield 18, 3) := by decide +kernel
theorem dX0_mustSave_15 : decode cX0_mustSave 15 = .ok (.arraylength, 1) := by decide +kernel
theorem dX0_mustSave_16 : decode cX0_mustSave 16 = .ok (.if_icmp .lt 5, 3) := by decide +kernel
theorem dX0_mustSave_19 : decode cX0_mustSave 19 = .ok (.iconst 0, 1) := by decide +kernel
theorem dX0_mustSave_20 : decode cX0_mustSave 20 = .ok (.ireturn, 1) := by decide +kernel
theorem dX0_mustSave_21 : decode cX0_mustSave 21 = .ok (.aload_n 0, 1) := by decide +kernel
theorem dX0_mustSave_22 : decode cX0_mustSave 22 = .ok (.getfield 30, 3) := by decide +kernel
theorem dX0_mustSave_25 : decode cX0_mustSave 25 = .ok (.iconst 1, 1) := by decide +kernel
theorem dX0_mustSave_26 : decode cX0_mustSave 26 = .ok (.isub, 1) := by decide +kernel
theorem dX0_mustSave_27 : decode cX0_mustSave 27 = .ok (.istore_n 2, 1) := by decide +kernel
theorem dX0_mustSave_28 : decode cX0_mustSave 28 = .ok (.iload_n 2, 1) := by decide +kernel
theorem dX0_mustSave_29 : decode cX0_mustSave 29 = .ok (.ifCond .lt 34, 3) := by decide +kernel
theorem dX0_mustSave_32 : decode cX0_mustSave 32 = .ok (.aload_n 0, 1) := by decide +kernel
theorem dX0_mustSave_33 : decode cX0_mustSave 33 = .ok (.getfield 21, 3) := by decide +kernel
theorem dX0_mustSave_36 : decode cX0_mustSave 36 = .ok (.iload_n 2, 1) := by decide +kernel
theorem dX0_mustSave_37 : decode cX0_mustSave 37 = .ok (.iaload, 1) := by decide +kernel
theorem dX0_mustSave_38 : decode cX0_mustSave 38 = .ok (.aload_n 0, 1) := by decide +kernel
theorem dX0_mustSave_39 : decode cX0_mustSave 39 = .ok (.getfield 34, 3) := by decide +kernel
theorem dX0_mustSave_42 : decode cX0_mustSave 42 = .ok (.if_icmp .ne 21, 3) := by decide +kernel
theorem dX0_mustSave_45 : decode cX0_mustSave 45 = .ok (.aload_n 0, 1) := by decide +kernel
theorem dX0_mustSave_46 : decode cX0_mustSave 46 = .ok (.getfield 18, 3) := by decide +kernel
theorem dX0_mustSave_49 : decode cX0_mustSave 49 = .ok (.iload_n 2, 1) := by decide +kernel
theorem dX0_mustSave_50 : decode cX0_mustSave 50 = .ok (.iaload, 1) := by decide +kernel
theorem dX0_mustSave_51 : decode cX0_mustSave 51 = .ok (.iload_n 1, 1) := by decide +kernel
theorem dX0_mustSave_52 : decode cX0_mustSave 52 = .ok (.if_icmp .ne 5, 3) := by decide +kernel
theorem dX0_mustSave_55 : decode cX0_mustSave 55 = .ok (.iconst 0, 1) := by decide +kernel
theorem dX0_mustSave_56 : decode cX0_mustSave 56 = .ok (.ireturn, 1) := by decide +kernel
theorem dX0_mustSave_57 : decode cX0_mustSave 57 = .ok (.iinc 2 (-1), 3) := by decide +kernel
theorem dX0_mustSave_60 : decode cX0_mustSave 60 = .ok (.goto (-32), 3) := by decide +kernel
theorem dX0_mustSave_63 : decode cX0_mustSave 63 = .ok (.iconst 1, 1) := by decide +kernel
theorem dX0_mustSave_64 : decode cX0_mustSave 64 = .ok (.ireturn, 1) := by decide +kernel
theorem dX0_save_0 : decode cX0_save 0 = .ok (.aload_n 0, 1) := by decide +kernel
theorem dX0_save_1 : decode cX0_save 1 = .ok (.getfield 18, 3) := by decide +kernel
theorem dX0_save_4 : decode cX0_save 4 = .ok (.aload_n 0, 1) := by decide +kernel
theorem dX0_save_5 : decode cX0_save 5 = .ok (.getfield 30, 3) := by decide +kernel
theorem dX0_save_8 : decode cX0_save 8 = .ok (.iload_n 1, 1) := by decide +kernel
theorem dX0_save_9 : decode cX0_save 9 = .ok (.iastore, 1) := by decide +kernel
theorem dX0_save_10 : decode cX0_save 10 = .ok (.aload_n 0, 1) := by decide +kernel
theorem dX0_save_11 : decode cX0_save 11 = .ok (.getfield 21, 3) := by decide +kernel
theorem dX0_save_14 : decode cX0_save 14 = .ok (.aload_n 0, 1) := by decide +kernel
theorem dX0_save_15 : decode cX0_save 15 = .ok (.getfield 30, 3) := by decide +kernel
theorem dX0_save_18 : decode cX0_save 18 = .ok (.aload_n 0, 1) := by decide +kernel
theorem dX0_save_19 : decode cX0_save 19 = .ok (.getfield 34, 3) := by decide +kernel
theorem dX0_save_22 : decode cX0_save 22 = .ok (.iastore, 1) := by decide +kernel
theorem dX0_save_23 : decode cX0_save 23 = .ok (.aload_n 0, 1) := by decide +kernel
theorem dX0_save_24 : decode cX0_save 24 = .ok (.getfield 24, 3) := by decide +kernel
theorem dX0_save_27 : decode cX0_save 27 = .ok (.aload_n 0, 1) := by decide +kernel
theorem dX0_save_28 : decode cX0_save 28 = .ok (.getfield 30, 3) := by decide +kernel
theorem dX0_save_31 : decode cX0_save 31 = .ok (.aload_n 0, 1) := by decide +kernel
theorem dX0_save_32 : decode cX0_save 32 = .ok (.getfield 9, 3) := by decide +kernel
theorem dX0_save_35 : decode cX0_save 35 = .ok (.iload_n 1, 1) := by decide +kernel
theorem dX0_save_36 : decode cX0_save 36 = .ok (.iaload, 1) := by decide +kernel
theorem dX0_save_37 : decode cX0_save 37 = .ok (.iastore, 1) := by decide +kernel
theorem dX0_save_38 : decode cX0_save 38 = .ok (.aload_n 0, 1) := by decide +kernel
theorem dX0_save_39 : decode cX0_save 39 = .ok (.getfield 27, 3) := by decide +kernel
theorem dX0_save_42 : decode cX0_save 42 = .ok (.aload_n 0, 1) := by decide +kernel
theorem dX0_save_43 : decode cX0_save 43 = .ok (.getfield 30, 3) := by decide +kernel
theorem dX0_save_46 : decode cX0_save 46 = .ok (.aload_n 0, 1) := by decide +kernel
theorem dX0_save_47 : decode cX0_save 47 = .ok (.getfield 15, 3) := by decide +kernel
theorem dX0_save_50 : decode cX0_save 50 = .ok (.iload_n 1, 1) := by decide +kernel
theorem dX0_save_51 : decode cX0_save 51 = .ok (.iaload, 1) := by decide +kernel
theorem dX0_save_52 : decode cX0_save 52 = .ok (.iastore, 1) := by decide +kernel
theorem dX0_save_53 : decode cX0_save 53 = .ok (.aload_n 0, 1) := by decide +kernel
theorem dX0_save_54 : decode cX0_save 54 = .ok (.dup, 1) := by decide +kernel
theorem dX0_save_55 : decode cX0_save 55 = .ok (.getfield 30, 3) := by decide +kernel
theorem dX0_save_58 : decode cX0_save 58 = .ok (.iconst 1, 1) := by decide +kernel
theorem dX0_save_59 : decode cX0_save 59 = .ok (.iadd, 1) := by decide +kernel
theorem dX0_save_60 : decode cX0_save 60 = .ok (.putfield 30, 3) := by decide +kernel
theorem dX0_save_63 : decode cX0_save 63 = .ok (.return_, 1) := by decide +kernel
set_option maxRecDepth 20000 in
theorem ggX0_putBack_X0_isPlace : GoodIn wsX0_putBack wsX0_isPlace := goodIn_r _ [9] (by decide +kernel) (by decide +kernel)
set_option maxRecDepth 20000 in
theorem gX0_putBack_X0_isPlace : GoodIn wsX0_putBack (va_wsS RX0 41 yX0_isPlace wsX0_isPlace) := goodIn_app (goodIn_of _ (by decide +kernel)) ggX0_putBack_X0_isPlace
set_option maxRecDepth 20000 in
theorem ggX0_putBack_X0_untell : GoodIn wsX0_putBack wsX0_untell := goodIn_r _ [13, 14, 15, 16, 17, 18, 19, 20, 21, 22, 23, 24, 25, 26, 27, 28, 29, 30, 31, 32, 33, 34, 35, 36, 37, 38, 39, 40, 41, 42, 43, 44] (by decide +kernel) (by decide +kernel)
set_option maxRecDepth 20000 in
theorem gX0_putBack_X0_untell : GoodIn wsX0_putBack (wsV RX0 62 RX0 yX0_untell wsX0_untell) := goodIn_app (goodIn_of _ (by decide +kernel)) ggX0_putBack_X0_untell
theorem dX0_putBack_0 : decode cX0_putBack 0 = .ok (.aload_n 0, 1) := by decide +kernel
theorem dX0_putBack_1 : decode cX0_putBack 1 = .ok (.getfield 18, 3) := by decide +kernel
theorem dX0_putBack_4 : decode cX0_putBack 4 = .ok (.iload_n 1, 1) := by decide +kernel
theorem dX0_putBack_5 : decode cX0_putBack 5 = .ok (.iaload, 1) := by decide +kernel
theorem dX0_putBack_6 : decode cX0_putBack 6 = .ok (.istore_n 2, 1) := by decide +kernel
theorem dX0_putBack_7 : decode cX0_putBack 7 = .ok (.iload_n 2, 1) := by decide +kernel
theorem dX0_putBack_8 : decode cX0_putBack 8 = .ok (.invokestatic 41, 3) := by decide +kernel
theorem dX0_putBack_11 : decode cX0_putBack 11 = .ok (.ifCond .ne 4, 3) := by decide +kernel
theorem dX0_putBack_14 : decode cX0_putBack 14 = .ok (.return_, 1) := by decide +kernel
theorem dX0_putBack_15 : decode cX0_putBack 15 = .ok (.aload_n 0, 1) := by decide +kernel
theorem dX0_putBack_16 : decode cX0_putBack 16 = .ok (.aload_n 0, 1) := by decide +kernel
theorem dX0_putBack_17 : decode cX0_putBack 17 = .ok (.getfield 9, 3) := by decide +kernel
theorem dX0_putBack_20 : decode cX0_putBack 20 = .ok (.iload_n 2, 1) := by decide +kernel
theorem dX0_putBack_21 : decode cX0_putBack 21 = .ok (.iaload, 1) := by decide +kernel
theorem dX0_putBack_22 : decode cX0_putBack 22 = .ok (.aload_n 0, 1) := by decide +kernel
theorem dX0_putBack_23 : decode cX0_putBack 23 = .ok (.getfield 15, 3) := by decide +kernel
theorem dX0_putBack_26 : decode cX0_putBack 26 = .ok (.iload_n 2, 1) := by decide +kernel
theorem dX0_putBack_27 : decode cX0_putBack 27 = .ok (.iaload, 1) := by decide +kernel
theorem dX0_putBack_28 : decode cX0_putBack 28 = .ok (.invokevirtual 62, 3) := by decide +kernel
theorem dX0_putBack_31 : decode cX0_putBack 31 = .ok (.aload_n 0, 1) := by decide +kernel
theorem dX0_putBack_32 : decode cX0_putBack 32 = .ok (.getfield 9, 3) := by decide +kernel
theorem dX0_putBack_35 : decode cX0_putBack 35 = .ok (.iload_n 2, 1) := by decide +kernel
theorem dX0_putBack_36 : decode cX0_putBack 36 = .ok (.aload_n 0, 1) := by decide +kernel
theorem dX0_putBack_37 : decode cX0_putBack 37 = .ok (.getfield 24, 3) := by decide +kernel
theorem dX0_putBack_40 : decode cX0_putBack 40 = .ok (.iload_n 1, 1) := by decide +kernel
theorem dX0_putBack_41 : decode cX0_putBack 41 = .ok (.iaload, 1) := by decide +kernel
theorem dX0_putBack_42 : decode cX0_putBack 42 = .ok (.iastore, 1) := by decide +kernel
theorem dX0_putBack_43 : decode cX0_putBack 43 = .ok (.aload_n 0, 1) := by decide +kernel
theorem dX0_putBack_44 : decode cX0_putBack 44 = .ok (.getfield 15, 3) := by decide +kernel
theorem dX0_putBack_47 : decode cX0_putBack 47 = .ok (.iload_n 2, 1) := by decide +kernel
theorem dX0_putBack_48 : decode cX0_putBack 48 = .ok (.aload_n 0, 1) := by decide +kernel
theorem dX0_putBack_49 : decode cX0_putBack 49 = .ok (.getfield 27, 3) := by decide +kernel
theorem dX0_putBack_52 : decode cX0_putBack 52 = .ok (.iload_n 1, 1) := by decide +kernel
theorem dX0_putBack_53 : decode cX0_putBack 53 = .ok (.iaload, 1) := by decide +kernel
theorem dX0_putBack_54 : decode cX0_putBack 54 = .ok (.iastore, 1) := by decide +kernel
theorem dX0_putBack_55 : decode cX0_putBack 55 = .ok (.return_, 1) := by decide +kernel
set_option maxRecDepth 20000 in
theorem ggX0_forgetSaved_X0_untell : GoodIn wsX0_forgetSaved wsX0_untell := goodIn_r _ [9, 10, 11, 12, 13, 14, 15, 16, 17, 18, 19, 20, 21, 22, 23, 29, 30, 31, 32, 33, 34, 35, 36, 37, 38, 39, 40, 41, 42, 43, 44, 45] (by decide +kernel) (by decide +kernel)
set_option maxRecDepth 20000 in
theorem gX0_forgetSaved_X0_untell : GoodIn wsX0_forgetSaved (wsV RX0 62 RX0 yX0_untell wsX0_untell) := goodIn_app (goodIn_of _ (by decide +kernel)) ggX0_forgetSaved_X0_untell
set_option maxRecDepth 20000 in
theorem ggX0_forgetSaved_X0_moveSaved : GoodIn wsX0_forgetSaved wsX0_moveSaved := goodIn_r _ [27, 2, 28, 3, 4, 29, 30, 31, 32, 33, 34, 35, 36, 37] (by decide +kernel) (by decide +kernel)
set_option maxRecDepth 20000 in
theorem gX0_forgetSaved_X0_moveSaved : GoodIn wsX0_forgetSaved (wsV RX0 65 RX0 yX0_moveSaved wsX0_moveSaved) := goodIn_app (goodIn_of _ (by decide +kernel)) ggX0_forgetSaved_X0_moveSaved
theorem dX0_forgetSaved_0 : decode cX0_forgetSaved 0 = .ok (.iconst 0, 1) := by decide +kernel
theorem dX0_forgetSaved_1 : decode cX0_forgetSaved 1 = .ok (.istore_n 2, 1) := by decide +kernel
theorem dX0_forgetSaved_2 : decode cX0_forgetSaved 2 = .ok (.iconst 0, 1) := by decide +kernel
theorem dX0_forgetSaved_3 : decode cX0_forgetSaved 3 = .ok (.istore_n 3, 1) := by decide +kernel
theorem dX0_forgetSaved_4 : decode cX0_forgetSaved 4 = .ok (.iload_n 3, 1) := by decide +kernel
theorem dX0_forgetSaved_5 : decode cX0_forgetSaved 5 = .ok (.aload_n 0, 1) := by decide +kernel
theorem dX0_forgetSaved_6 : decode cX0_forgetSaved 6 = .ok (.getfield 30, 3) := by decide +kernel
theorem dX0_forgetSaved_9 : decode cX0_forgetSaved 9 = .ok (.if_icmp .ge 47, 3) := by decide +kernel
theorem dX0_forgetSaved_12 : decode cX0_forgetSaved 12 = .ok (.aload_n 0, 1) := by decide +kernel
theorem dX0_forgetSaved_13 : decode cX0_forgetSaved 13 = .ok (.getfield 18, 3) := by decide +kernel
theorem dX0_forgetSaved_16 : decode cX0_forgetSaved 16 = .ok (.iload_n 3, 1) := by decide +kernel
theorem dX0_forgetSaved_17 : decode cX0_forgetSaved 17 = .ok (.iaload, 1) := by decide +kernel
theorem dX0_forgetSaved_18 : decode cX0_forgetSaved 18 = .ok (.iload_n 1, 1) := by decide +kernel
theorem dX0_forgetSaved_19 : decode cX0_forgetSaved 19 = .ok (.if_icmp .ne 22, 3) := by decide +kernel
theorem dX0_forgetSaved_22 : decode cX0_forgetSaved 22 = .ok (.aload_n 0, 1) := by decide +kernel
theorem dX0_forgetSaved_23 : decode cX0_forgetSaved 23 = .ok (.aload_n 0, 1) := by decide +kernel
theorem dX0_forgetSaved_24 : decode cX0_forgetSaved 24 = .ok (.getfield 24, 3) := by decide +kernel
theorem dX0_forgetSaved_27 : decode cX0_forgetSaved 27 = .ok (.iload_n 3, 1) := by decide +kernel
theorem dX0_forgetSaved_28 : decode cX0_forgetSaved 28 = .ok (.iaload, 1) := by decide +kernel
theorem dX0_forgetSaved_29 : decode cX0_forgetSaved 29 = .ok (.aload_n 0, 1) := by decide +kernel
theorem dX0_forgetSaved_30 : decode cX0_forgetSaved 30 = .ok (.getfield 27, 3) := by decide +kernel
theorem dX0_forgetSaved_33 : decode cX0_forgetSaved 33 = .ok (.iload_n 3, 1) := by decide +kernel
theorem dX0_forgetSaved_34 : decode cX0_forgetSaved 34 = .ok (.iaload, 1) := by decide +kernel
theorem dX0_forgetSaved_35 : decode cX0_forgetSaved 35 = .ok (.invokevirtual 62, 3) := by decide +kernel
theorem dX0_forgetSaved_38 : decode cX0_forgetSaved 38 = .ok (.goto 12, 3) := by decide +kernel
theorem dX0_forgetSaved_41 : decode cX0_forgetSaved 41 = .ok (.aload_n 0, 1) := by decide +kernel
theorem dX0_forgetSaved_42 : decode cX0_forgetSaved 42 = .ok (.iload_n 3, 1) := by decide +kernel
theorem dX0_forgetSaved_43 : decode cX0_forgetSaved 43 = .ok (.iload_n 2, 1) := by decide +kernel
theorem dX0_forgetSaved_44 : decode cX0_forgetSaved 44 = .ok (.invokevirtual 65, 3) := by decide +kernel
theorem dX0_forgetSaved_47 : decode cX0_forgetSaved 47 = .ok (.iinc 2 1, 3) := by decide +kernel
theorem dX0_forgetSaved_50 : decode cX0_forgetSaved 50 = .ok (.iinc 3 1, 3) := by decide +kernel
theorem dX0_forgetSaved_53 : decode cX0_forgetSaved 53 = .ok (.goto (-49), 3) := by decide +kernel
theorem dX0_forgetSaved_56 : decode cX0_forgetSaved 56 = .ok (.aload_n 0, 1) := by decide +kernel
theorem dX0_forgetSaved_57 : decode cX0_forgetSaved 57 = .ok (.iload_n 2, 1) := by decide +kernel
theorem dX0_forgetSaved_58 : decode cX0_forgetSaved 58 = .ok (.putfield 30, 3) := by decide +kernel
theorem dX0_forgetSaved_61 : decode cX0_forgetSaved 61 = .ok (.return_, 1) := by decide +kernel
theorem dX0_moveSaved_0 : decode cX0_moveSaved 0 = .ok (.aload_n 0, 1) := by decide +kernel
theorem dX0_moveSaved_1 : decode cX0_moveSaved 1 = .ok (.getfield 18, 3) := by decide +kernel
theorem dX0_moveSaved_4 : decode cX0_moveSaved 4 = .ok (.iload_n 2, 1) := by decide +kernel
theorem dX0_moveSaved_5 : decode cX0_moveSaved 5 = .ok (.aload_n 0, 1) := by decide +kernel
theorem dX0_moveSaved_6 : decode cX0_moveSaved 6 = .ok (.getfield 18, 3) := by decide +kernel
theorem dX0_moveSaved_9 : decode cX0_moveSaved 9 = .ok (.iload_n 1, 1) := by decide +kernel
theorem dX0_moveSaved_10 : decode cX0_moveSaved 10 = .ok (.iaload, 1) := by decide +kernel
theorem dX0_moveSaved_11 : decode cX0_moveSaved 11 = .ok (.iastore, 1) := by decide +kernel
theorem dX0_moveSaved_12 : decode cX0_moveSaved 12 = .ok (.aload_n 0, 1) := by decide +kernel
theorem dX0_moveSaved_13 : decode cX0_moveSaved 13 = .ok (.getfield 21, 3) := by decide +kernel
theorem dX0_moveSaved_16 : decode cX0_moveSaved 16 = .ok (.iload_n 2, 1) := by decide +kernel
theorem dX0_moveSaved_17 : decode cX0_moveSaved 17 = .ok (.aload_n 0, 1) := by decide +kernel
theorem dX0_moveSaved_18 : decode cX0_moveSaved 18 = .ok (.getfield 21, 3) := by decide +kernel
theorem dX0_moveSaved_21 : decode cX0_moveSaved 21 = .ok (.iload_n 1, 1) := by decide +kernel
theorem dX0_moveSaved_22 : decode cX0_moveSaved 22 = .ok (.iaload, 1) := by decide +kernel
theorem dX0_moveSaved_23 : decode cX0_moveSaved 23 = .ok (.iastore, 1) := by decide +kernel
theorem dX0_moveSaved_24 : decode cX0_moveSaved 24 = .ok (.aload_n 0, 1) := by decide +kernel
theorem dX0_moveSaved_25 : decode cX0_moveSaved 25 = .ok (.getfield 24, 3) := by decide +kernel
theorem dX0_moveSaved_28 : decode cX0_moveSaved 28 = .ok (.iload_n 2, 1) := by decide +kernel
theorem dX0_moveSaved_29 : decode cX0_moveSaved 29 = .ok (.aload_n 0, 1) := by decide +kernel
theorem dX0_moveSaved_30 : decode cX0_moveSaved 30 = .ok (.getfield 24, 3) := by decide +kernel
theorem dX0_moveSaved_33 : decode cX0_moveSaved 33 = .ok (.iload_n 1, 1) := by decide +kernel
theorem dX0_moveSaved_34 : decode cX0_moveSaved 34 = .ok (.iaload, 1) := by decide +kernel
theorem dX0_moveSaved_35 : decode cX0_moveSaved 35 = .ok (.iastore, 1) := by decide +kernel
theorem dX0_moveSaved_36 : decode cX0_moveSaved 36 = .ok (.aload_n 0, 1) := by decide +kernel
theorem dX0_moveSaved_37 : decode cX0_moveSaved 37 = .ok (.getfield 27, 3) := by decide +kernel
theorem dX0_moveSaved_40 : decode cX0_moveSaved 40 = .ok (.iload_n 2, 1) := by decide +kernel
theorem dX0_moveSaved_41 : decode cX0_moveSaved 41 = .ok (.aload_n 0, 1) := by decide +kernel
theorem dX0_moveSaved_42 : decode cX0_moveSaved 42 = .ok (.getfield 27, 3) := by decide +kernel
theorem dX0_moveSaved_45 : decode cX0_moveSaved 45 = .ok (.iload_n 1, 1) := by decide +kernel
theorem dX0_moveSaved_46 : decode cX0_moveSaved 46 = .ok (.iaload, 1) := by decide +kernel
theorem dX0_moveSaved_47 : decode cX0_moveSaved 47 = .ok (.iastore, 1) := by decide +kernel
theorem dX0_moveSaved_48 : decode cX0_moveSaved 48 = .ok (.return_, 1) := by decide +kernel
set_option maxRecDepth 20000 in
theorem ggX0_tell_X1_addTeller : GoodIn wsX0_tell wsX1_addTeller := goodIn_r _ [6, 7, 8, 9, 10, 11, 12, 5, 13, 14, 24, 25, 26, 27, 28, 29, 30, 31] (by decide +kernel) (by decide +kernel)
set_option maxRecDepth 20000 in
theorem gX0_tell_X1_addTeller : GoodIn wsX0_tell (wsV RX0 68 RX1 yX1_addTeller wsX1_addTeller) := goodIn_app (goodIn_of _ (by decide +kernel)) ggX0_tell_X1_addTeller
theorem dX0_tell_0 : decode cX0_tell 0 = .ok (.iload_n 1, 1) := by decide +kernel
theorem dX0_tell_1 : decode cX0_tell 1 = .ok (.iconst 3, 1) := by decide +kernel
theorem dX0_tell_2 : decode cX0_tell 2 = .ok (.if_icmp .ne 11, 3) := by decide +kernel
theorem dX0_tell_5 : decode cX0_tell 5 = .ok (.aload_n 0, 1) := by decide +kernel
theorem dX0_tell_6 : decode cX0_tell 6 = .ok (.getfield 37, 3) := by decide +kernel
theorem dX0_tell_9 : decode cX0_tell 9 = .ok (.iload_n 2, 1) := by decide +kernel
theorem dX0_tell_10 : decode cX0_tell 10 = .ok (.invokevirtual 68, 3) := by decide +kernel
theorem dX0_tell_13 : decode cX0_tell 13 = .ok (.return_, 1) := by decide +kernel
set_option maxRecDepth 20000 in
theorem ggX0_untell_X1_dropTeller : GoodIn wsX0_untell wsX1_dropTeller := goodIn_r _ [6, 7, 8, 9, 10, 11, 12, 5, 13, 14, 24, 25, 26, 27, 28, 29, 30, 31] (by decide +kernel) (by decide +kernel)
set_option maxRecDepth 20000 in
theorem gX0_untell_X1_dropTeller : GoodIn wsX0_untell (wsV RX0 73 RX1 yX1_dropTeller wsX1_dropTeller) := goodIn_app (goodIn_of _ (by decide +kernel)) ggX0_untell_X1_dropTeller
theorem dX0_untell_0 : decode cX0_untell 0 = .ok (.iload_n 1, 1) := by decide +kernel
theorem dX0_untell_1 : decode cX0_untell 1 = .ok (.iconst 3, 1) := by decide +kernel
theorem dX0_untell_2 : decode cX0_untell 2 = .ok (.if_icmp .ne 11, 3) := by decide +kernel
theorem dX0_untell_5 : decode cX0_untell 5 = .ok (.aload_n 0, 1) := by decide +kernel
theorem dX0_untell_6 : decode cX0_untell 6 = .ok (.getfield 37, 3) := by decide +kernel
theorem dX0_untell_9 : decode cX0_untell 9 = .ok (.iload_n 2, 1) := by decide +kernel
theorem dX0_untell_10 : decode cX0_untell 10 = .ok (.invokevirtual 73, 3) := by decide +kernel
theorem dX0_untell_13 : decode cX0_untell 13 = .ok (.return_, 1) := by decide +kernel
theorem dX1_init_0 : decode cX1_init 0 = .ok (.aload_n 0, 1) := by decide +kernel
theorem dX1_init_1 : decode cX1_init 1 = .ok (.invokespecial 3, 3) := by decide +kernel
theorem dX1_init_4 : decode cX1_init 4 = .ok (.aload_n 0, 1) := by decide +kernel
theorem dX1_init_5 : decode cX1_init 5 = .ok (.sipush 512, 3) := by decide +kernel
theorem dX1_init_8 : decode cX1_init 8 = .ok (.newarray .int, 2) := by decide +kernel
theorem dX1_init_10 : decode cX1_init 10 = .ok (.putfield 9, 3) := by decide +kernel
theorem dX1_init_13 : decode cX1_init 13 = .ok (.aload_n 0, 1) := by decide +kernel
theorem dX1_init_14 : decode cX1_init 14 = .ok (.sipush 513, 3) := by decide +kernel
theorem dX1_init_17 : decode cX1_init 17 = .ok (.newarray .int, 2) := by decide +kernel
theorem dX1_init_19 : decode cX1_init 19 = .ok (.putfield 15, 3) := by decide +kernel
theorem dX1_init_22 : decode cX1_init 22 = .ok (.aload_n 0, 1) := by decide +kernel
theorem dX1_init_23 : decode cX1_init 23 = .ok (.sipush 513, 3) := by decide +kernel
theorem dX1_init_26 : decode cX1_init 26 = .ok (.newarray .int, 2) := by decide +kernel
theorem dX1_init_28 : decode cX1_init 28 = .ok (.putfield 18, 3) := by decide +kernel
theorem dX1_init_31 : decode cX1_init 31 = .ok (.aload_n 0, 1) := by decide +kernel
theorem dX1_init_32 : decode cX1_init 32 = .ok (.sipush 513, 3) := by decide +kernel
theorem dX1_init_35 : decode cX1_init 35 = .ok (.newarray .int, 2) := by decide +kernel
theorem dX1_init_37 : decode cX1_init 37 = .ok (.putfield 21, 3) := by decide +kernel
theorem dX1_init_40 : decode cX1_init 40 = .ok (.aload_n 0, 1) := by decide +kernel
theorem dX1_init_41 : decode cX1_init 41 = .ok (.iconst 1, 1) := by decide +kernel
theorem dX1_init_42 : decode cX1_init 42 = .ok (.putfield 24, 3) := by decide +kernel
theorem dX1_init_45 : decode cX1_init 45 = .ok (.aload_n 0, 1) := by decide +kernel
theorem dX1_init_46 : decode cX1_init 46 = .ok (.iconst 0, 1) := by decide +kernel
theorem dX1_init_47 : decode cX1_init 47 = .ok (.putfield 28, 3) := by decide +kernel
theorem dX1_init_50 : decode cX1_init 50 = .ok (.aload_n 0, 1) := by decide +kernel
theorem dX1_init_51 : decode cX1_init 51 = .ok (.iconst 0, 1) := by decide +kernel
theorem dX1_init_52 : decode cX1_init 52 = .ok (.putfield 31, 3) := by decide +kernel
theorem dX1_init_55 : decode cX1_init 55 = .ok (.aload_n 0, 1) := by decide +kernel
theorem dX1_init_56 : decode cX1_init 56 = .ok (.iconst 0, 1) := by decide +kernel
theorem dX1_init_57 : decode cX1_init 57 = .ok (.putfield 34, 3) := by decide +kernel
theorem dX1_init_60 : decode cX1_init 60 = .ok (.return_, 1) := by decide +kernel
theorem dX1_join_0 : decode cX1_join 0 = .ok (.aload_n 0, 1) := by decide +kernel
theorem dX1_join_1 : decode cX1_join 1 = .ok (.getfield 28, 3) := by decide +kernel
theorem dX1_join_4 : decode cX1_join 4 = .ok (.aload_n 0, 1) := by decide +kernel
theorem dX1_join_5 : decode cX1_join 5 = .ok (.getfield 31, 3) := by decide +kernel
theorem dX1_join_8 : decode cX1_join 8 = .ok (.iadd, 1) := by decide +kernel
theorem dX1_join_9 : decode cX1_join 9 = .ok (.istore_n 2, 1) := by decide +kernel
theorem dX1_join_10 : decode cX1_join 10 = .ok (.aload_n 0, 1) := by decide +kernel
theorem dX1_join_11 : decode cX1_join 11 = .ok (.getfield 31, 3) := by decide +kernel
theorem dX1_join_14 : decode cX1_join 14 = .ok (.sipush 200, 3) := by decide +kernel
theorem dX1_join_17 : decode cX1_join 17 = .ok (.if_icmp .ge 12, 3) := by decide +kernel
theorem dX1_join_20 : decode cX1_join 20 = .ok (.iload_n 2, 1) := by decide +kernel
theorem dX1_join_21 : decode cX1_join 21 = .ok (.aload_n 0, 1) := by decide +kernel
theorem dX1_join_22 : decode cX1_join 22 = .ok (.getfield 9, 3) := by decide +kernel
theorem dX1_join_25 : decode cX1_join 25 = .ok (.arraylength, 1) := by decide +kernel
theorem dX1_join_26 : decode cX1_join 26 = .ok (.if_icmp .lt 5, 3) := by decide +kernel
theorem dX1_join_29 : decode cX1_join 29 = .ok (.iconst 0, 1) := by decide +kernel
theorem dX1_join_30 : decode cX1_join 30 = .ok (.ireturn, 1) := by decide +kernel
theorem dX1_join_31 : decode cX1_join 31 = .ok (.aload_n 0, 1) := by decide +kernel
theorem dX1_join_32 : decode cX1_join 32 = .ok (.getfield 9, 3) := by decide +kernel
theorem dX1_join_35 : decode cX1_join 35 = .ok (.iload_n 2, 1) := by decide +kernel
theorem dX1_join_36 : decode cX1_join 36 = .ok (.iload_n 1, 1) := by decide +kernel
theorem dX1_join_37 : decode cX1_join 37 = .ok (.iastore, 1) := by decide +kernel
theorem dX1_join_38 : decode cX1_join 38 = .ok (.aload_n 0, 1) := by decide +kernel
theorem dX1_join_39 : decode cX1_join 39 = .ok (.dup, 1) := by decide +kernel
theorem dX1_join_40 : decode cX1_join 40 = .ok (.getfield 31, 3) := by decide +kernel
theorem dX1_join_43 : decode cX1_join 43 = .ok (.iconst 1, 1) := by decide +kernel
theorem dX1_join_44 : decode cX1_join 44 = .ok (.iadd, 1) := by decide +kernel
theorem dX1_join_45 : decode cX1_join 45 = .ok (.putfield 31, 3) := by decide +kernel
theorem dX1_join_48 : decode cX1_join 48 = .ok (.iconst 1, 1) := by decide +kernel
theorem dX1_join_49 : decode cX1_join 49 = .ok (.ireturn, 1) := by decide +kernel
theorem dX1_takeDraft_0 : decode cX1_takeDraft 0 = .ok (.aload_n 0, 1) := by decide +kernel
theorem dX1_takeDraft_1 : decode cX1_takeDraft 1 = .ok (.getfield 31, 3) := by decide +kernel
theorem dX1_takeDraft_4 : decode cX1_takeDraft 4 = .ok (.ifCond .eq 15, 3) := by decide +kernel
theorem dX1_takeDraft_7 : decode cX1_takeDraft 7 = .ok (.aload_n 0, 1) := by decide +kernel
theorem dX1_takeDraft_8 : decode cX1_takeDraft 8 = .ok (.getfield 24, 3) := by decide +kernel
theorem dX1_takeDraft_11 : decode cX1_takeDraft 11 = .ok (.aload_n 0, 1) := by decide +kernel
theorem dX1_takeDraft_12 : decode cX1_takeDraft 12 = .ok (.getfield 15, 3) := by decide +kernel
theorem dX1_takeDraft_15 : decode cX1_takeDraft 15 = .ok (.arraylength, 1) := by decide +kernel
theorem dX1_takeDraft_16 : decode cX1_takeDraft 16 = .ok (.if_icmp .lt 5, 3) := by decide +kernel
theorem dX1_takeDraft_19 : decode cX1_takeDraft 19 = .ok (.iconst 0, 1) := by decide +kernel
theorem dX1_takeDraft_20 : decode cX1_takeDraft 20 = .ok (.ireturn, 1) := by decide +kernel
theorem dX1_takeDraft_21 : decode cX1_takeDraft 21 = .ok (.aload_n 0, 1) := by decide +kernel
theorem dX1_takeDraft_22 : decode cX1_takeDraft 22 = .ok (.getfield 24, 3) := by decide +kernel
theorem dX1_takeDraft_25 : decode cX1_takeDraft 25 = .ok (.istore_n 1, 1) := by decide +kernel
theorem dX1_takeDraft_26 : decode cX1_takeDraft 26 = .ok (.aload_n 0, 1) := by decide +kernel
theorem dX1_takeDraft_27 : decode cX1_takeDraft 27 = .ok (.getfield 15, 3) := by decide +kernel
theorem dX1_takeDraft_30 : decode cX1_takeDraft 30 = .ok (.iload_n 1, 1) := by decide +kernel
theorem dX1_takeDraft_31 : decode cX1_takeDraft 31 = .ok (.aload_n 0, 1) := by decide +kernel
theorem dX1_takeDraft_32 : decode cX1_takeDraft 32 = .ok (.getfield 28, 3) := by decide +kernel
theorem dX1_takeDraft_35 : decode cX1_takeDraft 35 = .ok (.iastore, 1) := by decide +kernel
theorem dX1_takeDraft_36 : decode cX1_takeDraft 36 = .ok (.aload_n 0, 1) := by decide +kernel
theorem dX1_takeDraft_37 : decode cX1_takeDraft 37 = .ok (.getfield 18, 3) := by decide +kernel
theorem dX1_takeDraft_40 : decode cX1_takeDraft 40 = .ok (.iload_n 1, 1) := by decide +kernel
theorem dX1_takeDraft_41 : decode cX1_takeDraft 41 = .ok (.aload_n 0, 1) := by decide +kernel
theorem dX1_takeDraft_42 : decode cX1_takeDraft 42 = .ok (.getfield 31, 3) := by decide +kernel
theorem dX1_takeDraft_45 : decode cX1_takeDraft 45 = .ok (.iastore, 1) := by decide +kernel
theorem dX1_takeDraft_46 : decode cX1_takeDraft 46 = .ok (.aload_n 0, 1) := by decide +kernel
theorem dX1_takeDraft_47 : decode cX1_takeDraft 47 = .ok (.dup, 1) := by decide +kernel
theorem dX1_takeDraft_48 : decode cX1_takeDraft 48 = .ok (.getfield 24, 3) := by decide +kernel
theorem dX1_takeDraft_51 : decode cX1_takeDraft 51 = .ok (.iconst 1, 1) := by decide +kernel
theorem dX1_takeDraft_52 : decode cX1_takeDraft 52 = .ok (.iadd, 1) := by decide +kernel
theorem dX1_takeDraft_53 : decode cX1_takeDraft 53 = .ok (.putfield 24, 3) := by decide +kernel
theorem dX1_takeDraft_56 : decode cX1_takeDraft 56 = .ok (.aload_n 0, 1) := by decide +kernel
theorem dX1_takeDraft_57 : decode cX1_takeDraft 57 = .ok (.dup, 1) := by decide +kernel
theorem dX1_takeDraft_58 : decode cX1_takeDraft 58 = .ok (.getfield 28, 3) := by decide +kernel
theorem dX1_takeDraft_61 : decode cX1_takeDraft 61 = .ok (.aload_n 0, 1) := by decide +kernel
theorem dX1_takeDraft_62 : decode cX1_takeDraft 62 = .ok (.getfield 31, 3) := by decide +kernel
theorem dX1_takeDraft_65 : decode cX1_takeDraft 65 = .ok (.iadd, 1) := by decide +kernel
theorem dX1_takeDraft_66 : decode cX1_takeDraft 66 = .ok (.putfield 28, 3) := by decide +kernel
theorem dX1_takeDraft_69 : decode cX1_takeDraft 69 = .ok (.aload_n 0, 1) := by decide +kernel
theorem dX1_takeDraft_70 : decode cX1_takeDraft 70 = .ok (.iconst 0, 1) := by decide +kernel
theorem dX1_takeDraft_71 : decode cX1_takeDraft 71 = .ok (.putfield 31, 3) := by decide +kernel
theorem dX1_takeDraft_74 : decode cX1_takeDraft 74 = .ok (.iload_n 1, 1) := by decide +kernel
theorem dX1_takeDraft_75 : decode cX1_takeDraft 75 = .ok (.ireturn, 1) := by decide +kernel
theorem dX1_drafted_0 : decode cX1_drafted 0 = .ok (.aload_n 0, 1) := by decide +kernel
theorem dX1_drafted_1 : decode cX1_drafted 1 = .ok (.getfield 31, 3) := by decide +kernel
theorem dX1_drafted_4 : decode cX1_drafted 4 = .ok (.ireturn, 1) := by decide +kernel
theorem dX1_kept_0 : decode cX1_kept 0 = .ok (.aload_n 0, 1) := by decide +kernel
theorem dX1_kept_1 : decode cX1_kept 1 = .ok (.getfield 34, 3) := by decide +kernel
theorem dX1_kept_4 : decode cX1_kept 4 = .ok (.ireturn, 1) := by decide +kernel
set_option maxRecDepth 20000 in
theorem ggX1_lengthOf_X1_isRow : GoodIn wsX1_lengthOf wsX1_isRow := goodIn_r _ [6, 7, 8, 9, 10, 11, 12, 13, 14, 15] (by decide +kernel) (by decide +kernel)
set_option maxRecDepth 20000 in
theorem gX1_lengthOf_X1_isRow : GoodIn wsX1_lengthOf (wsV RX1 37 RX1 yX1_isRow wsX1_isRow) := goodIn_app (goodIn_of _ (by decide +kernel)) ggX1_lengthOf_X1_isRow
theorem dX1_lengthOf_0 : decode cX1_lengthOf 0 = .ok (.aload_n 0, 1) := by decide +kernel
theorem dX1_lengthOf_1 : decode cX1_lengthOf 1 = .ok (.iload_n 1, 1) := by decide +kernel
theorem dX1_lengthOf_2 : decode cX1_lengthOf 2 = .ok (.invokevirtual 37, 3) := by decide +kernel
theorem dX1_lengthOf_5 : decode cX1_lengthOf 5 = .ok (.ifCond .eq 12, 3) := by decide +kernel
theorem dX1_lengthOf_8 : decode cX1_lengthOf 8 = .ok (.aload_n 0, 1) := by decide +kernel
theorem dX1_lengthOf_9 : decode cX1_lengthOf 9 = .ok (.getfield 18, 3) := by decide +kernel
theorem dX1_lengthOf_12 : decode cX1_lengthOf 12 = .ok (.iload_n 1, 1) := by decide +kernel
theorem dX1_lengthOf_13 : decode cX1_lengthOf 13 = .ok (.iaload, 1) := by decide +kernel
theorem dX1_lengthOf_14 : decode cX1_lengthOf 14 = .ok (.goto 4, 3) := by decide +kernel
theorem dX1_lengthOf_17 : decode cX1_lengthOf 17 = .ok (.iconst 0, 1) := by decide +kernel
theorem dX1_lengthOf_18 : decode cX1_lengthOf 18 = .ok (.ireturn, 1) := by decide +kernel
set_option maxRecDepth 20000 in
theorem ggX1_has_X1_lengthOf : GoodIn wsX1_has wsX1_lengthOf := goodIn_r _ [5, 6, 7, 8, 9, 4, 10, 11, 12, 13, 14, 15, 16, 17, 18, 19] (by decide +kernel) (by decide +kernel)
set_option maxRecDepth 20000 in
theorem gX1_has_X1_lengthOf : GoodIn wsX1_has (wsV RX1 41 RX1 yX1_lengthOf wsX1_lengthOf) := goodIn_app (goodIn_of _ (by decide +kernel)) ggX1_has_X1_lengthOf
theorem dX1_has_0 : decode cX1_has 0 = .ok (.iload_n 2, 1) := by decide +kernel
theorem dX1_has_1 : decode cX1_has 1 = .ok (.ifCond .lt 16, 3) := by decide +kernel
theorem dX1_has_4 : decode cX1_has 4 = .ok (.iload_n 2, 1) := by decide +kernel
theorem dX1_has_5 : decode cX1_has 5 = .ok (.aload_n 0, 1) := by decide +kernel
theorem dX1_has_6 : decode cX1_has 6 = .ok (.iload_n 1, 1) := by decide +kernel
theorem dX1_has_7 : decode cX1_has 7 = .ok (.invokevirtual 41, 3) := by decide +kernel
theorem dX1_has_10 : decode cX1_has 10 = .ok (.if_icmp .ge 7, 3) := by decide +kernel
theorem dX1_has_13 : decode cX1_has 13 = .ok (.iconst 1, 1) := by decide +kernel
theorem dX1_has_14 : decode cX1_has 14 = .ok (.goto 4, 3) := by decide +kernel
theorem dX1_has_17 : decode cX1_has 17 = .ok (.iconst 0, 1) := by decide +kernel
theorem dX1_has_18 : decode cX1_has 18 = .ok (.ireturn, 1) := by decide +kernel
set_option maxRecDepth 20000 in
theorem ggX1_numberAt_X1_has : GoodIn wsX1_numberAt wsX1_has := goodIn_r _ [7, 8, 9, 10, 6, 11, 12, 13, 14, 15, 16, 17, 18, 19, 20, 21, 22, 23, 24, 25] (by decide +kernel) (by decide +kernel)
set_option maxRecDepth 20000 in
theorem gX1_numberAt_X1_has : GoodIn wsX1_numberAt (wsV RX1 45 RX1 yX1_has wsX1_has) := goodIn_app (goodIn_of _ (by decide +kernel)) ggX1_numberAt_X1_has
theorem dX1_numberAt_0 : decode cX1_numberAt 0 = .ok (.aload_n 0, 1) := by decide +kernel
theorem dX1_numberAt_1 : decode cX1_numberAt 1 = .ok (.iload_n 1, 1) := by decide +kernel
theorem dX1_numberAt_2 : decode cX1_numberAt 2 = .ok (.iload_n 2, 1) := by decide +kernel
theorem dX1_numberAt_3 : decode cX1_numberAt 3 = .ok (.invokevirtual 45, 3) := by decide +kernel
theorem dX1_numberAt_6 : decode cX1_numberAt 6 = .ok (.ifCond .eq 14, 3) := by decide +kernel
theorem dX1_numberAt_9 : decode cX1_numberAt 9 = .ok (.aload_n 0, 1) := by decide +kernel
theorem dX1_numberAt_10 : decode cX1_numberAt 10 = .ok (.getfield 15, 3) := by decide +kernel
theorem dX1_numberAt_13 : decode cX1_numberAt 13 = .ok (.iload_n 1, 1) := by decide +kernel
theorem dX1_numberAt_14 : decode cX1_numberAt 14 = .ok (.iaload, 1) := by decide +kernel
theorem dX1_numberAt_15 : decode cX1_numberAt 15 = .ok (.iload_n 2, 1) := by decide +kernel
theorem dX1_numberAt_16 : decode cX1_numberAt 16 = .ok (.iadd, 1) := by decide +kernel
theorem dX1_numberAt_17 : decode cX1_numberAt 17 = .ok (.goto 4, 3) := by decide +kernel
theorem dX1_numberAt_20 : decode cX1_numberAt 20 = .ok (.iconst (-1), 1) := by decide +kernel
theorem dX1_numberAt_21 : decode cX1_numberAt 21 = .ok (.istore_n 3, 1) := by decide +kernel
theorem dX1_numberAt_22 : decode cX1_numberAt 22 = .ok (.iload_n 3, 1) := by decide +kernel
theorem dX1_numberAt_23 : decode cX1_numberAt 23 = .ok (.ifCond .lt 21, 3) := by decide +kernel
theorem dX1_numberAt_26 : decode cX1_numberAt 26 = .ok (.iload_n 3, 1) := by decide +kernel
theorem dX1_numberAt_27 : decode cX1_numberAt 27 = .ok (.aload_n 0, 1) := by decide +kernel
theorem dX1_numberAt_28 : decode cX1_numberAt 28 = .ok (.getfield 9, 3) := by decide +kernel
theorem dX1_numberAt_31 : decode cX1_numberAt 31 = .ok (.arraylength, 1) := by decide +kernel
theorem dX1_numberAt_32 : decode cX1_numberAt 32 = .ok (.if_icmp .ge 12, 3) := by decide +kernel
theorem dX1_numberAt_35 : decode cX1_numberAt 35 = .ok (.aload_n 0, 1) := by decide +kernel
theorem dX1_numberAt_36 : decode cX1_numberAt 36 = .ok (.getfield 9, 3) := by decide +kernel
theorem dX1_numberAt_39 : decode cX1_numberAt 39 = .ok (.iload_n 3, 1) := by decide +kernel
theorem dX1_numberAt_40 : decode cX1_numberAt 40 = .ok (.iaload, 1) := by decide +kernel
theorem dX1_numberAt_41 : decode cX1_numberAt 41 = .ok (.goto 4, 3) := by decide +kernel
theorem dX1_numberAt_44 : decode cX1_numberAt 44 = .ok (.iconst 0, 1) := by decide +kernel
theorem dX1_numberAt_45 : decode cX1_numberAt 45 = .ok (.ireturn, 1) := by decide +kernel
set_option maxRecDepth 20000 in
theorem ggX1_addTeller_X1_isRow : GoodIn wsX1_addTeller wsX1_isRow := goodIn_r _ [8, 9, 10, 11, 12, 13, 14, 15, 16, 17] (by decide +kernel) (by decide +kernel)
set_option maxRecDepth 20000 in
theorem gX1_addTeller_X1_isRow : GoodIn wsX1_addTeller (wsV RX1 37 RX1 yX1_isRow wsX1_isRow) := goodIn_app (goodIn_of _ (by decide +kernel)) ggX1_addTeller_X1_isRow
theorem dX1_addTeller_0 : decode cX1_addTeller 0 = .ok (.aload_n 0, 1) := by decide +kernel
theorem dX1_addTeller_1 : decode cX1_addTeller 1 = .ok (.iload_n 1, 1) := by decide +kernel
theorem dX1_addTeller_2 : decode cX1_addTeller 2 = .ok (.invokevirtual 37, 3) := by decide +kernel
theorem dX1_addTeller_5 : decode cX1_addTeller 5 = .ok (.ifCond .ne 4, 3) := by decide +kernel
theorem dX1_addTeller_8 : decode cX1_addTeller 8 = .ok (.return_, 1) := by decide +kernel
theorem dX1_addTeller_9 : decode cX1_addTeller 9 = .ok (.aload_n 0, 1) := by decide +kernel
theorem dX1_addTeller_10 : decode cX1_addTeller 10 = .ok (.getfield 21, 3) := by decide +kernel
theorem dX1_addTeller_13 : decode cX1_addTeller 13 = .ok (.iload_n 1, 1) := by decide +kernel
theorem dX1_addTeller_14 : decode cX1_addTeller 14 = .ok (.iaload, 1) := by decide +kernel
theorem dX1_addTeller_15 : decode cX1_addTeller 15 = .ok (.ifCond .ne 18, 3) := by decide +kernel
theorem dX1_addTeller_18 : decode cX1_addTeller 18 = .ok (.aload_n 0, 1) := by decide +kernel
theorem dX1_addTeller_19 : decode cX1_addTeller 19 = .ok (.dup, 1) := by decide +kernel
theorem dX1_addTeller_20 : decode cX1_addTeller 20 = .ok (.getfield 34, 3) := by decide +kernel
theorem dX1_addTeller_23 : decode cX1_addTeller 23 = .ok (.aload_n 0, 1) := by decide +kernel
theorem dX1_addTeller_24 : decode cX1_addTeller 24 = .ok (.getfield 18, 3) := by decide +kernel
theorem dX1_addTeller_27 : decode cX1_addTeller 27 = .ok (.iload_n 1, 1) := by decide +kernel
theorem dX1_addTeller_28 : decode cX1_addTeller 28 = .ok (.iaload, 1) := by decide +kernel
theorem dX1_addTeller_29 : decode cX1_addTeller 29 = .ok (.iadd, 1) := by decide +kernel
theorem dX1_addTeller_30 : decode cX1_addTeller 30 = .ok (.putfield 34, 3) := by decide +kernel
theorem dX1_addTeller_33 : decode cX1_addTeller 33 = .ok (.aload_n 0, 1) := by decide +kernel
theorem dX1_addTeller_34 : decode cX1_addTeller 34 = .ok (.getfield 21, 3) := by decide +kernel
theorem dX1_addTeller_37 : decode cX1_addTeller 37 = .ok (.iload_n 1, 1) := by decide +kernel
theorem dX1_addTeller_38 : decode cX1_addTeller 38 = .ok (.dup2, 1) := by decide +kernel
theorem dX1_addTeller_39 : decode cX1_addTeller 39 = .ok (.iaload, 1) := by decide +kernel
theorem dX1_addTeller_40 : decode cX1_addTeller 40 = .ok (.iconst 1, 1) := by decide +kernel
theorem dX1_addTeller_41 : decode cX1_addTeller 41 = .ok (.iadd, 1) := by decide +kernel
theorem dX1_addTeller_42 : decode cX1_addTeller 42 = .ok (.iastore, 1) := by decide +kernel
theorem dX1_addTeller_43 : decode cX1_addTeller 43 = .ok (.return_, 1) := by decide +kernel
set_option maxRecDepth 20000 in
theorem ggX1_dropTeller_X1_isRow : GoodIn wsX1_dropTeller wsX1_isRow := goodIn_r _ [8, 9, 10, 11, 12, 13, 14, 15, 16, 17] (by decide +kernel) (by decide +kernel)
set_option maxRecDepth 20000 in
theorem gX1_dropTeller_X1_isRow : GoodIn wsX1_dropTeller (wsV RX1 37 RX1 yX1_isRow wsX1_isRow) := goodIn_app (goodIn_of _ (by decide +kernel)) ggX1_dropTeller_X1_isRow
theorem dX1_dropTeller_0 : decode cX1_dropTeller 0 = .ok (.aload_n 0, 1) := by decide +kernel
theorem dX1_dropTeller_1 : decode cX1_dropTeller 1 = .ok (.iload_n 1, 1) := by decide +kernel
theorem dX1_dropTeller_2 : decode cX1_dropTeller 2 = .ok (.invokevirtual 37, 3) := by decide +kernel
theorem dX1_dropTeller_5 : decode cX1_dropTeller 5 = .ok (.ifCond .eq 12, 3) := by decide +kernel
theorem dX1_dropTeller_8 : decode cX1_dropTeller 8 = .ok (.aload_n 0, 1) := by decide +kernel
theorem dX1_dropTeller_9 : decode cX1_dropTeller 9 = .ok (.getfield 21, 3) := by decide +kernel
theorem dX1_dropTeller_12 : decode cX1_dropTeller 12 = .ok (.iload_n 1, 1) := by decide +kernel
theorem dX1_dropTeller_13 : decode cX1_dropTeller 13 = .ok (.iaload, 1) := by decide +kernel
theorem dX1_dropTeller_14 : decode cX1_dropTeller 14 = .ok (.ifCond .ne 4, 3) := by decide +kernel
theorem dX1_dropTeller_17 : decode cX1_dropTeller 17 = .ok (.return_, 1) := by decide +kernel
theorem dX1_dropTeller_18 : decode cX1_dropTeller 18 = .ok (.aload_n 0, 1) := by decide +kernel
theorem dX1_dropTeller_19 : decode cX1_dropTeller 19 = .ok (.getfield 21, 3) := by decide +kernel
theorem dX1_dropTeller_22 : decode cX1_dropTeller 22 = .ok (.iload_n 1, 1) := by decide +kernel
theorem dX1_dropTeller_23 : decode cX1_dropTeller 23 = .ok (.dup2, 1) := by decide +kernel
theorem dX1_dropTeller_24 : decode cX1_dropTeller 24 = .ok (.iaload, 1) := by decide +kernel
theorem dX1_dropTeller_25 : decode cX1_dropTeller 25 = .ok (.iconst 1, 1) := by decide +kernel
theorem dX1_dropTeller_26 : decode cX1_dropTeller 26 = .ok (.isub, 1) := by decide +kernel
theorem dX1_dropTeller_27 : decode cX1_dropTeller 27 = .ok (.iastore, 1) := by decide +kernel
theorem dX1_dropTeller_28 : decode cX1_dropTeller 28 = .ok (.aload_n 0, 1) := by decide +kernel
theorem dX1_dropTeller_29 : decode cX1_dropTeller 29 = .ok (.getfield 21, 3) := by decide +kernel
theorem dX1_dropTeller_32 : decode cX1_dropTeller 32 = .ok (.iload_n 1, 1) := by decide +kernel
theorem dX1_dropTeller_33 : decode cX1_dropTeller 33 = .ok (.iaload, 1) := by decide +kernel
theorem dX1_dropTeller_34 : decode cX1_dropTeller 34 = .ok (.ifCond .ne 18, 3) := by decide +kernel
theorem dX1_dropTeller_37 : decode cX1_dropTeller 37 = .ok (.aload_n 0, 1) := by decide +kernel
theorem dX1_dropTeller_38 : decode cX1_dropTeller 38 = .ok (.dup, 1) := by decide +kernel
theorem dX1_dropTeller_39 : decode cX1_dropTeller 39 = .ok (.getfield 34, 3) := by decide +kernel
theorem dX1_dropTeller_42 : decode cX1_dropTeller 42 = .ok (.aload_n 0, 1) := by decide +kernel
theorem dX1_dropTeller_43 : decode cX1_dropTeller 43 = .ok (.getfield 18, 3) := by decide +kernel
theorem dX1_dropTeller_46 : decode cX1_dropTeller 46 = .ok (.iload_n 1, 1) := by decide +kernel
theorem dX1_dropTeller_47 : decode cX1_dropTeller 47 = .ok (.iaload, 1) := by decide +kernel
theorem dX1_dropTeller_48 : decode cX1_dropTeller 48 = .ok (.isub, 1) := by decide +kernel
theorem dX1_dropTeller_49 : decode cX1_dropTeller 49 = .ok (.putfield 34, 3) := by decide +kernel
theorem dX1_dropTeller_52 : decode cX1_dropTeller 52 = .ok (.return_, 1) := by decide +kernel
theorem dX1_isRow_0 : decode cX1_isRow 0 = .ok (.iload_n 1, 1) := by decide +kernel
theorem dX1_isRow_1 : decode cX1_isRow 1 = .ok (.ifCond .lt 15, 3) := by decide +kernel
theorem dX1_isRow_4 : decode cX1_isRow 4 = .ok (.iload_n 1, 1) := by decide +kernel
theorem dX1_isRow_5 : decode cX1_isRow 5 = .ok (.aload_n 0, 1) := by decide +kernel
theorem dX1_isRow_6 : decode cX1_isRow 6 = .ok (.getfield 24, 3) := by decide +kernel
theorem dX1_isRow_9 : decode cX1_isRow 9 = .ok (.if_icmp .ge 7, 3) := by decide +kernel
theorem dX1_isRow_12 : decode cX1_isRow 12 = .ok (.iconst 1, 1) := by decide +kernel
theorem dX1_isRow_13 : decode cX1_isRow 13 = .ok (.goto 4, 3) := by decide +kernel
theorem dX1_isRow_16 : decode cX1_isRow 16 = .ok (.iconst 0, 1) := by decide +kernel
theorem dX1_isRow_17 : decode cX1_isRow 17 = .ok (.ireturn, 1) := by decide +kernel
set_option maxRecDepth 20000 in
theorem ggX2_init_X1_init : GoodIn wsX2_init wsX1_init := goodIn_r _ [13, 14, 2, 3, 15, 16, 17, 18, 19, 20, 21, 22, 23, 37, 38, 39, 40, 41, 42, 43, 44] (by decide +kernel) (by decide +kernel)
set_option maxRecDepth 20000 in
theorem gX2_init_X1_init_n11 : GoodIn wsX2_init (wsX1_init) := ggX2_init_X1_init
set_option maxRecDepth 20000 in
theorem ggX2_init_X0_init : GoodIn wsX2_init wsX0_init := goodIn_r _ [26, 27, 2, 3, 15, 28, 29, 30, 31, 32, 33, 34, 35, 36, 47, 48, 49, 50, 51, 52, 53, 54, 55] (by decide +kernel) (by decide +kernel)
set_option maxRecDepth 20000 in
theorem gX2_init_X0_init : GoodIn wsX2_init (wsX0_init) := ggX2_init_X0_init
theorem dX2_init_0 : decode cX2_init 0 = .ok (.aload_n 0, 1) := by decide +kernel
theorem dX2_init_1 : decode cX2_init 1 = .ok (.invokespecial 3, 3) := by decide +kernel
theorem dX2_init_4 : decode cX2_init 4 = .ok (.aload_n 0, 1) := by decide +kernel
theorem dX2_init_5 : decode cX2_init 5 = .ok (.new 9, 3) := by decide +kernel
theorem dX2_init_8 : decode cX2_init 8 = .ok (.dup, 1) := by decide +kernel
theorem dX2_init_9 : decode cX2_init 9 = .ok (.invokespecial 11, 3) := by decide +kernel
theorem dX2_init_12 : decode cX2_init 12 = .ok (.putfield 12, 3) := by decide +kernel
theorem dX2_init_15 : decode cX2_init 15 = .ok (.aload_n 0, 1) := by decide +kernel
theorem dX2_init_16 : decode cX2_init 16 = .ok (.new 16, 3) := by decide +kernel
theorem dX2_init_19 : decode cX2_init 19 = .ok (.dup, 1) := by decide +kernel
theorem dX2_init_20 : decode cX2_init 20 = .ok (.aload_n 0, 1) := by decide +kernel
theorem dX2_init_21 : decode cX2_init 21 = .ok (.getfield 12, 3) := by decide +kernel
theorem dX2_init_24 : decode cX2_init 24 = .ok (.invokespecial 18, 3) := by decide +kernel
theorem dX2_init_27 : decode cX2_init 27 = .ok (.putfield 21, 3) := by decide +kernel
theorem dX2_init_30 : decode cX2_init 30 = .ok (.return_, 1) := by decide +kernel
set_option maxRecDepth 20000 in
theorem ggX2_open_X0_enter : GoodIn wsX2_open wsX0_enter := goodIn_r _ [6, 7, 10, 11, 12, 13, 14, 15, 16, 17, 18] (by decide +kernel) (by decide +kernel)
set_option maxRecDepth 20000 in
theorem gX2_open_X0_enter : GoodIn wsX2_open (wsV RX2 25 RX0 yX0_enter wsX0_enter) := goodIn_app (goodIn_of _ (by decide +kernel)) ggX2_open_X0_enter
theorem dX2_open_0 : decode cX2_open 0 = .ok (.aload_n 0, 1) := by decide +kernel
theorem dX2_open_1 : decode cX2_open 1 = .ok (.getfield 21, 3) := by decide +kernel
theorem dX2_open_4 : decode cX2_open 4 = .ok (.invokevirtual 25, 3) := by decide +kernel
theorem dX2_open_7 : decode cX2_open 7 = .ok (.ireturn, 1) := by decide +kernel
set_option maxRecDepth 20000 in
theorem ggX2_close_X0_leave : GoodIn wsX2_close wsX0_leave := goodIn_r _ [6, 7, 8, 9, 10, 11, 12, 5, 13, 14, 15, 16, 17, 18, 19, 20, 21, 22, 23, 24, 25, 26, 27, 28, 29, 30, 31, 32, 33, 34, 35, 36, 37, 38, 39, 42, 43, 44, 45, 46, 47, 48, 49, 50, 51, 52, 53, 54, 55, 56, 57, 58] (by decide +kernel) (by decide +kernel)
set_option maxRecDepth 20000 in
theorem gX2_close_X0_leave : GoodIn wsX2_close (wsV RX2 29 RX0 yX0_leave wsX0_leave) := goodIn_app (goodIn_of _ (by decide +kernel)) ggX2_close_X0_leave
theorem dX2_close_0 : decode cX2_close 0 = .ok (.aload_n 0, 1) := by decide +kernel
theorem dX2_close_1 : decode cX2_close 1 = .ok (.getfield 21, 3) := by decide +kernel
theorem dX2_close_4 : decode cX2_close 4 = .ok (.invokevirtual 29, 3) := by decide +kernel
theorem dX2_close_7 : decode cX2_close 7 = .ok (.ireturn, 1) := by decide +kernel
set_option maxRecDepth 20000 in
theorem ggX2_set_X2_isCell : GoodIn wsX2_set wsX2_isCell := goodIn_r _ [5] (by decide +kernel) (by decide +kernel)
set_option maxRecDepth 20000 in
theorem gX2_set_X2_isCell : GoodIn wsX2_set (va_wsS RX2 32 yX2_isCell wsX2_isCell) := goodIn_app (goodIn_of _ (by decide +kernel)) ggX2_set_X2_isCell
set_option maxRecDepth 20000 in
theorem ggX2_set_X0_assign : GoodIn wsX2_set wsX0_assign := goodIn_r _ [10, 11, 12, 13, 14, 9, 15, 16, 17, 18, 19, 20, 21, 22, 23, 24, 25, 26, 27, 28, 29, 30, 31, 32, 33, 34, 35, 36, 37, 38, 39, 40, 41, 42, 43, 44, 45, 46, 47, 48, 49, 50, 51, 52, 53, 54, 55, 56, 57, 58, 59, 60, 61, 62, 63, 66, 67, 68, 69, 70, 71, 72, 73, 74, 75, 76, 77, 78, 79, 80, 81, 82] (by decide +kernel) (by decide +kernel)
set_option maxRecDepth 20000 in
theorem gX2_set_X0_assign : GoodIn wsX2_set (wsV RX2 36 RX0 yX0_assign wsX0_assign) := goodIn_app (goodIn_of _ (by decide +kernel)) ggX2_set_X0_assign
theorem dX2_set_0 : decode cX2_set 0 = .ok (.iload_n 1, 1) := by decide +kernel
theorem dX2_set_1 : decode cX2_set 1 = .ok (.invokestatic 32, 3) := by decide +kernel
theorem dX2_set_4 : decode cX2_set 4 = .ok (.ifCond .ne 5, 3) := by decide +kernel
theorem dX2_set_7 : decode cX2_set 7 = .ok (.iconst 0, 1) := by decide +kernel
theorem dX2_set_8 : decode cX2_set 8 = .ok (.ireturn, 1) := by decide +kernel
theorem dX2_set_9 : decode cX2_set 9 = .ok (.aload_n 0, 1) := by decide +kernel
theorem dX2_set_10 : decode cX2_set 10 = .ok (.getfield 21, 3) := by decide +kernel
theorem dX2_set_13 : decode cX2_set 13 = .ok (.iload_n 1, 1) := by decide +kernel
theorem dX2_set_14 : decode cX2_set 14 = .ok (.iconst 0, 1) := by decide +kernel
theorem dX2_set_15 : decode cX2_set 15 = .ok (.iload_n 2, 1) := by decide +kernel
theorem dX2_set_16 : decode cX2_set 16 = .ok (.iload_n 3, 1) := by decide +kernel
theorem dX2_set_17 : decode cX2_set 17 = .ok (.invokevirtual 36, 3) := by decide +kernel
theorem dX2_set_20 : decode cX2_set 20 = .ok (.iconst 1, 1) := by decide +kernel
theorem dX2_set_21 : decode cX2_set 21 = .ok (.ireturn, 1) := by decide +kernel
set_option maxRecDepth 20000 in
theorem ggX2_mean_X2_isName : GoodIn wsX2_mean wsX2_isName := goodIn_r _ [5] (by decide +kernel) (by decide +kernel)
set_option maxRecDepth 20000 in
theorem gX2_mean_X2_isName : GoodIn wsX2_mean (va_wsS RX2 40 yX2_isName wsX2_isName) := goodIn_app (goodIn_of _ (by decide +kernel)) ggX2_mean_X2_isName
set_option maxRecDepth 20000 in
theorem ggX2_mean_X2_isKindWithInt : GoodIn wsX2_mean wsX2_isKindWithInt := goodIn_r _ [8] (by decide +kernel) (by decide +kernel)
set_option maxRecDepth 20000 in
theorem gX2_mean_X2_isKindWithInt : GoodIn wsX2_mean (va_wsS RX2 43 yX2_isKindWithInt wsX2_isKindWithInt) := goodIn_app (goodIn_of _ (by decide +kernel)) ggX2_mean_X2_isKindWithInt
set_option maxRecDepth 20000 in
theorem ggX2_mean_X0_assign : GoodIn wsX2_mean wsX0_assign := goodIn_r _ [13, 14, 15, 16, 17, 12, 18, 19, 20, 21, 22, 23, 24, 25, 26, 27, 28, 29, 30, 31, 32, 33, 34, 35, 36, 37, 38, 39, 40, 41, 42, 43, 44, 45, 46, 47, 48, 49, 50, 51, 52, 53, 54, 55, 56, 57, 58, 59, 60, 61, 62, 63, 64, 65, 66, 69, 70, 71, 72, 73, 74, 75, 76, 77, 78, 79, 80, 81, 82, 83, 84, 85] (by decide +kernel) (by decide +kernel)
set_option maxRecDepth 20000 in
theorem gX2_mean_X0_assign : GoodIn wsX2_mean (wsV RX2 36 RX0 yX0_assign wsX0_assign) := goodIn_app (goodIn_of _ (by decide +kernel)) ggX2_mean_X0_assign
theorem dX2_mean_0 : decode cX2_mean 0 = .ok (.iload_n 1, 1) := by decide +kernel
theorem dX2_mean_1 : decode cX2_mean 1 = .ok (.invokestatic 40, 3) := by decide +kernel
theorem dX2_mean_4 : decode cX2_mean 4 = .ok (.ifCond .eq 10, 3) := by decide +kernel
theorem dX2_mean_7 : decode cX2_mean 7 = .ok (.iload_n 2, 1) := by decide +kernel
theorem dX2_mean_8 : decode cX2_mean 8 = .ok (.invokestatic 43, 3) := by decide +kernel
theorem dX2_mean_11 : decode cX2_mean 11 = .ok (.ifCond .ne 5, 3) := by decide +kernel
theorem dX2_mean_14 : decode cX2_mean 14 = .ok (.iconst 0, 1) := by decide +kernel
theorem dX2_mean_15 : decode cX2_mean 15 = .ok (.ireturn, 1) := by decide +kernel
theorem dX2_mean_16 : decode cX2_mean 16 = .ok (.aload_n 0, 1) := by decide +kernel
theorem dX2_mean_17 : decode cX2_mean 17 = .ok (.getfield 21, 3) := by decide +kernel
theorem dX2_mean_20 : decode cX2_mean 20 = .ok (.sipush 2366, 3) := by decide +kernel
theorem dX2_mean_23 : decode cX2_mean 23 = .ok (.iload_n 1, 1) := by decide +kernel
theorem dX2_mean_24 : decode cX2_mean 24 = .ok (.iadd, 1) := by decide +kernel
theorem dX2_mean_25 : decode cX2_mean 25 = .ok (.iload_n 2, 1) := by decide +kernel
theorem dX2_mean_26 : decode cX2_mean 26 = .ok (.iload_n 3, 1) := by decide +kernel
theorem dX2_mean_27 : decode cX2_mean 27 = .ok (.iload 4, 2) := by decide +kernel
theorem dX2_mean_29 : decode cX2_mean 29 = .ok (.invokevirtual 36, 3) := by decide +kernel
theorem dX2_mean_32 : decode cX2_mean 32 = .ok (.iconst 1, 1) := by decide +kernel
theorem dX2_mean_33 : decode cX2_mean 33 = .ok (.ireturn, 1) := by decide +kernel
set_option maxRecDepth 20000 in
theorem ggX2_draft_X1_join : GoodIn wsX2_draft wsX1_join := goodIn_r _ [6, 7, 8, 9, 12, 13, 14, 15, 16, 17, 18, 19] (by decide +kernel) (by decide +kernel)
set_option maxRecDepth 20000 in
theorem gX2_draft_X1_join : GoodIn wsX2_draft (wsV RX2 46 RX1 yX1_join wsX1_join) := goodIn_app (goodIn_of _ (by decide +kernel)) ggX2_draft_X1_join
theorem dX2_draft_0 : decode cX2_draft 0 = .ok (.aload_n 0, 1) := by decide +kernel
theorem dX2_draft_1 : decode cX2_draft 1 = .ok (.getfield 12, 3) := by decide +kernel
theorem dX2_draft_4 : decode cX2_draft 4 = .ok (.iload_n 1, 1) := by decide +kernel
theorem dX2_draft_5 : decode cX2_draft 5 = .ok (.invokevirtual 46, 3) := by decide +kernel
theorem dX2_draft_8 : decode cX2_draft 8 = .ok (.ireturn, 1) := by decide +kernel
set_option maxRecDepth 20000 in
theorem ggX2_define_X2_isName : GoodIn wsX2_define wsX2_isName := goodIn_r _ [8] (by decide +kernel) (by decide +kernel)
set_option maxRecDepth 20000 in
theorem gX2_define_X2_isName : GoodIn wsX2_define (va_wsS RX2 40 yX2_isName wsX2_isName) := goodIn_app (goodIn_of _ (by decide +kernel)) ggX2_define_X2_isName
set_option maxRecDepth 20000 in
theorem ggX2_define_X1_takeDraft : GoodIn wsX2_define wsX1_takeDraft := goodIn_r _ [13, 14, 15, 16, 17, 18, 80, 81, 82, 83, 84, 85, 86, 87] (by decide +kernel) (by decide +kernel)
set_option maxRecDepth 20000 in
theorem gX2_define_X1_takeDraft : GoodIn wsX2_define (wsV RX2 56 RX1 yX1_takeDraft wsX1_takeDraft) := goodIn_app (goodIn_of _ (by decide +kernel)) ggX2_define_X1_takeDraft
set_option maxRecDepth 20000 in
theorem ggX2_define_X0_assign : GoodIn wsX2_define wsX0_assign := goodIn_r _ [23, 24, 25, 26, 27, 22, 28, 29, 30, 31, 32, 33, 34, 35, 36, 12, 37, 38, 39, 18, 40, 41, 42, 43, 15, 44, 45, 46, 47, 48, 49, 50, 51, 52, 53, 54, 55, 56, 57, 58, 59, 60, 61, 62, 63, 64, 65, 66, 67, 68, 69, 70, 71, 72, 73, 88, 89, 90, 91, 92, 93, 94, 95, 96, 80, 81, 82, 83, 84, 85, 86, 87] (by decide +kernel) (by decide +kernel)
set_option maxRecDepth 20000 in
theorem gX2_define_X0_assign : GoodIn wsX2_define (wsV RX2 36 RX0 yX0_assign wsX0_assign) := goodIn_app (goodIn_of _ (by decide +kernel)) ggX2_define_X0_assign
set_option maxRecDepth 20000 in
theorem ggX2_define_X1_lengthOf : GoodIn wsX2_define wsX1_lengthOf := goodIn_r _ [77, 18, 40, 41, 42, 12, 43, 15, 80, 81, 82, 83, 84, 85, 86, 87] (by decide +kernel) (by decide +kernel)
set_option maxRecDepth 20000 in
theorem gX2_define_X1_lengthOf : GoodIn wsX2_define (wsV RX2 60 RX1 yX1_lengthOf wsX1_lengthOf) := goodIn_app (goodIn_of _ (by decide +kernel)) ggX2_define_X1_lengthOf
theorem dX2_define_0 : decode cX2_define 0 = .ok (.iload_n 1, 1) := by decide +kernel
theorem dX2_define_1 : decode cX2_define 1 = .ok (.invokestatic 40, 3) := by decide +kernel
theorem dX2_define_4 : decode cX2_define 4 = .ok (.ifCond .ne 13, 3) := by decide +kernel
theorem dX2_define_7 : decode cX2_define 7 = .ok (.new 49, 3) := by decide +kernel
theorem dX2_define_10 : decode cX2_define 10 = .ok (.dup, 1) := by decide +kernel
theorem dX2_define_11 : decode cX2_define 11 = .ok (.ldc 51, 2) := by decide +kernel
theorem dX2_define_13 : decode cX2_define 13 = .ok (.invokespecial 53, 3) := by decide +kernel
theorem dX2_define_16 : decode cX2_define 16 = .ok (.athrow, 1) := by decide +kernel
theorem dX2_define_17 : decode cX2_define 17 = .ok (.aload_n 0, 1) := by decide +kernel
theorem dX2_define_18 : decode cX2_define 18 = .ok (.getfield 12, 3) := by decide +kernel
theorem dX2_define_21 : decode cX2_define 21 = .ok (.invokevirtual 56, 3) := by decide +kernel
theorem dX2_define_24 : decode cX2_define 24 = .ok (.istore_n 3, 1) := by decide +kernel
theorem dX2_define_25 : decode cX2_define 25 = .ok (.aload_n 0, 1) := by decide +kernel
theorem dX2_define_26 : decode cX2_define 26 = .ok (.getfield 21, 3) := by decide +kernel
theorem dX2_define_29 : decode cX2_define 29 = .ok (.sipush 2366, 3) := by decide +kernel
theorem dX2_define_32 : decode cX2_define 32 = .ok (.iload_n 1, 1) := by decide +kernel
theorem dX2_define_33 : decode cX2_define 33 = .ok (.iadd, 1) := by decide +kernel
theorem dX2_define_34 : decode cX2_define 34 = .ok (.iconst 3, 1) := by decide +kernel
theorem dX2_define_35 : decode cX2_define 35 = .ok (.iload_n 3, 1) := by decide +kernel
theorem dX2_define_36 : decode cX2_define 36 = .ok (.iload_n 2, 1) := by decide +kernel
theorem dX2_define_37 : decode cX2_define 37 = .ok (.invokevirtual 36, 3) := by decide +kernel
theorem dX2_define_40 : decode cX2_define 40 = .ok (.aload_n 0, 1) := by decide +kernel
theorem dX2_define_41 : decode cX2_define 41 = .ok (.getfield 12, 3) := by decide +kernel
theorem dX2_define_44 : decode cX2_define 44 = .ok (.iload_n 3, 1) := by decide +kernel
theorem dX2_define_45 : decode cX2_define 45 = .ok (.invokevirtual 60, 3) := by decide +kernel
theorem dX2_define_48 : decode cX2_define 48 = .ok (.ireturn, 1) := by decide +kernel
set_option maxRecDepth 20000 in
theorem ggX2_let_X2_isName : GoodIn wsX2_let wsX2_isName := goodIn_r _ [5] (by decide +kernel) (by decide +kernel)
set_option maxRecDepth 20000 in
theorem gX2_let_X2_isName : GoodIn wsX2_let (va_wsS RX2 40 yX2_isName wsX2_isName) := goodIn_app (goodIn_of _ (by decide +kernel)) ggX2_let_X2_isName
set_option maxRecDepth 20000 in
theorem ggX2_let_X0_kindAt : GoodIn wsX2_let wsX0_kindAt := goodIn_r _ [10, 11, 12, 13, 9, 14, 74, 75, 76, 77, 78, 79, 80, 81, 82] (by decide +kernel) (by decide +kernel)
set_option maxRecDepth 20000 in
theorem gX2_let_X0_kindAt : GoodIn wsX2_let (wsV RX2 64 RX0 yX0_kindAt wsX0_kindAt) := goodIn_app (goodIn_of _ (by decide +kernel)) ggX2_let_X0_kindAt
set_option maxRecDepth 20000 in
theorem ggX2_let_X0_valueAt : GoodIn wsX2_let wsX0_valueAt := goodIn_r _ [18, 19, 12, 13, 9, 14, 74, 75, 76, 77, 78, 79, 80, 81, 82] (by decide +kernel) (by decide +kernel)
set_option maxRecDepth 20000 in
theorem gX2_let_X0_valueAt : GoodIn wsX2_let (wsV RX2 67 RX0 yX0_valueAt wsX0_valueAt) := goodIn_app (goodIn_of _ (by decide +kernel)) ggX2_let_X0_valueAt
set_option maxRecDepth 20000 in
theorem ggX2_let_X0_assign : GoodIn wsX2_let wsX0_assign := goodIn_r _ [23, 11, 19, 12, 13, 9, 14, 24, 25, 26, 27, 28, 29, 30, 31, 32, 33, 34, 35, 36, 37, 38, 39, 40, 41, 42, 43, 44, 45, 46, 47, 48, 49, 50, 51, 52, 53, 54, 55, 56, 57, 58, 59, 60, 61, 62, 63, 64, 65, 66, 67, 68, 69, 70, 71, 74, 75, 76, 77, 78, 79, 80, 81, 82, 83, 84, 85, 86, 87, 88, 89, 90] (by decide +kernel) (by decide +kernel)
set_option maxRecDepth 20000 in
theorem gX2_let_X0_assign : GoodIn wsX2_let (wsV RX2 36 RX0 yX0_assign wsX0_assign) := goodIn_app (goodIn_of _ (by decide +kernel)) ggX2_let_X0_assign
theorem dX2_let_0 : decode cX2_let 0 = .ok (.iload_n 1, 1) := by decide +kernel
theorem dX2_let_1 : decode cX2_let 1 = .ok (.invokestatic 40, 3) := by decide +kernel
theorem dX2_let_4 : decode cX2_let 4 = .ok (.ifCond .eq 10, 3) := by decide +kernel
theorem dX2_let_7 : decode cX2_let 7 = .ok (.iload_n 2, 1) := by decide +kernel
theorem dX2_let_8 : decode cX2_let 8 = .ok (.invokestatic 40, 3) := by decide +kernel
theorem dX2_let_11 : decode cX2_let 11 = .ok (.ifCond .ne 5, 3) := by decide +kernel
theorem dX2_let_14 : decode cX2_let 14 = .ok (.iconst 0, 1) := by decide +kernel
theorem dX2_let_15 : decode cX2_let 15 = .ok (.ireturn, 1) := by decide +kernel
theorem dX2_let_16 : decode cX2_let 16 = .ok (.sipush 2366, 3) := by decide +kernel
theorem dX2_let_19 : decode cX2_let 19 = .ok (.iload_n 2, 1) := by decide +kernel
theorem dX2_let_20 : decode cX2_let 20 = .ok (.iadd, 1) := by decide +kernel
theorem dX2_let_21 : decode cX2_let 21 = .ok (.istore 4, 2) := by decide +kernel
theorem dX2_let_23 : decode cX2_let 23 = .ok (.aload_n 0, 1) := by decide +kernel
theorem dX2_let_24 : decode cX2_let 24 = .ok (.getfield 21, 3) := by decide +kernel
theorem dX2_let_27 : decode cX2_let 27 = .ok (.sipush 2366, 3) := by decide +kernel
theorem dX2_let_30 : decode cX2_let 30 = .ok (.iload_n 1, 1) := by decide +kernel
theorem dX2_let_31 : decode cX2_let 31 = .ok (.iadd, 1) := by decide +kernel
theorem dX2_let_32 : decode cX2_let 32 = .ok (.aload_n 0, 1) := by decide +kernel
theorem dX2_let_33 : decode cX2_let 33 = .ok (.getfield 21, 3) := by decide +kernel
theorem dX2_let_36 : decode cX2_let 36 = .ok (.iload 4, 2) := by decide +kernel
theorem dX2_let_38 : decode cX2_let 38 = .ok (.invokevirtual 64, 3) := by decide +kernel
theorem dX2_let_41 : decode cX2_let 41 = .ok (.aload_n 0, 1) := by decide +kernel
theorem dX2_let_42 : decode cX2_let 42 = .ok (.getfield 21, 3) := by decide +kernel
theorem dX2_let_45 : decode cX2_let 45 = .ok (.iload 4, 2) := by decide +kernel
theorem dX2_let_47 : decode cX2_let 47 = .ok (.invokevirtual 67, 3) := by decide +kernel
theorem dX2_let_50 : decode cX2_let 50 = .ok (.iload_n 3, 1) := by decide +kernel
theorem dX2_let_51 : decode cX2_let 51 = .ok (.invokevirtual 36, 3) := by decide +kernel
theorem dX2_let_54 : decode cX2_let 54 = .ok (.iconst 1, 1) := by decide +kernel
theorem dX2_let_55 : decode cX2_let 55 = .ok (.ireturn, 1) := by decide +kernel
set_option maxRecDepth 20000 in
theorem ggX2_shape_X1_takeDraft : GoodIn wsX2_shape wsX1_takeDraft := goodIn_r _ [7, 8, 9, 10, 11, 12, 74, 75, 76, 77, 78, 79, 80, 81] (by decide +kernel) (by decide +kernel)
set_option maxRecDepth 20000 in
theorem gX2_shape_X1_takeDraft : GoodIn wsX2_shape (wsV RX2 56 RX1 yX1_takeDraft wsX1_takeDraft) := goodIn_app (goodIn_of _ (by decide +kernel)) ggX2_shape_X1_takeDraft
set_option maxRecDepth 20000 in
theorem ggX2_shape_X0_assign : GoodIn wsX2_shape wsX0_assign := goodIn_r _ [17, 18, 19, 20, 21, 16, 22, 23, 24, 25, 26, 27, 28, 29, 30, 6, 31, 32, 33, 12, 34, 35, 36, 37, 9, 38, 39, 40, 41, 42, 43, 44, 45, 46, 47, 48, 49, 50, 51, 52, 53, 54, 55, 56, 57, 58, 59, 60, 61, 62, 63, 64, 65, 66, 67, 82, 83, 84, 85, 86, 87, 88, 89, 90, 74, 75, 76, 77, 78, 79, 80, 81] (by decide +kernel) (by decide +kernel)
set_option maxRecDepth 20000 in
theorem gX2_shape_X0_assign : GoodIn wsX2_shape (wsV RX2 36 RX0 yX0_assign wsX0_assign) := goodIn_app (goodIn_of _ (by decide +kernel)) ggX2_shape_X0_assign
set_option maxRecDepth 20000 in
theorem ggX2_shape_X1_lengthOf : GoodIn wsX2_shape wsX1_lengthOf := goodIn_r _ [71, 12, 34, 35, 36, 6, 37, 9, 74, 75, 76, 77, 78, 79, 80, 81] (by decide +kernel) (by decide +kernel)
set_option maxRecDepth 20000 in
theorem gX2_shape_X1_lengthOf : GoodIn wsX2_shape (wsV RX2 60 RX1 yX1_lengthOf wsX1_lengthOf) := goodIn_app (goodIn_of _ (by decide +kernel)) ggX2_shape_X1_lengthOf
theorem dX2_shape_0 : decode cX2_shape 0 = .ok (.aload_n 0, 1) := by decide +kernel
theorem dX2_shape_1 : decode cX2_shape 1 = .ok (.getfield 12, 3) := by decide +kernel
theorem dX2_shape_4 : decode cX2_shape 4 = .ok (.invokevirtual 56, 3) := by decide +kernel
theorem dX2_shape_7 : decode cX2_shape 7 = .ok (.istore_n 2, 1) := by decide +kernel
theorem dX2_shape_8 : decode cX2_shape 8 = .ok (.aload_n 0, 1) := by decide +kernel
theorem dX2_shape_9 : decode cX2_shape 9 = .ok (.getfield 21, 3) := by decide +kernel
theorem dX2_shape_12 : decode cX2_shape 12 = .ok (.sipush 3366, 3) := by decide +kernel
theorem dX2_shape_15 : decode cX2_shape 15 = .ok (.iconst 0, 1) := by decide +kernel
theorem dX2_shape_16 : decode cX2_shape 16 = .ok (.iload_n 2, 1) := by decide +kernel
theorem dX2_shape_17 : decode cX2_shape 17 = .ok (.iload_n 1, 1) := by decide +kernel
theorem dX2_shape_18 : decode cX2_shape 18 = .ok (.invokevirtual 36, 3) := by decide +kernel
theorem dX2_shape_21 : decode cX2_shape 21 = .ok (.aload_n 0, 1) := by decide +kernel
theorem dX2_shape_22 : decode cX2_shape 22 = .ok (.getfield 12, 3) := by decide +kernel
theorem dX2_shape_25 : decode cX2_shape 25 = .ok (.iload_n 2, 1) := by decide +kernel
theorem dX2_shape_26 : decode cX2_shape 26 = .ok (.invokevirtual 60, 3) := by decide +kernel
theorem dX2_shape_29 : decode cX2_shape 29 = .ok (.ireturn, 1) := by decide +kernel
set_option maxRecDepth 20000 in
theorem ggX2_get_X2_isCell : GoodIn wsX2_get wsX2_isCell := goodIn_r _ [7] (by decide +kernel) (by decide +kernel)
set_option maxRecDepth 20000 in
theorem gX2_get_X2_isCell : GoodIn wsX2_get (va_wsS RX2 32 yX2_isCell wsX2_isCell) := goodIn_app (goodIn_of _ (by decide +kernel)) ggX2_get_X2_isCell
set_option maxRecDepth 20000 in
theorem ggX2_get_X0_valueAt : GoodIn wsX2_get wsX0_valueAt := goodIn_r _ [12, 13, 14, 15, 11, 16, 19, 20, 21, 22, 23, 24, 25, 26, 27] (by decide +kernel) (by decide +kernel)
set_option maxRecDepth 20000 in
theorem gX2_get_X0_valueAt : GoodIn wsX2_get (wsV RX2 67 RX0 yX0_valueAt wsX0_valueAt) := goodIn_app (goodIn_of _ (by decide +kernel)) ggX2_get_X0_valueAt
theorem dX2_get_0 : decode cX2_get 0 = .ok (.iload_n 1, 1) := by decide +kernel
theorem dX2_get_1 : decode cX2_get 1 = .ok (.invokestatic 32, 3) := by decide +kernel
theorem dX2_get_4 : decode cX2_get 4 = .ok (.ifCond .ne 13, 3) := by decide +kernel
theorem dX2_get_7 : decode cX2_get 7 = .ok (.new 49, 3) := by decide +kernel
theorem dX2_get_10 : decode cX2_get 10 = .ok (.dup, 1) := by decide +kernel
theorem dX2_get_11 : decode cX2_get 11 = .ok (.ldc 70, 2) := by decide +kernel
theorem dX2_get_13 : decode cX2_get 13 = .ok (.invokespecial 53, 3) := by decide +kernel
theorem dX2_get_16 : decode cX2_get 16 = .ok (.athrow, 1) := by decide +kernel
theorem dX2_get_17 : decode cX2_get 17 = .ok (.aload_n 0, 1) := by decide +kernel
theorem dX2_get_18 : decode cX2_get 18 = .ok (.getfield 21, 3) := by decide +kernel
theorem dX2_get_21 : decode cX2_get 21 = .ok (.iload_n 1, 1) := by decide +kernel
theorem dX2_get_22 : decode cX2_get 22 = .ok (.invokevirtual 67, 3) := by decide +kernel
theorem dX2_get_25 : decode cX2_get 25 = .ok (.ireturn, 1) := by decide +kernel
set_option maxRecDepth 20000 in
theorem ggX2_about_X2_isName : GoodIn wsX2_about wsX2_isName := goodIn_r _ [8] (by decide +kernel) (by decide +kernel)
set_option maxRecDepth 20000 in
theorem gX2_about_X2_isName : GoodIn wsX2_about (va_wsS RX2 40 yX2_isName wsX2_isName) := goodIn_app (goodIn_of _ (by decide +kernel)) ggX2_about_X2_isName
set_option maxRecDepth 20000 in
theorem ggX2_about_X0_kindAt : GoodIn wsX2_about wsX0_kindAt := goodIn_r _ [13, 14, 15, 16, 12, 17, 36, 37, 38, 39, 40, 41, 42, 43, 44] (by decide +kernel) (by decide +kernel)
set_option maxRecDepth 20000 in
theorem gX2_about_X0_kindAt : GoodIn wsX2_about (wsV RX2 64 RX0 yX0_kindAt wsX0_kindAt) := goodIn_app (goodIn_of _ (by decide +kernel)) ggX2_about_X0_kindAt
set_option maxRecDepth 20000 in
theorem ggX2_about_X0_valueAt : GoodIn wsX2_about wsX0_valueAt := goodIn_r _ [21, 22, 15, 16, 12, 17, 36, 37, 38, 39, 40, 41, 42, 43, 44] (by decide +kernel) (by decide +kernel)
set_option maxRecDepth 20000 in
theorem gX2_about_X0_valueAt : GoodIn wsX2_about (wsV RX2 67 RX0 yX0_valueAt wsX0_valueAt) := goodIn_app (goodIn_of _ (by decide +kernel)) ggX2_about_X0_valueAt
set_option maxRecDepth 20000 in
theorem ggX2_about_X1_lengthOf : GoodIn wsX2_about wsX1_lengthOf := goodIn_r _ [27, 28, 29, 30, 31, 26, 32, 33, 45, 46, 47, 48, 49, 50, 51, 52] (by decide +kernel) (by decide +kernel)
set_option maxRecDepth 20000 in
theorem gX2_about_X1_lengthOf : GoodIn wsX2_about (wsV RX2 60 RX1 yX1_lengthOf wsX1_lengthOf) := goodIn_app (goodIn_of _ (by decide +kernel)) ggX2_about_X1_lengthOf
theorem dX2_about_0 : decode cX2_about 0 = .ok (.iload_n 1, 1) := by decide +kernel
theorem dX2_about_1 : decode cX2_about 1 = .ok (.invokestatic 40, 3) := by decide +kernel
theorem dX2_about_4 : decode cX2_about 4 = .ok (.ifCond .eq 12, 3) := by decide +kernel
theorem dX2_about_7 : decode cX2_about 7 = .ok (.iload_n 2, 1) := by decide +kernel
theorem dX2_about_8 : decode cX2_about 8 = .ok (.ifCond .lt 8, 3) := by decide +kernel
theorem dX2_about_11 : decode cX2_about 11 = .ok (.iload_n 2, 1) := by decide +kernel
theorem dX2_about_12 : decode cX2_about 12 = .ok (.iconst 1, 1) := by decide +kernel
theorem dX2_about_13 : decode cX2_about 13 = .ok (.if_icmp .le 13, 3) := by decide +kernel
theorem dX2_about_16 : decode cX2_about 16 = .ok (.new 49, 3) := by decide +kernel
theorem dX2_about_19 : decode cX2_about 19 = .ok (.dup, 1) := by decide +kernel
theorem dX2_about_20 : decode cX2_about 20 = .ok (.ldc 72, 2) := by decide +kernel
theorem dX2_about_22 : decode cX2_about 22 = .ok (.invokespecial 53, 3) := by decide +kernel
theorem dX2_about_25 : decode cX2_about 25 = .ok (.athrow, 1) := by decide +kernel
theorem dX2_about_26 : decode cX2_about 26 = .ok (.aload_n 0, 1) := by decide +kernel
theorem dX2_about_27 : decode cX2_about 27 = .ok (.getfield 21, 3) := by decide +kernel
theorem dX2_about_30 : decode cX2_about 30 = .ok (.sipush 2366, 3) := by decide +kernel
theorem dX2_about_33 : decode cX2_about 33 = .ok (.iload_n 1, 1) := by decide +kernel
theorem dX2_about_34 : decode cX2_about 34 = .ok (.iadd, 1) := by decide +kernel
theorem dX2_about_35 : decode cX2_about 35 = .ok (.invokevirtual 64, 3) := by decide +kernel
theorem dX2_about_38 : decode cX2_about 38 = .ok (.istore_n 3, 1) := by decide +kernel
theorem dX2_about_39 : decode cX2_about 39 = .ok (.iload_n 2, 1) := by decide +kernel
theorem dX2_about_40 : decode cX2_about 40 = .ok (.ifCond .ne 5, 3) := by decide +kernel
theorem dX2_about_43 : decode cX2_about 43 = .ok (.iload_n 3, 1) := by decide +kernel
theorem dX2_about_44 : decode cX2_about 44 = .ok (.ireturn, 1) := by decide +kernel
theorem dX2_about_45 : decode cX2_about 45 = .ok (.aload_n 0, 1) := by decide +kernel
theorem dX2_about_46 : decode cX2_about 46 = .ok (.getfield 21, 3) := by decide +kernel
theorem dX2_about_49 : decode cX2_about 49 = .ok (.sipush 2366, 3) := by decide +kernel
theorem dX2_about_52 : decode cX2_about 52 = .ok (.iload_n 1, 1) := by decide +kernel
theorem dX2_about_53 : decode cX2_about 53 = .ok (.iadd, 1) := by decide +kernel
theorem dX2_about_54 : decode cX2_about 54 = .ok (.invokevirtual 67, 3) := by decide +kernel
theorem dX2_about_57 : decode cX2_about 57 = .ok (.istore 4, 2) := by decide +kernel
theorem dX2_about_59 : decode cX2_about 59 = .ok (.iload_n 3, 1) := by decide +kernel
theorem dX2_about_60 : decode cX2_about 60 = .ok (.iconst 3, 1) := by decide +kernel
theorem dX2_about_61 : decode cX2_about 61 = .ok (.if_icmp .ne 15, 3) := by decide +kernel
theorem dX2_about_64 : decode cX2_about 64 = .ok (.aload_n 0, 1) := by decide +kernel
theorem dX2_about_65 : decode cX2_about 65 = .ok (.getfield 12, 3) := by decide +kernel
theorem dX2_about_68 : decode cX2_about 68 = .ok (.iload 4, 2) := by decide +kernel
theorem dX2_about_70 : decode cX2_about 70 = .ok (.invokevirtual 60, 3) := by decide +kernel
theorem dX2_about_73 : decode cX2_about 73 = .ok (.goto 5, 3) := by decide +kernel
theorem dX2_about_76 : decode cX2_about 76 = .ok (.iload 4, 2) := by decide +kernel
theorem dX2_about_78 : decode cX2_about 78 = .ok (.ireturn, 1) := by decide +kernel
set_option maxRecDepth 20000 in
theorem ggX2_number_X2_rowOf : GoodIn wsX2_number wsX2_rowOf := goodIn_r _ [8, 9, 10, 11, 12, 13, 14, 15, 16, 17, 18, 19, 20, 7, 21, 22, 23, 24, 25, 26, 50, 51, 52, 53, 54, 55, 56, 57, 58, 59, 60] (by decide +kernel) (by decide +kernel)
set_option maxRecDepth 20000 in
theorem gX2_number_X2_rowOf : GoodIn wsX2_number (wsV RX2 74 RX2 yX2_rowOf wsX2_rowOf) := goodIn_app (goodIn_of _ (by decide +kernel)) ggX2_number_X2_rowOf
set_option maxRecDepth 20000 in
theorem ggX2_number_X1_lengthOf : GoodIn wsX2_number wsX1_lengthOf := goodIn_r _ [31, 32, 33, 34, 35, 30, 36, 37, 61, 62, 63, 64, 65, 66, 67, 68] (by decide +kernel) (by decide +kernel)
set_option maxRecDepth 20000 in
theorem gX2_number_X1_lengthOf : GoodIn wsX2_number (wsV RX2 60 RX1 yX1_lengthOf wsX1_lengthOf) := goodIn_app (goodIn_of _ (by decide +kernel)) ggX2_number_X1_lengthOf
set_option maxRecDepth 20000 in
theorem ggX2_number_X1_has : GoodIn wsX2_number wsX1_has := goodIn_r _ [41, 42, 28, 29, 30, 31, 32, 33, 34, 35, 36, 37, 61, 62, 63, 64, 65, 66, 67, 68] (by decide +kernel) (by decide +kernel)
set_option maxRecDepth 20000 in
theorem gX2_number_X1_has : GoodIn wsX2_number (wsV RX2 77 RX1 yX1_has wsX1_has) := goodIn_app (goodIn_of _ (by decide +kernel)) ggX2_number_X1_has
set_option maxRecDepth 20000 in
theorem ggX2_number_X1_numberAt : GoodIn wsX2_number wsX1_numberAt := goodIn_r _ [46, 47, 48, 49, 39, 40, 30, 41, 42, 28, 29, 31, 32, 33, 34, 35, 36, 37, 61, 62, 63, 64, 65, 66, 67, 68] (by decide +kernel) (by decide +kernel)
set_option maxRecDepth 20000 in
theorem gX2_number_X1_numberAt : GoodIn wsX2_number (wsV RX2 83 RX1 yX1_numberAt wsX1_numberAt) := goodIn_app (goodIn_of _ (by decide +kernel)) ggX2_number_X1_numberAt
theorem dX2_number_0 : decode cX2_number 0 = .ok (.aload_n 0, 1) := by decide +kernel
theorem dX2_number_1 : decode cX2_number 1 = .ok (.iload_n 1, 1) := by decide +kernel
theorem dX2_number_2 : decode cX2_number 2 = .ok (.invokevirtual 74, 3) := by decide +kernel
theorem dX2_number_5 : decode cX2_number 5 = .ok (.istore_n 3, 1) := by decide +kernel
theorem dX2_number_6 : decode cX2_number 6 = .ok (.iload_n 1, 1) := by decide +kernel
theorem dX2_number_7 : decode cX2_number 7 = .ok (.iconst (-1), 1) := by decide +kernel
theorem dX2_number_8 : decode cX2_number 8 = .ok (.if_icmp .ne 17, 3) := by decide +kernel
theorem dX2_number_11 : decode cX2_number 11 = .ok (.iload_n 2, 1) := by decide +kernel
theorem dX2_number_12 : decode cX2_number 12 = .ok (.iconst (-1), 1) := by decide +kernel
theorem dX2_number_13 : decode cX2_number 13 = .ok (.if_icmp .ne 12, 3) := by decide +kernel
theorem dX2_number_16 : decode cX2_number 16 = .ok (.aload_n 0, 1) := by decide +kernel
theorem dX2_number_17 : decode cX2_number 17 = .ok (.getfield 12, 3) := by decide +kernel
theorem dX2_number_20 : decode cX2_number 20 = .ok (.iload_n 3, 1) := by decide +kernel
theorem dX2_number_21 : decode cX2_number 21 = .ok (.invokevirtual 60, 3) := by decide +kernel
theorem dX2_number_24 : decode cX2_number 24 = .ok (.ireturn, 1) := by decide +kernel
theorem dX2_number_25 : decode cX2_number 25 = .ok (.aload_n 0, 1) := by decide +kernel
theorem dX2_number_26 : decode cX2_number 26 = .ok (.getfield 12, 3) := by decide +kernel
theorem dX2_number_29 : decode cX2_number 29 = .ok (.iload_n 3, 1) := by decide +kernel
theorem dX2_number_30 : decode cX2_number 30 = .ok (.iload_n 2, 1) := by decide +kernel
theorem dX2_number_31 : decode cX2_number 31 = .ok (.invokevirtual 77, 3) := by decide +kernel
theorem dX2_number_34 : decode cX2_number 34 = .ok (.ifCond .ne 13, 3) := by decide +kernel
theorem dX2_number_37 : decode cX2_number 37 = .ok (.new 49, 3) := by decide +kernel
theorem dX2_number_40 : decode cX2_number 40 = .ok (.dup, 1) := by decide +kernel
theorem dX2_number_41 : decode cX2_number 41 = .ok (.ldc 81, 2) := by decide +kernel
theorem dX2_number_43 : decode cX2_number 43 = .ok (.invokespecial 53, 3) := by decide +kernel
theorem dX2_number_46 : decode cX2_number 46 = .ok (.athrow, 1) := by decide +kernel
theorem dX2_number_47 : decode cX2_number 47 = .ok (.aload_n 0, 1) := by decide +kernel
theorem dX2_number_48 : decode cX2_number 48 = .ok (.getfield 12, 3) := by decide +kernel
theorem dX2_number_51 : decode cX2_number 51 = .ok (.iload_n 3, 1) := by decide +kernel
theorem dX2_number_52 : decode cX2_number 52 = .ok (.iload_n 2, 1) := by decide +kernel
theorem dX2_number_53 : decode cX2_number 53 = .ok (.invokevirtual 83, 3) := by decide +kernel
theorem dX2_number_56 : decode cX2_number 56 = .ok (.ireturn, 1) := by decide +kernel
set_option maxRecDepth 20000 in
theorem ggX2_count_X0_depth : GoodIn wsX2_count wsX0_depth := goodIn_r _ [7, 8, 22, 23, 24, 25, 26, 27, 28, 29, 30] (by decide +kernel) (by decide +kernel)
set_option maxRecDepth 20000 in
theorem gX2_count_X0_depth : GoodIn wsX2_count (wsV RX2 87 RX0 yX0_depth wsX0_depth) := goodIn_app (goodIn_of _ (by decide +kernel)) ggX2_count_X0_depth
set_option maxRecDepth 20000 in
theorem ggX2_count_X1_drafted : GoodIn wsX2_count wsX1_drafted := goodIn_r _ [13, 14, 31, 32, 33, 34, 35, 36, 37, 38] (by decide +kernel) (by decide +kernel)
set_option maxRecDepth 20000 in
theorem gX2_count_X1_drafted : GoodIn wsX2_count (wsV RX2 90 RX1 yX1_drafted wsX1_drafted) := goodIn_app (goodIn_of _ (by decide +kernel)) ggX2_count_X1_drafted
set_option maxRecDepth 20000 in
theorem ggX2_count_X1_kept : GoodIn wsX2_count wsX1_kept := goodIn_r _ [18, 19, 31, 32, 33, 34, 35, 36, 37, 38] (by decide +kernel) (by decide +kernel)
set_option maxRecDepth 20000 in
theorem gX2_count_X1_kept : GoodIn wsX2_count (wsV RX2 93 RX1 yX1_kept wsX1_kept) := goodIn_app (goodIn_of _ (by decide +kernel)) ggX2_count_X1_kept
theorem dX2_count_0 : decode cX2_count 0 = .ok (.iload_n 1, 1) := by decide +kernel
theorem dX2_count_1 : decode cX2_count 1 = .ok (.tableswitch 51 0 2 #[27, 35, 43], 27) := by decide +kernel
theorem dX2_count_28 : decode cX2_count 28 = .ok (.aload_n 0, 1) := by decide +kernel
theorem dX2_count_29 : decode cX2_count 29 = .ok (.getfield 21, 3) := by decide +kernel
theorem dX2_count_32 : decode cX2_count 32 = .ok (.invokevirtual 87, 3) := by decide +kernel
theorem dX2_count_35 : decode cX2_count 35 = .ok (.ireturn, 1) := by decide +kernel
theorem dX2_count_36 : decode cX2_count 36 = .ok (.aload_n 0, 1) := by decide +kernel
theorem dX2_count_37 : decode cX2_count 37 = .ok (.getfield 12, 3) := by decide +kernel
theorem dX2_count_40 : decode cX2_count 40 = .ok (.invokevirtual 90, 3) := by decide +kernel
theorem dX2_count_43 : decode cX2_count 43 = .ok (.ireturn, 1) := by decide +kernel
theorem dX2_count_44 : decode cX2_count 44 = .ok (.aload_n 0, 1) := by decide +kernel
theorem dX2_count_45 : decode cX2_count 45 = .ok (.getfield 12, 3) := by decide +kernel
theorem dX2_count_48 : decode cX2_count 48 = .ok (.invokevirtual 93, 3) := by decide +kernel
theorem dX2_count_51 : decode cX2_count 51 = .ok (.ireturn, 1) := by decide +kernel
theorem dX2_count_52 : decode cX2_count 52 = .ok (.iconst (-1), 1) := by decide +kernel
theorem dX2_count_53 : decode cX2_count 53 = .ok (.ireturn, 1) := by decide +kernel
theorem dX2_isCell_0 : decode cX2_isCell 0 = .ok (.iload_n 0, 1) := by decide +kernel
theorem dX2_isCell_1 : decode cX2_isCell 1 = .ok (.ifCond .lt 14, 3) := by decide +kernel
theorem dX2_isCell_4 : decode cX2_isCell 4 = .ok (.iload_n 0, 1) := by decide +kernel
theorem dX2_isCell_5 : decode cX2_isCell 5 = .ok (.sipush 2366, 3) := by decide +kernel
theorem dX2_isCell_8 : decode cX2_isCell 8 = .ok (.if_icmp .ge 7, 3) := by decide +kernel
theorem dX2_isCell_11 : decode cX2_isCell 11 = .ok (.iconst 1, 1) := by decide +kernel
theorem dX2_isCell_12 : decode cX2_isCell 12 = .ok (.goto 4, 3) := by decide +kernel
theorem dX2_isCell_15 : decode cX2_isCell 15 = .ok (.iconst 0, 1) := by decide +kernel
theorem dX2_isCell_16 : decode cX2_isCell 16 = .ok (.ireturn, 1) := by decide +kernel
theorem dX2_isName_0 : decode cX2_isName 0 = .ok (.iload_n 0, 1) := by decide +kernel
theorem dX2_isName_1 : decode cX2_isName 1 = .ok (.ifCond .lt 14, 3) := by decide +kernel
theorem dX2_isName_4 : decode cX2_isName 4 = .ok (.iload_n 0, 1) := by decide +kernel
theorem dX2_isName_5 : decode cX2_isName 5 = .ok (.sipush 1000, 3) := by decide +kernel
theorem dX2_isName_8 : decode cX2_isName 8 = .ok (.if_icmp .ge 7, 3) := by decide +kernel
theorem dX2_isName_11 : decode cX2_isName 11 = .ok (.iconst 1, 1) := by decide +kernel
theorem dX2_isName_12 : decode cX2_isName 12 = .ok (.goto 4, 3) := by decide +kernel
theorem dX2_isName_15 : decode cX2_isName 15 = .ok (.iconst 0, 1) := by decide +kernel
theorem dX2_isName_16 : decode cX2_isName 16 = .ok (.ireturn, 1) := by decide +kernel
theorem dX2_isKindWithInt_0 : decode cX2_isKindWithInt 0 = .ok (.iload_n 0, 1) := by decide +kernel
theorem dX2_isKindWithInt_1 : decode cX2_isKindWithInt 1 = .ok (.ifCond .lt 18, 3) := by decide +kernel
theorem dX2_isKindWithInt_4 : decode cX2_isKindWithInt 4 = .ok (.iload_n 0, 1) := by decide +kernel
theorem dX2_isKindWithInt_5 : decode cX2_isKindWithInt 5 = .ok (.bipush 8, 2) := by decide +kernel
theorem dX2_isKindWithInt_7 : decode cX2_isKindWithInt 7 = .ok (.if_icmp .gt 12, 3) := by decide +kernel
theorem dX2_isKindWithInt_10 : decode cX2_isKindWithInt 10 = .ok (.iload_n 0, 1) := by decide +kernel
theorem dX2_isKindWithInt_11 : decode cX2_isKindWithInt 11 = .ok (.iconst 3, 1) := by decide +kernel
theorem dX2_isKindWithInt_12 : decode cX2_isKindWithInt 12 = .ok (.if_icmp .eq 7, 3) := by decide +kernel
theorem dX2_isKindWithInt_15 : decode cX2_isKindWithInt 15 = .ok (.iconst 1, 1) := by decide +kernel
theorem dX2_isKindWithInt_16 : decode cX2_isKindWithInt 16 = .ok (.goto 4, 3) := by decide +kernel
theorem dX2_isKindWithInt_19 : decode cX2_isKindWithInt 19 = .ok (.iconst 0, 1) := by decide +kernel
theorem dX2_isKindWithInt_20 : decode cX2_isKindWithInt 20 = .ok (.ireturn, 1) := by decide +kernel
set_option maxRecDepth 20000 in
theorem ggX2_rowOf_X0_valueAt : GoodIn wsX2_rowOf wsX0_valueAt := goodIn_r _ [6, 7, 8, 9, 5, 10, 22, 23, 24, 25, 26, 27, 28, 29, 30] (by decide +kernel) (by decide +kernel)
set_option maxRecDepth 20000 in
theorem gX2_rowOf_X0_valueAt : GoodIn wsX2_rowOf (wsV RX2 67 RX0 yX0_valueAt wsX0_valueAt) := goodIn_app (goodIn_of _ (by decide +kernel)) ggX2_rowOf_X0_valueAt
set_option maxRecDepth 20000 in
theorem ggX2_rowOf_X2_isName : GoodIn wsX2_rowOf wsX2_isName := goodIn_r _ [14] (by decide +kernel) (by decide +kernel)
set_option maxRecDepth 20000 in
theorem gX2_rowOf_X2_isName : GoodIn wsX2_rowOf (va_wsS RX2 40 yX2_isName wsX2_isName) := goodIn_app (goodIn_of _ (by decide +kernel)) ggX2_rowOf_X2_isName
set_option maxRecDepth 20000 in
theorem ggX2_rowOf_X0_kindAt : GoodIn wsX2_rowOf wsX0_kindAt := goodIn_r _ [18, 19, 8, 9, 5, 10, 22, 23, 24, 25, 26, 27, 28, 29, 30] (by decide +kernel) (by decide +kernel)
set_option maxRecDepth 20000 in
theorem gX2_rowOf_X0_kindAt : GoodIn wsX2_rowOf (wsV RX2 64 RX0 yX0_kindAt wsX0_kindAt) := goodIn_app (goodIn_of _ (by decide +kernel)) ggX2_rowOf_X0_kindAt
theorem dX2_rowOf_0 : decode cX2_rowOf 0 = .ok (.iload_n 1, 1) := by decide +kernel
theorem dX2_rowOf_1 : decode cX2_rowOf 1 = .ok (.iconst (-1), 1) := by decide +kernel
theorem dX2_rowOf_2 : decode cX2_rowOf 2 = .ok (.if_icmp .ne 14, 3) := by decide +kernel
theorem dX2_rowOf_5 : decode cX2_rowOf 5 = .ok (.aload_n 0, 1) := by decide +kernel
theorem dX2_rowOf_6 : decode cX2_rowOf 6 = .ok (.getfield 21, 3) := by decide +kernel
theorem dX2_rowOf_9 : decode cX2_rowOf 9 = .ok (.sipush 3366, 3) := by decide +kernel
theorem dX2_rowOf_12 : decode cX2_rowOf 12 = .ok (.invokevirtual 67, 3) := by decide +kernel
theorem dX2_rowOf_15 : decode cX2_rowOf 15 = .ok (.ireturn, 1) := by decide +kernel
theorem dX2_rowOf_16 : decode cX2_rowOf 16 = .ok (.iload_n 1, 1) := by decide +kernel
theorem dX2_rowOf_17 : decode cX2_rowOf 17 = .ok (.invokestatic 40, 3) := by decide +kernel
theorem dX2_rowOf_20 : decode cX2_rowOf 20 = .ok (.ifCond .eq 19, 3) := by decide +kernel
theorem dX2_rowOf_23 : decode cX2_rowOf 23 = .ok (.aload_n 0, 1) := by decide +kernel
theorem dX2_rowOf_24 : decode cX2_rowOf 24 = .ok (.getfield 21, 3) := by decide +kernel
theorem dX2_rowOf_27 : decode cX2_rowOf 27 = .ok (.sipush 2366, 3) := by decide +kernel
theorem dX2_rowOf_30 : decode cX2_rowOf 30 = .ok (.iload_n 1, 1) := by decide +kernel
theorem dX2_rowOf_31 : decode cX2_rowOf 31 = .ok (.iadd, 1) := by decide +kernel
theorem dX2_rowOf_32 : decode cX2_rowOf 32 = .ok (.invokevirtual 64, 3) := by decide +kernel
theorem dX2_rowOf_35 : decode cX2_rowOf 35 = .ok (.iconst 3, 1) := by decide +kernel
theorem dX2_rowOf_36 : decode cX2_rowOf 36 = .ok (.if_icmp .eq 5, 3) := by decide +kernel
theorem dX2_rowOf_39 : decode cX2_rowOf 39 = .ok (.iconst (-1), 1) := by decide +kernel
theorem dX2_rowOf_40 : decode cX2_rowOf 40 = .ok (.ireturn, 1) := by decide +kernel
theorem dX2_rowOf_41 : decode cX2_rowOf 41 = .ok (.aload_n 0, 1) := by decide +kernel
theorem dX2_rowOf_42 : decode cX2_rowOf 42 = .ok (.getfield 21, 3) := by decide +kernel
theorem dX2_rowOf_45 : decode cX2_rowOf 45 = .ok (.sipush 2366, 3) := by decide +kernel
theorem dX2_rowOf_48 : decode cX2_rowOf 48 = .ok (.iload_n 1, 1) := by decide +kernel
theorem dX2_rowOf_49 : decode cX2_rowOf 49 = .ok (.iadd, 1) := by decide +kernel
theorem dX2_rowOf_50 : decode cX2_rowOf 50 = .ok (.invokevirtual 67, 3) := by decide +kernel
theorem dX2_rowOf_53 : decode cX2_rowOf 53 = .ok (.ireturn, 1) := by decide +kernel
theorem dX3_init_0 : decode cX3_init 0 = .ok (.aload_n 0, 1) := by decide +kernel
theorem dX3_init_1 : decode cX3_init 1 = .ok (.invokespecial 1, 3) := by decide +kernel
theorem dX3_init_4 : decode cX3_init 4 = .ok (.aload_n 0, 1) := by decide +kernel
theorem dX3_init_5 : decode cX3_init 5 = .ok (.sipush 4200, 3) := by decide +kernel
theorem dX3_init_8 : decode cX3_init 8 = .ok (.newarray .int, 2) := by decide +kernel
theorem dX3_init_10 : decode cX3_init 10 = .ok (.putfield 7, 3) := by decide +kernel
theorem dX3_init_13 : decode cX3_init 13 = .ok (.aload_n 0, 1) := by decide +kernel
theorem dX3_init_14 : decode cX3_init 14 = .ok (.sipush 4200, 3) := by decide +kernel
theorem dX3_init_17 : decode cX3_init 17 = .ok (.newarray .int, 2) := by decide +kernel
theorem dX3_init_19 : decode cX3_init 19 = .ok (.putfield 13, 3) := by decide +kernel
theorem dX3_init_22 : decode cX3_init 22 = .ok (.aload_n 0, 1) := by decide +kernel
theorem dX3_init_23 : decode cX3_init 23 = .ok (.sipush 4200, 3) := by decide +kernel
theorem dX3_init_26 : decode cX3_init 26 = .ok (.newarray .int, 2) := by decide +kernel
theorem dX3_init_28 : decode cX3_init 28 = .ok (.putfield 16, 3) := by decide +kernel
theorem dX3_init_31 : decode cX3_init 31 = .ok (.aload_n 0, 1) := by decide +kernel
theorem dX3_init_32 : decode cX3_init 32 = .ok (.sipush 4200, 3) := by decide +kernel
theorem dX3_init_35 : decode cX3_init 35 = .ok (.newarray .int, 2) := by decide +kernel
theorem dX3_init_37 : decode cX3_init 37 = .ok (.putfield 19, 3) := by decide +kernel
theorem dX3_init_40 : decode cX3_init 40 = .ok (.aload_n 0, 1) := by decide +kernel
theorem dX3_init_41 : decode cX3_init 41 = .ok (.iconst 1, 1) := by decide +kernel
theorem dX3_init_42 : decode cX3_init 42 = .ok (.putfield 22, 3) := by decide +kernel
theorem dX3_init_45 : decode cX3_init 45 = .ok (.aload_n 0, 1) := by decide +kernel
theorem dX3_init_46 : decode cX3_init 46 = .ok (.sipush 4200, 3) := by decide +kernel
theorem dX3_init_49 : decode cX3_init 49 = .ok (.newarray .int, 2) := by decide +kernel
theorem dX3_init_51 : decode cX3_init 51 = .ok (.putfield 26, 3) := by decide +kernel
theorem dX3_init_54 : decode cX3_init 54 = .ok (.aload_n 0, 1) := by decide +kernel
theorem dX3_init_55 : decode cX3_init 55 = .ok (.sipush 4400, 3) := by decide +kernel
theorem dX3_init_58 : decode cX3_init 58 = .ok (.newarray .int, 2) := by decide +kernel
theorem dX3_init_60 : decode cX3_init 60 = .ok (.putfield 29, 3) := by decide +kernel
theorem dX3_init_63 : decode cX3_init 63 = .ok (.return_, 1) := by decide +kernel
theorem dX3_thrown_0 : decode cX3_thrown 0 = .ok (.aload_n 0, 1) := by decide +kernel
theorem dX3_thrown_1 : decode cX3_thrown 1 = .ok (.getfield 32, 3) := by decide +kernel
theorem dX3_thrown_4 : decode cX3_thrown 4 = .ok (.ireturn, 1) := by decide +kernel
theorem dX3_fails_0 : decode cX3_fails 0 = .ok (.aload_n 0, 1) := by decide +kernel
theorem dX3_fails_1 : decode cX3_fails 1 = .ok (.iconst 1, 1) := by decide +kernel
theorem dX3_fails_2 : decode cX3_fails 2 = .ok (.putfield 32, 3) := by decide +kernel
theorem dX3_fails_5 : decode cX3_fails 5 = .ok (.iconst 0, 1) := by decide +kernel
theorem dX3_fails_6 : decode cX3_fails 6 = .ok (.ireturn, 1) := by decide +kernel
theorem dX3_isCell_0 : decode cX3_isCell 0 = .ok (.iload_n 0, 1) := by decide +kernel
theorem dX3_isCell_1 : decode cX3_isCell 1 = .ok (.ifCond .lt 14, 3) := by decide +kernel
theorem dX3_isCell_4 : decode cX3_isCell 4 = .ok (.iload_n 0, 1) := by decide +kernel
theorem dX3_isCell_5 : decode cX3_isCell 5 = .ok (.sipush 2366, 3) := by decide +kernel
theorem dX3_isCell_8 : decode cX3_isCell 8 = .ok (.if_icmp .ge 7, 3) := by decide +kernel
theorem dX3_isCell_11 : decode cX3_isCell 11 = .ok (.iconst 1, 1) := by decide +kernel
theorem dX3_isCell_12 : decode cX3_isCell 12 = .ok (.goto 4, 3) := by decide +kernel
theorem dX3_isCell_15 : decode cX3_isCell 15 = .ok (.iconst 0, 1) := by decide +kernel
theorem dX3_isCell_16 : decode cX3_isCell 16 = .ok (.ireturn, 1) := by decide +kernel
theorem dX3_isName_0 : decode cX3_isName 0 = .ok (.iload_n 0, 1) := by decide +kernel
theorem dX3_isName_1 : decode cX3_isName 1 = .ok (.ifCond .lt 14, 3) := by decide +kernel
theorem dX3_isName_4 : decode cX3_isName 4 = .ok (.iload_n 0, 1) := by decide +kernel
theorem dX3_isName_5 : decode cX3_isName 5 = .ok (.sipush 1000, 3) := by decide +kernel
theorem dX3_isName_8 : decode cX3_isName 8 = .ok (.if_icmp .ge 7, 3) := by decide +kernel
theorem dX3_isName_11 : decode cX3_isName 11 = .ok (.iconst 1, 1) := by decide +kernel
theorem dX3_isName_12 : decode cX3_isName 12 = .ok (.goto 4, 3) := by decide +kernel
theorem dX3_isName_15 : decode cX3_isName 15 = .ok (.iconst 0, 1) := by decide +kernel
theorem dX3_isName_16 : decode cX3_isName 16 = .ok (.ireturn, 1) := by decide +kernel
theorem dX3_open_0 : decode cX3_open 0 = .ok (.aload_n 0, 1) := by decide +kernel
theorem dX3_open_1 : decode cX3_open 1 = .ok (.iconst 0, 1) := by decide +kernel
theorem dX3_open_2 : decode cX3_open 2 = .ok (.putfield 32, 3) := by decide +kernel
theorem dX3_open_5 : decode cX3_open 5 = .ok (.aload_n 0, 1) := by decide +kernel
theorem dX3_open_6 : decode cX3_open 6 = .ok (.getfield 35, 3) := by decide +kernel
theorem dX3_open_9 : decode cX3_open 9 = .ok (.sipush 200, 3) := by decide +kernel
theorem dX3_open_12 : decode cX3_open 12 = .ok (.if_icmp .ne 5, 3) := by decide +kernel
theorem dX3_open_15 : decode cX3_open 15 = .ok (.iconst 0, 1) := by decide +kernel
theorem dX3_open_16 : decode cX3_open 16 = .ok (.ireturn, 1) := by decide +kernel
theorem dX3_open_17 : decode cX3_open 17 = .ok (.aload_n 0, 1) := by decide +kernel
theorem dX3_open_18 : decode cX3_open 18 = .ok (.dup, 1) := by decide +kernel
theorem dX3_open_19 : decode cX3_open 19 = .ok (.getfield 35, 3) := by decide +kernel
theorem dX3_open_22 : decode cX3_open 22 = .ok (.iconst 1, 1) := by decide +kernel
theorem dX3_open_23 : decode cX3_open 23 = .ok (.iadd, 1) := by decide +kernel
theorem dX3_open_24 : decode cX3_open 24 = .ok (.putfield 35, 3) := by decide +kernel
theorem dX3_open_27 : decode cX3_open 27 = .ok (.iconst 1, 1) := by decide +kernel
theorem dX3_open_28 : decode cX3_open 28 = .ok (.ireturn, 1) := by decide +kernel
theorem dX3_drop_0 : decode cX3_drop 0 = .ok (.iconst 0, 1) := by decide +kernel
theorem dX3_drop_1 : decode cX3_drop 1 = .ok (.istore_n 3, 1) := by decide +kernel
theorem dX3_drop_2 : decode cX3_drop 2 = .ok (.iconst 0, 1) := by decide +kernel
theorem dX3_drop_3 : decode cX3_drop 3 = .ok (.istore 4, 2) := by decide +kernel
theorem dX3_drop_5 : decode cX3_drop 5 = .ok (.iload 4, 2) := by decide +kernel
theorem dX3_drop_7 : decode cX3_drop 7 = .ok (.aload_n 0, 1) := by decide +kernel
theorem dX3_drop_8 : decode cX3_drop 8 = .ok (.getfield 38, 3) := by decide +kernel
theorem dX3_drop_11 : decode cX3_drop 11 = .ok (.if_icmp .ge 90, 3) := by decide +kernel
theorem dX3_drop_14 : decode cX3_drop 14 = .ok (.iload_n 1, 1) := by decide +kernel
theorem dX3_drop_15 : decode cX3_drop 15 = .ok (.ifCond .lt 14, 3) := by decide +kernel
theorem dX3_drop_18 : decode cX3_drop 18 = .ok (.aload_n 0, 1) := by decide +kernel
theorem dX3_drop_19 : decode cX3_drop 19 = .ok (.getfield 7, 3) := by decide +kernel
theorem dX3_drop_22 : decode cX3_drop 22 = .ok (.iload 4, 2) := by decide +kernel
theorem dX3_drop_24 : decode cX3_drop 24 = .ok (.iaload, 1) := by decide +kernel
theorem dX3_drop_25 : decode cX3_drop 25 = .ok (.iload_n 1, 1) := by decide +kernel
theorem dX3_drop_26 : decode cX3_drop 26 = .ok (.if_icmp .ne 14, 3) := by decide +kernel
theorem dX3_drop_29 : decode cX3_drop 29 = .ok (.aload_n 0, 1) := by decide +kernel
theorem dX3_drop_30 : decode cX3_drop 30 = .ok (.getfield 13, 3) := by decide +kernel
theorem dX3_drop_33 : decode cX3_drop 33 = .ok (.iload 4, 2) := by decide +kernel
theorem dX3_drop_35 : decode cX3_drop 35 = .ok (.iaload, 1) := by decide +kernel
theorem dX3_drop_36 : decode cX3_drop 36 = .ok (.iload_n 2, 1) := by decide +kernel
theorem dX3_drop_37 : decode cX3_drop 37 = .ok (.if_icmp .ge 58, 3) := by decide +kernel
theorem dX3_drop_40 : decode cX3_drop 40 = .ok (.aload_n 0, 1) := by decide +kernel
theorem dX3_drop_41 : decode cX3_drop 41 = .ok (.getfield 7, 3) := by decide +kernel
theorem dX3_drop_44 : decode cX3_drop 44 = .ok (.iload_n 3, 1) := by decide +kernel
theorem dX3_drop_45 : decode cX3_drop 45 = .ok (.aload_n 0, 1) := by decide +kernel
theorem dX3_drop_46 : decode cX3_drop 46 = .ok (.getfield 7, 3) := by decide +kernel
theorem dX3_drop_49 : decode cX3_drop 49 = .ok (.iload 4, 2) := by decide +kernel
theorem dX3_drop_51 : decode cX3_drop 51 = .ok (.iaload, 1) := by decide +kernel
theorem dX3_drop_52 : decode cX3_drop 52 = .ok (.iastore, 1) := by decide +kernel
theorem dX3_drop_53 : decode cX3_drop 53 = .ok (.aload_n 0, 1) := by decide +kernel
theorem dX3_drop_54 : decode cX3_drop 54 = .ok (.getfield 13, 3) := by decide +kernel
theorem dX3_drop_57 : decode cX3_drop 57 = .ok (.iload_n 3, 1) := by decide +kernel
theorem dX3_drop_58 : decode cX3_drop 58 = .ok (.aload_n 0, 1) := by decide +kernel
theorem dX3_drop_59 : decode cX3_drop 59 = .ok (.getfield 13, 3) := by decide +kernel
theorem dX3_drop_62 : decode cX3_drop 62 = .ok (.iload 4, 2) := by decide +kernel
theorem dX3_drop_64 : decode cX3_drop 64 = .ok (.iaload, 1) := by decide +kernel
theorem dX3_drop_65 : decode cX3_drop 65 = .ok (.iastore, 1) := by decide +kernel
theorem dX3_drop_66 : decode cX3_drop 66 = .ok (.aload_n 0, 1) := by decide +kernel
theorem dX3_drop_67 : decode cX3_drop 67 = .ok (.getfield 16, 3) := by decide +kernel
theorem dX3_drop_70 : decode cX3_drop 70 = .ok (.iload_n 3, 1) := by decide +kernel
theorem dX3_drop_71 : decode cX3_drop 71 = .ok (.aload_n 0, 1) := by decide +kernel
theorem dX3_drop_72 : decode cX3_drop 72 = .ok (.getfield 16, 3) := by decide +kernel
theorem dX3_drop_75 : decode cX3_drop 75 = .ok (.iload 4, 2) := by decide +kernel
theorem dX3_drop_77 : decode cX3_drop 77 = .ok (.iaload, 1) := by decide +kernel
theorem dX3_drop_78 : decode cX3_drop 78 = .ok (.iastore, 1) := by decide +kernel
theorem dX3_drop_79 : decode cX3_drop 79 = .ok (.aload_n 0, 1) := by decide +kernel
theorem dX3_drop_80 : decode cX3_drop 80 = .ok (.getfield 19, 3) := by decide +kernel
theorem dX3_drop_83 : decode cX3_drop 83 = .ok (.iload_n 3, 1) := by decide +kernel
theorem dX3_drop_84 : decode cX3_drop 84 = .ok (.aload_n 0, 1) := by decide +kernel
theorem dX3_drop_85 : decode cX3_drop 85 = .ok (.getfield 19, 3) := by decide +kernel
theorem dX3_drop_88 : decode cX3_drop 88 = .ok (.iload 4, 2) := by decide +kernel
theorem dX3_drop_90 : decode cX3_drop 90 = .ok (.iaload, 1) := by decide +kernel
theorem dX3_drop_91 : decode cX3_drop 91 = .ok (.iastore, 1) := by decide +kernel
theorem dX3_drop_92 : decode cX3_drop 92 = .ok (.iinc 3 1, 3) := by decide +kernel
theorem dX3_drop_95 : decode cX3_drop 95 = .ok (.iinc 4 1, 3) := by decide +kernel
theorem dX3_drop_98 : decode cX3_drop 98 = .ok (.goto (-93), 3) := by decide +kernel
theorem dX3_drop_101 : decode cX3_drop 101 = .ok (.aload_n 0, 1) := by decide +kernel
theorem dX3_drop_102 : decode cX3_drop 102 = .ok (.iload_n 3, 1) := by decide +kernel
theorem dX3_drop_103 : decode cX3_drop 103 = .ok (.putfield 38, 3) := by decide +kernel
theorem dX3_drop_106 : decode cX3_drop 106 = .ok (.return_, 1) := by decide +kernel
set_option maxRecDepth 20000 in
theorem ggX3_close_X3_drop : GoodIn wsX3_close wsX3_drop := goodIn_r _ [7, 8, 9, 10, 11, 12, 13, 14, 15, 16, 17, 18, 19, 20, 21, 22, 23] (by decide +kernel) (by decide +kernel)
set_option maxRecDepth 20000 in
theorem gX3_close_X3_drop : GoodIn wsX3_close (wsV RX3 41 RX3 yX3_drop wsX3_drop) := goodIn_app (goodIn_of _ (by decide +kernel)) ggX3_close_X3_drop
theorem dX3_close_0 : decode cX3_close 0 = .ok (.aload_n 0, 1) := by decide +kernel
theorem dX3_close_1 : decode cX3_close 1 = .ok (.iconst 0, 1) := by decide +kernel
theorem dX3_close_2 : decode cX3_close 2 = .ok (.putfield 32, 3) := by decide +kernel
theorem dX3_close_5 : decode cX3_close 5 = .ok (.aload_n 0, 1) := by decide +kernel
theorem dX3_close_6 : decode cX3_close 6 = .ok (.getfield 35, 3) := by decide +kernel
theorem dX3_close_9 : decode cX3_close 9 = .ok (.ifCond .ne 5, 3) := by decide +kernel
theorem dX3_close_12 : decode cX3_close 12 = .ok (.iconst 0, 1) := by decide +kernel
theorem dX3_close_13 : decode cX3_close 13 = .ok (.ireturn, 1) := by decide +kernel
theorem dX3_close_14 : decode cX3_close 14 = .ok (.aload_n 0, 1) := by decide +kernel
theorem dX3_close_15 : decode cX3_close 15 = .ok (.iconst (-1), 1) := by decide +kernel
theorem dX3_close_16 : decode cX3_close 16 = .ok (.aload_n 0, 1) := by decide +kernel
theorem dX3_close_17 : decode cX3_close 17 = .ok (.getfield 35, 3) := by decide +kernel
theorem dX3_close_20 : decode cX3_close 20 = .ok (.invokevirtual 41, 3) := by decide +kernel
theorem dX3_close_23 : decode cX3_close 23 = .ok (.aload_n 0, 1) := by decide +kernel
theorem dX3_close_24 : decode cX3_close 24 = .ok (.dup, 1) := by decide +kernel
theorem dX3_close_25 : decode cX3_close 25 = .ok (.getfield 35, 3) := by decide +kernel
theorem dX3_close_28 : decode cX3_close 28 = .ok (.iconst 1, 1) := by decide +kernel
theorem dX3_close_29 : decode cX3_close 29 = .ok (.isub, 1) := by decide +kernel
theorem dX3_close_30 : decode cX3_close 30 = .ok (.putfield 35, 3) := by decide +kernel
theorem dX3_close_33 : decode cX3_close 33 = .ok (.iconst 1, 1) := by decide +kernel
theorem dX3_close_34 : decode cX3_close 34 = .ok (.ireturn, 1) := by decide +kernel
set_option maxRecDepth 20000 in
theorem ggX3_assign_X3_drop : GoodIn wsX3_assign wsX3_drop := goodIn_r _ [11, 3, 2, 4, 5, 6, 12, 13, 14, 15, 16, 17, 18, 19, 20, 21, 22] (by decide +kernel) (by decide +kernel)
set_option maxRecDepth 20000 in
theorem gX3_assign_X3_drop : GoodIn wsX3_assign (wsV RX3 41 RX3 yX3_drop wsX3_drop) := goodIn_app (goodIn_of _ (by decide +kernel)) ggX3_assign_X3_drop
theorem dX3_assign_0 : decode cX3_assign 0 = .ok (.iload 4, 2) := by decide +kernel
theorem dX3_assign_2 : decode cX3_assign 2 = .ok (.ifCond .eq 7, 3) := by decide +kernel
theorem dX3_assign_5 : decode cX3_assign 5 = .ok (.iconst 0, 1) := by decide +kernel
theorem dX3_assign_6 : decode cX3_assign 6 = .ok (.goto 7, 3) := by decide +kernel
theorem dX3_assign_9 : decode cX3_assign 9 = .ok (.aload_n 0, 1) := by decide +kernel
theorem dX3_assign_10 : decode cX3_assign 10 = .ok (.getfield 35, 3) := by decide +kernel
theorem dX3_assign_13 : decode cX3_assign 13 = .ok (.istore 5, 2) := by decide +kernel
theorem dX3_assign_15 : decode cX3_assign 15 = .ok (.aload_n 0, 1) := by decide +kernel
theorem dX3_assign_16 : decode cX3_assign 16 = .ok (.iload_n 1, 1) := by decide +kernel
theorem dX3_assign_17 : decode cX3_assign 17 = .ok (.iload 5, 2) := by decide +kernel
theorem dX3_assign_19 : decode cX3_assign 19 = .ok (.invokevirtual 41, 3) := by decide +kernel
theorem dX3_assign_22 : decode cX3_assign 22 = .ok (.aload_n 0, 1) := by decide +kernel
theorem dX3_assign_23 : decode cX3_assign 23 = .ok (.getfield 7, 3) := by decide +kernel
theorem dX3_assign_26 : decode cX3_assign 26 = .ok (.aload_n 0, 1) := by decide +kernel
theorem dX3_assign_27 : decode cX3_assign 27 = .ok (.getfield 38, 3) := by decide +kernel
theorem dX3_assign_30 : decode cX3_assign 30 = .ok (.iload_n 1, 1) := by decide +kernel
theorem dX3_assign_31 : decode cX3_assign 31 = .ok (.iastore, 1) := by decide +kernel
theorem dX3_assign_32 : decode cX3_assign 32 = .ok (.aload_n 0, 1) := by decide +kernel
theorem dX3_assign_33 : decode cX3_assign 33 = .ok (.getfield 13, 3) := by decide +kernel
theorem dX3_assign_36 : decode cX3_assign 36 = .ok (.aload_n 0, 1) := by decide +kernel
theorem dX3_assign_37 : decode cX3_assign 37 = .ok (.getfield 38, 3) := by decide +kernel
theorem dX3_assign_40 : decode cX3_assign 40 = .ok (.iload 5, 2) := by decide +kernel
theorem dX3_assign_42 : decode cX3_assign 42 = .ok (.iastore, 1) := by decide +kernel
theorem dX3_assign_43 : decode cX3_assign 43 = .ok (.aload_n 0, 1) := by decide +kernel
theorem dX3_assign_44 : decode cX3_assign 44 = .ok (.getfield 16, 3) := by decide +kernel
theorem dX3_assign_47 : decode cX3_assign 47 = .ok (.aload_n 0, 1) := by decide +kernel
theorem dX3_assign_48 : decode cX3_assign 48 = .ok (.getfield 38, 3) := by decide +kernel
theorem dX3_assign_51 : decode cX3_assign 51 = .ok (.iload_n 2, 1) := by decide +kernel
theorem dX3_assign_52 : decode cX3_assign 52 = .ok (.iastore, 1) := by decide +kernel
theorem dX3_assign_53 : decode cX3_assign 53 = .ok (.aload_n 0, 1) := by decide +kernel
theorem dX3_assign_54 : decode cX3_assign 54 = .ok (.getfield 19, 3) := by decide +kernel
theorem dX3_assign_57 : decode cX3_assign 57 = .ok (.aload_n 0, 1) := by decide +kernel
theorem dX3_assign_58 : decode cX3_assign 58 = .ok (.getfield 38, 3) := by decide +kernel
theorem dX3_assign_61 : decode cX3_assign 61 = .ok (.iload_n 3, 1) := by decide +kernel
theorem dX3_assign_62 : decode cX3_assign 62 = .ok (.iastore, 1) := by decide +kernel
theorem dX3_assign_63 : decode cX3_assign 63 = .ok (.aload_n 0, 1) := by decide +kernel
theorem dX3_assign_64 : decode cX3_assign 64 = .ok (.dup, 1) := by decide +kernel
theorem dX3_assign_65 : decode cX3_assign 65 = .ok (.getfield 38, 3) := by decide +kernel
theorem dX3_assign_68 : decode cX3_assign 68 = .ok (.iconst 1, 1) := by decide +kernel
theorem dX3_assign_69 : decode cX3_assign 69 = .ok (.iadd, 1) := by decide +kernel
theorem dX3_assign_70 : decode cX3_assign 70 = .ok (.putfield 38, 3) := by decide +kernel
theorem dX3_assign_73 : decode cX3_assign 73 = .ok (.return_, 1) := by decide +kernel
theorem dX3_last_0 : decode cX3_last 0 = .ok (.iconst (-1), 1) := by decide +kernel
theorem dX3_last_1 : decode cX3_last 1 = .ok (.istore_n 2, 1) := by decide +kernel
