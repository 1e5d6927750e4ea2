set_option maxRecDepth 20000 in
theorem ggX6_init_X4_init : GoodIn wsX6_init wsX4_init := goodIn_r _ [27, 28, 2, 3, 29, 30, 31, 32, 33, 34, 35, 36, 37, 38, 96, 97, 98] (by decide +kernel) (by decide +kernel)
set_option maxRecDepth 20000 in
theorem gX6_init_X4_init : GoodIn wsX6_init (wsX4_init) := ggX6_init_X4_init
set_option maxRecDepth 20000 in
theorem ggX6_init_X1_init : GoodIn wsX6_init wsX1_init := goodIn_r _ [41, 42, 2, 3, 32, 43, 44, 45, 46, 47, 48, 49, 50, 51, 52, 53, 105, 106, 107, 108, 109, 110, 111, 112, 113, 114, 115, 116, 117] (by decide +kernel) (by decide +kernel)
set_option maxRecDepth 20000 in
theorem gX6_init_X1_init : GoodIn wsX6_init (wsX1_init) := ggX6_init_X1_init
set_option maxRecDepth 20000 in
theorem ggX6_init_X3_init : GoodIn wsX6_init wsX3_init := goodIn_r _ [56, 57, 2, 3, 58, 32, 59, 60, 61, 62, 63, 64, 65, 66, 67, 68, 69, 70, 71, 72, 73, 74, 75, 76, 77, 118, 119, 120, 121, 122, 123, 124, 125, 126, 145, 146, 147, 148] (by decide +kernel) (by decide +kernel)
set_option maxRecDepth 20000 in
theorem gX6_init_X3_init : GoodIn wsX6_init (wsX3_init) := ggX6_init_X3_init
set_option maxRecDepth 20000 in
theorem ggX6_init_X5_init : GoodIn wsX6_init wsX5_init := goodIn_r _ [80, 81, 2, 3, 32, 82, 127, 128, 129, 130, 131, 132] (by decide +kernel) (by decide +kernel)
set_option maxRecDepth 20000 in
theorem gX6_init_X5_init : GoodIn wsX6_init (wsX5_init) := ggX6_init_X5_init
set_option maxRecDepth 20000 in
theorem ggX6_init_X2_init : GoodIn wsX6_init wsX2_init := goodIn_r _ [85, 86, 2, 3, 87, 32, 88, 89, 90, 91, 92, 93, 94, 30, 95, 133, 134, 135, 136, 137, 138, 139, 140, 141, 142, 143, 144] (by decide +kernel) (by decide +kernel)
set_option maxRecDepth 20000 in
theorem gX6_init_X2_init : GoodIn wsX6_init (wsX2_init) := ggX6_init_X2_init
theorem dX6_init_0 : decode cX6_init 0 = .ok (.aload_n 0, 1) := by decide +kernel
theorem dX6_init_1 : decode cX6_init 1 = .ok (.invokespecial 1, 3) := by decide +kernel
theorem dX6_init_4 : decode cX6_init 4 = .ok (.aload_n 0, 1) := by decide +kernel
theorem dX6_init_5 : decode cX6_init 5 = .ok (.new 7, 3) := by decide +kernel
theorem dX6_init_8 : decode cX6_init 8 = .ok (.dup, 1) := by decide +kernel
theorem dX6_init_9 : decode cX6_init 9 = .ok (.invokespecial 9, 3) := by decide +kernel
theorem dX6_init_12 : decode cX6_init 12 = .ok (.putfield 10, 3) := by decide +kernel
theorem dX6_init_15 : decode cX6_init 15 = .ok (.aload_n 0, 1) := by decide +kernel
theorem dX6_init_16 : decode cX6_init 16 = .ok (.new 16, 3) := by decide +kernel
theorem dX6_init_19 : decode cX6_init 19 = .ok (.dup, 1) := by decide +kernel
theorem dX6_init_20 : decode cX6_init 20 = .ok (.invokespecial 18, 3) := by decide +kernel
theorem dX6_init_23 : decode cX6_init 23 = .ok (.putfield 19, 3) := by decide +kernel
theorem dX6_init_26 : decode cX6_init 26 = .ok (.aload_n 0, 1) := by decide +kernel
theorem dX6_init_27 : decode cX6_init 27 = .ok (.new 23, 3) := by decide +kernel
theorem dX6_init_30 : decode cX6_init 30 = .ok (.dup, 1) := by decide +kernel
theorem dX6_init_31 : decode cX6_init 31 = .ok (.invokespecial 25, 3) := by decide +kernel
theorem dX6_init_34 : decode cX6_init 34 = .ok (.putfield 26, 3) := by decide +kernel
theorem dX6_init_37 : decode cX6_init 37 = .ok (.aload_n 0, 1) := by decide +kernel
theorem dX6_init_38 : decode cX6_init 38 = .ok (.new 30, 3) := by decide +kernel
theorem dX6_init_41 : decode cX6_init 41 = .ok (.dup, 1) := by decide +kernel
theorem dX6_init_42 : decode cX6_init 42 = .ok (.invokespecial 32, 3) := by decide +kernel
theorem dX6_init_45 : decode cX6_init 45 = .ok (.putfield 33, 3) := by decide +kernel
theorem dX6_init_48 : decode cX6_init 48 = .ok (.aload_n 0, 1) := by decide +kernel
theorem dX6_init_49 : decode cX6_init 49 = .ok (.new 37, 3) := by decide +kernel
theorem dX6_init_52 : decode cX6_init 52 = .ok (.dup, 1) := by decide +kernel
theorem dX6_init_53 : decode cX6_init 53 = .ok (.invokespecial 39, 3) := by decide +kernel
theorem dX6_init_56 : decode cX6_init 56 = .ok (.putfield 40, 3) := by decide +kernel
theorem dX6_init_59 : decode cX6_init 59 = .ok (.aload_n 0, 1) := by decide +kernel
theorem dX6_init_60 : decode cX6_init 60 = .ok (.iconst 0, 1) := by decide +kernel
theorem dX6_init_61 : decode cX6_init 61 = .ok (.putfield 44, 3) := by decide +kernel
theorem dX6_init_64 : decode cX6_init 64 = .ok (.return_, 1) := by decide +kernel
theorem dX6_status_0 : decode cX6_status 0 = .ok (.aload_n 0, 1) := by decide +kernel
theorem dX6_status_1 : decode cX6_status 1 = .ok (.getfield 44, 3) := by decide +kernel
theorem dX6_status_4 : decode cX6_status 4 = .ok (.ireturn, 1) := by decide +kernel
set_option maxRecDepth 20000 in
theorem ggX6_sheet_X4_isNumber : GoodIn wsX6_sheet wsX4_isNumber := goodIn_r _ [5, 6, 7, 8] (by decide +kernel) (by decide +kernel)
set_option maxRecDepth 20000 in
theorem gX6_sheet_X4_isNumber : GoodIn wsX6_sheet (va_wsS RX6 48 yX4_isNumber wsX4_isNumber) := goodIn_app (goodIn_of _ (by decide +kernel)) ggX6_sheet_X4_isNumber
set_option maxRecDepth 20000 in
theorem ggX6_sheet_X6_within : GoodIn wsX6_sheet wsX6_within := goodIn_r _ [8] (by decide +kernel) (by decide +kernel)
set_option maxRecDepth 20000 in
theorem gX6_sheet_X6_within : GoodIn wsX6_sheet (va_wsS RX6 52 yX6_within wsX6_within) := goodIn_app (goodIn_of _ (by decide +kernel)) ggX6_sheet_X6_within
set_option maxRecDepth 20000 in
theorem ggX6_sheet_X6_refuse : GoodIn wsX6_sheet wsX6_refuse := goodIn_r _ [13, 14, 30, 31, 32, 33, 34, 35] (by decide +kernel) (by decide +kernel)
set_option maxRecDepth 20000 in
theorem gX6_sheet_X6_refuse : GoodIn wsX6_sheet (wsV RX6 56 RX6 yX6_refuse wsX6_refuse) := goodIn_app (goodIn_of _ (by decide +kernel)) ggX6_sheet_X6_refuse
set_option maxRecDepth 20000 in
theorem ggX6_sheet_X4_make : GoodIn wsX6_sheet wsX4_make := goodIn_r _ [18, 19, 20, 21, 22, 23, 24, 25, 36, 37, 38] (by decide +kernel) (by decide +kernel)
set_option maxRecDepth 20000 in
theorem gX6_sheet_X4_make : GoodIn wsX6_sheet (wsV RX6 59 RX4 yX4_make wsX4_make) := goodIn_app (goodIn_of _ (by decide +kernel)) ggX6_sheet_X4_make
set_option maxRecDepth 20000 in
theorem ggX6_sheet_X6_agree : GoodIn wsX6_sheet wsX6_agree := goodIn_r _ [29, 14, 30, 31, 32, 33, 34, 35] (by decide +kernel) (by decide +kernel)
set_option maxRecDepth 20000 in
theorem gX6_sheet_X6_agree : GoodIn wsX6_sheet (wsV RX6 63 RX6 yX6_agree wsX6_agree) := goodIn_app (goodIn_of _ (by decide +kernel)) ggX6_sheet_X6_agree
theorem dX6_sheet_0 : decode cX6_sheet 0 = .ok (.iload_n 1, 1) := by decide +kernel
theorem dX6_sheet_1 : decode cX6_sheet 1 = .ok (.invokestatic 48, 3) := by decide +kernel
theorem dX6_sheet_4 : decode cX6_sheet 4 = .ok (.ifCond .eq 24, 3) := by decide +kernel
theorem dX6_sheet_7 : decode cX6_sheet 7 = .ok (.iload_n 2, 1) := by decide +kernel
theorem dX6_sheet_8 : decode cX6_sheet 8 = .ok (.i2l, 1) := by decide +kernel
theorem dX6_sheet_9 : decode cX6_sheet 9 = .ok (.iconst 0, 1) := by decide +kernel
theorem dX6_sheet_10 : decode cX6_sheet 10 = .ok (.iconst 3, 1) := by decide +kernel
theorem dX6_sheet_11 : decode cX6_sheet 11 = .ok (.invokestatic 52, 3) := by decide +kernel
theorem dX6_sheet_14 : decode cX6_sheet 14 = .ok (.ifCond .eq 14, 3) := by decide +kernel
theorem dX6_sheet_17 : decode cX6_sheet 17 = .ok (.iload_n 3, 1) := by decide +kernel
theorem dX6_sheet_18 : decode cX6_sheet 18 = .ok (.i2l, 1) := by decide +kernel
theorem dX6_sheet_19 : decode cX6_sheet 19 = .ok (.iconst 0, 1) := by decide +kernel
theorem dX6_sheet_20 : decode cX6_sheet 20 = .ok (.bipush 64, 2) := by decide +kernel
theorem dX6_sheet_22 : decode cX6_sheet 22 = .ok (.invokestatic 52, 3) := by decide +kernel
theorem dX6_sheet_25 : decode cX6_sheet 25 = .ok (.ifCond .ne 9, 3) := by decide +kernel
theorem dX6_sheet_28 : decode cX6_sheet 28 = .ok (.aload_n 0, 1) := by decide +kernel
theorem dX6_sheet_29 : decode cX6_sheet 29 = .ok (.iconst 1, 1) := by decide +kernel
theorem dX6_sheet_30 : decode cX6_sheet 30 = .ok (.invokevirtual 56, 3) := by decide +kernel
theorem dX6_sheet_33 : decode cX6_sheet 33 = .ok (.ireturn, 1) := by decide +kernel
theorem dX6_sheet_34 : decode cX6_sheet 34 = .ok (.aload_n 0, 1) := by decide +kernel
theorem dX6_sheet_35 : decode cX6_sheet 35 = .ok (.getfield 10, 3) := by decide +kernel
theorem dX6_sheet_38 : decode cX6_sheet 38 = .ok (.iload_n 1, 1) := by decide +kernel
theorem dX6_sheet_39 : decode cX6_sheet 39 = .ok (.iload_n 2, 1) := by decide +kernel
theorem dX6_sheet_40 : decode cX6_sheet 40 = .ok (.iload_n 3, 1) := by decide +kernel
theorem dX6_sheet_41 : decode cX6_sheet 41 = .ok (.invokevirtual 59, 3) := by decide +kernel
theorem dX6_sheet_44 : decode cX6_sheet 44 = .ok (.aload_n 0, 1) := by decide +kernel
theorem dX6_sheet_45 : decode cX6_sheet 45 = .ok (.invokevirtual 63, 3) := by decide +kernel
theorem dX6_sheet_48 : decode cX6_sheet 48 = .ok (.ireturn, 1) := by decide +kernel
set_option maxRecDepth 20000 in
theorem ggX6_write_X4_whyNoPlace : GoodIn wsX6_write wsX4_whyNoPlace := goodIn_r _ [6, 7, 8, 9, 5, 10, 11, 12, 13, 14, 15, 16, 17, 42, 43, 44] (by decide +kernel) (by decide +kernel)
set_option maxRecDepth 20000 in
theorem gX6_write_X4_whyNoPlace : GoodIn wsX6_write (wsV RX6 67 RX4 yX4_whyNoPlace wsX4_whyNoPlace) := goodIn_app (goodIn_of _ (by decide +kernel)) ggX6_write_X4_whyNoPlace
set_option maxRecDepth 20000 in
theorem ggX6_write_X6_refuse : GoodIn wsX6_write wsX6_refuse := goodIn_r _ [21, 22, 36, 37, 38, 39, 40, 41] (by decide +kernel) (by decide +kernel)
set_option maxRecDepth 20000 in
theorem gX6_write_X6_refuse : GoodIn wsX6_write (wsV RX6 56 RX6 yX6_refuse wsX6_refuse) := goodIn_app (goodIn_of _ (by decide +kernel)) ggX6_write_X6_refuse
set_option maxRecDepth 20000 in
theorem ggX6_write_X4_put : GoodIn wsX6_write wsX4_put := goodIn_r _ [26, 27, 28, 29, 30, 5, 31, 42, 43, 44] (by decide +kernel) (by decide +kernel)
set_option maxRecDepth 20000 in
theorem gX6_write_X4_put : GoodIn wsX6_write (wsV RX6 71 RX4 yX4_put wsX4_put) := goodIn_app (goodIn_of _ (by decide +kernel)) ggX6_write_X4_put
set_option maxRecDepth 20000 in
theorem ggX6_write_X6_agree : GoodIn wsX6_write wsX6_agree := goodIn_r _ [35, 22, 36, 37, 38, 39, 40, 41] (by decide +kernel) (by decide +kernel)
set_option maxRecDepth 20000 in
theorem gX6_write_X6_agree : GoodIn wsX6_write (wsV RX6 63 RX6 yX6_agree wsX6_agree) := goodIn_app (goodIn_of _ (by decide +kernel)) ggX6_write_X6_agree
theorem dX6_write_0 : decode cX6_write 0 = .ok (.aload_n 0, 1) := by decide +kernel
theorem dX6_write_1 : decode cX6_write 1 = .ok (.getfield 10, 3) := by decide +kernel
theorem dX6_write_4 : decode cX6_write 4 = .ok (.iload_n 1, 1) := by decide +kernel
theorem dX6_write_5 : decode cX6_write 5 = .ok (.iload_n 2, 1) := by decide +kernel
theorem dX6_write_6 : decode cX6_write 6 = .ok (.invokevirtual 67, 3) := by decide +kernel
theorem dX6_write_9 : decode cX6_write 9 = .ok (.istore 5, 2) := by decide +kernel
theorem dX6_write_11 : decode cX6_write 11 = .ok (.iload 5, 2) := by decide +kernel
theorem dX6_write_13 : decode cX6_write 13 = .ok (.ifCond .eq 10, 3) := by decide +kernel
theorem dX6_write_16 : decode cX6_write 16 = .ok (.aload_n 0, 1) := by decide +kernel
theorem dX6_write_17 : decode cX6_write 17 = .ok (.iload 5, 2) := by decide +kernel
theorem dX6_write_19 : decode cX6_write 19 = .ok (.invokevirtual 56, 3) := by decide +kernel
theorem dX6_write_22 : decode cX6_write 22 = .ok (.ireturn, 1) := by decide +kernel
theorem dX6_write_23 : decode cX6_write 23 = .ok (.aload_n 0, 1) := by decide +kernel
theorem dX6_write_24 : decode cX6_write 24 = .ok (.getfield 10, 3) := by decide +kernel
theorem dX6_write_27 : decode cX6_write 27 = .ok (.iload_n 1, 1) := by decide +kernel
theorem dX6_write_28 : decode cX6_write 28 = .ok (.iload_n 2, 1) := by decide +kernel
theorem dX6_write_29 : decode cX6_write 29 = .ok (.lload_n 3, 1) := by decide +kernel
theorem dX6_write_30 : decode cX6_write 30 = .ok (.invokevirtual 71, 3) := by decide +kernel
theorem dX6_write_33 : decode cX6_write 33 = .ok (.aload_n 0, 1) := by decide +kernel
theorem dX6_write_34 : decode cX6_write 34 = .ok (.invokevirtual 63, 3) := by decide +kernel
theorem dX6_write_37 : decode cX6_write 37 = .ok (.ireturn, 1) := by decide +kernel
set_option maxRecDepth 20000 in
theorem ggX6_read_X4_whyNoPlace : GoodIn wsX6_read wsX4_whyNoPlace := goodIn_r _ [7, 8, 9, 10, 6, 11, 12, 13, 14, 15, 16, 17, 18, 34, 35, 36] (by decide +kernel) (by decide +kernel)
set_option maxRecDepth 20000 in
theorem gX6_read_X4_whyNoPlace : GoodIn wsX6_read (wsV RX6 67 RX4 yX4_whyNoPlace wsX4_whyNoPlace) := goodIn_app (goodIn_of _ (by decide +kernel)) ggX6_read_X4_whyNoPlace
set_option maxRecDepth 20000 in
theorem ggX6_read_X6_deny : GoodIn wsX6_read wsX6_deny := goodIn_r _ [22, 2, 28, 29, 30, 31, 32, 33] (by decide +kernel) (by decide +kernel)
set_option maxRecDepth 20000 in
theorem gX6_read_X6_deny : GoodIn wsX6_read (wsV RX6 75 RX6 yX6_deny wsX6_deny) := goodIn_app (goodIn_of _ (by decide +kernel)) ggX6_read_X6_deny
set_option maxRecDepth 20000 in
theorem ggX6_read_X4_at : GoodIn wsX6_read wsX4_at := goodIn_r _ [26, 27, 34, 35, 36] (by decide +kernel) (by decide +kernel)
set_option maxRecDepth 20000 in
theorem gX6_read_X4_at : GoodIn wsX6_read (wsV RX6 79 RX4 yX4_at wsX4_at) := goodIn_app (goodIn_of _ (by decide +kernel)) ggX6_read_X4_at
theorem dX6_read_0 : decode cX6_read 0 = .ok (.aload_n 0, 1) := by decide +kernel
theorem dX6_read_1 : decode cX6_read 1 = .ok (.getfield 10, 3) := by decide +kernel
theorem dX6_read_4 : decode cX6_read 4 = .ok (.iload_n 1, 1) := by decide +kernel
theorem dX6_read_5 : decode cX6_read 5 = .ok (.iload_n 2, 1) := by decide +kernel
theorem dX6_read_6 : decode cX6_read 6 = .ok (.invokevirtual 67, 3) := by decide +kernel
theorem dX6_read_9 : decode cX6_read 9 = .ok (.istore_n 3, 1) := by decide +kernel
theorem dX6_read_10 : decode cX6_read 10 = .ok (.iload_n 3, 1) := by decide +kernel
theorem dX6_read_11 : decode cX6_read 11 = .ok (.ifCond .eq 10, 3) := by decide +kernel
theorem dX6_read_14 : decode cX6_read 14 = .ok (.aload_n 0, 1) := by decide +kernel
theorem dX6_read_15 : decode cX6_read 15 = .ok (.iload_n 3, 1) := by decide +kernel
theorem dX6_read_16 : decode cX6_read 16 = .ok (.invokevirtual 75, 3) := by decide +kernel
theorem dX6_read_19 : decode cX6_read 19 = .ok (.i2l, 1) := by decide +kernel
theorem dX6_read_20 : decode cX6_read 20 = .ok (.lreturn, 1) := by decide +kernel
theorem dX6_read_21 : decode cX6_read 21 = .ok (.aload_n 0, 1) := by decide +kernel
theorem dX6_read_22 : decode cX6_read 22 = .ok (.iconst 0, 1) := by decide +kernel
theorem dX6_read_23 : decode cX6_read 23 = .ok (.putfield 44, 3) := by decide +kernel
theorem dX6_read_26 : decode cX6_read 26 = .ok (.aload_n 0, 1) := by decide +kernel
theorem dX6_read_27 : decode cX6_read 27 = .ok (.getfield 10, 3) := by decide +kernel
theorem dX6_read_30 : decode cX6_read 30 = .ok (.iload_n 1, 1) := by decide +kernel
theorem dX6_read_31 : decode cX6_read 31 = .ok (.iload_n 2, 1) := by decide +kernel
theorem dX6_read_32 : decode cX6_read 32 = .ok (.invokevirtual 79, 3) := by decide +kernel
theorem dX6_read_35 : decode cX6_read 35 = .ok (.lreturn, 1) := by decide +kernel
set_option maxRecDepth 20000 in
theorem ggX6_drop_X4_isNumber : GoodIn wsX6_drop wsX4_isNumber := goodIn_r _ [5, 6, 7, 8] (by decide +kernel) (by decide +kernel)
set_option maxRecDepth 20000 in
theorem gX6_drop_X4_isNumber : GoodIn wsX6_drop (va_wsS RX6 48 yX4_isNumber wsX4_isNumber) := goodIn_app (goodIn_of _ (by decide +kernel)) ggX6_drop_X4_isNumber
set_option maxRecDepth 20000 in
theorem ggX6_drop_X6_refuse : GoodIn wsX6_drop wsX6_refuse := goodIn_r _ [12, 13, 27, 28, 29, 30, 31, 32] (by decide +kernel) (by decide +kernel)
set_option maxRecDepth 20000 in
theorem gX6_drop_X6_refuse : GoodIn wsX6_drop (wsV RX6 56 RX6 yX6_refuse wsX6_refuse) := goodIn_app (goodIn_of _ (by decide +kernel)) ggX6_drop_X6_refuse
set_option maxRecDepth 20000 in
theorem ggX6_drop_X4_isMissing : GoodIn wsX6_drop wsX4_isMissing := goodIn_r _ [17, 18, 33, 34, 35] (by decide +kernel) (by decide +kernel)
set_option maxRecDepth 20000 in
theorem gX6_drop_X4_isMissing : GoodIn wsX6_drop (wsV RX6 83 RX4 yX4_isMissing wsX4_isMissing) := goodIn_app (goodIn_of _ (by decide +kernel)) ggX6_drop_X4_isMissing
set_option maxRecDepth 20000 in
theorem ggX6_drop_X4_lose : GoodIn wsX6_drop wsX4_lose := goodIn_r _ [22, 18, 33, 34, 35] (by decide +kernel) (by decide +kernel)
set_option maxRecDepth 20000 in
theorem gX6_drop_X4_lose : GoodIn wsX6_drop (wsV RX6 86 RX4 yX4_lose wsX4_lose) := goodIn_app (goodIn_of _ (by decide +kernel)) ggX6_drop_X4_lose
set_option maxRecDepth 20000 in
theorem ggX6_drop_X6_agree : GoodIn wsX6_drop wsX6_agree := goodIn_r _ [26, 13, 27, 28, 29, 30, 31, 32] (by decide +kernel) (by decide +kernel)
set_option maxRecDepth 20000 in
theorem gX6_drop_X6_agree : GoodIn wsX6_drop (wsV RX6 63 RX6 yX6_agree wsX6_agree) := goodIn_app (goodIn_of _ (by decide +kernel)) ggX6_drop_X6_agree
theorem dX6_drop_0 : decode cX6_drop 0 = .ok (.iload_n 1, 1) := by decide +kernel
theorem dX6_drop_1 : decode cX6_drop 1 = .ok (.invokestatic 48, 3) := by decide +kernel
theorem dX6_drop_4 : decode cX6_drop 4 = .ok (.ifCond .ne 9, 3) := by decide +kernel
theorem dX6_drop_7 : decode cX6_drop 7 = .ok (.aload_n 0, 1) := by decide +kernel
theorem dX6_drop_8 : decode cX6_drop 8 = .ok (.iconst 1, 1) := by decide +kernel
theorem dX6_drop_9 : decode cX6_drop 9 = .ok (.invokevirtual 56, 3) := by decide +kernel
theorem dX6_drop_12 : decode cX6_drop 12 = .ok (.ireturn, 1) := by decide +kernel
theorem dX6_drop_13 : decode cX6_drop 13 = .ok (.aload_n 0, 1) := by decide +kernel
theorem dX6_drop_14 : decode cX6_drop 14 = .ok (.getfield 10, 3) := by decide +kernel
theorem dX6_drop_17 : decode cX6_drop 17 = .ok (.iload_n 1, 1) := by decide +kernel
theorem dX6_drop_18 : decode cX6_drop 18 = .ok (.invokevirtual 83, 3) := by decide +kernel
theorem dX6_drop_21 : decode cX6_drop 21 = .ok (.ifCond .eq 9, 3) := by decide +kernel
theorem dX6_drop_24 : decode cX6_drop 24 = .ok (.aload_n 0, 1) := by decide +kernel
theorem dX6_drop_25 : decode cX6_drop 25 = .ok (.iconst 2, 1) := by decide +kernel
theorem dX6_drop_26 : decode cX6_drop 26 = .ok (.invokevirtual 56, 3) := by decide +kernel
theorem dX6_drop_29 : decode cX6_drop 29 = .ok (.ireturn, 1) := by decide +kernel
theorem dX6_drop_30 : decode cX6_drop 30 = .ok (.aload_n 0, 1) := by decide +kernel
theorem dX6_drop_31 : decode cX6_drop 31 = .ok (.getfield 10, 3) := by decide +kernel
theorem dX6_drop_34 : decode cX6_drop 34 = .ok (.iload_n 1, 1) := by decide +kernel
theorem dX6_drop_35 : decode cX6_drop 35 = .ok (.invokevirtual 86, 3) := by decide +kernel
theorem dX6_drop_38 : decode cX6_drop 38 = .ok (.aload_n 0, 1) := by decide +kernel
theorem dX6_drop_39 : decode cX6_drop 39 = .ok (.invokevirtual 63, 3) := by decide +kernel
theorem dX6_drop_42 : decode cX6_drop 42 = .ok (.ireturn, 1) := by decide +kernel
set_option maxRecDepth 20000 in
theorem ggX6_copy_X4_isNumber : GoodIn wsX6_copy wsX4_isNumber := goodIn_r _ [5, 6, 7, 8] (by decide +kernel) (by decide +kernel)
set_option maxRecDepth 20000 in
theorem gX6_copy_X4_isNumber : GoodIn wsX6_copy (va_wsS RX6 48 yX4_isNumber wsX4_isNumber) := goodIn_app (goodIn_of _ (by decide +kernel)) ggX6_copy_X4_isNumber
set_option maxRecDepth 20000 in
theorem ggX6_copy_X6_refuse : GoodIn wsX6_copy wsX6_refuse := goodIn_r _ [12, 13, 44, 45, 46, 47, 48, 49] (by decide +kernel) (by decide +kernel)
set_option maxRecDepth 20000 in
theorem gX6_copy_X6_refuse : GoodIn wsX6_copy (wsV RX6 56 RX6 yX6_refuse wsX6_refuse) := goodIn_app (goodIn_of _ (by decide +kernel)) ggX6_copy_X6_refuse
set_option maxRecDepth 20000 in
theorem ggX6_copy_X4_isMissing : GoodIn wsX6_copy wsX4_isMissing := goodIn_r _ [17, 18, 50, 51, 52] (by decide +kernel) (by decide +kernel)
set_option maxRecDepth 20000 in
theorem gX6_copy_X4_isMissing : GoodIn wsX6_copy (wsV RX6 83 RX4 yX4_isMissing wsX4_isMissing) := goodIn_app (goodIn_of _ (by decide +kernel)) ggX6_copy_X4_isMissing
set_option maxRecDepth 20000 in
theorem ggX6_copy_X4_spans : GoodIn wsX6_copy wsX4_spans := goodIn_r _ [22, 18, 50, 51, 52] (by decide +kernel) (by decide +kernel)
set_option maxRecDepth 20000 in
theorem gX6_copy_X4_spans : GoodIn wsX6_copy (wsV RX6 90 RX4 yX4_spans wsX4_spans) := goodIn_app (goodIn_of _ (by decide +kernel)) ggX6_copy_X4_spans
set_option maxRecDepth 20000 in
theorem ggX6_copy_X4_carry : GoodIn wsX6_copy wsX4_carry := goodIn_r _ [26, 27, 28, 29, 30, 31, 32, 33, 34, 4, 35, 36, 37, 38, 39, 50, 51, 52] (by decide +kernel) (by decide +kernel)
set_option maxRecDepth 20000 in
theorem gX6_copy_X4_carry : GoodIn wsX6_copy (wsV RX6 94 RX4 yX4_carry wsX4_carry) := goodIn_app (goodIn_of _ (by decide +kernel)) ggX6_copy_X4_carry
set_option maxRecDepth 20000 in
theorem ggX6_copy_X6_agree : GoodIn wsX6_copy wsX6_agree := goodIn_r _ [43, 13, 44, 45, 46, 47, 48, 49] (by decide +kernel) (by decide +kernel)
set_option maxRecDepth 20000 in
theorem gX6_copy_X6_agree : GoodIn wsX6_copy (wsV RX6 63 RX6 yX6_agree wsX6_agree) := goodIn_app (goodIn_of _ (by decide +kernel)) ggX6_copy_X6_agree
theorem dX6_copy_0 : decode cX6_copy 0 = .ok (.iload_n 1, 1) := by decide +kernel
theorem dX6_copy_1 : decode cX6_copy 1 = .ok (.invokestatic 48, 3) := by decide +kernel
theorem dX6_copy_4 : decode cX6_copy 4 = .ok (.ifCond .eq 24, 3) := by decide +kernel
theorem dX6_copy_7 : decode cX6_copy 7 = .ok (.iload_n 3, 1) := by decide +kernel
theorem dX6_copy_8 : decode cX6_copy 8 = .ok (.invokestatic 48, 3) := by decide +kernel
theorem dX6_copy_11 : decode cX6_copy 11 = .ok (.ifCond .eq 17, 3) := by decide +kernel
theorem dX6_copy_14 : decode cX6_copy 14 = .ok (.iload_n 2, 1) := by decide +kernel
theorem dX6_copy_15 : decode cX6_copy 15 = .ok (.ifCond .lt 13, 3) := by decide +kernel
theorem dX6_copy_18 : decode cX6_copy 18 = .ok (.iload 4, 2) := by decide +kernel
theorem dX6_copy_20 : decode cX6_copy 20 = .ok (.ifCond .lt 8, 3) := by decide +kernel
theorem dX6_copy_23 : decode cX6_copy 23 = .ok (.iload 5, 2) := by decide +kernel
theorem dX6_copy_25 : decode cX6_copy 25 = .ok (.ifCond .ge 9, 3) := by decide +kernel
theorem dX6_copy_28 : decode cX6_copy 28 = .ok (.aload_n 0, 1) := by decide +kernel
theorem dX6_copy_29 : decode cX6_copy 29 = .ok (.iconst 1, 1) := by decide +kernel
theorem dX6_copy_30 : decode cX6_copy 30 = .ok (.invokevirtual 56, 3) := by decide +kernel
theorem dX6_copy_33 : decode cX6_copy 33 = .ok (.ireturn, 1) := by decide +kernel
theorem dX6_copy_34 : decode cX6_copy 34 = .ok (.aload_n 0, 1) := by decide +kernel
theorem dX6_copy_35 : decode cX6_copy 35 = .ok (.getfield 10, 3) := by decide +kernel
theorem dX6_copy_38 : decode cX6_copy 38 = .ok (.iload_n 1, 1) := by decide +kernel
theorem dX6_copy_39 : decode cX6_copy 39 = .ok (.invokevirtual 83, 3) := by decide +kernel
theorem dX6_copy_42 : decode cX6_copy 42 = .ok (.ifCond .ne 14, 3) := by decide +kernel
theorem dX6_copy_45 : decode cX6_copy 45 = .ok (.aload_n 0, 1) := by decide +kernel
theorem dX6_copy_46 : decode cX6_copy 46 = .ok (.getfield 10, 3) := by decide +kernel
theorem dX6_copy_49 : decode cX6_copy 49 = .ok (.iload_n 3, 1) := by decide +kernel
theorem dX6_copy_50 : decode cX6_copy 50 = .ok (.invokevirtual 83, 3) := by decide +kernel
theorem dX6_copy_53 : decode cX6_copy 53 = .ok (.ifCond .eq 9, 3) := by decide +kernel
theorem dX6_copy_56 : decode cX6_copy 56 = .ok (.aload_n 0, 1) := by decide +kernel
theorem dX6_copy_57 : decode cX6_copy 57 = .ok (.iconst 2, 1) := by decide +kernel
theorem dX6_copy_58 : decode cX6_copy 58 = .ok (.invokevirtual 56, 3) := by decide +kernel
theorem dX6_copy_61 : decode cX6_copy 61 = .ok (.ireturn, 1) := by decide +kernel
theorem dX6_copy_62 : decode cX6_copy 62 = .ok (.aload_n 0, 1) := by decide +kernel
theorem dX6_copy_63 : decode cX6_copy 63 = .ok (.getfield 10, 3) := by decide +kernel
theorem dX6_copy_66 : decode cX6_copy 66 = .ok (.iload_n 1, 1) := by decide +kernel
theorem dX6_copy_67 : decode cX6_copy 67 = .ok (.iload_n 2, 1) := by decide +kernel
theorem dX6_copy_68 : decode cX6_copy 68 = .ok (.iload 5, 2) := by decide +kernel
theorem dX6_copy_70 : decode cX6_copy 70 = .ok (.invokevirtual 90, 3) := by decide +kernel
theorem dX6_copy_73 : decode cX6_copy 73 = .ok (.ifCond .eq 18, 3) := by decide +kernel
theorem dX6_copy_76 : decode cX6_copy 76 = .ok (.aload_n 0, 1) := by decide +kernel
theorem dX6_copy_77 : decode cX6_copy 77 = .ok (.getfield 10, 3) := by decide +kernel
theorem dX6_copy_80 : decode cX6_copy 80 = .ok (.iload_n 3, 1) := by decide +kernel
theorem dX6_copy_81 : decode cX6_copy 81 = .ok (.iload 4, 2) := by decide +kernel
theorem dX6_copy_83 : decode cX6_copy 83 = .ok (.iload 5, 2) := by decide +kernel
theorem dX6_copy_85 : decode cX6_copy 85 = .ok (.invokevirtual 90, 3) := by decide +kernel
theorem dX6_copy_88 : decode cX6_copy 88 = .ok (.ifCond .ne 9, 3) := by decide +kernel
theorem dX6_copy_91 : decode cX6_copy 91 = .ok (.aload_n 0, 1) := by decide +kernel
theorem dX6_copy_92 : decode cX6_copy 92 = .ok (.iconst 3, 1) := by decide +kernel
theorem dX6_copy_93 : decode cX6_copy 93 = .ok (.invokevirtual 56, 3) := by decide +kernel
theorem dX6_copy_96 : decode cX6_copy 96 = .ok (.ireturn, 1) := by decide +kernel
theorem dX6_copy_97 : decode cX6_copy 97 = .ok (.aload_n 0, 1) := by decide +kernel
theorem dX6_copy_98 : decode cX6_copy 98 = .ok (.getfield 10, 3) := by decide +kernel
theorem dX6_copy_101 : decode cX6_copy 101 = .ok (.iload_n 1, 1) := by decide +kernel
theorem dX6_copy_102 : decode cX6_copy 102 = .ok (.iload_n 2, 1) := by decide +kernel
theorem dX6_copy_103 : decode cX6_copy 103 = .ok (.iload_n 3, 1) := by decide +kernel
theorem dX6_copy_104 : decode cX6_copy 104 = .ok (.iload 4, 2) := by decide +kernel
theorem dX6_copy_106 : decode cX6_copy 106 = .ok (.iload 5, 2) := by decide +kernel
theorem dX6_copy_108 : decode cX6_copy 108 = .ok (.invokevirtual 94, 3) := by decide +kernel
theorem dX6_copy_111 : decode cX6_copy 111 = .ok (.aload_n 0, 1) := by decide +kernel
theorem dX6_copy_112 : decode cX6_copy 112 = .ok (.invokevirtual 63, 3) := by decide +kernel
theorem dX6_copy_115 : decode cX6_copy 115 = .ok (.ireturn, 1) := by decide +kernel
set_option maxRecDepth 20000 in
theorem ggX6_none_X6_refuse : GoodIn wsX6_none wsX6_refuse := goodIn_r _ [5, 6, 7, 8, 9, 10, 11, 12] (by decide +kernel) (by decide +kernel)
set_option maxRecDepth 20000 in
theorem gX6_none_X6_refuse : GoodIn wsX6_none (wsV RX6 56 RX6 yX6_refuse wsX6_refuse) := goodIn_app (goodIn_of _ (by decide +kernel)) ggX6_none_X6_refuse
theorem dX6_none_0 : decode cX6_none 0 = .ok (.aload_n 0, 1) := by decide +kernel
theorem dX6_none_1 : decode cX6_none 1 = .ok (.bipush 8, 2) := by decide +kernel
theorem dX6_none_3 : decode cX6_none 3 = .ok (.invokevirtual 56, 3) := by decide +kernel
theorem dX6_none_6 : decode cX6_none 6 = .ok (.ireturn, 1) := by decide +kernel
set_option maxRecDepth 20000 in
theorem ggX6_machine_X6_within : GoodIn wsX6_machine wsX6_within := goodIn_r _ [6] (by decide +kernel) (by decide +kernel)
set_option maxRecDepth 20000 in
theorem gX6_machine_X6_within : GoodIn wsX6_machine (va_wsS RX6 52 yX6_within wsX6_within) := goodIn_app (goodIn_of _ (by decide +kernel)) ggX6_machine_X6_within
set_option maxRecDepth 20000 in
theorem ggX6_machine_X6_deny : GoodIn wsX6_machine wsX6_deny := goodIn_r _ [10, 11, 25, 26, 27, 28, 29, 30] (by decide +kernel) (by decide +kernel)
set_option maxRecDepth 20000 in
theorem gX6_machine_X6_deny : GoodIn wsX6_machine (wsV RX6 75 RX6 yX6_deny wsX6_deny) := goodIn_app (goodIn_of _ (by decide +kernel)) ggX6_machine_X6_deny
set_option maxRecDepth 20000 in
theorem ggX6_machine_X1_addMachine : GoodIn wsX6_machine wsX1_addMachine := goodIn_r _ [16, 17, 18, 19, 20, 31, 32, 33, 34, 35, 36, 37, 38, 39, 40, 41, 42, 43] (by decide +kernel) (by decide +kernel)
set_option maxRecDepth 20000 in
theorem gX6_machine_X1_addMachine : GoodIn wsX6_machine (wsV RX6 101 RX1 yX1_addMachine wsX1_addMachine) := goodIn_app (goodIn_of _ (by decide +kernel)) ggX6_machine_X1_addMachine
set_option maxRecDepth 20000 in
theorem ggX6_machine_X6_answer : GoodIn wsX6_machine wsX6_answer := goodIn_r _ [24, 11, 25, 26, 27, 28, 29, 30] (by decide +kernel) (by decide +kernel)
set_option maxRecDepth 20000 in
theorem gX6_machine_X6_answer : GoodIn wsX6_machine (wsV RX6 104 RX6 yX6_answer wsX6_answer) := goodIn_app (goodIn_of _ (by decide +kernel)) ggX6_machine_X6_answer
theorem dX6_machine_0 : decode cX6_machine 0 = .ok (.iload_n 1, 1) := by decide +kernel
theorem dX6_machine_1 : decode cX6_machine 1 = .ok (.i2l, 1) := by decide +kernel
theorem dX6_machine_2 : decode cX6_machine 2 = .ok (.iconst 1, 1) := by decide +kernel
theorem dX6_machine_3 : decode cX6_machine 3 = .ok (.bipush 100, 2) := by decide +kernel
theorem dX6_machine_5 : decode cX6_machine 5 = .ok (.invokestatic 52, 3) := by decide +kernel
theorem dX6_machine_8 : decode cX6_machine 8 = .ok (.ifCond .eq 13, 3) := by decide +kernel
theorem dX6_machine_11 : decode cX6_machine 11 = .ok (.iload_n 2, 1) := by decide +kernel
theorem dX6_machine_12 : decode cX6_machine 12 = .ok (.i2l, 1) := by decide +kernel
theorem dX6_machine_13 : decode cX6_machine 13 = .ok (.iconst 0, 1) := by decide +kernel
theorem dX6_machine_14 : decode cX6_machine 14 = .ok (.iconst 3, 1) := by decide +kernel
theorem dX6_machine_15 : decode cX6_machine 15 = .ok (.invokestatic 52, 3) := by decide +kernel
theorem dX6_machine_18 : decode cX6_machine 18 = .ok (.ifCond .ne 9, 3) := by decide +kernel
theorem dX6_machine_21 : decode cX6_machine 21 = .ok (.aload_n 0, 1) := by decide +kernel
theorem dX6_machine_22 : decode cX6_machine 22 = .ok (.iconst 1, 1) := by decide +kernel
theorem dX6_machine_23 : decode cX6_machine 23 = .ok (.invokevirtual 75, 3) := by decide +kernel
theorem dX6_machine_26 : decode cX6_machine 26 = .ok (.ireturn, 1) := by decide +kernel
theorem dX6_machine_27 : decode cX6_machine 27 = .ok (.aload_n 0, 1) := by decide +kernel
theorem dX6_machine_28 : decode cX6_machine 28 = .ok (.getfield 19, 3) := by decide +kernel
theorem dX6_machine_31 : decode cX6_machine 31 = .ok (.getfield 98, 3) := by decide +kernel
theorem dX6_machine_34 : decode cX6_machine 34 = .ok (.bipush 12, 2) := by decide +kernel
theorem dX6_machine_36 : decode cX6_machine 36 = .ok (.if_icmp .ne 9, 3) := by decide +kernel
theorem dX6_machine_39 : decode cX6_machine 39 = .ok (.aload_n 0, 1) := by decide +kernel
theorem dX6_machine_40 : decode cX6_machine 40 = .ok (.iconst 4, 1) := by decide +kernel
theorem dX6_machine_41 : decode cX6_machine 41 = .ok (.invokevirtual 75, 3) := by decide +kernel
theorem dX6_machine_44 : decode cX6_machine 44 = .ok (.ireturn, 1) := by decide +kernel
theorem dX6_machine_45 : decode cX6_machine 45 = .ok (.aload_n 0, 1) := by decide +kernel
theorem dX6_machine_46 : decode cX6_machine 46 = .ok (.aload_n 0, 1) := by decide +kernel
theorem dX6_machine_47 : decode cX6_machine 47 = .ok (.getfield 19, 3) := by decide +kernel
theorem dX6_machine_50 : decode cX6_machine 50 = .ok (.iload_n 1, 1) := by decide +kernel
theorem dX6_machine_51 : decode cX6_machine 51 = .ok (.iload_n 2, 1) := by decide +kernel
theorem dX6_machine_52 : decode cX6_machine 52 = .ok (.invokevirtual 101, 3) := by decide +kernel
theorem dX6_machine_55 : decode cX6_machine 55 = .ok (.invokevirtual 104, 3) := by decide +kernel
theorem dX6_machine_58 : decode cX6_machine 58 = .ok (.ireturn, 1) := by decide +kernel
set_option maxRecDepth 20000 in
theorem ggX6_up_X1_hasMachine : GoodIn wsX6_up wsX1_hasMachine := goodIn_r _ [6, 7, 8, 9, 10, 38, 39, 40, 41, 42, 43, 44, 45, 46, 47, 48, 49, 50] (by decide +kernel) (by decide +kernel)
set_option maxRecDepth 20000 in
theorem gX6_up_X1_hasMachine : GoodIn wsX6_up (wsV RX6 107 RX1 yX1_hasMachine wsX1_hasMachine) := goodIn_app (goodIn_of _ (by decide +kernel)) ggX6_up_X1_hasMachine
set_option maxRecDepth 20000 in
theorem ggX6_up_X6_refuse : GoodIn wsX6_up wsX6_refuse := goodIn_r _ [14, 15, 32, 33, 34, 35, 36, 37] (by decide +kernel) (by decide +kernel)
set_option maxRecDepth 20000 in
theorem gX6_up_X6_refuse : GoodIn wsX6_up (wsV RX6 56 RX6 yX6_refuse wsX6_refuse) := goodIn_app (goodIn_of _ (by decide +kernel)) ggX6_up_X6_refuse
set_option maxRecDepth 20000 in
theorem ggX6_up_X1_isUp : GoodIn wsX6_up wsX1_isUp := goodIn_r _ [19, 20, 21, 22, 5, 23, 38, 39, 40, 41, 42, 43, 44, 45, 46, 47, 48, 49, 50] (by decide +kernel) (by decide +kernel)
set_option maxRecDepth 20000 in
theorem gX6_up_X1_isUp : GoodIn wsX6_up (wsV RX6 110 RX1 yX1_isUp wsX1_isUp) := goodIn_app (goodIn_of _ (by decide +kernel)) ggX6_up_X1_isUp
set_option maxRecDepth 20000 in
theorem ggX6_up_X1_turn : GoodIn wsX6_up wsX1_turn := goodIn_r _ [27, 20, 38, 39, 40, 41, 42, 43, 44, 45, 46, 47, 48, 49, 50] (by decide +kernel) (by decide +kernel)
set_option maxRecDepth 20000 in
theorem gX6_up_X1_turn : GoodIn wsX6_up (wsV RX6 113 RX1 yX1_turn wsX1_turn) := goodIn_app (goodIn_of _ (by decide +kernel)) ggX6_up_X1_turn
set_option maxRecDepth 20000 in
theorem ggX6_up_X6_agree : GoodIn wsX6_up wsX6_agree := goodIn_r _ [31, 15, 32, 33, 34, 35, 36, 37] (by decide +kernel) (by decide +kernel)
set_option maxRecDepth 20000 in
theorem gX6_up_X6_agree : GoodIn wsX6_up (wsV RX6 63 RX6 yX6_agree wsX6_agree) := goodIn_app (goodIn_of _ (by decide +kernel)) ggX6_up_X6_agree
theorem dX6_up_0 : decode cX6_up 0 = .ok (.aload_n 0, 1) := by decide +kernel
theorem dX6_up_1 : decode cX6_up 1 = .ok (.getfield 19, 3) := by decide +kernel
theorem dX6_up_4 : decode cX6_up 4 = .ok (.iload_n 1, 1) := by decide +kernel
theorem dX6_up_5 : decode cX6_up 5 = .ok (.invokevirtual 107, 3) := by decide +kernel
theorem dX6_up_8 : decode cX6_up 8 = .ok (.ifCond .ne 9, 3) := by decide +kernel
theorem dX6_up_11 : decode cX6_up 11 = .ok (.aload_n 0, 1) := by decide +kernel
theorem dX6_up_12 : decode cX6_up 12 = .ok (.iconst 1, 1) := by decide +kernel
theorem dX6_up_13 : decode cX6_up 13 = .ok (.invokevirtual 56, 3) := by decide +kernel
theorem dX6_up_16 : decode cX6_up 16 = .ok (.ireturn, 1) := by decide +kernel
theorem dX6_up_17 : decode cX6_up 17 = .ok (.aload_n 0, 1) := by decide +kernel
theorem dX6_up_18 : decode cX6_up 18 = .ok (.getfield 19, 3) := by decide +kernel
theorem dX6_up_21 : decode cX6_up 21 = .ok (.iload_n 1, 1) := by decide +kernel
theorem dX6_up_22 : decode cX6_up 22 = .ok (.invokevirtual 110, 3) := by decide +kernel
theorem dX6_up_25 : decode cX6_up 25 = .ok (.iload_n 2, 1) := by decide +kernel
theorem dX6_up_26 : decode cX6_up 26 = .ok (.if_icmp .ne 9, 3) := by decide +kernel
theorem dX6_up_29 : decode cX6_up 29 = .ok (.aload_n 0, 1) := by decide +kernel
theorem dX6_up_30 : decode cX6_up 30 = .ok (.iconst 5, 1) := by decide +kernel
theorem dX6_up_31 : decode cX6_up 31 = .ok (.invokevirtual 56, 3) := by decide +kernel
theorem dX6_up_34 : decode cX6_up 34 = .ok (.ireturn, 1) := by decide +kernel
theorem dX6_up_35 : decode cX6_up 35 = .ok (.aload_n 0, 1) := by decide +kernel
theorem dX6_up_36 : decode cX6_up 36 = .ok (.getfield 19, 3) := by decide +kernel
theorem dX6_up_39 : decode cX6_up 39 = .ok (.iload_n 1, 1) := by decide +kernel
theorem dX6_up_40 : decode cX6_up 40 = .ok (.invokevirtual 113, 3) := by decide +kernel
theorem dX6_up_43 : decode cX6_up 43 = .ok (.aload_n 0, 1) := by decide +kernel
theorem dX6_up_44 : decode cX6_up 44 = .ok (.invokevirtual 63, 3) := by decide +kernel
theorem dX6_up_47 : decode cX6_up 47 = .ok (.ireturn, 1) := by decide +kernel
set_option maxRecDepth 20000 in
theorem ggX6_ask_X6_within : GoodIn wsX6_ask wsX6_within := goodIn_r _ [7] (by decide +kernel) (by decide +kernel)
set_option maxRecDepth 20000 in
theorem gX6_ask_X6_within : GoodIn wsX6_ask (va_wsS RX6 52 yX6_within wsX6_within) := goodIn_app (goodIn_of _ (by decide +kernel)) ggX6_ask_X6_within
set_option maxRecDepth 20000 in
theorem ggX6_ask_X6_isHour : GoodIn wsX6_ask wsX6_isHour := goodIn_r _ [10, 4, 5, 6, 7] (by decide +kernel) (by decide +kernel)
set_option maxRecDepth 20000 in
theorem gX6_ask_X6_isHour : GoodIn wsX6_ask (va_wsS RX6 116 yX6_isHour wsX6_isHour) := goodIn_app (goodIn_of _ (by decide +kernel)) ggX6_ask_X6_isHour
set_option maxRecDepth 20000 in
theorem ggX6_ask_X6_deny : GoodIn wsX6_ask wsX6_deny := goodIn_r _ [14, 15, 47, 48, 49, 50, 51, 52] (by decide +kernel) (by decide +kernel)
set_option maxRecDepth 20000 in
theorem gX6_ask_X6_deny : GoodIn wsX6_ask (wsV RX6 75 RX6 yX6_deny wsX6_deny) := goodIn_app (goodIn_of _ (by decide +kernel)) ggX6_ask_X6_deny
set_option maxRecDepth 20000 in
theorem ggX6_ask_X3_forget : GoodIn wsX6_ask wsX3_forget := goodIn_r _ [20, 21, 66, 67, 68, 69, 70, 71, 72, 73, 74] (by decide +kernel) (by decide +kernel)
set_option maxRecDepth 20000 in
theorem gX6_ask_X3_forget : GoodIn wsX6_ask (wsV RX6 122 RX3 yX3_forget wsX3_forget) := goodIn_app (goodIn_of _ (by decide +kernel)) ggX6_ask_X3_forget
set_option maxRecDepth 20000 in
theorem ggX6_ask_X1_addAsk : GoodIn wsX6_ask wsX1_addAsk := goodIn_r _ [26, 27, 28, 29, 30, 31, 32, 25, 33, 34, 35, 36, 37, 38, 39, 40, 41, 42, 53, 54, 55, 56, 57, 58, 59, 60, 61, 62, 63, 64, 65] (by decide +kernel) (by decide +kernel)
set_option maxRecDepth 20000 in
theorem gX6_ask_X1_addAsk : GoodIn wsX6_ask (wsV RX6 125 RX1 yX1_addAsk wsX1_addAsk) := goodIn_app (goodIn_of _ (by decide +kernel)) ggX6_ask_X1_addAsk
set_option maxRecDepth 20000 in
theorem ggX6_ask_X6_answer : GoodIn wsX6_ask wsX6_answer := goodIn_r _ [46, 15, 47, 48, 49, 50, 51, 52] (by decide +kernel) (by decide +kernel)
set_option maxRecDepth 20000 in
theorem gX6_ask_X6_answer : GoodIn wsX6_ask (wsV RX6 104 RX6 yX6_answer wsX6_answer) := goodIn_app (goodIn_of _ (by decide +kernel)) ggX6_ask_X6_answer
theorem dX6_ask_0 : decode cX6_ask 0 = .ok (.iload_n 1, 1) := by decide +kernel
theorem dX6_ask_1 : decode cX6_ask 1 = .ok (.i2l, 1) := by decide +kernel
theorem dX6_ask_2 : decode cX6_ask 2 = .ok (.iconst 1, 1) := by decide +kernel
theorem dX6_ask_3 : decode cX6_ask 3 = .ok (.bipush 100, 2) := by decide +kernel
theorem dX6_ask_5 : decode cX6_ask 5 = .ok (.invokestatic 52, 3) := by decide +kernel
theorem dX6_ask_8 : decode cX6_ask 8 = .ok (.ifCond .eq 22, 3) := by decide +kernel
theorem dX6_ask_11 : decode cX6_ask 11 = .ok (.iload_n 2, 1) := by decide +kernel
theorem dX6_ask_12 : decode cX6_ask 12 = .ok (.invokestatic 116, 3) := by decide +kernel
theorem dX6_ask_15 : decode cX6_ask 15 = .ok (.ifCond .eq 15, 3) := by decide +kernel
theorem dX6_ask_18 : decode cX6_ask 18 = .ok (.iload_n 3, 1) := by decide +kernel
theorem dX6_ask_19 : decode cX6_ask 19 = .ok (.invokestatic 116, 3) := by decide +kernel
theorem dX6_ask_22 : decode cX6_ask 22 = .ok (.ifCond .eq 8, 3) := by decide +kernel
theorem dX6_ask_25 : decode cX6_ask 25 = .ok (.iload_n 3, 1) := by decide +kernel
theorem dX6_ask_26 : decode cX6_ask 26 = .ok (.iload_n 2, 1) := by decide +kernel
theorem dX6_ask_27 : decode cX6_ask 27 = .ok (.if_icmp .ge 9, 3) := by decide +kernel
theorem dX6_ask_30 : decode cX6_ask 30 = .ok (.aload_n 0, 1) := by decide +kernel
theorem dX6_ask_31 : decode cX6_ask 31 = .ok (.iconst 1, 1) := by decide +kernel
theorem dX6_ask_32 : decode cX6_ask 32 = .ok (.invokevirtual 75, 3) := by decide +kernel
theorem dX6_ask_35 : decode cX6_ask 35 = .ok (.ireturn, 1) := by decide +kernel
theorem dX6_ask_36 : decode cX6_ask 36 = .ok (.aload_n 0, 1) := by decide +kernel
theorem dX6_ask_37 : decode cX6_ask 37 = .ok (.getfield 19, 3) := by decide +kernel
theorem dX6_ask_40 : decode cX6_ask 40 = .ok (.getfield 119, 3) := by decide +kernel
theorem dX6_ask_43 : decode cX6_ask 43 = .ok (.bipush 10, 2) := by decide +kernel
theorem dX6_ask_45 : decode cX6_ask 45 = .ok (.if_icmp .ne 9, 3) := by decide +kernel
theorem dX6_ask_48 : decode cX6_ask 48 = .ok (.aload_n 0, 1) := by decide +kernel
theorem dX6_ask_49 : decode cX6_ask 49 = .ok (.iconst 4, 1) := by decide +kernel
theorem dX6_ask_50 : decode cX6_ask 50 = .ok (.invokevirtual 75, 3) := by decide +kernel
theorem dX6_ask_53 : decode cX6_ask 53 = .ok (.ireturn, 1) := by decide +kernel
theorem dX6_ask_54 : decode cX6_ask 54 = .ok (.aload_n 0, 1) := by decide +kernel
theorem dX6_ask_55 : decode cX6_ask 55 = .ok (.getfield 26, 3) := by decide +kernel
theorem dX6_ask_58 : decode cX6_ask 58 = .ok (.invokevirtual 122, 3) := by decide +kernel
theorem dX6_ask_61 : decode cX6_ask 61 = .ok (.aload_n 0, 1) := by decide +kernel
theorem dX6_ask_62 : decode cX6_ask 62 = .ok (.aload_n 0, 1) := by decide +kernel
theorem dX6_ask_63 : decode cX6_ask 63 = .ok (.getfield 19, 3) := by decide +kernel
theorem dX6_ask_66 : decode cX6_ask 66 = .ok (.iload_n 1, 1) := by decide +kernel
theorem dX6_ask_67 : decode cX6_ask 67 = .ok (.iload_n 2, 1) := by decide +kernel
theorem dX6_ask_68 : decode cX6_ask 68 = .ok (.iload_n 3, 1) := by decide +kernel
theorem dX6_ask_69 : decode cX6_ask 69 = .ok (.invokevirtual 125, 3) := by decide +kernel
theorem dX6_ask_72 : decode cX6_ask 72 = .ok (.invokevirtual 104, 3) := by decide +kernel
theorem dX6_ask_75 : decode cX6_ask 75 = .ok (.ireturn, 1) := by decide +kernel
set_option maxRecDepth 20000 in
theorem ggX6_apart_X1_hasAsk : GoodIn wsX6_apart wsX1_hasAsk := goodIn_r _ [7, 8, 9, 10, 11, 53, 54, 55, 56, 57, 58, 59, 60, 61, 62, 63, 64, 65] (by decide +kernel) (by decide +kernel)
set_option maxRecDepth 20000 in
theorem gX6_apart_X1_hasAsk : GoodIn wsX6_apart (wsV RX6 129 RX1 yX1_hasAsk wsX1_hasAsk) := goodIn_app (goodIn_of _ (by decide +kernel)) ggX6_apart_X1_hasAsk
set_option maxRecDepth 20000 in
theorem ggX6_apart_X6_refuse : GoodIn wsX6_apart wsX6_refuse := goodIn_r _ [15, 16, 47, 48, 49, 50, 51, 52] (by decide +kernel) (by decide +kernel)
set_option maxRecDepth 20000 in
theorem gX6_apart_X6_refuse : GoodIn wsX6_apart (wsV RX6 56 RX6 yX6_refuse wsX6_refuse) := goodIn_app (goodIn_of _ (by decide +kernel)) ggX6_apart_X6_refuse
set_option maxRecDepth 20000 in
theorem ggX6_apart_X1_areFoes : GoodIn wsX6_apart wsX1_areFoes := goodIn_r _ [20, 21, 22, 23, 6, 24, 53, 54, 55, 56, 57, 58, 59, 60, 61, 62, 63, 64, 65] (by decide +kernel) (by decide +kernel)
set_option maxRecDepth 20000 in
theorem gX6_apart_X1_areFoes : GoodIn wsX6_apart (wsV RX6 132 RX1 yX1_areFoes wsX1_areFoes) := goodIn_app (goodIn_of _ (by decide +kernel)) ggX6_apart_X1_areFoes
set_option maxRecDepth 20000 in
theorem ggX6_apart_X3_forget : GoodIn wsX6_apart wsX3_forget := goodIn_r _ [29, 30, 66, 67, 68, 69, 70, 71, 72, 73, 74] (by decide +kernel) (by decide +kernel)
set_option maxRecDepth 20000 in
theorem gX6_apart_X3_forget : GoodIn wsX6_apart (wsV RX6 122 RX3 yX3_forget wsX3_forget) := goodIn_app (goodIn_of _ (by decide +kernel)) ggX6_apart_X3_forget
set_option maxRecDepth 20000 in
theorem ggX6_apart_X1_turnFoes : GoodIn wsX6_apart wsX1_turnFoes := goodIn_r _ [34, 21, 35, 36, 37, 6, 38, 39, 8, 40, 41, 42, 53, 54, 55, 56, 57, 58, 59, 60, 61, 62, 63, 64, 65] (by decide +kernel) (by decide +kernel)
set_option maxRecDepth 20000 in
theorem gX6_apart_X1_turnFoes : GoodIn wsX6_apart (wsV RX6 136 RX1 yX1_turnFoes wsX1_turnFoes) := goodIn_app (goodIn_of _ (by decide +kernel)) ggX6_apart_X1_turnFoes
set_option maxRecDepth 20000 in
theorem ggX6_apart_X6_agree : GoodIn wsX6_apart wsX6_agree := goodIn_r _ [46, 16, 47, 48, 49, 50, 51, 52] (by decide +kernel) (by decide +kernel)
set_option maxRecDepth 20000 in
theorem gX6_apart_X6_agree : GoodIn wsX6_apart (wsV RX6 63 RX6 yX6_agree wsX6_agree) := goodIn_app (goodIn_of _ (by decide +kernel)) ggX6_apart_X6_agree
theorem dX6_apart_0 : decode cX6_apart 0 = .ok (.aload_n 0, 1) := by decide +kernel
theorem dX6_apart_1 : decode cX6_apart 1 = .ok (.getfield 19, 3) := by decide +kernel
theorem dX6_apart_4 : decode cX6_apart 4 = .ok (.iload_n 1, 1) := by decide +kernel
theorem dX6_apart_5 : decode cX6_apart 5 = .ok (.invokevirtual 129, 3) := by decide +kernel
theorem dX6_apart_8 : decode cX6_apart 8 = .ok (.ifCond .eq 19, 3) := by decide +kernel
theorem dX6_apart_11 : decode cX6_apart 11 = .ok (.aload_n 0, 1) := by decide +kernel
theorem dX6_apart_12 : decode cX6_apart 12 = .ok (.getfield 19, 3) := by decide +kernel
theorem dX6_apart_15 : decode cX6_apart 15 = .ok (.iload_n 2, 1) := by decide +kernel
theorem dX6_apart_16 : decode cX6_apart 16 = .ok (.invokevirtual 129, 3) := by decide +kernel
theorem dX6_apart_19 : decode cX6_apart 19 = .ok (.ifCond .eq 8, 3) := by decide +kernel
theorem dX6_apart_22 : decode cX6_apart 22 = .ok (.iload_n 1, 1) := by decide +kernel
theorem dX6_apart_23 : decode cX6_apart 23 = .ok (.iload_n 2, 1) := by decide +kernel
theorem dX6_apart_24 : decode cX6_apart 24 = .ok (.if_icmp .ne 9, 3) := by decide +kernel
theorem dX6_apart_27 : decode cX6_apart 27 = .ok (.aload_n 0, 1) := by decide +kernel
theorem dX6_apart_28 : decode cX6_apart 28 = .ok (.iconst 1, 1) := by decide +kernel
theorem dX6_apart_29 : decode cX6_apart 29 = .ok (.invokevirtual 56, 3) := by decide +kernel
theorem dX6_apart_32 : decode cX6_apart 32 = .ok (.ireturn, 1) := by decide +kernel
theorem dX6_apart_33 : decode cX6_apart 33 = .ok (.aload_n 0, 1) := by decide +kernel
theorem dX6_apart_34 : decode cX6_apart 34 = .ok (.getfield 19, 3) := by decide +kernel
theorem dX6_apart_37 : decode cX6_apart 37 = .ok (.iload_n 1, 1) := by decide +kernel
theorem dX6_apart_38 : decode cX6_apart 38 = .ok (.iload_n 2, 1) := by decide +kernel
theorem dX6_apart_39 : decode cX6_apart 39 = .ok (.invokevirtual 132, 3) := by decide +kernel
theorem dX6_apart_42 : decode cX6_apart 42 = .ok (.iload_n 3, 1) := by decide +kernel
theorem dX6_apart_43 : decode cX6_apart 43 = .ok (.if_icmp .ne 9, 3) := by decide +kernel
theorem dX6_apart_46 : decode cX6_apart 46 = .ok (.aload_n 0, 1) := by decide +kernel
theorem dX6_apart_47 : decode cX6_apart 47 = .ok (.iconst 5, 1) := by decide +kernel
theorem dX6_apart_48 : decode cX6_apart 48 = .ok (.invokevirtual 56, 3) := by decide +kernel
theorem dX6_apart_51 : decode cX6_apart 51 = .ok (.ireturn, 1) := by decide +kernel
theorem dX6_apart_52 : decode cX6_apart 52 = .ok (.aload_n 0, 1) := by decide +kernel
theorem dX6_apart_53 : decode cX6_apart 53 = .ok (.getfield 26, 3) := by decide +kernel
theorem dX6_apart_56 : decode cX6_apart 56 = .ok (.invokevirtual 122, 3) := by decide +kernel
theorem dX6_apart_59 : decode cX6_apart 59 = .ok (.aload_n 0, 1) := by decide +kernel
theorem dX6_apart_60 : decode cX6_apart 60 = .ok (.getfield 19, 3) := by decide +kernel
theorem dX6_apart_63 : decode cX6_apart 63 = .ok (.iload_n 1, 1) := by decide +kernel
theorem dX6_apart_64 : decode cX6_apart 64 = .ok (.iload_n 2, 1) := by decide +kernel
theorem dX6_apart_65 : decode cX6_apart 65 = .ok (.invokevirtual 136, 3) := by decide +kernel
theorem dX6_apart_68 : decode cX6_apart 68 = .ok (.aload_n 0, 1) := by decide +kernel
theorem dX6_apart_69 : decode cX6_apart 69 = .ok (.invokevirtual 63, 3) := by decide +kernel
theorem dX6_apart_72 : decode cX6_apart 72 = .ok (.ireturn, 1) := by decide +kernel
set_option maxRecDepth 20000 in
theorem ggX6_count_X6_answer : GoodIn wsX6_count wsX6_answer := goodIn_r _ [12, 13, 34, 35, 36, 37, 38, 39] (by decide +kernel) (by decide +kernel)
set_option maxRecDepth 20000 in
theorem gX6_count_X6_answer : GoodIn wsX6_count (wsV RX6 104 RX6 yX6_answer wsX6_answer) := goodIn_app (goodIn_of _ (by decide +kernel)) ggX6_count_X6_answer
set_option maxRecDepth 20000 in
theorem ggX6_count_X1_standing : GoodIn wsX6_count wsX1_standing := goodIn_r _ [18, 19, 20, 40, 41, 42, 43, 44, 45, 46, 47, 48, 49, 50, 51, 52] (by decide +kernel) (by decide +kernel)
set_option maxRecDepth 20000 in
theorem gX6_count_X1_standing : GoodIn wsX6_count (wsV RX6 146 RX1 yX1_standing wsX1_standing) := goodIn_app (goodIn_of _ (by decide +kernel)) ggX6_count_X1_standing
set_option maxRecDepth 20000 in
theorem ggX6_count_X1_sizeOf : GoodIn wsX6_count wsX1_sizeOf := goodIn_r _ [24, 25, 26, 27, 28, 17, 29, 40, 41, 42, 43, 44, 45, 46, 47, 48, 49, 50, 51, 52] (by decide +kernel) (by decide +kernel)
set_option maxRecDepth 20000 in
theorem gX6_count_X1_sizeOf : GoodIn wsX6_count (wsV RX6 149 RX1 yX1_sizeOf wsX1_sizeOf) := goodIn_app (goodIn_of _ (by decide +kernel)) ggX6_count_X1_sizeOf
set_option maxRecDepth 20000 in
theorem ggX6_count_X6_deny : GoodIn wsX6_count wsX6_deny := goodIn_r _ [33, 13, 34, 35, 36, 37, 38, 39] (by decide +kernel) (by decide +kernel)
set_option maxRecDepth 20000 in
theorem gX6_count_X6_deny : GoodIn wsX6_count (wsV RX6 75 RX6 yX6_deny wsX6_deny) := goodIn_app (goodIn_of _ (by decide +kernel)) ggX6_count_X6_deny
theorem dX6_count_0 : decode cX6_count 0 = .ok (.iload_n 1, 1) := by decide +kernel
theorem dX6_count_1 : decode cX6_count 1 = .ok (.tableswitch 103 0 4 #[35, 47, 59, 71, 83], 35) := by decide +kernel
theorem dX6_count_36 : decode cX6_count 36 = .ok (.aload_n 0, 1) := by decide +kernel
theorem dX6_count_37 : decode cX6_count 37 = .ok (.aload_n 0, 1) := by decide +kernel
theorem dX6_count_38 : decode cX6_count 38 = .ok (.getfield 19, 3) := by decide +kernel
theorem dX6_count_41 : decode cX6_count 41 = .ok (.getfield 98, 3) := by decide +kernel
theorem dX6_count_44 : decode cX6_count 44 = .ok (.invokevirtual 104, 3) := by decide +kernel
theorem dX6_count_47 : decode cX6_count 47 = .ok (.ireturn, 1) := by decide +kernel
theorem dX6_count_48 : decode cX6_count 48 = .ok (.aload_n 0, 1) := by decide +kernel
theorem dX6_count_49 : decode cX6_count 49 = .ok (.aload_n 0, 1) := by decide +kernel
theorem dX6_count_50 : decode cX6_count 50 = .ok (.getfield 19, 3) := by decide +kernel
theorem dX6_count_53 : decode cX6_count 53 = .ok (.getfield 119, 3) := by decide +kernel
theorem dX6_count_56 : decode cX6_count 56 = .ok (.invokevirtual 104, 3) := by decide +kernel
theorem dX6_count_59 : decode cX6_count 59 = .ok (.ireturn, 1) := by decide +kernel
theorem dX6_count_60 : decode cX6_count 60 = .ok (.aload_n 0, 1) := by decide +kernel
theorem dX6_count_61 : decode cX6_count 61 = .ok (.aload_n 0, 1) := by decide +kernel
theorem dX6_count_62 : decode cX6_count 62 = .ok (.getfield 26, 3) := by decide +kernel
theorem dX6_count_65 : decode cX6_count 65 = .ok (.getfield 140, 3) := by decide +kernel
theorem dX6_count_68 : decode cX6_count 68 = .ok (.invokevirtual 104, 3) := by decide +kernel
theorem dX6_count_71 : decode cX6_count 71 = .ok (.ireturn, 1) := by decide +kernel
theorem dX6_count_72 : decode cX6_count 72 = .ok (.aload_n 0, 1) := by decide +kernel
theorem dX6_count_73 : decode cX6_count 73 = .ok (.aload_n 0, 1) := by decide +kernel
theorem dX6_count_74 : decode cX6_count 74 = .ok (.getfield 40, 3) := by decide +kernel
theorem dX6_count_77 : decode cX6_count 77 = .ok (.getfield 143, 3) := by decide +kernel
theorem dX6_count_80 : decode cX6_count 80 = .ok (.invokevirtual 104, 3) := by decide +kernel
theorem dX6_count_83 : decode cX6_count 83 = .ok (.ireturn, 1) := by decide +kernel
theorem dX6_count_84 : decode cX6_count 84 = .ok (.aload_n 0, 1) := by decide +kernel
theorem dX6_count_85 : decode cX6_count 85 = .ok (.aload_n 0, 1) := by decide +kernel
theorem dX6_count_86 : decode cX6_count 86 = .ok (.getfield 19, 3) := by decide +kernel
theorem dX6_count_89 : decode cX6_count 89 = .ok (.aload_n 0, 1) := by decide +kernel
theorem dX6_count_90 : decode cX6_count 90 = .ok (.getfield 19, 3) := by decide +kernel
theorem dX6_count_93 : decode cX6_count 93 = .ok (.iconst 0, 1) := by decide +kernel
theorem dX6_count_94 : decode cX6_count 94 = .ok (.invokevirtual 146, 3) := by decide +kernel
theorem dX6_count_97 : decode cX6_count 97 = .ok (.invokevirtual 149, 3) := by decide +kernel
theorem dX6_count_100 : decode cX6_count 100 = .ok (.invokevirtual 104, 3) := by decide +kernel
theorem dX6_count_103 : decode cX6_count 103 = .ok (.ireturn, 1) := by decide +kernel
theorem dX6_count_104 : decode cX6_count 104 = .ok (.aload_n 0, 1) := by decide +kernel
theorem dX6_count_105 : decode cX6_count 105 = .ok (.iconst 1, 1) := by decide +kernel
theorem dX6_count_106 : decode cX6_count 106 = .ok (.invokevirtual 75, 3) := by decide +kernel
theorem dX6_count_109 : decode cX6_count 109 = .ok (.ireturn, 1) := by decide +kernel
set_option maxRecDepth 20000 in
theorem ggX6_fits_X6_isHour : GoodIn wsX6_fits wsX6_isHour := goodIn_r _ [5, 6, 7, 4, 8] (by decide +kernel) (by decide +kernel)
set_option maxRecDepth 20000 in
theorem gX6_fits_X6_isHour : GoodIn wsX6_fits (va_wsS RX6 116 yX6_isHour wsX6_isHour) := goodIn_app (goodIn_of _ (by decide +kernel)) ggX6_fits_X6_isHour
set_option maxRecDepth 20000 in
theorem ggX6_fits_X1_isFall : GoodIn wsX6_fits wsX1_isFall := goodIn_r _ [12, 7, 4, 8] (by decide +kernel) (by decide +kernel)
set_option maxRecDepth 20000 in
theorem gX6_fits_X1_isFall : GoodIn wsX6_fits (va_wsS RX6 152 yX1_isFall wsX1_isFall) := goodIn_app (goodIn_of _ (by decide +kernel)) ggX6_fits_X1_isFall
set_option maxRecDepth 20000 in
theorem ggX6_fits_X6_deny : GoodIn wsX6_fits wsX6_deny := goodIn_r _ [16, 17, 60, 61, 62, 63, 64, 65] (by decide +kernel) (by decide +kernel)
set_option maxRecDepth 20000 in
theorem gX6_fits_X6_deny : GoodIn wsX6_fits (wsV RX6 75 RX6 yX6_deny wsX6_deny) := goodIn_app (goodIn_of _ (by decide +kernel)) ggX6_fits_X6_deny
set_option maxRecDepth 20000 in
theorem ggX6_fits_X1_standing : GoodIn wsX6_fits wsX1_standing := goodIn_r _ [21, 22, 23, 66, 67, 68, 69, 70, 71, 72, 73, 74, 75, 76, 77, 78] (by decide +kernel) (by decide +kernel)
set_option maxRecDepth 20000 in
theorem gX6_fits_X1_standing : GoodIn wsX6_fits (wsV RX6 146 RX1 yX1_standing wsX1_standing) := goodIn_app (goodIn_of _ (by decide +kernel)) ggX6_fits_X1_standing
set_option maxRecDepth 20000 in
theorem ggX6_fits_X1_holds : GoodIn wsX6_fits wsX1_holds := goodIn_r _ [27, 28, 29, 30, 31, 32, 11, 33, 34, 35, 36, 37, 38, 39, 40, 41, 42, 43, 44, 45, 46, 47, 48, 49, 50, 51, 52, 53, 54, 55, 66, 67, 68, 69, 70, 71, 72, 73, 74, 75, 76, 77, 78] (by decide +kernel) (by decide +kernel)
set_option maxRecDepth 20000 in
theorem gX6_fits_X1_holds : GoodIn wsX6_fits (wsV RX6 155 RX1 yX1_holds wsX1_holds) := goodIn_app (goodIn_of _ (by decide +kernel)) ggX6_fits_X1_holds
set_option maxRecDepth 20000 in
theorem ggX6_fits_X6_answer : GoodIn wsX6_fits wsX6_answer := goodIn_r _ [59, 17, 60, 61, 62, 63, 64, 65] (by decide +kernel) (by decide +kernel)
set_option maxRecDepth 20000 in
theorem gX6_fits_X6_answer : GoodIn wsX6_fits (wsV RX6 104 RX6 yX6_answer wsX6_answer) := goodIn_app (goodIn_of _ (by decide +kernel)) ggX6_fits_X6_answer
theorem dX6_fits_0 : decode cX6_fits 0 = .ok (.iload_n 1, 1) := by decide +kernel
theorem dX6_fits_1 : decode cX6_fits 1 = .ok (.invokestatic 116, 3) := by decide +kernel
theorem dX6_fits_4 : decode cX6_fits 4 = .ok (.ifCond .eq 10, 3) := by decide +kernel
theorem dX6_fits_7 : decode cX6_fits 7 = .ok (.iload_n 2, 1) := by decide +kernel
theorem dX6_fits_8 : decode cX6_fits 8 = .ok (.invokestatic 152, 3) := by decide +kernel
theorem dX6_fits_11 : decode cX6_fits 11 = .ok (.ifCond .ne 9, 3) := by decide +kernel
theorem dX6_fits_14 : decode cX6_fits 14 = .ok (.aload_n 0, 1) := by decide +kernel
theorem dX6_fits_15 : decode cX6_fits 15 = .ok (.iconst 1, 1) := by decide +kernel
theorem dX6_fits_16 : decode cX6_fits 16 = .ok (.invokevirtual 75, 3) := by decide +kernel
theorem dX6_fits_19 : decode cX6_fits 19 = .ok (.ireturn, 1) := by decide +kernel
theorem dX6_fits_20 : decode cX6_fits 20 = .ok (.aload_n 0, 1) := by decide +kernel
theorem dX6_fits_21 : decode cX6_fits 21 = .ok (.aload_n 0, 1) := by decide +kernel
theorem dX6_fits_22 : decode cX6_fits 22 = .ok (.getfield 19, 3) := by decide +kernel
theorem dX6_fits_25 : decode cX6_fits 25 = .ok (.iload_n 1, 1) := by decide +kernel
theorem dX6_fits_26 : decode cX6_fits 26 = .ok (.aload_n 0, 1) := by decide +kernel
theorem dX6_fits_27 : decode cX6_fits 27 = .ok (.getfield 19, 3) := by decide +kernel
theorem dX6_fits_30 : decode cX6_fits 30 = .ok (.iload_n 2, 1) := by decide +kernel
theorem dX6_fits_31 : decode cX6_fits 31 = .ok (.invokevirtual 146, 3) := by decide +kernel
theorem dX6_fits_34 : decode cX6_fits 34 = .ok (.invokevirtual 155, 3) := by decide +kernel
theorem dX6_fits_37 : decode cX6_fits 37 = .ok (.ifCond .eq 7, 3) := by decide +kernel
theorem dX6_fits_40 : decode cX6_fits 40 = .ok (.iconst 1, 1) := by decide +kernel
theorem dX6_fits_41 : decode cX6_fits 41 = .ok (.goto 4, 3) := by decide +kernel
theorem dX6_fits_44 : decode cX6_fits 44 = .ok (.iconst 0, 1) := by decide +kernel
theorem dX6_fits_45 : decode cX6_fits 45 = .ok (.invokevirtual 104, 3) := by decide +kernel
theorem dX6_fits_48 : decode cX6_fits 48 = .ok (.ireturn, 1) := by decide +kernel
set_option maxRecDepth 20000 in
theorem ggX6_on_X6_isHour : GoodIn wsX6_on wsX6_isHour := goodIn_r _ [5, 6, 7, 4, 8] (by decide +kernel) (by decide +kernel)
set_option maxRecDepth 20000 in
theorem gX6_on_X6_isHour : GoodIn wsX6_on (va_wsS RX6 116 yX6_isHour wsX6_isHour) := goodIn_app (goodIn_of _ (by decide +kernel)) ggX6_on_X6_isHour
set_option maxRecDepth 20000 in
theorem ggX6_on_X1_isFall : GoodIn wsX6_on wsX1_isFall := goodIn_r _ [12, 7, 4, 8] (by decide +kernel) (by decide +kernel)
set_option maxRecDepth 20000 in
theorem gX6_on_X1_isFall : GoodIn wsX6_on (va_wsS RX6 152 yX1_isFall wsX1_isFall) := goodIn_app (goodIn_of _ (by decide +kernel)) ggX6_on_X1_isFall
set_option maxRecDepth 20000 in
theorem ggX6_on_X1_hasAsk : GoodIn wsX6_on wsX1_hasAsk := goodIn_r _ [16, 17, 7, 4, 8, 78, 79, 80, 81, 82, 83, 84, 85, 86, 87, 88, 89, 90] (by decide +kernel) (by decide +kernel)
set_option maxRecDepth 20000 in
theorem gX6_on_X1_hasAsk : GoodIn wsX6_on (wsV RX6 129 RX1 yX1_hasAsk wsX1_hasAsk) := goodIn_app (goodIn_of _ (by decide +kernel)) ggX6_on_X1_hasAsk
set_option maxRecDepth 20000 in
theorem ggX6_on_X1_isAskOf : GoodIn wsX6_on wsX1_isAskOf := goodIn_r _ [21, 22, 23, 24, 11, 25, 78, 79, 80, 81, 82, 83, 84, 85, 86, 87, 88, 89, 90] (by decide +kernel) (by decide +kernel)
set_option maxRecDepth 20000 in
theorem gX6_on_X1_isAskOf : GoodIn wsX6_on (wsV RX6 158 RX1 yX1_isAskOf wsX1_isAskOf) := goodIn_app (goodIn_of _ (by decide +kernel)) ggX6_on_X1_isAskOf
set_option maxRecDepth 20000 in
theorem ggX6_on_X6_deny : GoodIn wsX6_on wsX6_deny := goodIn_r _ [29, 30, 72, 73, 74, 75, 76, 77] (by decide +kernel) (by decide +kernel)
set_option maxRecDepth 20000 in
theorem gX6_on_X6_deny : GoodIn wsX6_on (wsV RX6 75 RX6 yX6_deny wsX6_deny) := goodIn_app (goodIn_of _ (by decide +kernel)) ggX6_on_X6_deny
set_option maxRecDepth 20000 in
theorem ggX6_on_X1_standing : GoodIn wsX6_on wsX1_standing := goodIn_r _ [34, 35, 36, 78, 79, 80, 81, 82, 83, 84, 85, 86, 87, 88, 89, 90] (by decide +kernel) (by decide +kernel)
set_option maxRecDepth 20000 in
theorem gX6_on_X1_standing : GoodIn wsX6_on (wsV RX6 146 RX1 yX1_standing wsX1_standing) := goodIn_app (goodIn_of _ (by decide +kernel)) ggX6_on_X1_standing
set_option maxRecDepth 20000 in
theorem ggX6_on_X1_holds : GoodIn wsX6_on wsX1_holds := goodIn_r _ [40, 41, 22, 42, 43, 44, 11, 45, 46, 47, 48, 49, 50, 51, 52, 23, 24, 25, 53, 54, 55, 56, 17, 57, 58, 59, 60, 61, 62, 63, 78, 79, 80, 81, 82, 83, 84, 85, 86, 87, 88, 89, 90] (by decide +kernel) (by decide +kernel)
set_option maxRecDepth 20000 in
theorem gX6_on_X1_holds : GoodIn wsX6_on (wsV RX6 155 RX1 yX1_holds wsX1_holds) := goodIn_app (goodIn_of _ (by decide +kernel)) ggX6_on_X1_holds
set_option maxRecDepth 20000 in
theorem ggX6_on_X1_layingOf : GoodIn wsX6_on wsX1_layingOf := goodIn_r _ [67, 22, 47, 42, 43, 44, 11, 45, 46, 41, 48, 49, 50, 51, 52, 23, 24, 25, 53, 54, 55, 56, 17, 57, 58, 59, 60, 61, 62, 63, 78, 79, 80, 81, 82, 83, 84, 85, 86, 87, 88, 89, 90] (by decide +kernel) (by decide +kernel)
set_option maxRecDepth 20000 in
theorem gX6_on_X1_layingOf : GoodIn wsX6_on (wsV RX6 161 RX1 yX1_layingOf wsX1_layingOf) := goodIn_app (goodIn_of _ (by decide +kernel)) ggX6_on_X1_layingOf
set_option maxRecDepth 20000 in
theorem ggX6_on_X6_answer : GoodIn wsX6_on wsX6_answer := goodIn_r _ [71, 30, 72, 73, 74, 75, 76, 77] (by decide +kernel) (by decide +kernel)
set_option maxRecDepth 20000 in
theorem gX6_on_X6_answer : GoodIn wsX6_on (wsV RX6 104 RX6 yX6_answer wsX6_answer) := goodIn_app (goodIn_of _ (by decide +kernel)) ggX6_on_X6_answer
theorem dX6_on_0 : decode cX6_on 0 = .ok (.iload_n 1, 1) := by decide +kernel
theorem dX6_on_1 : decode cX6_on 1 = .ok (.invokestatic 116, 3) := by decide +kernel
theorem dX6_on_4 : decode cX6_on 4 = .ok (.ifCond .eq 33, 3) := by decide +kernel
theorem dX6_on_7 : decode cX6_on 7 = .ok (.iload_n 2, 1) := by decide +kernel
theorem dX6_on_8 : decode cX6_on 8 = .ok (.invokestatic 152, 3) := by decide +kernel
theorem dX6_on_11 : decode cX6_on 11 = .ok (.ifCond .eq 26, 3) := by decide +kernel
theorem dX6_on_14 : decode cX6_on 14 = .ok (.aload_n 0, 1) := by decide +kernel
theorem dX6_on_15 : decode cX6_on 15 = .ok (.getfield 19, 3) := by decide +kernel
theorem dX6_on_18 : decode cX6_on 18 = .ok (.iload_n 3, 1) := by decide +kernel
theorem dX6_on_19 : decode cX6_on 19 = .ok (.invokevirtual 129, 3) := by decide +kernel
theorem dX6_on_22 : decode cX6_on 22 = .ok (.ifCond .eq 15, 3) := by decide +kernel
theorem dX6_on_25 : decode cX6_on 25 = .ok (.aload_n 0, 1) := by decide +kernel
theorem dX6_on_26 : decode cX6_on 26 = .ok (.getfield 19, 3) := by decide +kernel
theorem dX6_on_29 : decode cX6_on 29 = .ok (.iload_n 3, 1) := by decide +kernel
theorem dX6_on_30 : decode cX6_on 30 = .ok (.iload_n 1, 1) := by decide +kernel
theorem dX6_on_31 : decode cX6_on 31 = .ok (.invokevirtual 158, 3) := by decide +kernel
theorem dX6_on_34 : decode cX6_on 34 = .ok (.ifCond .ne 9, 3) := by decide +kernel
theorem dX6_on_37 : decode cX6_on 37 = .ok (.aload_n 0, 1) := by decide +kernel
theorem dX6_on_38 : decode cX6_on 38 = .ok (.iconst 1, 1) := by decide +kernel
theorem dX6_on_39 : decode cX6_on 39 = .ok (.invokevirtual 75, 3) := by decide +kernel
theorem dX6_on_42 : decode cX6_on 42 = .ok (.ireturn, 1) := by decide +kernel
theorem dX6_on_43 : decode cX6_on 43 = .ok (.aload_n 0, 1) := by decide +kernel
theorem dX6_on_44 : decode cX6_on 44 = .ok (.getfield 19, 3) := by decide +kernel
theorem dX6_on_47 : decode cX6_on 47 = .ok (.iload_n 1, 1) := by decide +kernel
theorem dX6_on_48 : decode cX6_on 48 = .ok (.aload_n 0, 1) := by decide +kernel
theorem dX6_on_49 : decode cX6_on 49 = .ok (.getfield 19, 3) := by decide +kernel
theorem dX6_on_52 : decode cX6_on 52 = .ok (.iload_n 2, 1) := by decide +kernel
theorem dX6_on_53 : decode cX6_on 53 = .ok (.invokevirtual 146, 3) := by decide +kernel
theorem dX6_on_56 : decode cX6_on 56 = .ok (.invokevirtual 155, 3) := by decide +kernel
theorem dX6_on_59 : decode cX6_on 59 = .ok (.ifCond .ne 10, 3) := by decide +kernel
theorem dX6_on_62 : decode cX6_on 62 = .ok (.aload_n 0, 1) := by decide +kernel
theorem dX6_on_63 : decode cX6_on 63 = .ok (.bipush 6, 2) := by decide +kernel
theorem dX6_on_65 : decode cX6_on 65 = .ok (.invokevirtual 75, 3) := by decide +kernel
theorem dX6_on_68 : decode cX6_on 68 = .ok (.ireturn, 1) := by decide +kernel
theorem dX6_on_69 : decode cX6_on 69 = .ok (.aload_n 0, 1) := by decide +kernel
theorem dX6_on_70 : decode cX6_on 70 = .ok (.aload_n 0, 1) := by decide +kernel
theorem dX6_on_71 : decode cX6_on 71 = .ok (.getfield 19, 3) := by decide +kernel
theorem dX6_on_74 : decode cX6_on 74 = .ok (.iload_n 1, 1) := by decide +kernel
theorem dX6_on_75 : decode cX6_on 75 = .ok (.aload_n 0, 1) := by decide +kernel
theorem dX6_on_76 : decode cX6_on 76 = .ok (.getfield 19, 3) := by decide +kernel
theorem dX6_on_79 : decode cX6_on 79 = .ok (.iload_n 2, 1) := by decide +kernel
theorem dX6_on_80 : decode cX6_on 80 = .ok (.invokevirtual 146, 3) := by decide +kernel
theorem dX6_on_83 : decode cX6_on 83 = .ok (.iload_n 3, 1) := by decide +kernel
theorem dX6_on_84 : decode cX6_on 84 = .ok (.invokevirtual 161, 3) := by decide +kernel
theorem dX6_on_87 : decode cX6_on 87 = .ok (.invokevirtual 104, 3) := by decide +kernel
theorem dX6_on_90 : decode cX6_on 90 = .ok (.ireturn, 1) := by decide +kernel
set_option maxRecDepth 20000 in
theorem ggX6_lack_X6_isHour : GoodIn wsX6_lack wsX6_isHour := goodIn_r _ [5, 6, 7, 4, 8] (by decide +kernel) (by decide +kernel)
set_option maxRecDepth 20000 in
theorem gX6_lack_X6_isHour : GoodIn wsX6_lack (va_wsS RX6 116 yX6_isHour wsX6_isHour) := goodIn_app (goodIn_of _ (by decide +kernel)) ggX6_lack_X6_isHour
set_option maxRecDepth 20000 in
theorem ggX6_lack_X1_isFall : GoodIn wsX6_lack wsX1_isFall := goodIn_r _ [12, 7, 4, 8] (by decide +kernel) (by decide +kernel)
set_option maxRecDepth 20000 in
theorem gX6_lack_X1_isFall : GoodIn wsX6_lack (va_wsS RX6 152 yX1_isFall wsX1_isFall) := goodIn_app (goodIn_of _ (by decide +kernel)) ggX6_lack_X1_isFall
set_option maxRecDepth 20000 in
theorem ggX6_lack_X6_deny : GoodIn wsX6_lack wsX6_deny := goodIn_r _ [16, 17, 64, 65, 66, 67, 68, 69] (by decide +kernel) (by decide +kernel)
set_option maxRecDepth 20000 in
theorem gX6_lack_X6_deny : GoodIn wsX6_lack (wsV RX6 75 RX6 yX6_deny wsX6_deny) := goodIn_app (goodIn_of _ (by decide +kernel)) ggX6_lack_X6_deny
set_option maxRecDepth 20000 in
theorem ggX6_lack_X1_standing : GoodIn wsX6_lack wsX1_standing := goodIn_r _ [21, 22, 23, 70, 71, 72, 73, 74, 75, 76, 77, 78, 79, 80, 81, 82] (by decide +kernel) (by decide +kernel)
set_option maxRecDepth 20000 in
theorem gX6_lack_X1_standing : GoodIn wsX6_lack (wsV RX6 146 RX1 yX1_standing wsX1_standing) := goodIn_app (goodIn_of _ (by decide +kernel)) ggX6_lack_X1_standing
set_option maxRecDepth 20000 in
theorem ggX6_lack_X1_lacking : GoodIn wsX6_lack wsX1_lacking := goodIn_r _ [27, 28, 29, 30, 31, 32, 33, 34, 35, 36, 37, 11, 38, 39, 40, 41, 42, 43, 44, 45, 46, 47, 48, 49, 50, 51, 52, 53, 54, 55, 56, 57, 58, 59, 70, 71, 72, 73, 74, 75, 76, 77, 78, 79, 80, 81, 82] (by decide +kernel) (by decide +kernel)
set_option maxRecDepth 20000 in
theorem gX6_lack_X1_lacking : GoodIn wsX6_lack (wsV RX6 164 RX1 yX1_lacking wsX1_lacking) := goodIn_app (goodIn_of _ (by decide +kernel)) ggX6_lack_X1_lacking
set_option maxRecDepth 20000 in
theorem ggX6_lack_X6_answer : GoodIn wsX6_lack wsX6_answer := goodIn_r _ [63, 17, 64, 65, 66, 67, 68, 69] (by decide +kernel) (by decide +kernel)
set_option maxRecDepth 20000 in
theorem gX6_lack_X6_answer : GoodIn wsX6_lack (wsV RX6 104 RX6 yX6_answer wsX6_answer) := goodIn_app (goodIn_of _ (by decide +kernel)) ggX6_lack_X6_answer
theorem dX6_lack_0 : decode cX6_lack 0 = .ok (.iload_n 1, 1) := by decide +kernel
theorem dX6_lack_1 : decode cX6_lack 1 = .ok (.invokestatic 116, 3) := by decide +kernel
theorem dX6_lack_4 : decode cX6_lack 4 = .ok (.ifCond .eq 10, 3) := by decide +kernel
theorem dX6_lack_7 : decode cX6_lack 7 = .ok (.iload_n 2, 1) := by decide +kernel
theorem dX6_lack_8 : decode cX6_lack 8 = .ok (.invokestatic 152, 3) := by decide +kernel
theorem dX6_lack_11 : decode cX6_lack 11 = .ok (.ifCond .ne 9, 3) := by decide +kernel
theorem dX6_lack_14 : decode cX6_lack 14 = .ok (.aload_n 0, 1) := by decide +kernel
theorem dX6_lack_15 : decode cX6_lack 15 = .ok (.iconst 1, 1) := by decide +kernel
theorem dX6_lack_16 : decode cX6_lack 16 = .ok (.invokevirtual 75, 3) := by decide +kernel
theorem dX6_lack_19 : decode cX6_lack 19 = .ok (.ireturn, 1) := by decide +kernel
theorem dX6_lack_20 : decode cX6_lack 20 = .ok (.aload_n 0, 1) := by decide +kernel
theorem dX6_lack_21 : decode cX6_lack 21 = .ok (.aload_n 0, 1) := by decide +kernel
theorem dX6_lack_22 : decode cX6_lack 22 = .ok (.getfield 19, 3) := by decide +kernel
theorem dX6_lack_25 : decode cX6_lack 25 = .ok (.iload_n 1, 1) := by decide +kernel
theorem dX6_lack_26 : decode cX6_lack 26 = .ok (.aload_n 0, 1) := by decide +kernel
theorem dX6_lack_27 : decode cX6_lack 27 = .ok (.getfield 19, 3) := by decide +kernel
theorem dX6_lack_30 : decode cX6_lack 30 = .ok (.iload_n 2, 1) := by decide +kernel
theorem dX6_lack_31 : decode cX6_lack 31 = .ok (.invokevirtual 146, 3) := by decide +kernel
theorem dX6_lack_34 : decode cX6_lack 34 = .ok (.invokevirtual 164, 3) := by decide +kernel
theorem dX6_lack_37 : decode cX6_lack 37 = .ok (.invokevirtual 104, 3) := by decide +kernel
theorem dX6_lack_40 : decode cX6_lack 40 = .ok (.ireturn, 1) := by decide +kernel
set_option maxRecDepth 20000 in
theorem ggX6_left_X6_isHour : GoodIn wsX6_left wsX6_isHour := goodIn_r _ [5, 6, 7, 4, 8] (by decide +kernel) (by decide +kernel)
set_option maxRecDepth 20000 in
theorem gX6_left_X6_isHour : GoodIn wsX6_left (va_wsS RX6 116 yX6_isHour wsX6_isHour) := goodIn_app (goodIn_of _ (by decide +kernel)) ggX6_left_X6_isHour
set_option maxRecDepth 20000 in
theorem ggX6_left_X1_isFall : GoodIn wsX6_left wsX1_isFall := goodIn_r _ [12, 7, 4, 8] (by decide +kernel) (by decide +kernel)
set_option maxRecDepth 20000 in
theorem gX6_left_X1_isFall : GoodIn wsX6_left (va_wsS RX6 152 yX1_isFall wsX1_isFall) := goodIn_app (goodIn_of _ (by decide +kernel)) ggX6_left_X1_isFall
set_option maxRecDepth 20000 in
theorem ggX6_left_X6_deny : GoodIn wsX6_left wsX6_deny := goodIn_r _ [16, 17, 64, 65, 66, 67, 68, 69] (by decide +kernel) (by decide +kernel)
set_option maxRecDepth 20000 in
theorem gX6_left_X6_deny : GoodIn wsX6_left (wsV RX6 75 RX6 yX6_deny wsX6_deny) := goodIn_app (goodIn_of _ (by decide +kernel)) ggX6_left_X6_deny
set_option maxRecDepth 20000 in
theorem ggX6_left_X1_standing : GoodIn wsX6_left wsX1_standing := goodIn_r _ [21, 22, 23, 70, 71, 72, 73, 74, 75, 76, 77, 78, 79, 80, 81, 82] (by decide +kernel) (by decide +kernel)
set_option maxRecDepth 20000 in
theorem gX6_left_X1_standing : GoodIn wsX6_left (wsV RX6 146 RX1 yX1_standing wsX1_standing) := goodIn_app (goodIn_of _ (by decide +kernel)) ggX6_left_X1_standing
set_option maxRecDepth 20000 in
theorem ggX6_left_X1_leftOver : GoodIn wsX6_left wsX1_leftOver := goodIn_r _ [27, 28, 29, 30, 31, 32, 33, 11, 34, 35, 36, 37, 38, 39, 40, 41, 42, 43, 44, 45, 46, 47, 48, 49, 50, 51, 52, 53, 54, 55, 56, 57, 58, 59, 70, 71, 72, 73, 74, 75, 76, 77, 78, 79, 80, 81, 82] (by decide +kernel) (by decide +kernel)
set_option maxRecDepth 20000 in
theorem gX6_left_X1_leftOver : GoodIn wsX6_left (wsV RX6 167 RX1 yX1_leftOver wsX1_leftOver) := goodIn_app (goodIn_of _ (by decide +kernel)) ggX6_left_X1_leftOver
set_option maxRecDepth 20000 in
theorem ggX6_left_X6_answer : GoodIn wsX6_left wsX6_answer := goodIn_r _ [63, 17, 64, 65, 66, 67, 68, 69] (by decide +kernel) (by decide +kernel)
set_option maxRecDepth 20000 in
theorem gX6_left_X6_answer : GoodIn wsX6_left (wsV RX6 104 RX6 yX6_answer wsX6_answer) := goodIn_app (goodIn_of _ (by decide +kernel)) ggX6_left_X6_answer
theorem dX6_left_0 : decode cX6_left 0 = .ok (.iload_n 1, 1) := by decide +kernel
theorem dX6_left_1 : decode cX6_left 1 = .ok (.invokestatic 116, 3) := by decide +kernel
theorem dX6_left_4 : decode cX6_left 4 = .ok (.ifCond .eq 10, 3) := by decide +kernel
theorem dX6_left_7 : decode cX6_left 7 = .ok (.iload_n 2, 1) := by decide +kernel
theorem dX6_left_8 : decode cX6_left 8 = .ok (.invokestatic 152, 3) := by decide +kernel
theorem dX6_left_11 : decode cX6_left 11 = .ok (.ifCond .ne 9, 3) := by decide +kernel
theorem dX6_left_14 : decode cX6_left 14 = .ok (.aload_n 0, 1) := by decide +kernel
theorem dX6_left_15 : decode cX6_left 15 = .ok (.iconst 1, 1) := by decide +kernel
theorem dX6_left_16 : decode cX6_left 16 = .ok (.invokevirtual 75, 3) := by decide +kernel
theorem dX6_left_19 : decode cX6_left 19 = .ok (.ireturn, 1) := by decide +kernel
theorem dX6_left_20 : decode cX6_left 20 = .ok (.aload_n 0, 1) := by decide +kernel
theorem dX6_left_21 : decode cX6_left 21 = .ok (.aload_n 0, 1) := by decide +kernel
theorem dX6_left_22 : decode cX6_left 22 = .ok (.getfield 19, 3) := by decide +kernel
theorem dX6_left_25 : decode cX6_left 25 = .ok (.iload_n 1, 1) := by decide +kernel
theorem dX6_left_26 : decode cX6_left 26 = .ok (.aload_n 0, 1) := by decide +kernel
theorem dX6_left_27 : decode cX6_left 27 = .ok (.getfield 19, 3) := by decide +kernel
theorem dX6_left_30 : decode cX6_left 30 = .ok (.iload_n 2, 1) := by decide +kernel
theorem dX6_left_31 : decode cX6_left 31 = .ok (.invokevirtual 146, 3) := by decide +kernel
theorem dX6_left_34 : decode cX6_left 34 = .ok (.invokevirtual 167, 3) := by decide +kernel
theorem dX6_left_37 : decode cX6_left 37 = .ok (.invokevirtual 104, 3) := by decide +kernel
theorem dX6_left_40 : decode cX6_left 40 = .ok (.ireturn, 1) := by decide +kernel
set_option maxRecDepth 20000 in
theorem ggX6_enough_X6_within : GoodIn wsX6_enough wsX6_within := goodIn_r _ [5] (by decide +kernel) (by decide +kernel)
set_option maxRecDepth 20000 in
theorem gX6_enough_X6_within : GoodIn wsX6_enough (va_wsS RX6 52 yX6_within wsX6_within) := goodIn_app (goodIn_of _ (by decide +kernel)) ggX6_enough_X6_within
set_option maxRecDepth 20000 in
theorem ggX6_enough_X6_deny : GoodIn wsX6_enough wsX6_deny := goodIn_r _ [9, 10, 66, 67, 68, 69, 70, 71] (by decide +kernel) (by decide +kernel)
set_option maxRecDepth 20000 in
theorem gX6_enough_X6_deny : GoodIn wsX6_enough (wsV RX6 75 RX6 yX6_deny wsX6_deny) := goodIn_app (goodIn_of _ (by decide +kernel)) ggX6_enough_X6_deny
set_option maxRecDepth 20000 in
theorem ggX6_enough_X1_firstUnfit : GoodIn wsX6_enough wsX1_firstUnfit := goodIn_r _ [15, 16, 17, 18, 14, 19, 20, 21, 22, 23, 24, 25, 26, 27, 28, 29, 30, 31, 32, 33, 34, 35, 36, 37, 38, 39, 40, 41, 42, 43, 44, 45, 46, 47, 48, 49, 50, 51, 52, 53, 54, 55, 56, 57, 58, 59, 60, 61, 72, 73, 74, 75, 76, 77, 78, 79, 80, 81, 82, 83, 84] (by decide +kernel) (by decide +kernel)
set_option maxRecDepth 20000 in
theorem gX6_enough_X1_firstUnfit : GoodIn wsX6_enough (wsV RX6 170 RX1 yX1_firstUnfit wsX1_firstUnfit) := goodIn_app (goodIn_of _ (by decide +kernel)) ggX6_enough_X1_firstUnfit
set_option maxRecDepth 20000 in
theorem ggX6_enough_X6_answer : GoodIn wsX6_enough wsX6_answer := goodIn_r _ [65, 10, 66, 67, 68, 69, 70, 71] (by decide +kernel) (by decide +kernel)
set_option maxRecDepth 20000 in
theorem gX6_enough_X6_answer : GoodIn wsX6_enough (wsV RX6 104 RX6 yX6_answer wsX6_answer) := goodIn_app (goodIn_of _ (by decide +kernel)) ggX6_enough_X6_answer
theorem dX6_enough_0 : decode cX6_enough 0 = .ok (.iload_n 1, 1) := by decide +kernel
theorem dX6_enough_1 : decode cX6_enough 1 = .ok (.i2l, 1) := by decide +kernel
theorem dX6_enough_2 : decode cX6_enough 2 = .ok (.iconst 0, 1) := by decide +kernel
theorem dX6_enough_3 : decode cX6_enough 3 = .ok (.iconst 2, 1) := by decide +kernel
theorem dX6_enough_4 : decode cX6_enough 4 = .ok (.invokestatic 52, 3) := by decide +kernel
theorem dX6_enough_7 : decode cX6_enough 7 = .ok (.ifCond .ne 9, 3) := by decide +kernel
theorem dX6_enough_10 : decode cX6_enough 10 = .ok (.aload_n 0, 1) := by decide +kernel
theorem dX6_enough_11 : decode cX6_enough 11 = .ok (.iconst 1, 1) := by decide +kernel
theorem dX6_enough_12 : decode cX6_enough 12 = .ok (.invokevirtual 75, 3) := by decide +kernel
theorem dX6_enough_15 : decode cX6_enough 15 = .ok (.ireturn, 1) := by decide +kernel
theorem dX6_enough_16 : decode cX6_enough 16 = .ok (.aload_n 0, 1) := by decide +kernel
theorem dX6_enough_17 : decode cX6_enough 17 = .ok (.aload_n 0, 1) := by decide +kernel
theorem dX6_enough_18 : decode cX6_enough 18 = .ok (.getfield 19, 3) := by decide +kernel
theorem dX6_enough_21 : decode cX6_enough 21 = .ok (.iload_n 1, 1) := by decide +kernel
theorem dX6_enough_22 : decode cX6_enough 22 = .ok (.invokevirtual 170, 3) := by decide +kernel
theorem dX6_enough_25 : decode cX6_enough 25 = .ok (.invokevirtual 104, 3) := by decide +kernel
theorem dX6_enough_28 : decode cX6_enough 28 = .ok (.ireturn, 1) := by decide +kernel
set_option maxRecDepth 20000 in
theorem ggX6_batch_X6_within : GoodIn wsX6_batch wsX6_within := goodIn_r _ [6] (by decide +kernel) (by decide +kernel)
set_option maxRecDepth 20000 in
theorem gX6_batch_X6_within : GoodIn wsX6_batch (va_wsS RX6 52 yX6_within wsX6_within) := goodIn_app (goodIn_of _ (by decide +kernel)) ggX6_batch_X6_within
set_option maxRecDepth 20000 in
theorem ggX6_batch_X6_isHour : GoodIn wsX6_batch wsX6_isHour := goodIn_r _ [9, 3, 4, 5, 6] (by decide +kernel) (by decide +kernel)
set_option maxRecDepth 20000 in
theorem gX6_batch_X6_isHour : GoodIn wsX6_batch (va_wsS RX6 116 yX6_isHour wsX6_isHour) := goodIn_app (goodIn_of _ (by decide +kernel)) ggX6_batch_X6_isHour
set_option maxRecDepth 20000 in
theorem ggX6_batch_X6_deny : GoodIn wsX6_batch wsX6_deny := goodIn_r _ [13, 14, 34, 35, 36, 37, 38, 39] (by decide +kernel) (by decide +kernel)
set_option maxRecDepth 20000 in
theorem gX6_batch_X6_deny : GoodIn wsX6_batch (wsV RX6 75 RX6 yX6_deny wsX6_deny) := goodIn_app (goodIn_of _ (by decide +kernel)) ggX6_batch_X6_deny
set_option maxRecDepth 20000 in
theorem ggX6_batch_X3_addBatch : GoodIn wsX6_batch wsX3_addBatch := goodIn_r _ [19, 20, 21, 22, 23, 24, 25, 26, 27, 18, 28, 29, 40, 41, 42, 43, 44, 45, 46, 47, 48] (by decide +kernel) (by decide +kernel)
set_option maxRecDepth 20000 in
theorem gX6_batch_X3_addBatch : GoodIn wsX6_batch (wsV RX6 173 RX3 yX3_addBatch wsX3_addBatch) := goodIn_app (goodIn_of _ (by decide +kernel)) ggX6_batch_X3_addBatch
set_option maxRecDepth 20000 in
theorem ggX6_batch_X6_answer : GoodIn wsX6_batch wsX6_answer := goodIn_r _ [33, 14, 34, 35, 36, 37, 38, 39] (by decide +kernel) (by decide +kernel)
set_option maxRecDepth 20000 in
theorem gX6_batch_X6_answer : GoodIn wsX6_batch (wsV RX6 104 RX6 yX6_answer wsX6_answer) := goodIn_app (goodIn_of _ (by decide +kernel)) ggX6_batch_X6_answer
theorem dX6_batch_0 : decode cX6_batch 0 = .ok (.iload_n 1, 1) := by decide +kernel
theorem dX6_batch_1 : decode cX6_batch 1 = .ok (.i2l, 1) := by decide +kernel
theorem dX6_batch_2 : decode cX6_batch 2 = .ok (.iconst 1, 1) := by decide +kernel
theorem dX6_batch_3 : decode cX6_batch 3 = .ok (.sipush 10000, 3) := by decide +kernel
theorem dX6_batch_6 : decode cX6_batch 6 = .ok (.invokestatic 52, 3) := by decide +kernel
theorem dX6_batch_9 : decode cX6_batch 9 = .ok (.ifCond .eq 36, 3) := by decide +kernel
theorem dX6_batch_12 : decode cX6_batch 12 = .ok (.iload_n 2, 1) := by decide +kernel
theorem dX6_batch_13 : decode cX6_batch 13 = .ok (.invokestatic 116, 3) := by decide +kernel
theorem dX6_batch_16 : decode cX6_batch 16 = .ok (.ifCond .eq 29, 3) := by decide +kernel
theorem dX6_batch_19 : decode cX6_batch 19 = .ok (.iload_n 3, 1) := by decide +kernel
theorem dX6_batch_20 : decode cX6_batch 20 = .ok (.i2l, 1) := by decide +kernel
theorem dX6_batch_21 : decode cX6_batch 21 = .ok (.iload_n 2, 1) := by decide +kernel
theorem dX6_batch_22 : decode cX6_batch 22 = .ok (.iconst 1, 1) := by decide +kernel
theorem dX6_batch_23 : decode cX6_batch 23 = .ok (.iadd, 1) := by decide +kernel
theorem dX6_batch_24 : decode cX6_batch 24 = .ok (.bipush 24, 2) := by decide +kernel
theorem dX6_batch_26 : decode cX6_batch 26 = .ok (.invokestatic 52, 3) := by decide +kernel
theorem dX6_batch_29 : decode cX6_batch 29 = .ok (.ifCond .eq 16, 3) := by decide +kernel
theorem dX6_batch_32 : decode cX6_batch 32 = .ok (.iload 4, 2) := by decide +kernel
theorem dX6_batch_34 : decode cX6_batch 34 = .ok (.i2l, 1) := by decide +kernel
theorem dX6_batch_35 : decode cX6_batch 35 = .ok (.iconst 1, 1) := by decide +kernel
theorem dX6_batch_36 : decode cX6_batch 36 = .ok (.sipush 1000, 3) := by decide +kernel
theorem dX6_batch_39 : decode cX6_batch 39 = .ok (.invokestatic 52, 3) := by decide +kernel
theorem dX6_batch_42 : decode cX6_batch 42 = .ok (.ifCond .ne 9, 3) := by decide +kernel
theorem dX6_batch_45 : decode cX6_batch 45 = .ok (.aload_n 0, 1) := by decide +kernel
theorem dX6_batch_46 : decode cX6_batch 46 = .ok (.iconst 1, 1) := by decide +kernel
theorem dX6_batch_47 : decode cX6_batch 47 = .ok (.invokevirtual 75, 3) := by decide +kernel
theorem dX6_batch_50 : decode cX6_batch 50 = .ok (.ireturn, 1) := by decide +kernel
theorem dX6_batch_51 : decode cX6_batch 51 = .ok (.aload_n 0, 1) := by decide +kernel
theorem dX6_batch_52 : decode cX6_batch 52 = .ok (.getfield 26, 3) := by decide +kernel
theorem dX6_batch_55 : decode cX6_batch 55 = .ok (.getfield 140, 3) := by decide +kernel
theorem dX6_batch_58 : decode cX6_batch 58 = .ok (.bipush 8, 2) := by decide +kernel
theorem dX6_batch_60 : decode cX6_batch 60 = .ok (.if_icmp .ne 9, 3) := by decide +kernel
theorem dX6_batch_63 : decode cX6_batch 63 = .ok (.aload_n 0, 1) := by decide +kernel
theorem dX6_batch_64 : decode cX6_batch 64 = .ok (.iconst 4, 1) := by decide +kernel
theorem dX6_batch_65 : decode cX6_batch 65 = .ok (.invokevirtual 75, 3) := by decide +kernel
theorem dX6_batch_68 : decode cX6_batch 68 = .ok (.ireturn, 1) := by decide +kernel
theorem dX6_batch_69 : decode cX6_batch 69 = .ok (.aload_n 0, 1) := by decide +kernel
theorem dX6_batch_70 : decode cX6_batch 70 = .ok (.aload_n 0, 1) := by decide +kernel
theorem dX6_batch_71 : decode cX6_batch 71 = .ok (.getfield 26, 3) := by decide +kernel
theorem dX6_batch_74 : decode cX6_batch 74 = .ok (.iload_n 1, 1) := by decide +kernel
theorem dX6_batch_75 : decode cX6_batch 75 = .ok (.iload_n 2, 1) := by decide +kernel
theorem dX6_batch_76 : decode cX6_batch 76 = .ok (.iload_n 3, 1) := by decide +kernel
theorem dX6_batch_77 : decode cX6_batch 77 = .ok (.iload 4, 2) := by decide +kernel
theorem dX6_batch_79 : decode cX6_batch 79 = .ok (.invokevirtual 173, 3) := by decide +kernel
theorem dX6_batch_82 : decode cX6_batch 82 = .ok (.invokevirtual 104, 3) := by decide +kernel
theorem dX6_batch_85 : decode cX6_batch 85 = .ok (.ireturn, 1) := by decide +kernel
set_option maxRecDepth 20000 in
theorem ggX6_rest_X1_isFall : GoodIn wsX6_rest wsX1_isFall := goodIn_r _ [7, 8, 9, 10] (by decide +kernel) (by decide +kernel)
set_option maxRecDepth 20000 in
theorem gX6_rest_X1_isFall : GoodIn wsX6_rest (va_wsS RX6 152 yX1_isFall wsX1_isFall) := goodIn_app (goodIn_of _ (by decide +kernel)) ggX6_rest_X1_isFall
set_option maxRecDepth 20000 in
theorem ggX6_rest_X6_deny : GoodIn wsX6_rest wsX6_deny := goodIn_r _ [14, 15, 120, 121, 122, 123, 124, 125] (by decide +kernel) (by decide +kernel)
set_option maxRecDepth 20000 in
theorem gX6_rest_X6_deny : GoodIn wsX6_rest (wsV RX6 75 RX6 yX6_deny wsX6_deny) := goodIn_app (goodIn_of _ (by decide +kernel)) ggX6_rest_X6_deny
set_option maxRecDepth 20000 in
theorem ggX6_rest_X1_standing : GoodIn wsX6_rest wsX1_standing := goodIn_r _ [19, 20, 21, 135, 136, 137, 138, 139, 140, 141, 142, 143, 144, 145, 146, 147] (by decide +kernel) (by decide +kernel)
set_option maxRecDepth 20000 in
theorem gX6_rest_X1_standing : GoodIn wsX6_rest (wsV RX6 146 RX1 yX1_standing wsX1_standing) := goodIn_app (goodIn_of _ (by decide +kernel)) ggX6_rest_X1_standing
set_option maxRecDepth 20000 in
theorem ggX6_rest_X3_lay : GoodIn wsX6_rest wsX3_lay := goodIn_r _ [26, 27, 28, 29, 30, 31, 32, 25, 33, 34, 35, 36, 37, 38, 39, 40, 41, 42, 43, 44, 45, 46, 47, 48, 49, 50, 51, 52, 53, 54, 55, 56, 6, 57, 58, 59, 60, 61, 62, 63, 64, 65, 66, 67, 68, 69, 70, 71, 72, 73, 74, 75, 76, 77, 78, 79, 80, 81, 82, 83, 84, 85, 86, 87, 88, 89, 90, 91, 92, 93, 94, 95, 96, 97, 98, 99, 100, 101, 102, 103, 104, 105, 106, 107, 108, 109, 110, 111, 112, 113, 114, 115, 126, 127, 128, 129, 130, 131, 132, 133, 134, 148, 149, 150, 151, 135, 136, 137, 138, 139, 140, 141, 142, 143, 144, 145, 146, 147] (by decide +kernel) (by decide +kernel)
set_option maxRecDepth 20000 in
theorem gX6_rest_X3_lay : GoodIn wsX6_rest (wsV RX6 177 RX3 yX3_lay wsX3_lay) := goodIn_app (goodIn_of _ (by decide +kernel)) ggX6_rest_X3_lay
set_option maxRecDepth 20000 in
theorem ggX6_rest_X6_answer : GoodIn wsX6_rest wsX6_answer := goodIn_r _ [119, 15, 120, 121, 122, 123, 124, 125] (by decide +kernel) (by decide +kernel)
set_option maxRecDepth 20000 in
theorem gX6_rest_X6_answer : GoodIn wsX6_rest (wsV RX6 104 RX6 yX6_answer wsX6_answer) := goodIn_app (goodIn_of _ (by decide +kernel)) ggX6_rest_X6_answer
theorem dX6_rest_0 : decode cX6_rest 0 = .ok (.iload_n 1, 1) := by decide +kernel
theorem dX6_rest_1 : decode cX6_rest 1 = .ok (.invokestatic 152, 3) := by decide +kernel
theorem dX6_rest_4 : decode cX6_rest 4 = .ok (.ifCond .ne 9, 3) := by decide +kernel
theorem dX6_rest_7 : decode cX6_rest 7 = .ok (.aload_n 0, 1) := by decide +kernel
theorem dX6_rest_8 : decode cX6_rest 8 = .ok (.iconst 1, 1) := by decide +kernel
theorem dX6_rest_9 : decode cX6_rest 9 = .ok (.invokevirtual 75, 3) := by decide +kernel
theorem dX6_rest_12 : decode cX6_rest 12 = .ok (.ireturn, 1) := by decide +kernel
theorem dX6_rest_13 : decode cX6_rest 13 = .ok (.aload_n 0, 1) := by decide +kernel
theorem dX6_rest_14 : decode cX6_rest 14 = .ok (.getfield 26, 3) := by decide +kernel
theorem dX6_rest_17 : decode cX6_rest 17 = .ok (.aload_n 0, 1) := by decide +kernel
theorem dX6_rest_18 : decode cX6_rest 18 = .ok (.getfield 19, 3) := by decide +kernel
theorem dX6_rest_21 : decode cX6_rest 21 = .ok (.aload_n 0, 1) := by decide +kernel
theorem dX6_rest_22 : decode cX6_rest 22 = .ok (.getfield 19, 3) := by decide +kernel
theorem dX6_rest_25 : decode cX6_rest 25 = .ok (.iload_n 1, 1) := by decide +kernel
theorem dX6_rest_26 : decode cX6_rest 26 = .ok (.invokevirtual 146, 3) := by decide +kernel
theorem dX6_rest_29 : decode cX6_rest 29 = .ok (.invokevirtual 177, 3) := by decide +kernel
theorem dX6_rest_32 : decode cX6_rest 32 = .ok (.aload_n 0, 1) := by decide +kernel
theorem dX6_rest_33 : decode cX6_rest 33 = .ok (.aload_n 0, 1) := by decide +kernel
theorem dX6_rest_34 : decode cX6_rest 34 = .ok (.getfield 26, 3) := by decide +kernel
theorem dX6_rest_37 : decode cX6_rest 37 = .ok (.getfield 181, 3) := by decide +kernel
theorem dX6_rest_40 : decode cX6_rest 40 = .ok (.invokevirtual 104, 3) := by decide +kernel
theorem dX6_rest_43 : decode cX6_rest 43 = .ok (.ireturn, 1) := by decide +kernel
set_option maxRecDepth 20000 in
theorem ggX6_part_X1_isFall : GoodIn wsX6_part wsX1_isFall := goodIn_r _ [8, 9, 10, 11] (by decide +kernel) (by decide +kernel)
set_option maxRecDepth 20000 in
theorem gX6_part_X1_isFall : GoodIn wsX6_part (va_wsS RX6 152 yX1_isFall wsX1_isFall) := goodIn_app (goodIn_of _ (by decide +kernel)) ggX6_part_X1_isFall
set_option maxRecDepth 20000 in
theorem ggX6_part_X3_hasBatch : GoodIn wsX6_part wsX3_hasBatch := goodIn_r _ [16, 17, 9, 10, 11, 135, 136, 137, 138, 139, 140, 141, 142, 143] (by decide +kernel) (by decide +kernel)
set_option maxRecDepth 20000 in
theorem gX6_part_X3_hasBatch : GoodIn wsX6_part (wsV RX6 184 RX3 yX3_hasBatch wsX3_hasBatch) := goodIn_app (goodIn_of _ (by decide +kernel)) ggX6_part_X3_hasBatch
set_option maxRecDepth 20000 in
theorem ggX6_part_X6_isHour : GoodIn wsX6_part wsX6_isHour := goodIn_r _ [20, 21, 9, 10, 11] (by decide +kernel) (by decide +kernel)
set_option maxRecDepth 20000 in
theorem gX6_part_X6_isHour : GoodIn wsX6_part (va_wsS RX6 116 yX6_isHour wsX6_isHour) := goodIn_app (goodIn_of _ (by decide +kernel)) ggX6_part_X6_isHour
set_option maxRecDepth 20000 in
theorem ggX6_part_X6_deny : GoodIn wsX6_part wsX6_deny := goodIn_r _ [25, 26, 129, 130, 131, 132, 133, 134] (by decide +kernel) (by decide +kernel)
set_option maxRecDepth 20000 in
theorem gX6_part_X6_deny : GoodIn wsX6_part (wsV RX6 75 RX6 yX6_deny wsX6_deny) := goodIn_app (goodIn_of _ (by decide +kernel)) ggX6_part_X6_deny
set_option maxRecDepth 20000 in
theorem ggX6_part_X1_standing : GoodIn wsX6_part wsX1_standing := goodIn_r _ [30, 31, 32, 144, 145, 146, 147, 148, 149, 150, 151, 152, 153, 154, 155, 156] (by decide +kernel) (by decide +kernel)
set_option maxRecDepth 20000 in
theorem gX6_part_X1_standing : GoodIn wsX6_part (wsV RX6 146 RX1 yX1_standing wsX1_standing) := goodIn_app (goodIn_of _ (by decide +kernel)) ggX6_part_X1_standing
set_option maxRecDepth 20000 in
theorem ggX6_part_X3_lay : GoodIn wsX6_part wsX3_lay := goodIn_r _ [36, 37, 38, 39, 40, 41, 42, 15, 43, 17, 44, 45, 46, 47, 48, 49, 50, 51, 52, 53, 54, 55, 56, 57, 58, 59, 60, 61, 62, 63, 64, 65, 7, 66, 67, 68, 69, 70, 71, 72, 73, 74, 75, 76, 77, 78, 79, 80, 81, 82, 83, 84, 85, 86, 87, 88, 89, 90, 91, 92, 93, 94, 95, 96, 97, 98, 99, 100, 101, 102, 103, 104, 105, 106, 107, 108, 109, 110, 111, 112, 113, 114, 115, 116, 117, 118, 119, 120, 121, 122, 123, 124, 135, 136, 137, 138, 139, 140, 141, 142, 143, 157, 158, 159, 160, 144, 145, 146, 147, 148, 149, 150, 151, 152, 153, 154, 155, 156] (by decide +kernel) (by decide +kernel)
set_option maxRecDepth 20000 in
theorem gX6_part_X3_lay : GoodIn wsX6_part (wsV RX6 177 RX3 yX3_lay wsX3_lay) := goodIn_app (goodIn_of _ (by decide +kernel)) ggX6_part_X3_lay
set_option maxRecDepth 20000 in
theorem ggX6_part_X6_answer : GoodIn wsX6_part wsX6_answer := goodIn_r _ [128, 26, 129, 130, 131, 132, 133, 134] (by decide +kernel) (by decide +kernel)
set_option maxRecDepth 20000 in
theorem gX6_part_X6_answer : GoodIn wsX6_part (wsV RX6 104 RX6 yX6_answer wsX6_answer) := goodIn_app (goodIn_of _ (by decide +kernel)) ggX6_part_X6_answer
theorem dX6_part_0 : decode cX6_part 0 = .ok (.iload_n 1, 1) := by decide +kernel
theorem dX6_part_1 : decode cX6_part 1 = .ok (.invokestatic 152, 3) := by decide +kernel
theorem dX6_part_4 : decode cX6_part 4 = .ok (.ifCond .eq 21, 3) := by decide +kernel
theorem dX6_part_7 : decode cX6_part 7 = .ok (.aload_n 0, 1) := by decide +kernel
theorem dX6_part_8 : decode cX6_part 8 = .ok (.getfield 26, 3) := by decide +kernel
theorem dX6_part_11 : decode cX6_part 11 = .ok (.iload_n 2, 1) := by decide +kernel
theorem dX6_part_12 : decode cX6_part 12 = .ok (.invokevirtual 184, 3) := by decide +kernel
theorem dX6_part_15 : decode cX6_part 15 = .ok (.ifCond .eq 10, 3) := by decide +kernel
theorem dX6_part_18 : decode cX6_part 18 = .ok (.iload_n 3, 1) := by decide +kernel
theorem dX6_part_19 : decode cX6_part 19 = .ok (.invokestatic 116, 3) := by decide +kernel
theorem dX6_part_22 : decode cX6_part 22 = .ok (.ifCond .ne 9, 3) := by decide +kernel
theorem dX6_part_25 : decode cX6_part 25 = .ok (.aload_n 0, 1) := by decide +kernel
theorem dX6_part_26 : decode cX6_part 26 = .ok (.iconst 1, 1) := by decide +kernel
theorem dX6_part_27 : decode cX6_part 27 = .ok (.invokevirtual 75, 3) := by decide +kernel
theorem dX6_part_30 : decode cX6_part 30 = .ok (.ireturn, 1) := by decide +kernel
theorem dX6_part_31 : decode cX6_part 31 = .ok (.aload_n 0, 1) := by decide +kernel
theorem dX6_part_32 : decode cX6_part 32 = .ok (.getfield 26, 3) := by decide +kernel
theorem dX6_part_35 : decode cX6_part 35 = .ok (.aload_n 0, 1) := by decide +kernel
theorem dX6_part_36 : decode cX6_part 36 = .ok (.getfield 19, 3) := by decide +kernel
theorem dX6_part_39 : decode cX6_part 39 = .ok (.aload_n 0, 1) := by decide +kernel
theorem dX6_part_40 : decode cX6_part 40 = .ok (.getfield 19, 3) := by decide +kernel
theorem dX6_part_43 : decode cX6_part 43 = .ok (.iload_n 1, 1) := by decide +kernel
theorem dX6_part_44 : decode cX6_part 44 = .ok (.invokevirtual 146, 3) := by decide +kernel
theorem dX6_part_47 : decode cX6_part 47 = .ok (.invokevirtual 177, 3) := by decide +kernel
theorem dX6_part_50 : decode cX6_part 50 = .ok (.aload_n 0, 1) := by decide +kernel
theorem dX6_part_51 : decode cX6_part 51 = .ok (.getfield 26, 3) := by decide +kernel
theorem dX6_part_54 : decode cX6_part 54 = .ok (.getfield 181, 3) := by decide +kernel
theorem dX6_part_57 : decode cX6_part 57 = .ok (.ifCond .le 10, 3) := by decide +kernel
theorem dX6_part_60 : decode cX6_part 60 = .ok (.aload_n 0, 1) := by decide +kernel
theorem dX6_part_61 : decode cX6_part 61 = .ok (.bipush 7, 2) := by decide +kernel
theorem dX6_part_63 : decode cX6_part 63 = .ok (.invokevirtual 75, 3) := by decide +kernel
theorem dX6_part_66 : decode cX6_part 66 = .ok (.ireturn, 1) := by decide +kernel
theorem dX6_part_67 : decode cX6_part 67 = .ok (.aload_n 0, 1) := by decide +kernel
theorem dX6_part_68 : decode cX6_part 68 = .ok (.aload_n 0, 1) := by decide +kernel
theorem dX6_part_69 : decode cX6_part 69 = .ok (.getfield 26, 3) := by decide +kernel
theorem dX6_part_72 : decode cX6_part 72 = .ok (.getfield 187, 3) := by decide +kernel
theorem dX6_part_75 : decode cX6_part 75 = .ok (.iload_n 2, 1) := by decide +kernel
theorem dX6_part_76 : decode cX6_part 76 = .ok (.aaload, 1) := by decide +kernel
theorem dX6_part_77 : decode cX6_part 77 = .ok (.iload_n 3, 1) := by decide +kernel
theorem dX6_part_78 : decode cX6_part 78 = .ok (.iaload, 1) := by decide +kernel
theorem dX6_part_79 : decode cX6_part 79 = .ok (.invokevirtual 104, 3) := by decide +kernel
theorem dX6_part_82 : decode cX6_part 82 = .ok (.ireturn, 1) := by decide +kernel
set_option maxRecDepth 20000 in
theorem ggX6_line_X6_isLine : GoodIn wsX6_line wsX6_isLine := goodIn_r _ [6, 7, 8, 9, 10, 11, 5, 12, 13] (by decide +kernel) (by decide +kernel)
set_option maxRecDepth 20000 in
theorem gX6_line_X6_isLine : GoodIn wsX6_line (va_wsS RX6 191 yX6_isLine wsX6_isLine) := goodIn_app (goodIn_of _ (by decide +kernel)) ggX6_line_X6_isLine
set_option maxRecDepth 20000 in
theorem ggX6_line_X6_within : GoodIn wsX6_line wsX6_within := goodIn_r _ [12] (by decide +kernel) (by decide +kernel)
set_option maxRecDepth 20000 in
theorem gX6_line_X6_within : GoodIn wsX6_line (va_wsS RX6 52 yX6_within wsX6_within) := goodIn_app (goodIn_of _ (by decide +kernel)) ggX6_line_X6_within
set_option maxRecDepth 20000 in
theorem ggX6_line_X6_deny : GoodIn wsX6_line wsX6_deny := goodIn_r _ [17, 18, 64, 65, 66, 67, 68, 69] (by decide +kernel) (by decide +kernel)
set_option maxRecDepth 20000 in
theorem gX6_line_X6_deny : GoodIn wsX6_line (wsV RX6 75 RX6 yX6_deny wsX6_deny) := goodIn_app (goodIn_of _ (by decide +kernel)) ggX6_line_X6_deny
set_option maxRecDepth 20000 in
theorem ggX6_line_X4_whyNotFirst : GoodIn wsX6_line wsX4_whyNotFirst := goodIn_r _ [22, 23, 24, 25, 26, 27, 9, 28, 11, 5, 12, 70, 71, 72] (by decide +kernel) (by decide +kernel)
set_option maxRecDepth 20000 in
theorem gX6_line_X4_whyNotFirst : GoodIn wsX6_line (wsV RX6 194 RX4 yX4_whyNotFirst wsX4_whyNotFirst) := goodIn_app (goodIn_of _ (by decide +kernel)) ggX6_line_X4_whyNotFirst
set_option maxRecDepth 20000 in
theorem ggX6_line_X5_serve : GoodIn wsX6_line wsX5_serve := goodIn_r _ [33, 34, 35, 36, 37, 38, 39, 40, 41, 42, 43, 44, 45, 46, 47, 48, 49, 50, 9, 51, 24, 52, 53, 54, 32, 55, 73, 74, 75, 76, 77, 78, 70, 71, 72] (by decide +kernel) (by decide +kernel)
set_option maxRecDepth 20000 in
theorem gX6_line_X5_serve : GoodIn wsX6_line (wsV RX6 197 RX5 yX5_serve wsX5_serve) := goodIn_app (goodIn_of _ (by decide +kernel)) ggX6_line_X5_serve
set_option maxRecDepth 20000 in
theorem ggX6_line_X5_told : GoodIn wsX6_line wsX5_told := goodIn_r _ [59, 34, 35, 36, 37, 38, 73, 74, 75, 76, 77, 78] (by decide +kernel) (by decide +kernel)
set_option maxRecDepth 20000 in
theorem gX6_line_X5_told : GoodIn wsX6_line (wsV RX6 201 RX5 yX5_told wsX5_told) := goodIn_app (goodIn_of _ (by decide +kernel)) ggX6_line_X5_told
set_option maxRecDepth 20000 in
theorem ggX6_line_X6_answer : GoodIn wsX6_line wsX6_answer := goodIn_r _ [63, 18, 64, 65, 66, 67, 68, 69] (by decide +kernel) (by decide +kernel)
set_option maxRecDepth 20000 in
theorem gX6_line_X6_answer : GoodIn wsX6_line (wsV RX6 104 RX6 yX6_answer wsX6_answer) := goodIn_app (goodIn_of _ (by decide +kernel)) ggX6_line_X6_answer
theorem dX6_line_0 : decode cX6_line 0 = .ok (.iload_n 1, 1) := by decide +kernel
theorem dX6_line_1 : decode cX6_line 1 = .ok (.iload_n 2, 1) := by decide +kernel
theorem dX6_line_2 : decode cX6_line 2 = .ok (.iload 4, 2) := by decide +kernel
theorem dX6_line_4 : decode cX6_line 4 = .ok (.invokestatic 191, 3) := by decide +kernel
theorem dX6_line_7 : decode cX6_line 7 = .ok (.ifCond .eq 25, 3) := by decide +kernel
theorem dX6_line_10 : decode cX6_line 10 = .ok (.iload_n 3, 1) := by decide +kernel
theorem dX6_line_11 : decode cX6_line 11 = .ok (.i2l, 1) := by decide +kernel
theorem dX6_line_12 : decode cX6_line 12 = .ok (.iconst 1, 1) := by decide +kernel
theorem dX6_line_13 : decode cX6_line 13 = .ok (.bipush 20, 2) := by decide +kernel
theorem dX6_line_15 : decode cX6_line 15 = .ok (.invokestatic 52, 3) := by decide +kernel
theorem dX6_line_18 : decode cX6_line 18 = .ok (.ifCond .eq 14, 3) := by decide +kernel
theorem dX6_line_21 : decode cX6_line 21 = .ok (.iload 5, 2) := by decide +kernel
theorem dX6_line_23 : decode cX6_line 23 = .ok (.i2l, 1) := by decide +kernel
theorem dX6_line_24 : decode cX6_line 24 = .ok (.iconst 0, 1) := by decide +kernel
theorem dX6_line_25 : decode cX6_line 25 = .ok (.iconst 4, 1) := by decide +kernel
theorem dX6_line_26 : decode cX6_line 26 = .ok (.invokestatic 52, 3) := by decide +kernel
theorem dX6_line_29 : decode cX6_line 29 = .ok (.ifCond .ne 9, 3) := by decide +kernel
theorem dX6_line_32 : decode cX6_line 32 = .ok (.aload_n 0, 1) := by decide +kernel
theorem dX6_line_33 : decode cX6_line 33 = .ok (.iconst 1, 1) := by decide +kernel
theorem dX6_line_34 : decode cX6_line 34 = .ok (.invokevirtual 75, 3) := by decide +kernel
theorem dX6_line_37 : decode cX6_line 37 = .ok (.ireturn, 1) := by decide +kernel
theorem dX6_line_38 : decode cX6_line 38 = .ok (.aload_n 0, 1) := by decide +kernel
theorem dX6_line_39 : decode cX6_line 39 = .ok (.getfield 10, 3) := by decide +kernel
theorem dX6_line_42 : decode cX6_line 42 = .ok (.iload_n 1, 1) := by decide +kernel
theorem dX6_line_43 : decode cX6_line 43 = .ok (.iload_n 2, 1) := by decide +kernel
theorem dX6_line_44 : decode cX6_line 44 = .ok (.bipush 100, 2) := by decide +kernel
theorem dX6_line_46 : decode cX6_line 46 = .ok (.invokevirtual 194, 3) := by decide +kernel
theorem dX6_line_49 : decode cX6_line 49 = .ok (.istore 6, 2) := by decide +kernel
theorem dX6_line_51 : decode cX6_line 51 = .ok (.iload 6, 2) := by decide +kernel
theorem dX6_line_53 : decode cX6_line 53 = .ok (.ifCond .eq 10, 3) := by decide +kernel
theorem dX6_line_56 : decode cX6_line 56 = .ok (.aload_n 0, 1) := by decide +kernel
theorem dX6_line_57 : decode cX6_line 57 = .ok (.iload 6, 2) := by decide +kernel
theorem dX6_line_59 : decode cX6_line 59 = .ok (.invokevirtual 75, 3) := by decide +kernel
theorem dX6_line_62 : decode cX6_line 62 = .ok (.ireturn, 1) := by decide +kernel
theorem dX6_line_63 : decode cX6_line 63 = .ok (.aload_n 0, 1) := by decide +kernel
theorem dX6_line_64 : decode cX6_line 64 = .ok (.getfield 33, 3) := by decide +kernel
theorem dX6_line_67 : decode cX6_line 67 = .ok (.aload_n 0, 1) := by decide +kernel
theorem dX6_line_68 : decode cX6_line 68 = .ok (.getfield 10, 3) := by decide +kernel
theorem dX6_line_71 : decode cX6_line 71 = .ok (.iload_n 1, 1) := by decide +kernel
theorem dX6_line_72 : decode cX6_line 72 = .ok (.iload_n 2, 1) := by decide +kernel
theorem dX6_line_73 : decode cX6_line 73 = .ok (.iload_n 3, 1) := by decide +kernel
theorem dX6_line_74 : decode cX6_line 74 = .ok (.iload 4, 2) := by decide +kernel
theorem dX6_line_76 : decode cX6_line 76 = .ok (.invokevirtual 197, 3) := by decide +kernel
theorem dX6_line_79 : decode cX6_line 79 = .ok (.aload_n 0, 1) := by decide +kernel
theorem dX6_line_80 : decode cX6_line 80 = .ok (.aload_n 0, 1) := by decide +kernel
theorem dX6_line_81 : decode cX6_line 81 = .ok (.getfield 33, 3) := by decide +kernel
theorem dX6_line_84 : decode cX6_line 84 = .ok (.iload 5, 2) := by decide +kernel
theorem dX6_line_86 : decode cX6_line 86 = .ok (.invokevirtual 201, 3) := by decide +kernel
theorem dX6_line_89 : decode cX6_line 89 = .ok (.invokevirtual 104, 3) := by decide +kernel
theorem dX6_line_92 : decode cX6_line 92 = .ok (.ireturn, 1) := by decide +kernel
set_option maxRecDepth 20000 in
theorem ggX6_hands_X6_isLine : GoodIn wsX6_hands wsX6_isLine := goodIn_r _ [7, 8, 9, 10, 11, 12, 6, 13, 14] (by decide +kernel) (by decide +kernel)
set_option maxRecDepth 20000 in
theorem gX6_hands_X6_isLine : GoodIn wsX6_hands (va_wsS RX6 191 yX6_isLine wsX6_isLine) := goodIn_app (goodIn_of _ (by decide +kernel)) ggX6_hands_X6_isLine
set_option maxRecDepth 20000 in
theorem ggX6_hands_X6_within : GoodIn wsX6_hands wsX6_within := goodIn_r _ [13] (by decide +kernel) (by decide +kernel)
set_option maxRecDepth 20000 in
theorem gX6_hands_X6_within : GoodIn wsX6_hands (va_wsS RX6 52 yX6_within wsX6_within) := goodIn_app (goodIn_of _ (by decide +kernel)) ggX6_hands_X6_within
set_option maxRecDepth 20000 in
theorem ggX6_hands_X6_deny : GoodIn wsX6_hands wsX6_deny := goodIn_r _ [18, 19, 61, 62, 63, 64, 65, 66] (by decide +kernel) (by decide +kernel)
set_option maxRecDepth 20000 in
theorem gX6_hands_X6_deny : GoodIn wsX6_hands (wsV RX6 75 RX6 yX6_deny wsX6_deny) := goodIn_app (goodIn_of _ (by decide +kernel)) ggX6_hands_X6_deny
set_option maxRecDepth 20000 in
theorem ggX6_hands_X4_whyNotFirst : GoodIn wsX6_hands wsX4_whyNotFirst := goodIn_r _ [23, 24, 25, 26, 27, 28, 10, 29, 12, 6, 13, 73, 74, 75] (by decide +kernel) (by decide +kernel)
set_option maxRecDepth 20000 in
theorem gX6_hands_X4_whyNotFirst : GoodIn wsX6_hands (wsV RX6 194 RX4 yX4_whyNotFirst wsX4_whyNotFirst) := goodIn_app (goodIn_of _ (by decide +kernel)) ggX6_hands_X4_whyNotFirst
set_option maxRecDepth 20000 in
theorem ggX6_hands_X5_serve : GoodIn wsX6_hands wsX5_serve := goodIn_r _ [34, 35, 36, 37, 38, 39, 40, 41, 42, 43, 44, 45, 46, 47, 48, 49, 50, 51, 10, 52, 25, 53, 54, 55, 33, 56, 67, 68, 69, 70, 71, 72, 73, 74, 75] (by decide +kernel) (by decide +kernel)
set_option maxRecDepth 20000 in
theorem gX6_hands_X5_serve : GoodIn wsX6_hands (wsV RX6 197 RX5 yX5_serve wsX5_serve) := goodIn_app (goodIn_of _ (by decide +kernel)) ggX6_hands_X5_serve
set_option maxRecDepth 20000 in
theorem ggX6_hands_X6_answer : GoodIn wsX6_hands wsX6_answer := goodIn_r _ [60, 19, 61, 62, 63, 64, 65, 66] (by decide +kernel) (by decide +kernel)
set_option maxRecDepth 20000 in
theorem gX6_hands_X6_answer : GoodIn wsX6_hands (wsV RX6 104 RX6 yX6_answer wsX6_answer) := goodIn_app (goodIn_of _ (by decide +kernel)) ggX6_hands_X6_answer
theorem dX6_hands_0 : decode cX6_hands 0 = .ok (.iload_n 1, 1) := by decide +kernel
theorem dX6_hands_1 : decode cX6_hands 1 = .ok (.iload_n 2, 1) := by decide +kernel
theorem dX6_hands_2 : decode cX6_hands 2 = .ok (.iload_n 3, 1) := by decide +kernel
theorem dX6_hands_3 : decode cX6_hands 3 = .ok (.invokestatic 191, 3) := by decide +kernel
theorem dX6_hands_6 : decode cX6_hands 6 = .ok (.ifCond .eq 16, 3) := by decide +kernel
theorem dX6_hands_9 : decode cX6_hands 9 = .ok (.iload 4, 2) := by decide +kernel
theorem dX6_hands_11 : decode cX6_hands 11 = .ok (.i2l, 1) := by decide +kernel
theorem dX6_hands_12 : decode cX6_hands 12 = .ok (.iconst 0, 1) := by decide +kernel
theorem dX6_hands_13 : decode cX6_hands 13 = .ok (.sipush 10000, 3) := by decide +kernel
theorem dX6_hands_16 : decode cX6_hands 16 = .ok (.invokestatic 52, 3) := by decide +kernel
theorem dX6_hands_19 : decode cX6_hands 19 = .ok (.ifCond .ne 9, 3) := by decide +kernel
theorem dX6_hands_22 : decode cX6_hands 22 = .ok (.aload_n 0, 1) := by decide +kernel
theorem dX6_hands_23 : decode cX6_hands 23 = .ok (.iconst 1, 1) := by decide +kernel
theorem dX6_hands_24 : decode cX6_hands 24 = .ok (.invokevirtual 75, 3) := by decide +kernel
theorem dX6_hands_27 : decode cX6_hands 27 = .ok (.ireturn, 1) := by decide +kernel
theorem dX6_hands_28 : decode cX6_hands 28 = .ok (.aload_n 0, 1) := by decide +kernel
theorem dX6_hands_29 : decode cX6_hands 29 = .ok (.getfield 10, 3) := by decide +kernel
theorem dX6_hands_32 : decode cX6_hands 32 = .ok (.iload_n 1, 1) := by decide +kernel
theorem dX6_hands_33 : decode cX6_hands 33 = .ok (.iload_n 2, 1) := by decide +kernel
theorem dX6_hands_34 : decode cX6_hands 34 = .ok (.bipush 100, 2) := by decide +kernel
theorem dX6_hands_36 : decode cX6_hands 36 = .ok (.invokevirtual 194, 3) := by decide +kernel
theorem dX6_hands_39 : decode cX6_hands 39 = .ok (.istore 5, 2) := by decide +kernel
theorem dX6_hands_41 : decode cX6_hands 41 = .ok (.iload 5, 2) := by decide +kernel
theorem dX6_hands_43 : decode cX6_hands 43 = .ok (.ifCond .eq 10, 3) := by decide +kernel
theorem dX6_hands_46 : decode cX6_hands 46 = .ok (.aload_n 0, 1) := by decide +kernel
theorem dX6_hands_47 : decode cX6_hands 47 = .ok (.iload 5, 2) := by decide +kernel
theorem dX6_hands_49 : decode cX6_hands 49 = .ok (.invokevirtual 75, 3) := by decide +kernel
theorem dX6_hands_52 : decode cX6_hands 52 = .ok (.ireturn, 1) := by decide +kernel
theorem dX6_hands_53 : decode cX6_hands 53 = .ok (.iconst 1, 1) := by decide +kernel
theorem dX6_hands_54 : decode cX6_hands 54 = .ok (.istore 6, 2) := by decide +kernel
theorem dX6_hands_56 : decode cX6_hands 56 = .ok (.iload 6, 2) := by decide +kernel
theorem dX6_hands_58 : decode cX6_hands 58 = .ok (.bipush 20, 2) := by decide +kernel
theorem dX6_hands_60 : decode cX6_hands 60 = .ok (.if_icmp .gt 44, 3) := by decide +kernel
theorem dX6_hands_63 : decode cX6_hands 63 = .ok (.aload_n 0, 1) := by decide +kernel
theorem dX6_hands_64 : decode cX6_hands 64 = .ok (.getfield 33, 3) := by decide +kernel
theorem dX6_hands_67 : decode cX6_hands 67 = .ok (.aload_n 0, 1) := by decide +kernel
theorem dX6_hands_68 : decode cX6_hands 68 = .ok (.getfield 10, 3) := by decide +kernel
theorem dX6_hands_71 : decode cX6_hands 71 = .ok (.iload_n 1, 1) := by decide +kernel
theorem dX6_hands_72 : decode cX6_hands 72 = .ok (.iload_n 2, 1) := by decide +kernel
theorem dX6_hands_73 : decode cX6_hands 73 = .ok (.iload 6, 2) := by decide +kernel
theorem dX6_hands_75 : decode cX6_hands 75 = .ok (.iload_n 3, 1) := by decide +kernel
theorem dX6_hands_76 : decode cX6_hands 76 = .ok (.invokevirtual 197, 3) := by decide +kernel
theorem dX6_hands_79 : decode cX6_hands 79 = .ok (.aload_n 0, 1) := by decide +kernel
theorem dX6_hands_80 : decode cX6_hands 80 = .ok (.getfield 33, 3) := by decide +kernel
theorem dX6_hands_83 : decode cX6_hands 83 = .ok (.getfield 204, 3) := by decide +kernel
theorem dX6_hands_86 : decode cX6_hands 86 = .ok (.iload 4, 2) := by decide +kernel
theorem dX6_hands_88 : decode cX6_hands 88 = .ok (.if_icmp .gt 10, 3) := by decide +kernel
theorem dX6_hands_91 : decode cX6_hands 91 = .ok (.aload_n 0, 1) := by decide +kernel
theorem dX6_hands_92 : decode cX6_hands 92 = .ok (.iload 6, 2) := by decide +kernel
theorem dX6_hands_94 : decode cX6_hands 94 = .ok (.invokevirtual 104, 3) := by decide +kernel
theorem dX6_hands_97 : decode cX6_hands 97 = .ok (.ireturn, 1) := by decide +kernel
theorem dX6_hands_98 : decode cX6_hands 98 = .ok (.iinc 6 1, 3) := by decide +kernel
theorem dX6_hands_101 : decode cX6_hands 101 = .ok (.goto (-45), 3) := by decide +kernel
theorem dX6_hands_104 : decode cX6_hands 104 = .ok (.aload_n 0, 1) := by decide +kernel
theorem dX6_hands_105 : decode cX6_hands 105 = .ok (.bipush 7, 2) := by decide +kernel
theorem dX6_hands_107 : decode cX6_hands 107 = .ok (.invokevirtual 75, 3) := by decide +kernel
theorem dX6_hands_110 : decode cX6_hands 110 = .ok (.ireturn, 1) := by decide +kernel
set_option maxRecDepth 20000 in
theorem ggX6_wanted_X4_isNumber : GoodIn wsX6_wanted wsX4_isNumber := goodIn_r _ [6, 7, 8, 9] (by decide +kernel) (by decide +kernel)
set_option maxRecDepth 20000 in
theorem gX6_wanted_X4_isNumber : GoodIn wsX6_wanted (va_wsS RX6 48 yX4_isNumber wsX4_isNumber) := goodIn_app (goodIn_of _ (by decide +kernel)) ggX6_wanted_X4_isNumber
set_option maxRecDepth 20000 in
theorem ggX6_wanted_X6_refuse : GoodIn wsX6_wanted wsX6_refuse := goodIn_r _ [13, 14, 40, 41, 42, 43, 44, 45] (by decide +kernel) (by decide +kernel)
set_option maxRecDepth 20000 in
theorem gX6_wanted_X6_refuse : GoodIn wsX6_wanted (wsV RX6 56 RX6 yX6_refuse wsX6_refuse) := goodIn_app (goodIn_of _ (by decide +kernel)) ggX6_wanted_X6_refuse
set_option maxRecDepth 20000 in
theorem ggX6_wanted_X4_whyNotFirst : GoodIn wsX6_wanted wsX4_whyNotFirst := goodIn_r _ [18, 19, 20, 21, 22, 23, 5, 24, 7, 8, 9, 46, 47, 48] (by decide +kernel) (by decide +kernel)
set_option maxRecDepth 20000 in
theorem gX6_wanted_X4_whyNotFirst : GoodIn wsX6_wanted (wsV RX6 194 RX4 yX4_whyNotFirst wsX4_whyNotFirst) := goodIn_app (goodIn_of _ (by decide +kernel)) ggX6_wanted_X4_whyNotFirst
set_option maxRecDepth 20000 in
theorem ggX6_wanted_X2_want : GoodIn wsX6_wanted wsX2_want := goodIn_r _ [29, 30, 31, 32, 33, 34, 5, 35, 20, 49, 50, 51, 52, 53, 54, 55, 56, 57, 58, 59, 60, 46, 47, 48] (by decide +kernel) (by decide +kernel)
set_option maxRecDepth 20000 in
theorem gX6_wanted_X2_want : GoodIn wsX6_wanted (wsV RX6 207 RX2 yX2_want wsX2_want) := goodIn_app (goodIn_of _ (by decide +kernel)) ggX6_wanted_X2_want
set_option maxRecDepth 20000 in
theorem ggX6_wanted_X6_agree : GoodIn wsX6_wanted wsX6_agree := goodIn_r _ [39, 14, 40, 41, 42, 43, 44, 45] (by decide +kernel) (by decide +kernel)
set_option maxRecDepth 20000 in
theorem gX6_wanted_X6_agree : GoodIn wsX6_wanted (wsV RX6 63 RX6 yX6_agree wsX6_agree) := goodIn_app (goodIn_of _ (by decide +kernel)) ggX6_wanted_X6_agree
theorem dX6_wanted_0 : decode cX6_wanted 0 = .ok (.iload_n 1, 1) := by decide +kernel
theorem dX6_wanted_1 : decode cX6_wanted 1 = .ok (.invokestatic 48, 3) := by decide +kernel
theorem dX6_wanted_4 : decode cX6_wanted 4 = .ok (.ifCond .ne 9, 3) := by decide +kernel
theorem dX6_wanted_7 : decode cX6_wanted 7 = .ok (.aload_n 0, 1) := by decide +kernel
theorem dX6_wanted_8 : decode cX6_wanted 8 = .ok (.iconst 1, 1) := by decide +kernel
theorem dX6_wanted_9 : decode cX6_wanted 9 = .ok (.invokevirtual 56, 3) := by decide +kernel
theorem dX6_wanted_12 : decode cX6_wanted 12 = .ok (.ireturn, 1) := by decide +kernel
theorem dX6_wanted_13 : decode cX6_wanted 13 = .ok (.aload_n 0, 1) := by decide +kernel
theorem dX6_wanted_14 : decode cX6_wanted 14 = .ok (.getfield 10, 3) := by decide +kernel
theorem dX6_wanted_17 : decode cX6_wanted 17 = .ok (.iload_n 1, 1) := by decide +kernel
theorem dX6_wanted_18 : decode cX6_wanted 18 = .ok (.bipush 12, 2) := by decide +kernel
theorem dX6_wanted_20 : decode cX6_wanted 20 = .ok (.sipush 500, 3) := by decide +kernel
theorem dX6_wanted_23 : decode cX6_wanted 23 = .ok (.invokevirtual 194, 3) := by decide +kernel
theorem dX6_wanted_26 : decode cX6_wanted 26 = .ok (.istore_n 2, 1) := by decide +kernel
theorem dX6_wanted_27 : decode cX6_wanted 27 = .ok (.iload_n 2, 1) := by decide +kernel
theorem dX6_wanted_28 : decode cX6_wanted 28 = .ok (.ifCond .eq 9, 3) := by decide +kernel
theorem dX6_wanted_31 : decode cX6_wanted 31 = .ok (.aload_n 0, 1) := by decide +kernel
theorem dX6_wanted_32 : decode cX6_wanted 32 = .ok (.iload_n 2, 1) := by decide +kernel
theorem dX6_wanted_33 : decode cX6_wanted 33 = .ok (.invokevirtual 56, 3) := by decide +kernel
theorem dX6_wanted_36 : decode cX6_wanted 36 = .ok (.ireturn, 1) := by decide +kernel
theorem dX6_wanted_37 : decode cX6_wanted 37 = .ok (.aload_n 0, 1) := by decide +kernel
theorem dX6_wanted_38 : decode cX6_wanted 38 = .ok (.getfield 40, 3) := by decide +kernel
theorem dX6_wanted_41 : decode cX6_wanted 41 = .ok (.aload_n 0, 1) := by decide +kernel
theorem dX6_wanted_42 : decode cX6_wanted 42 = .ok (.getfield 10, 3) := by decide +kernel
theorem dX6_wanted_45 : decode cX6_wanted 45 = .ok (.iload_n 1, 1) := by decide +kernel
theorem dX6_wanted_46 : decode cX6_wanted 46 = .ok (.invokevirtual 207, 3) := by decide +kernel
theorem dX6_wanted_49 : decode cX6_wanted 49 = .ok (.aload_n 0, 1) := by decide +kernel
theorem dX6_wanted_50 : decode cX6_wanted 50 = .ok (.invokevirtual 63, 3) := by decide +kernel
theorem dX6_wanted_53 : decode cX6_wanted 53 = .ok (.ireturn, 1) := by decide +kernel
set_option maxRecDepth 20000 in
theorem ggX6_have_X6_within : GoodIn wsX6_have wsX6_within := goodIn_r _ [5] (by decide +kernel) (by decide +kernel)
set_option maxRecDepth 20000 in
theorem gX6_have_X6_within : GoodIn wsX6_have (va_wsS RX6 52 yX6_within wsX6_within) := goodIn_app (goodIn_of _ (by decide +kernel)) ggX6_have_X6_within
set_option maxRecDepth 20000 in
theorem ggX6_have_X6_refuse : GoodIn wsX6_have wsX6_refuse := goodIn_r _ [9, 10, 22, 23, 24, 25, 26, 27] (by decide +kernel) (by decide +kernel)
set_option maxRecDepth 20000 in
theorem gX6_have_X6_refuse : GoodIn wsX6_have (wsV RX6 56 RX6 yX6_refuse wsX6_refuse) := goodIn_app (goodIn_of _ (by decide +kernel)) ggX6_have_X6_refuse
set_option maxRecDepth 20000 in
theorem ggX6_have_X2_own : GoodIn wsX6_have wsX2_own := goodIn_r _ [15, 16, 17, 28, 29, 30, 31, 32, 33, 34, 35, 36, 37, 38, 39] (by decide +kernel) (by decide +kernel)
set_option maxRecDepth 20000 in
theorem gX6_have_X2_own : GoodIn wsX6_have (wsV RX6 211 RX2 yX2_own wsX2_own) := goodIn_app (goodIn_of _ (by decide +kernel)) ggX6_have_X2_own
set_option maxRecDepth 20000 in
theorem ggX6_have_X6_agree : GoodIn wsX6_have wsX6_agree := goodIn_r _ [21, 10, 22, 23, 24, 25, 26, 27] (by decide +kernel) (by decide +kernel)
set_option maxRecDepth 20000 in
theorem gX6_have_X6_agree : GoodIn wsX6_have (wsV RX6 63 RX6 yX6_agree wsX6_agree) := goodIn_app (goodIn_of _ (by decide +kernel)) ggX6_have_X6_agree
theorem dX6_have_0 : decode cX6_have 0 = .ok (.iload_n 1, 1) := by decide +kernel
theorem dX6_have_1 : decode cX6_have 1 = .ok (.i2l, 1) := by decide +kernel
theorem dX6_have_2 : decode cX6_have 2 = .ok (.iconst 0, 1) := by decide +kernel
theorem dX6_have_3 : decode cX6_have 3 = .ok (.sipush 500, 3) := by decide +kernel
theorem dX6_have_6 : decode cX6_have 6 = .ok (.invokestatic 52, 3) := by decide +kernel
theorem dX6_have_9 : decode cX6_have 9 = .ok (.ifCond .ne 9, 3) := by decide +kernel
theorem dX6_have_12 : decode cX6_have 12 = .ok (.aload_n 0, 1) := by decide +kernel
theorem dX6_have_13 : decode cX6_have 13 = .ok (.iconst 1, 1) := by decide +kernel
theorem dX6_have_14 : decode cX6_have 14 = .ok (.invokevirtual 56, 3) := by decide +kernel
theorem dX6_have_17 : decode cX6_have 17 = .ok (.ireturn, 1) := by decide +kernel
theorem dX6_have_18 : decode cX6_have 18 = .ok (.aload_n 0, 1) := by decide +kernel
theorem dX6_have_19 : decode cX6_have 19 = .ok (.getfield 40, 3) := by decide +kernel
theorem dX6_have_22 : decode cX6_have 22 = .ok (.iload_n 1, 1) := by decide +kernel
theorem dX6_have_23 : decode cX6_have 23 = .ok (.invokevirtual 211, 3) := by decide +kernel
theorem dX6_have_26 : decode cX6_have 26 = .ok (.aload_n 0, 1) := by decide +kernel
theorem dX6_have_27 : decode cX6_have 27 = .ok (.invokevirtual 63, 3) := by decide +kernel
theorem dX6_have_30 : decode cX6_have 30 = .ok (.ireturn, 1) := by decide +kernel
set_option maxRecDepth 20000 in
theorem ggX6_type_X6_within : GoodIn wsX6_type wsX6_within := goodIn_r _ [8] (by decide +kernel) (by decide +kernel)
set_option maxRecDepth 20000 in
theorem gX6_type_X6_within : GoodIn wsX6_type (va_wsS RX6 52 yX6_within wsX6_within) := goodIn_app (goodIn_of _ (by decide +kernel)) ggX6_type_X6_within
set_option maxRecDepth 20000 in
theorem ggX6_type_X6_isMonth : GoodIn wsX6_type wsX6_isMonth := goodIn_r _ [11, 5, 6, 7, 8] (by decide +kernel) (by decide +kernel)
set_option maxRecDepth 20000 in
theorem gX6_type_X6_isMonth : GoodIn wsX6_type (va_wsS RX6 214 yX6_isMonth wsX6_isMonth) := goodIn_app (goodIn_of _ (by decide +kernel)) ggX6_type_X6_isMonth
set_option maxRecDepth 20000 in
theorem ggX6_type_X4_isNumber : GoodIn wsX6_type wsX4_isNumber := goodIn_r _ [15, 6, 7, 8] (by decide +kernel) (by decide +kernel)
set_option maxRecDepth 20000 in
theorem gX6_type_X4_isNumber : GoodIn wsX6_type (va_wsS RX6 48 yX4_isNumber wsX4_isNumber) := goodIn_app (goodIn_of _ (by decide +kernel)) ggX6_type_X4_isNumber
set_option maxRecDepth 20000 in
theorem ggX6_type_X6_deny : GoodIn wsX6_type wsX6_deny := goodIn_r _ [19, 20, 50, 51, 52, 53, 54, 55] (by decide +kernel) (by decide +kernel)
set_option maxRecDepth 20000 in
theorem gX6_type_X6_deny : GoodIn wsX6_type (wsV RX6 75 RX6 yX6_deny wsX6_deny) := goodIn_app (goodIn_of _ (by decide +kernel)) ggX6_type_X6_deny
set_option maxRecDepth 20000 in
theorem ggX6_type_X4_whyNotFirst : GoodIn wsX6_type wsX4_whyNotFirst := goodIn_r _ [24, 25, 26, 27, 28, 29, 14, 30, 6, 7, 8, 68, 69, 70] (by decide +kernel) (by decide +kernel)
set_option maxRecDepth 20000 in
theorem gX6_type_X4_whyNotFirst : GoodIn wsX6_type (wsV RX6 194 RX4 yX4_whyNotFirst wsX4_whyNotFirst) := goodIn_app (goodIn_of _ (by decide +kernel)) ggX6_type_X4_whyNotFirst
set_option maxRecDepth 20000 in
theorem ggX6_type_X2_addType : GoodIn wsX6_type wsX2_addType := goodIn_r _ [35, 36, 37, 38, 39, 40, 41, 42, 43, 44, 14, 45, 26, 56, 57, 58, 59, 60, 61, 62, 63, 64, 65, 66, 67, 68, 69, 70] (by decide +kernel) (by decide +kernel)
set_option maxRecDepth 20000 in
theorem gX6_type_X2_addType : GoodIn wsX6_type (wsV RX6 218 RX2 yX2_addType wsX2_addType) := goodIn_app (goodIn_of _ (by decide +kernel)) ggX6_type_X2_addType
set_option maxRecDepth 20000 in
theorem ggX6_type_X6_answer : GoodIn wsX6_type wsX6_answer := goodIn_r _ [49, 20, 50, 51, 52, 53, 54, 55] (by decide +kernel) (by decide +kernel)
set_option maxRecDepth 20000 in
theorem gX6_type_X6_answer : GoodIn wsX6_type (wsV RX6 104 RX6 yX6_answer wsX6_answer) := goodIn_app (goodIn_of _ (by decide +kernel)) ggX6_type_X6_answer
theorem dX6_type_0 : decode cX6_type 0 = .ok (.iload_n 1, 1) := by decide +kernel
theorem dX6_type_1 : decode cX6_type 1 = .ok (.i2l, 1) := by decide +kernel
theorem dX6_type_2 : decode cX6_type 2 = .ok (.iconst 1, 1) := by decide +kernel
theorem dX6_type_3 : decode cX6_type 3 = .ok (.bipush 100, 2) := by decide +kernel
theorem dX6_type_5 : decode cX6_type 5 = .ok (.invokestatic 52, 3) := by decide +kernel
theorem dX6_type_8 : decode cX6_type 8 = .ok (.ifCond .eq 30, 3) := by decide +kernel
theorem dX6_type_11 : decode cX6_type 11 = .ok (.iload_n 2, 1) := by decide +kernel
theorem dX6_type_12 : decode cX6_type 12 = .ok (.invokestatic 214, 3) := by decide +kernel
theorem dX6_type_15 : decode cX6_type 15 = .ok (.ifCond .eq 23, 3) := by decide +kernel
theorem dX6_type_18 : decode cX6_type 18 = .ok (.iload_n 3, 1) := by decide +kernel
theorem dX6_type_19 : decode cX6_type 19 = .ok (.invokestatic 48, 3) := by decide +kernel
theorem dX6_type_22 : decode cX6_type 22 = .ok (.ifCond .eq 16, 3) := by decide +kernel
theorem dX6_type_25 : decode cX6_type 25 = .ok (.iload 4, 2) := by decide +kernel
theorem dX6_type_27 : decode cX6_type 27 = .ok (.i2l, 1) := by decide +kernel
theorem dX6_type_28 : decode cX6_type 28 = .ok (.iconst 0, 1) := by decide +kernel
theorem dX6_type_29 : decode cX6_type 29 = .ok (.sipush 1000, 3) := by decide +kernel
theorem dX6_type_32 : decode cX6_type 32 = .ok (.invokestatic 52, 3) := by decide +kernel
theorem dX6_type_35 : decode cX6_type 35 = .ok (.ifCond .ne 9, 3) := by decide +kernel
theorem dX6_type_38 : decode cX6_type 38 = .ok (.aload_n 0, 1) := by decide +kernel
theorem dX6_type_39 : decode cX6_type 39 = .ok (.iconst 1, 1) := by decide +kernel
theorem dX6_type_40 : decode cX6_type 40 = .ok (.invokevirtual 75, 3) := by decide +kernel
theorem dX6_type_43 : decode cX6_type 43 = .ok (.ireturn, 1) := by decide +kernel
theorem dX6_type_44 : decode cX6_type 44 = .ok (.aload_n 0, 1) := by decide +kernel
theorem dX6_type_45 : decode cX6_type 45 = .ok (.getfield 10, 3) := by decide +kernel
theorem dX6_type_48 : decode cX6_type 48 = .ok (.iload_n 3, 1) := by decide +kernel
theorem dX6_type_49 : decode cX6_type 49 = .ok (.bipush 12, 2) := by decide +kernel
theorem dX6_type_51 : decode cX6_type 51 = .ok (.ldc 217, 2) := by decide +kernel
theorem dX6_type_53 : decode cX6_type 53 = .ok (.invokevirtual 194, 3) := by decide +kernel
theorem dX6_type_56 : decode cX6_type 56 = .ok (.istore 5, 2) := by decide +kernel
theorem dX6_type_58 : decode cX6_type 58 = .ok (.iload 5, 2) := by decide +kernel
theorem dX6_type_60 : decode cX6_type 60 = .ok (.ifCond .eq 10, 3) := by decide +kernel
theorem dX6_type_63 : decode cX6_type 63 = .ok (.aload_n 0, 1) := by decide +kernel
theorem dX6_type_64 : decode cX6_type 64 = .ok (.iload 5, 2) := by decide +kernel
theorem dX6_type_66 : decode cX6_type 66 = .ok (.invokevirtual 75, 3) := by decide +kernel
theorem dX6_type_69 : decode cX6_type 69 = .ok (.ireturn, 1) := by decide +kernel
theorem dX6_type_70 : decode cX6_type 70 = .ok (.aload_n 0, 1) := by decide +kernel
theorem dX6_type_71 : decode cX6_type 71 = .ok (.getfield 40, 3) := by decide +kernel
theorem dX6_type_74 : decode cX6_type 74 = .ok (.getfield 143, 3) := by decide +kernel
theorem dX6_type_77 : decode cX6_type 77 = .ok (.iconst 4, 1) := by decide +kernel
theorem dX6_type_78 : decode cX6_type 78 = .ok (.if_icmp .ne 9, 3) := by decide +kernel
theorem dX6_type_81 : decode cX6_type 81 = .ok (.aload_n 0, 1) := by decide +kernel
theorem dX6_type_82 : decode cX6_type 82 = .ok (.iconst 4, 1) := by decide +kernel
theorem dX6_type_83 : decode cX6_type 83 = .ok (.invokevirtual 75, 3) := by decide +kernel
theorem dX6_type_86 : decode cX6_type 86 = .ok (.ireturn, 1) := by decide +kernel
theorem dX6_type_87 : decode cX6_type 87 = .ok (.aload_n 0, 1) := by decide +kernel
theorem dX6_type_88 : decode cX6_type 88 = .ok (.aload_n 0, 1) := by decide +kernel
theorem dX6_type_89 : decode cX6_type 89 = .ok (.getfield 40, 3) := by decide +kernel
theorem dX6_type_92 : decode cX6_type 92 = .ok (.iload_n 1, 1) := by decide +kernel
theorem dX6_type_93 : decode cX6_type 93 = .ok (.iload_n 2, 1) := by decide +kernel
theorem dX6_type_94 : decode cX6_type 94 = .ok (.iload 4, 2) := by decide +kernel
theorem dX6_type_96 : decode cX6_type 96 = .ok (.aload_n 0, 1) := by decide +kernel
theorem dX6_type_97 : decode cX6_type 97 = .ok (.getfield 10, 3) := by decide +kernel
theorem dX6_type_100 : decode cX6_type 100 = .ok (.iload_n 3, 1) := by decide +kernel
theorem dX6_type_101 : decode cX6_type 101 = .ok (.invokevirtual 218, 3) := by decide +kernel
theorem dX6_type_104 : decode cX6_type 104 = .ok (.invokevirtual 104, 3) := by decide +kernel
theorem dX6_type_107 : decode cX6_type 107 = .ok (.ireturn, 1) := by decide +kernel
set_option maxRecDepth 20000 in
theorem ggX6_cheapest_X2_solve : GoodIn wsX6_cheapest wsX2_solve := goodIn_r _ [7, 8, 9, 10, 11, 12, 13, 14, 15, 16, 17, 18, 19, 20, 21, 22, 23, 24, 25, 26, 27, 28, 29, 30, 31, 32, 6, 33, 34, 35, 36, 37, 38, 39, 40, 41, 42, 43, 44, 45, 46, 47, 48, 49, 50, 51, 52, 53, 54, 55, 56, 74, 75, 76, 77, 78, 79, 80, 81, 82, 83, 84, 85] (by decide +kernel) (by decide +kernel)
set_option maxRecDepth 20000 in
theorem gX6_cheapest_X2_solve : GoodIn wsX6_cheapest (wsV RX6 222 RX2 yX2_solve wsX2_solve) := goodIn_app (goodIn_of _ (by decide +kernel)) ggX6_cheapest_X2_solve
set_option maxRecDepth 20000 in
theorem ggX6_cheapest_X2_isEnough : GoodIn wsX6_cheapest wsX2_isEnough := goodIn_r _ [47, 16, 12, 74, 75, 76, 77, 78, 79, 80, 81, 82, 83, 84, 85] (by decide +kernel) (by decide +kernel)
set_option maxRecDepth 20000 in
theorem gX6_cheapest_X2_isEnough : GoodIn wsX6_cheapest (wsV RX6 225 RX2 yX2_isEnough wsX2_isEnough) := goodIn_app (goodIn_of _ (by decide +kernel)) ggX6_cheapest_X2_isEnough
set_option maxRecDepth 20000 in
theorem ggX6_cheapest_X6_answer : GoodIn wsX6_cheapest wsX6_answer := goodIn_r _ [62, 63, 68, 69, 70, 71, 72, 73] (by decide +kernel) (by decide +kernel)
set_option maxRecDepth 20000 in
theorem gX6_cheapest_X6_answer : GoodIn wsX6_cheapest (wsV RX6 104 RX6 yX6_answer wsX6_answer) := goodIn_app (goodIn_of _ (by decide +kernel)) ggX6_cheapest_X6_answer
set_option maxRecDepth 20000 in
theorem ggX6_cheapest_X6_deny : GoodIn wsX6_cheapest wsX6_deny := goodIn_r _ [67, 63, 68, 69, 70, 71, 72, 73] (by decide +kernel) (by decide +kernel)
set_option maxRecDepth 20000 in
theorem gX6_cheapest_X6_deny : GoodIn wsX6_cheapest (wsV RX6 75 RX6 yX6_deny wsX6_deny) := goodIn_app (goodIn_of _ (by decide +kernel)) ggX6_cheapest_X6_deny
theorem dX6_cheapest_0 : decode cX6_cheapest 0 = .ok (.aload_n 0, 1) := by decide +kernel
theorem dX6_cheapest_1 : decode cX6_cheapest 1 = .ok (.getfield 40, 3) := by decide +kernel
theorem dX6_cheapest_4 : decode cX6_cheapest 4 = .ok (.invokevirtual 222, 3) := by decide +kernel
theorem dX6_cheapest_7 : decode cX6_cheapest 7 = .ok (.aload_n 0, 1) := by decide +kernel
theorem dX6_cheapest_8 : decode cX6_cheapest 8 = .ok (.getfield 40, 3) := by decide +kernel
theorem dX6_cheapest_11 : decode cX6_cheapest 11 = .ok (.invokevirtual 225, 3) := by decide +kernel
theorem dX6_cheapest_14 : decode cX6_cheapest 14 = .ok (.ifCond .eq 17, 3) := by decide +kernel
theorem dX6_cheapest_17 : decode cX6_cheapest 17 = .ok (.aload_n 0, 1) := by decide +kernel
theorem dX6_cheapest_18 : decode cX6_cheapest 18 = .ok (.aload_n 0, 1) := by decide +kernel
theorem dX6_cheapest_19 : decode cX6_cheapest 19 = .ok (.getfield 40, 3) := by decide +kernel
theorem dX6_cheapest_22 : decode cX6_cheapest 22 = .ok (.getfield 228, 3) := by decide +kernel
theorem dX6_cheapest_25 : decode cX6_cheapest 25 = .ok (.invokevirtual 104, 3) := by decide +kernel
theorem dX6_cheapest_28 : decode cX6_cheapest 28 = .ok (.goto 9, 3) := by decide +kernel
theorem dX6_cheapest_31 : decode cX6_cheapest 31 = .ok (.aload_n 0, 1) := by decide +kernel
theorem dX6_cheapest_32 : decode cX6_cheapest 32 = .ok (.bipush 7, 2) := by decide +kernel
theorem dX6_cheapest_34 : decode cX6_cheapest 34 = .ok (.invokevirtual 75, 3) := by decide +kernel
theorem dX6_cheapest_37 : decode cX6_cheapest 37 = .ok (.ireturn, 1) := by decide +kernel
set_option maxRecDepth 20000 in
theorem ggX6_buys_X6_isMonth : GoodIn wsX6_buys wsX6_isMonth := goodIn_r _ [6, 7, 8, 5, 9] (by decide +kernel) (by decide +kernel)
set_option maxRecDepth 20000 in
theorem gX6_buys_X6_isMonth : GoodIn wsX6_buys (va_wsS RX6 214 yX6_isMonth wsX6_isMonth) := goodIn_app (goodIn_of _ (by decide +kernel)) ggX6_buys_X6_isMonth
set_option maxRecDepth 20000 in
theorem ggX6_buys_X2_hasType : GoodIn wsX6_buys wsX2_hasType := goodIn_r _ [14, 15, 8, 5, 9, 84, 85, 86, 87, 88, 89, 90, 91, 92, 93, 94, 95] (by decide +kernel) (by decide +kernel)
set_option maxRecDepth 20000 in
theorem gX6_buys_X2_hasType : GoodIn wsX6_buys (wsV RX6 231 RX2 yX2_hasType wsX2_hasType) := goodIn_app (goodIn_of _ (by decide +kernel)) ggX6_buys_X2_hasType
set_option maxRecDepth 20000 in
theorem ggX6_buys_X6_deny : GoodIn wsX6_buys wsX6_deny := goodIn_r _ [19, 20, 78, 79, 80, 81, 82, 83] (by decide +kernel) (by decide +kernel)
set_option maxRecDepth 20000 in
theorem gX6_buys_X6_deny : GoodIn wsX6_buys (wsV RX6 75 RX6 yX6_deny wsX6_deny) := goodIn_app (goodIn_of _ (by decide +kernel)) ggX6_buys_X6_deny
set_option maxRecDepth 20000 in
theorem ggX6_buys_X2_solve : GoodIn wsX6_buys wsX2_solve := goodIn_r _ [24, 25, 26, 27, 28, 29, 15, 30, 31, 32, 33, 34, 35, 36, 37, 38, 39, 40, 41, 42, 43, 44, 45, 46, 47, 48, 13, 49, 50, 51, 52, 53, 54, 55, 56, 57, 58, 59, 60, 61, 62, 63, 64, 65, 66, 67, 68, 69, 70, 71, 72, 84, 85, 86, 87, 88, 89, 90, 91, 92, 93, 94, 95] (by decide +kernel) (by decide +kernel)
set_option maxRecDepth 20000 in
theorem gX6_buys_X2_solve : GoodIn wsX6_buys (wsV RX6 222 RX2 yX2_solve wsX2_solve) := goodIn_app (goodIn_of _ (by decide +kernel)) ggX6_buys_X2_solve
set_option maxRecDepth 20000 in
theorem ggX6_buys_X2_isEnough : GoodIn wsX6_buys wsX2_isEnough := goodIn_r _ [63, 32, 29, 84, 85, 86, 87, 88, 89, 90, 91, 92, 93, 94, 95] (by decide +kernel) (by decide +kernel)
set_option maxRecDepth 20000 in
theorem gX6_buys_X2_isEnough : GoodIn wsX6_buys (wsV RX6 225 RX2 yX2_isEnough wsX2_isEnough) := goodIn_app (goodIn_of _ (by decide +kernel)) ggX6_buys_X2_isEnough
set_option maxRecDepth 20000 in
theorem ggX6_buys_X6_answer : GoodIn wsX6_buys wsX6_answer := goodIn_r _ [77, 20, 78, 79, 80, 81, 82, 83] (by decide +kernel) (by decide +kernel)
set_option maxRecDepth 20000 in
theorem gX6_buys_X6_answer : GoodIn wsX6_buys (wsV RX6 104 RX6 yX6_answer wsX6_answer) := goodIn_app (goodIn_of _ (by decide +kernel)) ggX6_buys_X6_answer
theorem dX6_buys_0 : decode cX6_buys 0 = .ok (.iload_n 1, 1) := by decide +kernel
theorem dX6_buys_1 : decode cX6_buys 1 = .ok (.invokestatic 214, 3) := by decide +kernel
theorem dX6_buys_4 : decode cX6_buys 4 = .ok (.ifCond .eq 14, 3) := by decide +kernel
theorem dX6_buys_7 : decode cX6_buys 7 = .ok (.aload_n 0, 1) := by decide +kernel
theorem dX6_buys_8 : decode cX6_buys 8 = .ok (.getfield 40, 3) := by decide +kernel
theorem dX6_buys_11 : decode cX6_buys 11 = .ok (.iload_n 2, 1) := by decide +kernel
theorem dX6_buys_12 : decode cX6_buys 12 = .ok (.invokevirtual 231, 3) := by decide +kernel
theorem dX6_buys_15 : decode cX6_buys 15 = .ok (.ifCond .ne 9, 3) := by decide +kernel
theorem dX6_buys_18 : decode cX6_buys 18 = .ok (.aload_n 0, 1) := by decide +kernel
theorem dX6_buys_19 : decode cX6_buys 19 = .ok (.iconst 1, 1) := by decide +kernel
theorem dX6_buys_20 : decode cX6_buys 20 = .ok (.invokevirtual 75, 3) := by decide +kernel
theorem dX6_buys_23 : decode cX6_buys 23 = .ok (.ireturn, 1) := by decide +kernel
theorem dX6_buys_24 : decode cX6_buys 24 = .ok (.aload_n 0, 1) := by decide +kernel
theorem dX6_buys_25 : decode cX6_buys 25 = .ok (.getfield 40, 3) := by decide +kernel
theorem dX6_buys_28 : decode cX6_buys 28 = .ok (.invokevirtual 222, 3) := by decide +kernel
theorem dX6_buys_31 : decode cX6_buys 31 = .ok (.aload_n 0, 1) := by decide +kernel
theorem dX6_buys_32 : decode cX6_buys 32 = .ok (.getfield 40, 3) := by decide +kernel
theorem dX6_buys_35 : decode cX6_buys 35 = .ok (.invokevirtual 225, 3) := by decide +kernel
theorem dX6_buys_38 : decode cX6_buys 38 = .ok (.ifCond .eq 21, 3) := by decide +kernel
theorem dX6_buys_41 : decode cX6_buys 41 = .ok (.aload_n 0, 1) := by decide +kernel
theorem dX6_buys_42 : decode cX6_buys 42 = .ok (.aload_n 0, 1) := by decide +kernel
theorem dX6_buys_43 : decode cX6_buys 43 = .ok (.getfield 40, 3) := by decide +kernel
theorem dX6_buys_46 : decode cX6_buys 46 = .ok (.getfield 234, 3) := by decide +kernel
theorem dX6_buys_49 : decode cX6_buys 49 = .ok (.iload_n 1, 1) := by decide +kernel
theorem dX6_buys_50 : decode cX6_buys 50 = .ok (.aaload, 1) := by decide +kernel
theorem dX6_buys_51 : decode cX6_buys 51 = .ok (.iload_n 2, 1) := by decide +kernel
theorem dX6_buys_52 : decode cX6_buys 52 = .ok (.iaload, 1) := by decide +kernel
theorem dX6_buys_53 : decode cX6_buys 53 = .ok (.invokevirtual 104, 3) := by decide +kernel
theorem dX6_buys_56 : decode cX6_buys 56 = .ok (.goto 9, 3) := by decide +kernel
theorem dX6_buys_59 : decode cX6_buys 59 = .ok (.aload_n 0, 1) := by decide +kernel
theorem dX6_buys_60 : decode cX6_buys 60 = .ok (.bipush 7, 2) := by decide +kernel
theorem dX6_buys_62 : decode cX6_buys 62 = .ok (.invokevirtual 75, 3) := by decide +kernel
theorem dX6_buys_65 : decode cX6_buys 65 = .ok (.ireturn, 1) := by decide +kernel
theorem dX6_agree_0 : decode cX6_agree 0 = .ok (.aload_n 0, 1) := by decide +kernel
theorem dX6_agree_1 : decode cX6_agree 1 = .ok (.iconst 0, 1) := by decide +kernel
theorem dX6_agree_2 : decode cX6_agree 2 = .ok (.putfield 44, 3) := by decide +kernel
theorem dX6_agree_5 : decode cX6_agree 5 = .ok (.iconst 1, 1) := by decide +kernel
theorem dX6_agree_6 : decode cX6_agree 6 = .ok (.ireturn, 1) := by decide +kernel
theorem dX6_refuse_0 : decode cX6_refuse 0 = .ok (.aload_n 0, 1) := by decide +kernel
theorem dX6_refuse_1 : decode cX6_refuse 1 = .ok (.iload_n 1, 1) := by decide +kernel
theorem dX6_refuse_2 : decode cX6_refuse 2 = .ok (.putfield 44, 3) := by decide +kernel
theorem dX6_refuse_5 : decode cX6_refuse 5 = .ok (.iconst 0, 1) := by decide +kernel
theorem dX6_refuse_6 : decode cX6_refuse 6 = .ok (.ireturn, 1) := by decide +kernel
theorem dX6_answer_0 : decode cX6_answer 0 = .ok (.aload_n 0, 1) := by decide +kernel
theorem dX6_answer_1 : decode cX6_answer 1 = .ok (.iconst 0, 1) := by decide +kernel
theorem dX6_answer_2 : decode cX6_answer 2 = .ok (.putfield 44, 3) := by decide +kernel
theorem dX6_answer_5 : decode cX6_answer 5 = .ok (.iload_n 1, 1) := by decide +kernel
theorem dX6_answer_6 : decode cX6_answer 6 = .ok (.ireturn, 1) := by decide +kernel
theorem dX6_deny_0 : decode cX6_deny 0 = .ok (.aload_n 0, 1) := by decide +kernel
theorem dX6_deny_1 : decode cX6_deny 1 = .ok (.iload_n 1, 1) := by decide +kernel
theorem dX6_deny_2 : decode cX6_deny 2 = .ok (.putfield 44, 3) := by decide +kernel
theorem dX6_deny_5 : decode cX6_deny 5 = .ok (.iconst (-1), 1) := by decide +kernel
theorem dX6_deny_6 : decode cX6_deny 6 = .ok (.ireturn, 1) := by decide +kernel
set_option maxRecDepth 20000 in
theorem ggX6_isHour_X6_within : GoodIn wsX6_isHour wsX6_within := goodIn_r _ [4] (by decide +kernel) (by decide +kernel)
set_option maxRecDepth 20000 in
theorem gX6_isHour_X6_within : GoodIn wsX6_isHour (va_wsS RX6 52 yX6_within wsX6_within) := goodIn_app (goodIn_of _ (by decide +kernel)) ggX6_isHour_X6_within
theorem dX6_isHour_0 : decode cX6_isHour 0 = .ok (.iload_n 0, 1) := by decide +kernel
theorem dX6_isHour_1 : decode cX6_isHour 1 = .ok (.i2l, 1) := by decide +kernel
theorem dX6_isHour_2 : decode cX6_isHour 2 = .ok (.iconst 0, 1) := by decide +kernel
theorem dX6_isHour_3 : decode cX6_isHour 3 = .ok (.bipush 23, 2) := by decide +kernel
theorem dX6_isHour_5 : decode cX6_isHour 5 = .ok (.invokestatic 52, 3) := by decide +kernel
theorem dX6_isHour_8 : decode cX6_isHour 8 = .ok (.ireturn, 1) := by decide +kernel
set_option maxRecDepth 20000 in
theorem ggX6_isMonth_X6_within : GoodIn wsX6_isMonth wsX6_within := goodIn_r _ [4] (by decide +kernel) (by decide +kernel)
set_option maxRecDepth 20000 in
theorem gX6_isMonth_X6_within : GoodIn wsX6_isMonth (va_wsS RX6 52 yX6_within wsX6_within) := goodIn_app (goodIn_of _ (by decide +kernel)) ggX6_isMonth_X6_within
theorem dX6_isMonth_0 : decode cX6_isMonth 0 = .ok (.iload_n 0, 1) := by decide +kernel
theorem dX6_isMonth_1 : decode cX6_isMonth 1 = .ok (.i2l, 1) := by decide +kernel
theorem dX6_isMonth_2 : decode cX6_isMonth 2 = .ok (.iconst 0, 1) := by decide +kernel
theorem dX6_isMonth_3 : decode cX6_isMonth 3 = .ok (.bipush 11, 2) := by decide +kernel
theorem dX6_isMonth_5 : decode cX6_isMonth 5 = .ok (.invokestatic 52, 3) := by decide +kernel
theorem dX6_isMonth_8 : decode cX6_isMonth 8 = .ok (.ireturn, 1) := by decide +kernel
set_option maxRecDepth 20000 in
theorem ggX6_isLine_X4_isNumber : GoodIn wsX6_isLine wsX4_isNumber := goodIn_r _ [4, 5, 6, 7] (by decide +kernel) (by decide +kernel)
set_option maxRecDepth 20000 in
theorem gX6_isLine_X4_isNumber : GoodIn wsX6_isLine (va_wsS RX6 48 yX4_isNumber wsX4_isNumber) := goodIn_app (goodIn_of _ (by decide +kernel)) ggX6_isLine_X4_isNumber
set_option maxRecDepth 20000 in
theorem ggX6_isLine_X6_within : GoodIn wsX6_isLine wsX6_within := goodIn_r _ [7] (by decide +kernel) (by decide +kernel)
set_option maxRecDepth 20000 in
theorem gX6_isLine_X6_within : GoodIn wsX6_isLine (va_wsS RX6 52 yX6_within wsX6_within) := goodIn_app (goodIn_of _ (by decide +kernel)) ggX6_isLine_X6_within
theorem dX6_isLine_0 : decode cX6_isLine 0 = .ok (.iload_n 0, 1) := by decide +kernel
theorem dX6_isLine_1 : decode cX6_isLine 1 = .ok (.invokestatic 48, 3) := by decide +kernel
theorem dX6_isLine_4 : decode cX6_isLine 4 = .ok (.ifCond .eq 29, 3) := by decide +kernel
theorem dX6_isLine_7 : decode cX6_isLine 7 = .ok (.iload_n 1, 1) := by decide +kernel
theorem dX6_isLine_8 : decode cX6_isLine 8 = .ok (.i2l, 1) := by decide +kernel
theorem dX6_isLine_9 : decode cX6_isLine 9 = .ok (.iconst 1, 1) := by decide +kernel
theorem dX6_isLine_10 : decode cX6_isLine 10 = .ok (.bipush 64, 2) := by decide +kernel
theorem dX6_isLine_12 : decode cX6_isLine 12 = .ok (.invokestatic 52, 3) := by decide +kernel
theorem dX6_isLine_15 : decode cX6_isLine 15 = .ok (.ifCond .eq 18, 3) := by decide +kernel
theorem dX6_isLine_18 : decode cX6_isLine 18 = .ok (.iload_n 2, 1) := by decide +kernel
theorem dX6_isLine_19 : decode cX6_isLine 19 = .ok (.i2l, 1) := by decide +kernel
theorem dX6_isLine_20 : decode cX6_isLine 20 = .ok (.iconst 1, 1) := by decide +kernel
theorem dX6_isLine_21 : decode cX6_isLine 21 = .ok (.bipush 100, 2) := by decide +kernel
theorem dX6_isLine_23 : decode cX6_isLine 23 = .ok (.invokestatic 52, 3) := by decide +kernel
theorem dX6_isLine_26 : decode cX6_isLine 26 = .ok (.ifCond .eq 7, 3) := by decide +kernel
theorem dX6_isLine_29 : decode cX6_isLine 29 = .ok (.iconst 1, 1) := by decide +kernel
theorem dX6_isLine_30 : decode cX6_isLine 30 = .ok (.goto 4, 3) := by decide +kernel
theorem dX6_isLine_33 : decode cX6_isLine 33 = .ok (.iconst 0, 1) := by decide +kernel
theorem dX6_isLine_34 : decode cX6_isLine 34 = .ok (.ireturn, 1) := by decide +kernel
