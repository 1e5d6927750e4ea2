theorem dX0_init_0 : decode cX0_init 0 = .ok (.aload_n 0, 1) := by decide +kernel
theorem dX0_init_1 : decode cX0_init 1 = .ok (.invokespecial 3, 3) := by decide +kernel
theorem dX0_init_4 : decode cX0_init 4 = .ok (.aload_n 0, 1) := by decide +kernel
theorem dX0_init_5 : decode cX0_init 5 = .ok (.iload_n 1, 1) := by decide +kernel
theorem dX0_init_6 : decode cX0_init 6 = .ok (.putfield 9, 3) := by decide +kernel
theorem dX0_init_9 : decode cX0_init 9 = .ok (.aload_n 0, 1) := by decide +kernel
theorem dX0_init_10 : decode cX0_init 10 = .ok (.iload_n 1, 1) := by decide +kernel
theorem dX0_init_11 : decode cX0_init 11 = .ok (.iload_n 1, 1) := by decide +kernel
theorem dX0_init_12 : decode cX0_init 12 = .ok (.multianewarray 15 2, 4) := by decide +kernel
theorem dX0_init_16 : decode cX0_init 16 = .ok (.putfield 17, 3) := by decide +kernel
theorem dX0_init_19 : decode cX0_init 19 = .ok (.aload_n 0, 1) := by decide +kernel
theorem dX0_init_20 : decode cX0_init 20 = .ok (.iload_n 1, 1) := by decide +kernel
theorem dX0_init_21 : decode cX0_init 21 = .ok (.newarray .int, 2) := by decide +kernel
theorem dX0_init_23 : decode cX0_init 23 = .ok (.putfield 20, 3) := by decide +kernel
theorem dX0_init_26 : decode cX0_init 26 = .ok (.aload_n 0, 1) := by decide +kernel
theorem dX0_init_27 : decode cX0_init 27 = .ok (.iload_n 1, 1) := by decide +kernel
theorem dX0_init_28 : decode cX0_init 28 = .ok (.newarray .int, 2) := by decide +kernel
theorem dX0_init_30 : decode cX0_init 30 = .ok (.putfield 24, 3) := by decide +kernel
theorem dX0_init_33 : decode cX0_init 33 = .ok (.return_, 1) := by decide +kernel
set_option maxRecDepth 20000 in
theorem ggX0_empty_J7_fill_53178 : GoodIn wsX0_empty wsJ7_fill_53178 := goodIn_r _ [6] (by decide +kernel) (by decide +kernel)
set_option maxRecDepth 20000 in
theorem gX0_empty_J7_fill_53178 : GoodIn wsX0_empty (va_wsS RX0 27 yJ7_fill_53178 wsJ7_fill_53178) := goodIn_app (goodIn_of _ (by decide +kernel)) ggX0_empty_J7_fill_53178
theorem dX0_empty_0 : decode cX0_empty 0 = .ok (.iconst 0, 1) := by decide +kernel
theorem dX0_empty_1 : decode cX0_empty 1 = .ok (.istore_n 1, 1) := by decide +kernel
theorem dX0_empty_2 : decode cX0_empty 2 = .ok (.iload_n 1, 1) := by decide +kernel
theorem dX0_empty_3 : decode cX0_empty 3 = .ok (.aload_n 0, 1) := by decide +kernel
theorem dX0_empty_4 : decode cX0_empty 4 = .ok (.getfield 9, 3) := by decide +kernel
theorem dX0_empty_7 : decode cX0_empty 7 = .ok (.if_icmp .ge 19, 3) := by decide +kernel
theorem dX0_empty_10 : decode cX0_empty 10 = .ok (.aload_n 0, 1) := by decide +kernel
theorem dX0_empty_11 : decode cX0_empty 11 = .ok (.getfield 17, 3) := by decide +kernel
theorem dX0_empty_14 : decode cX0_empty 14 = .ok (.iload_n 1, 1) := by decide +kernel
theorem dX0_empty_15 : decode cX0_empty 15 = .ok (.aaload, 1) := by decide +kernel
theorem dX0_empty_16 : decode cX0_empty 16 = .ok (.iconst 0, 1) := by decide +kernel
theorem dX0_empty_17 : decode cX0_empty 17 = .ok (.invokestatic 27, 3) := by decide +kernel
theorem dX0_empty_20 : decode cX0_empty 20 = .ok (.iinc 1 1, 3) := by decide +kernel
theorem dX0_empty_23 : decode cX0_empty 23 = .ok (.goto (-21), 3) := by decide +kernel
theorem dX0_empty_26 : decode cX0_empty 26 = .ok (.return_, 1) := by decide +kernel
theorem dX0_pipe_0 : decode cX0_pipe 0 = .ok (.aload_n 0, 1) := by decide +kernel
theorem dX0_pipe_1 : decode cX0_pipe 1 = .ok (.getfield 17, 3) := by decide +kernel
theorem dX0_pipe_4 : decode cX0_pipe 4 = .ok (.iload_n 1, 1) := by decide +kernel
theorem dX0_pipe_5 : decode cX0_pipe 5 = .ok (.aaload, 1) := by decide +kernel
theorem dX0_pipe_6 : decode cX0_pipe 6 = .ok (.iload_n 2, 1) := by decide +kernel
theorem dX0_pipe_7 : decode cX0_pipe 7 = .ok (.iload_n 3, 1) := by decide +kernel
theorem dX0_pipe_8 : decode cX0_pipe 8 = .ok (.iastore, 1) := by decide +kernel
theorem dX0_pipe_9 : decode cX0_pipe 9 = .ok (.return_, 1) := by decide +kernel
set_option maxRecDepth 20000 in
theorem ggX0_push_X0_findWay : GoodIn wsX0_push wsX0_findWay := goodIn_r _ [6, 7, 8, 9, 10, 11, 12, 13, 14, 23, 24, 25, 26] (by decide +kernel) (by decide +kernel)
set_option maxRecDepth 20000 in
theorem gX0_push_X0_findWay : GoodIn wsX0_push (wsV RX0 34 RX0 yX0_findWay wsX0_findWay) := goodIn_app (goodIn_of _ (by decide +kernel)) ggX0_push_X0_findWay
set_option maxRecDepth 20000 in
theorem ggX0_push_X0_send : GoodIn wsX0_push wsX0_send := goodIn_r _ [18, 9, 10, 7, 19, 20, 21, 22, 23, 24, 25, 26] (by decide +kernel) (by decide +kernel)
set_option maxRecDepth 20000 in
theorem gX0_push_X0_send : GoodIn wsX0_push (wsV RX0 38 RX0 yX0_send wsX0_send) := goodIn_app (goodIn_of _ (by decide +kernel)) ggX0_push_X0_send
theorem dX0_push_0 : decode cX0_push 0 = .ok (.iconst 0, 1) := by decide +kernel
theorem dX0_push_1 : decode cX0_push 1 = .ok (.istore 4, 2) := by decide +kernel
theorem dX0_push_3 : decode cX0_push 3 = .ok (.iconst 0, 1) := by decide +kernel
theorem dX0_push_4 : decode cX0_push 4 = .ok (.istore 5, 2) := by decide +kernel
theorem dX0_push_6 : decode cX0_push 6 = .ok (.iload 5, 2) := by decide +kernel
theorem dX0_push_8 : decode cX0_push 8 = .ok (.ldc 33, 2) := by decide +kernel
theorem dX0_push_10 : decode cX0_push 10 = .ok (.if_icmp .ge 39, 3) := by decide +kernel
theorem dX0_push_13 : decode cX0_push 13 = .ok (.iload 4, 2) := by decide +kernel
theorem dX0_push_15 : decode cX0_push 15 = .ok (.iload_n 3, 1) := by decide +kernel
theorem dX0_push_16 : decode cX0_push 16 = .ok (.if_icmp .ge 33, 3) := by decide +kernel
theorem dX0_push_19 : decode cX0_push 19 = .ok (.aload_n 0, 1) := by decide +kernel
theorem dX0_push_20 : decode cX0_push 20 = .ok (.iload_n 1, 1) := by decide +kernel
theorem dX0_push_21 : decode cX0_push 21 = .ok (.iload_n 2, 1) := by decide +kernel
theorem dX0_push_22 : decode cX0_push 22 = .ok (.invokevirtual 34, 3) := by decide +kernel
theorem dX0_push_25 : decode cX0_push 25 = .ok (.ifCond .eq 24, 3) := by decide +kernel
theorem dX0_push_28 : decode cX0_push 28 = .ok (.iload 4, 2) := by decide +kernel
theorem dX0_push_30 : decode cX0_push 30 = .ok (.aload_n 0, 1) := by decide +kernel
theorem dX0_push_31 : decode cX0_push 31 = .ok (.iload_n 1, 1) := by decide +kernel
theorem dX0_push_32 : decode cX0_push 32 = .ok (.iload_n 2, 1) := by decide +kernel
theorem dX0_push_33 : decode cX0_push 33 = .ok (.iload_n 3, 1) := by decide +kernel
theorem dX0_push_34 : decode cX0_push 34 = .ok (.iload 4, 2) := by decide +kernel
theorem dX0_push_36 : decode cX0_push 36 = .ok (.isub, 1) := by decide +kernel
theorem dX0_push_37 : decode cX0_push 37 = .ok (.invokevirtual 38, 3) := by decide +kernel
theorem dX0_push_40 : decode cX0_push 40 = .ok (.iadd, 1) := by decide +kernel
theorem dX0_push_41 : decode cX0_push 41 = .ok (.istore 4, 2) := by decide +kernel
theorem dX0_push_43 : decode cX0_push 43 = .ok (.iinc 5 1, 3) := by decide +kernel
theorem dX0_push_46 : decode cX0_push 46 = .ok (.goto (-40), 3) := by decide +kernel
theorem dX0_push_49 : decode cX0_push 49 = .ok (.iload 4, 2) := by decide +kernel
theorem dX0_push_51 : decode cX0_push 51 = .ok (.ireturn, 1) := by decide +kernel
set_option maxRecDepth 20000 in
theorem ggX0_settle_X0_push : GoodIn wsX0_settle wsX0_push := goodIn_r _ [6, 7, 8, 9, 10, 5, 11, 12, 13, 14, 1, 15, 16, 17, 18, 19, 20, 21, 22, 23, 24, 25, 26, 27, 28, 29, 30] (by decide +kernel) (by decide +kernel)
set_option maxRecDepth 20000 in
theorem gX0_settle_X0_push : GoodIn wsX0_settle (wsV RX0 42 RX0 yX0_push wsX0_push) := goodIn_app (goodIn_of _ (by decide +kernel)) ggX0_settle_X0_push
theorem dX0_settle_0 : decode cX0_settle 0 = .ok (.aload_n 0, 1) := by decide +kernel
theorem dX0_settle_1 : decode cX0_settle 1 = .ok (.getfield 17, 3) := by decide +kernel
theorem dX0_settle_4 : decode cX0_settle 4 = .ok (.iload_n 1, 1) := by decide +kernel
theorem dX0_settle_5 : decode cX0_settle 5 = .ok (.aaload, 1) := by decide +kernel
theorem dX0_settle_6 : decode cX0_settle 6 = .ok (.iload_n 2, 1) := by decide +kernel
theorem dX0_settle_7 : decode cX0_settle 7 = .ok (.iaload, 1) := by decide +kernel
theorem dX0_settle_8 : decode cX0_settle 8 = .ok (.istore_n 3, 1) := by decide +kernel
theorem dX0_settle_9 : decode cX0_settle 9 = .ok (.aload_n 0, 1) := by decide +kernel
theorem dX0_settle_10 : decode cX0_settle 10 = .ok (.getfield 17, 3) := by decide +kernel
theorem dX0_settle_13 : decode cX0_settle 13 = .ok (.iload_n 2, 1) := by decide +kernel
theorem dX0_settle_14 : decode cX0_settle 14 = .ok (.aaload, 1) := by decide +kernel
theorem dX0_settle_15 : decode cX0_settle 15 = .ok (.iload_n 1, 1) := by decide +kernel
theorem dX0_settle_16 : decode cX0_settle 16 = .ok (.iaload, 1) := by decide +kernel
theorem dX0_settle_17 : decode cX0_settle 17 = .ok (.istore 4, 2) := by decide +kernel
theorem dX0_settle_19 : decode cX0_settle 19 = .ok (.aload_n 0, 1) := by decide +kernel
theorem dX0_settle_20 : decode cX0_settle 20 = .ok (.getfield 17, 3) := by decide +kernel
theorem dX0_settle_23 : decode cX0_settle 23 = .ok (.iload_n 1, 1) := by decide +kernel
theorem dX0_settle_24 : decode cX0_settle 24 = .ok (.aaload, 1) := by decide +kernel
theorem dX0_settle_25 : decode cX0_settle 25 = .ok (.iload_n 2, 1) := by decide +kernel
theorem dX0_settle_26 : decode cX0_settle 26 = .ok (.iconst 0, 1) := by decide +kernel
theorem dX0_settle_27 : decode cX0_settle 27 = .ok (.iastore, 1) := by decide +kernel
theorem dX0_settle_28 : decode cX0_settle 28 = .ok (.aload_n 0, 1) := by decide +kernel
theorem dX0_settle_29 : decode cX0_settle 29 = .ok (.getfield 17, 3) := by decide +kernel
theorem dX0_settle_32 : decode cX0_settle 32 = .ok (.iload_n 2, 1) := by decide +kernel
theorem dX0_settle_33 : decode cX0_settle 33 = .ok (.aaload, 1) := by decide +kernel
theorem dX0_settle_34 : decode cX0_settle 34 = .ok (.iload_n 1, 1) := by decide +kernel
theorem dX0_settle_35 : decode cX0_settle 35 = .ok (.iconst 0, 1) := by decide +kernel
theorem dX0_settle_36 : decode cX0_settle 36 = .ok (.iastore, 1) := by decide +kernel
theorem dX0_settle_37 : decode cX0_settle 37 = .ok (.iload 4, 2) := by decide +kernel
theorem dX0_settle_39 : decode cX0_settle 39 = .ok (.aload_n 0, 1) := by decide +kernel
theorem dX0_settle_40 : decode cX0_settle 40 = .ok (.iload_n 2, 1) := by decide +kernel
theorem dX0_settle_41 : decode cX0_settle 41 = .ok (.iload_n 1, 1) := by decide +kernel
theorem dX0_settle_42 : decode cX0_settle 42 = .ok (.iload_n 3, 1) := by decide +kernel
theorem dX0_settle_43 : decode cX0_settle 43 = .ok (.invokevirtual 42, 3) := by decide +kernel
theorem dX0_settle_46 : decode cX0_settle 46 = .ok (.iadd, 1) := by decide +kernel
theorem dX0_settle_47 : decode cX0_settle 47 = .ok (.ireturn, 1) := by decide +kernel
set_option maxRecDepth 20000 in
theorem ggX0_findWay_J7_fill_53178 : GoodIn wsX0_findWay wsJ7_fill_53178 := goodIn_r _ [8] (by decide +kernel) (by decide +kernel)
set_option maxRecDepth 20000 in
theorem gX0_findWay_J7_fill_53178 : GoodIn wsX0_findWay (va_wsS RX0 27 yJ7_fill_53178 wsJ7_fill_53178) := goodIn_app (goodIn_of _ (by decide +kernel)) ggX0_findWay_J7_fill_53178
theorem dX0_findWay_0 : decode cX0_findWay 0 = .ok (.aload_n 0, 1) := by decide +kernel
theorem dX0_findWay_1 : decode cX0_findWay 1 = .ok (.getfield 20, 3) := by decide +kernel
theorem dX0_findWay_4 : decode cX0_findWay 4 = .ok (.iconst (-1), 1) := by decide +kernel
theorem dX0_findWay_5 : decode cX0_findWay 5 = .ok (.invokestatic 27, 3) := by decide +kernel
theorem dX0_findWay_8 : decode cX0_findWay 8 = .ok (.aload_n 0, 1) := by decide +kernel
theorem dX0_findWay_9 : decode cX0_findWay 9 = .ok (.getfield 20, 3) := by decide +kernel
theorem dX0_findWay_12 : decode cX0_findWay 12 = .ok (.iload_n 1, 1) := by decide +kernel
theorem dX0_findWay_13 : decode cX0_findWay 13 = .ok (.iload_n 1, 1) := by decide +kernel
theorem dX0_findWay_14 : decode cX0_findWay 14 = .ok (.iastore, 1) := by decide +kernel
theorem dX0_findWay_15 : decode cX0_findWay 15 = .ok (.aload_n 0, 1) := by decide +kernel
theorem dX0_findWay_16 : decode cX0_findWay 16 = .ok (.getfield 24, 3) := by decide +kernel
theorem dX0_findWay_19 : decode cX0_findWay 19 = .ok (.iconst 0, 1) := by decide +kernel
theorem dX0_findWay_20 : decode cX0_findWay 20 = .ok (.iload_n 1, 1) := by decide +kernel
theorem dX0_findWay_21 : decode cX0_findWay 21 = .ok (.iastore, 1) := by decide +kernel
theorem dX0_findWay_22 : decode cX0_findWay 22 = .ok (.iconst 1, 1) := by decide +kernel
theorem dX0_findWay_23 : decode cX0_findWay 23 = .ok (.istore_n 3, 1) := by decide +kernel
theorem dX0_findWay_24 : decode cX0_findWay 24 = .ok (.iconst 0, 1) := by decide +kernel
theorem dX0_findWay_25 : decode cX0_findWay 25 = .ok (.istore 4, 2) := by decide +kernel
theorem dX0_findWay_27 : decode cX0_findWay 27 = .ok (.iload 4, 2) := by decide +kernel
theorem dX0_findWay_29 : decode cX0_findWay 29 = .ok (.iload_n 3, 1) := by decide +kernel
theorem dX0_findWay_30 : decode cX0_findWay 30 = .ok (.if_icmp .ge 101, 3) := by decide +kernel
theorem dX0_findWay_33 : decode cX0_findWay 33 = .ok (.iload 4, 2) := by decide +kernel
theorem dX0_findWay_35 : decode cX0_findWay 35 = .ok (.aload_n 0, 1) := by decide +kernel
theorem dX0_findWay_36 : decode cX0_findWay 36 = .ok (.getfield 9, 3) := by decide +kernel
theorem dX0_findWay_39 : decode cX0_findWay 39 = .ok (.if_icmp .ge 92, 3) := by decide +kernel
theorem dX0_findWay_42 : decode cX0_findWay 42 = .ok (.aload_n 0, 1) := by decide +kernel
theorem dX0_findWay_43 : decode cX0_findWay 43 = .ok (.getfield 24, 3) := by decide +kernel
theorem dX0_findWay_46 : decode cX0_findWay 46 = .ok (.iload 4, 2) := by decide +kernel
theorem dX0_findWay_48 : decode cX0_findWay 48 = .ok (.iaload, 1) := by decide +kernel
theorem dX0_findWay_49 : decode cX0_findWay 49 = .ok (.istore 5, 2) := by decide +kernel
theorem dX0_findWay_51 : decode cX0_findWay 51 = .ok (.iconst 0, 1) := by decide +kernel
theorem dX0_findWay_52 : decode cX0_findWay 52 = .ok (.istore 6, 2) := by decide +kernel
theorem dX0_findWay_54 : decode cX0_findWay 54 = .ok (.iload 6, 2) := by decide +kernel
theorem dX0_findWay_56 : decode cX0_findWay 56 = .ok (.aload_n 0, 1) := by decide +kernel
theorem dX0_findWay_57 : decode cX0_findWay 57 = .ok (.getfield 9, 3) := by decide +kernel
theorem dX0_findWay_60 : decode cX0_findWay 60 = .ok (.if_icmp .ge 53, 3) := by decide +kernel
theorem dX0_findWay_63 : decode cX0_findWay 63 = .ok (.aload_n 0, 1) := by decide +kernel
theorem dX0_findWay_64 : decode cX0_findWay 64 = .ok (.getfield 17, 3) := by decide +kernel
theorem dX0_findWay_67 : decode cX0_findWay 67 = .ok (.iload 5, 2) := by decide +kernel
theorem dX0_findWay_69 : decode cX0_findWay 69 = .ok (.aaload, 1) := by decide +kernel
theorem dX0_findWay_70 : decode cX0_findWay 70 = .ok (.iload 6, 2) := by decide +kernel
theorem dX0_findWay_72 : decode cX0_findWay 72 = .ok (.iaload, 1) := by decide +kernel
theorem dX0_findWay_73 : decode cX0_findWay 73 = .ok (.ifCond .le 34, 3) := by decide +kernel
theorem dX0_findWay_76 : decode cX0_findWay 76 = .ok (.aload_n 0, 1) := by decide +kernel
theorem dX0_findWay_77 : decode cX0_findWay 77 = .ok (.getfield 20, 3) := by decide +kernel
theorem dX0_findWay_80 : decode cX0_findWay 80 = .ok (.iload 6, 2) := by decide +kernel
theorem dX0_findWay_82 : decode cX0_findWay 82 = .ok (.iaload, 1) := by decide +kernel
theorem dX0_findWay_83 : decode cX0_findWay 83 = .ok (.iconst (-1), 1) := by decide +kernel
theorem dX0_findWay_84 : decode cX0_findWay 84 = .ok (.if_icmp .ne 23, 3) := by decide +kernel
theorem dX0_findWay_87 : decode cX0_findWay 87 = .ok (.aload_n 0, 1) := by decide +kernel
theorem dX0_findWay_88 : decode cX0_findWay 88 = .ok (.getfield 20, 3) := by decide +kernel
theorem dX0_findWay_91 : decode cX0_findWay 91 = .ok (.iload 6, 2) := by decide +kernel
theorem dX0_findWay_93 : decode cX0_findWay 93 = .ok (.iload 5, 2) := by decide +kernel
theorem dX0_findWay_95 : decode cX0_findWay 95 = .ok (.iastore, 1) := by decide +kernel
theorem dX0_findWay_96 : decode cX0_findWay 96 = .ok (.aload_n 0, 1) := by decide +kernel
theorem dX0_findWay_97 : decode cX0_findWay 97 = .ok (.getfield 24, 3) := by decide +kernel
theorem dX0_findWay_100 : decode cX0_findWay 100 = .ok (.iload_n 3, 1) := by decide +kernel
theorem dX0_findWay_101 : decode cX0_findWay 101 = .ok (.iinc 3 1, 3) := by decide +kernel
theorem dX0_findWay_104 : decode cX0_findWay 104 = .ok (.iload 6, 2) := by decide +kernel
theorem dX0_findWay_106 : decode cX0_findWay 106 = .ok (.iastore, 1) := by decide +kernel
theorem dX0_findWay_107 : decode cX0_findWay 107 = .ok (.iinc 6 1, 3) := by decide +kernel
theorem dX0_findWay_110 : decode cX0_findWay 110 = .ok (.goto (-56), 3) := by decide +kernel
theorem dX0_findWay_113 : decode cX0_findWay 113 = .ok (.aload_n 0, 1) := by decide +kernel
theorem dX0_findWay_114 : decode cX0_findWay 114 = .ok (.getfield 20, 3) := by decide +kernel
theorem dX0_findWay_117 : decode cX0_findWay 117 = .ok (.iload_n 2, 1) := by decide +kernel
theorem dX0_findWay_118 : decode cX0_findWay 118 = .ok (.iaload, 1) := by decide +kernel
theorem dX0_findWay_119 : decode cX0_findWay 119 = .ok (.iconst (-1), 1) := by decide +kernel
theorem dX0_findWay_120 : decode cX0_findWay 120 = .ok (.if_icmp .eq 5, 3) := by decide +kernel
theorem dX0_findWay_123 : decode cX0_findWay 123 = .ok (.iconst 1, 1) := by decide +kernel
theorem dX0_findWay_124 : decode cX0_findWay 124 = .ok (.ireturn, 1) := by decide +kernel
theorem dX0_findWay_125 : decode cX0_findWay 125 = .ok (.iinc 4 1, 3) := by decide +kernel
theorem dX0_findWay_128 : decode cX0_findWay 128 = .ok (.goto (-101), 3) := by decide +kernel
theorem dX0_findWay_131 : decode cX0_findWay 131 = .ok (.iconst 0, 1) := by decide +kernel
theorem dX0_findWay_132 : decode cX0_findWay 132 = .ok (.ireturn, 1) := by decide +kernel
theorem dX0_send_0 : decode cX0_send 0 = .ok (.iload_n 3, 1) := by decide +kernel
theorem dX0_send_1 : decode cX0_send 1 = .ok (.istore 4, 2) := by decide +kernel
theorem dX0_send_3 : decode cX0_send 3 = .ok (.iload_n 2, 1) := by decide +kernel
theorem dX0_send_4 : decode cX0_send 4 = .ok (.istore 5, 2) := by decide +kernel
theorem dX0_send_6 : decode cX0_send 6 = .ok (.iconst 0, 1) := by decide +kernel
theorem dX0_send_7 : decode cX0_send 7 = .ok (.istore 6, 2) := by decide +kernel
theorem dX0_send_9 : decode cX0_send 9 = .ok (.iload 6, 2) := by decide +kernel
theorem dX0_send_11 : decode cX0_send 11 = .ok (.aload_n 0, 1) := by decide +kernel
theorem dX0_send_12 : decode cX0_send 12 = .ok (.getfield 9, 3) := by decide +kernel
theorem dX0_send_15 : decode cX0_send 15 = .ok (.if_icmp .ge 46, 3) := by decide +kernel
theorem dX0_send_18 : decode cX0_send 18 = .ok (.iload 5, 2) := by decide +kernel
theorem dX0_send_20 : decode cX0_send 20 = .ok (.iload_n 1, 1) := by decide +kernel
theorem dX0_send_21 : decode cX0_send 21 = .ok (.if_icmp .eq 40, 3) := by decide +kernel
theorem dX0_send_24 : decode cX0_send 24 = .ok (.iload 4, 2) := by decide +kernel
theorem dX0_send_26 : decode cX0_send 26 = .ok (.aload_n 0, 1) := by decide +kernel
theorem dX0_send_27 : decode cX0_send 27 = .ok (.getfield 17, 3) := by decide +kernel
theorem dX0_send_30 : decode cX0_send 30 = .ok (.aload_n 0, 1) := by decide +kernel
theorem dX0_send_31 : decode cX0_send 31 = .ok (.getfield 20, 3) := by decide +kernel
theorem dX0_send_34 : decode cX0_send 34 = .ok (.iload 5, 2) := by decide +kernel
theorem dX0_send_36 : decode cX0_send 36 = .ok (.iaload, 1) := by decide +kernel
theorem dX0_send_37 : decode cX0_send 37 = .ok (.aaload, 1) := by decide +kernel
theorem dX0_send_38 : decode cX0_send 38 = .ok (.iload 5, 2) := by decide +kernel
theorem dX0_send_40 : decode cX0_send 40 = .ok (.iaload, 1) := by decide +kernel
theorem dX0_send_41 : decode cX0_send 41 = .ok (.invokestatic 45, 3) := by decide +kernel
theorem dX0_send_44 : decode cX0_send 44 = .ok (.istore 4, 2) := by decide +kernel
theorem dX0_send_46 : decode cX0_send 46 = .ok (.aload_n 0, 1) := by decide +kernel
theorem dX0_send_47 : decode cX0_send 47 = .ok (.getfield 20, 3) := by decide +kernel
theorem dX0_send_50 : decode cX0_send 50 = .ok (.iload 5, 2) := by decide +kernel
theorem dX0_send_52 : decode cX0_send 52 = .ok (.iaload, 1) := by decide +kernel
theorem dX0_send_53 : decode cX0_send 53 = .ok (.istore 5, 2) := by decide +kernel
theorem dX0_send_55 : decode cX0_send 55 = .ok (.iinc 6 1, 3) := by decide +kernel
theorem dX0_send_58 : decode cX0_send 58 = .ok (.goto (-49), 3) := by decide +kernel
theorem dX0_send_61 : decode cX0_send 61 = .ok (.iload_n 2, 1) := by decide +kernel
theorem dX0_send_62 : decode cX0_send 62 = .ok (.istore 5, 2) := by decide +kernel
theorem dX0_send_64 : decode cX0_send 64 = .ok (.iconst 0, 1) := by decide +kernel
theorem dX0_send_65 : decode cX0_send 65 = .ok (.istore 6, 2) := by decide +kernel
theorem dX0_send_67 : decode cX0_send 67 = .ok (.iload 6, 2) := by decide +kernel
theorem dX0_send_69 : decode cX0_send 69 = .ok (.aload_n 0, 1) := by decide +kernel
theorem dX0_send_70 : decode cX0_send 70 = .ok (.getfield 9, 3) := by decide +kernel
theorem dX0_send_73 : decode cX0_send 73 = .ok (.if_icmp .ge 64, 3) := by decide +kernel
theorem dX0_send_76 : decode cX0_send 76 = .ok (.iload 5, 2) := by decide +kernel
theorem dX0_send_78 : decode cX0_send 78 = .ok (.iload_n 1, 1) := by decide +kernel
theorem dX0_send_79 : decode cX0_send 79 = .ok (.if_icmp .eq 58, 3) := by decide +kernel
theorem dX0_send_82 : decode cX0_send 82 = .ok (.aload_n 0, 1) := by decide +kernel
theorem dX0_send_83 : decode cX0_send 83 = .ok (.getfield 17, 3) := by decide +kernel
theorem dX0_send_86 : decode cX0_send 86 = .ok (.aload_n 0, 1) := by decide +kernel
theorem dX0_send_87 : decode cX0_send 87 = .ok (.getfield 20, 3) := by decide +kernel
theorem dX0_send_90 : decode cX0_send 90 = .ok (.iload 5, 2) := by decide +kernel
theorem dX0_send_92 : decode cX0_send 92 = .ok (.iaload, 1) := by decide +kernel
theorem dX0_send_93 : decode cX0_send 93 = .ok (.aaload, 1) := by decide +kernel
theorem dX0_send_94 : decode cX0_send 94 = .ok (.iload 5, 2) := by decide +kernel
theorem dX0_send_96 : decode cX0_send 96 = .ok (.dup2, 1) := by decide +kernel
theorem dX0_send_97 : decode cX0_send 97 = .ok (.iaload, 1) := by decide +kernel
theorem dX0_send_98 : decode cX0_send 98 = .ok (.iload 4, 2) := by decide +kernel
theorem dX0_send_100 : decode cX0_send 100 = .ok (.isub, 1) := by decide +kernel
theorem dX0_send_101 : decode cX0_send 101 = .ok (.iastore, 1) := by decide +kernel
theorem dX0_send_102 : decode cX0_send 102 = .ok (.aload_n 0, 1) := by decide +kernel
theorem dX0_send_103 : decode cX0_send 103 = .ok (.getfield 17, 3) := by decide +kernel
theorem dX0_send_106 : decode cX0_send 106 = .ok (.iload 5, 2) := by decide +kernel
theorem dX0_send_108 : decode cX0_send 108 = .ok (.aaload, 1) := by decide +kernel
theorem dX0_send_109 : decode cX0_send 109 = .ok (.aload_n 0, 1) := by decide +kernel
theorem dX0_send_110 : decode cX0_send 110 = .ok (.getfield 20, 3) := by decide +kernel
theorem dX0_send_113 : decode cX0_send 113 = .ok (.iload 5, 2) := by decide +kernel
theorem dX0_send_115 : decode cX0_send 115 = .ok (.iaload, 1) := by decide +kernel
theorem dX0_send_116 : decode cX0_send 116 = .ok (.dup2, 1) := by decide +kernel
theorem dX0_send_117 : decode cX0_send 117 = .ok (.iaload, 1) := by decide +kernel
theorem dX0_send_118 : decode cX0_send 118 = .ok (.iload 4, 2) := by decide +kernel
theorem dX0_send_120 : decode cX0_send 120 = .ok (.iadd, 1) := by decide +kernel
theorem dX0_send_121 : decode cX0_send 121 = .ok (.iastore, 1) := by decide +kernel
theorem dX0_send_122 : decode cX0_send 122 = .ok (.aload_n 0, 1) := by decide +kernel
theorem dX0_send_123 : decode cX0_send 123 = .ok (.getfield 20, 3) := by decide +kernel
theorem dX0_send_126 : decode cX0_send 126 = .ok (.iload 5, 2) := by decide +kernel
theorem dX0_send_128 : decode cX0_send 128 = .ok (.iaload, 1) := by decide +kernel
theorem dX0_send_129 : decode cX0_send 129 = .ok (.istore 5, 2) := by decide +kernel
theorem dX0_send_131 : decode cX0_send 131 = .ok (.iinc 6 1, 3) := by decide +kernel
theorem dX0_send_134 : decode cX0_send 134 = .ok (.goto (-67), 3) := by decide +kernel
theorem dX0_send_137 : decode cX0_send 137 = .ok (.iload 4, 2) := by decide +kernel
theorem dX0_send_139 : decode cX0_send 139 = .ok (.ireturn, 1) := by decide +kernel
theorem dX1_init_0 : decode cX1_init 0 = .ok (.aload_n 0, 1) := by decide +kernel
theorem dX1_init_1 : decode cX1_init 1 = .ok (.invokespecial 5, 3) := by decide +kernel
theorem dX1_init_4 : decode cX1_init 4 = .ok (.aload_n 0, 1) := by decide +kernel
theorem dX1_init_5 : decode cX1_init 5 = .ok (.bipush 12, 2) := by decide +kernel
theorem dX1_init_7 : decode cX1_init 7 = .ok (.newarray .int, 2) := by decide +kernel
theorem dX1_init_9 : decode cX1_init 9 = .ok (.putfield 11, 3) := by decide +kernel
theorem dX1_init_12 : decode cX1_init 12 = .ok (.aload_n 0, 1) := by decide +kernel
theorem dX1_init_13 : decode cX1_init 13 = .ok (.iconst 4, 1) := by decide +kernel
theorem dX1_init_14 : decode cX1_init 14 = .ok (.newarray .int, 2) := by decide +kernel
theorem dX1_init_16 : decode cX1_init 16 = .ok (.putfield 15, 3) := by decide +kernel
theorem dX1_init_19 : decode cX1_init 19 = .ok (.aload_n 0, 1) := by decide +kernel
theorem dX1_init_20 : decode cX1_init 20 = .ok (.bipush 10, 2) := by decide +kernel
theorem dX1_init_22 : decode cX1_init 22 = .ok (.newarray .int, 2) := by decide +kernel
theorem dX1_init_24 : decode cX1_init 24 = .ok (.putfield 18, 3) := by decide +kernel
theorem dX1_init_27 : decode cX1_init 27 = .ok (.aload_n 0, 1) := by decide +kernel
theorem dX1_init_28 : decode cX1_init 28 = .ok (.bipush 10, 2) := by decide +kernel
theorem dX1_init_30 : decode cX1_init 30 = .ok (.newarray .int, 2) := by decide +kernel
theorem dX1_init_32 : decode cX1_init 32 = .ok (.putfield 21, 3) := by decide +kernel
theorem dX1_init_35 : decode cX1_init 35 = .ok (.aload_n 0, 1) := by decide +kernel
theorem dX1_init_36 : decode cX1_init 36 = .ok (.bipush 24, 2) := by decide +kernel
theorem dX1_init_38 : decode cX1_init 38 = .ok (.newarray .int, 2) := by decide +kernel
theorem dX1_init_40 : decode cX1_init 40 = .ok (.putfield 24, 3) := by decide +kernel
theorem dX1_init_43 : decode cX1_init 43 = .ok (.aload_n 0, 1) := by decide +kernel
theorem dX1_init_44 : decode cX1_init 44 = .ok (.sipush 1024, 3) := by decide +kernel
theorem dX1_init_47 : decode cX1_init 47 = .ok (.newarray .int, 2) := by decide +kernel
theorem dX1_init_49 : decode cX1_init 49 = .ok (.putfield 27, 3) := by decide +kernel
theorem dX1_init_52 : decode cX1_init 52 = .ok (.aload_n 0, 1) := by decide +kernel
theorem dX1_init_53 : decode cX1_init 53 = .ok (.sipush 1024, 3) := by decide +kernel
theorem dX1_init_56 : decode cX1_init 56 = .ok (.newarray .boolean, 2) := by decide +kernel
theorem dX1_init_58 : decode cX1_init 58 = .ok (.putfield 30, 3) := by decide +kernel
theorem dX1_init_61 : decode cX1_init 61 = .ok (.aload_n 0, 1) := by decide +kernel
theorem dX1_init_62 : decode cX1_init 62 = .ok (.sipush 1024, 3) := by decide +kernel
theorem dX1_init_65 : decode cX1_init 65 = .ok (.newarray .boolean, 2) := by decide +kernel
theorem dX1_init_67 : decode cX1_init 67 = .ok (.putfield 34, 3) := by decide +kernel
theorem dX1_init_70 : decode cX1_init 70 = .ok (.aload_n 0, 1) := by decide +kernel
theorem dX1_init_71 : decode cX1_init 71 = .ok (.sipush 1024, 3) := by decide +kernel
theorem dX1_init_74 : decode cX1_init 74 = .ok (.newarray .int, 2) := by decide +kernel
theorem dX1_init_76 : decode cX1_init 76 = .ok (.putfield 37, 3) := by decide +kernel
theorem dX1_init_79 : decode cX1_init 79 = .ok (.aload_n 0, 1) := by decide +kernel
theorem dX1_init_80 : decode cX1_init 80 = .ok (.iconst (-1), 1) := by decide +kernel
theorem dX1_init_81 : decode cX1_init 81 = .ok (.putfield 40, 3) := by decide +kernel
theorem dX1_init_84 : decode cX1_init 84 = .ok (.return_, 1) := by decide +kernel
set_option maxRecDepth 20000 in
theorem ggX1_isFall_X6_within : GoodIn wsX1_isFall wsX6_within := goodIn_r _ [3] (by decide +kernel) (by decide +kernel)
set_option maxRecDepth 20000 in
theorem gX1_isFall_X6_within_n44 : GoodIn wsX1_isFall (wsX6_within) := ggX1_isFall_X6_within
theorem dX1_isFall_0 : decode cX1_isFall 0 = .ok (.iload_n 0, 1) := by decide +kernel
theorem dX1_isFall_1 : decode cX1_isFall 1 = .ok (.i2l, 1) := by decide +kernel
theorem dX1_isFall_2 : decode cX1_isFall 2 = .ok (.iconst 0, 1) := by decide +kernel
theorem dX1_isFall_3 : decode cX1_isFall 3 = .ok (.bipush 16, 2) := by decide +kernel
theorem dX1_isFall_5 : decode cX1_isFall 5 = .ok (.invokestatic 44, 3) := by decide +kernel
theorem dX1_isFall_8 : decode cX1_isFall 8 = .ok (.ireturn, 1) := by decide +kernel
set_option maxRecDepth 20000 in
theorem ggX1_hasMachine_X6_within : GoodIn wsX1_hasMachine wsX6_within := goodIn_r _ [4] (by decide +kernel) (by decide +kernel)
set_option maxRecDepth 20000 in
theorem gX1_hasMachine_X6_within_n44 : GoodIn wsX1_hasMachine (wsX6_within) := ggX1_hasMachine_X6_within
theorem dX1_hasMachine_0 : decode cX1_hasMachine 0 = .ok (.iload_n 1, 1) := by decide +kernel
theorem dX1_hasMachine_1 : decode cX1_hasMachine 1 = .ok (.i2l, 1) := by decide +kernel
theorem dX1_hasMachine_2 : decode cX1_hasMachine 2 = .ok (.iconst 0, 1) := by decide +kernel
theorem dX1_hasMachine_3 : decode cX1_hasMachine 3 = .ok (.aload_n 0, 1) := by decide +kernel
theorem dX1_hasMachine_4 : decode cX1_hasMachine 4 = .ok (.getfield 48, 3) := by decide +kernel
theorem dX1_hasMachine_7 : decode cX1_hasMachine 7 = .ok (.iconst 1, 1) := by decide +kernel
theorem dX1_hasMachine_8 : decode cX1_hasMachine 8 = .ok (.isub, 1) := by decide +kernel
theorem dX1_hasMachine_9 : decode cX1_hasMachine 9 = .ok (.invokestatic 44, 3) := by decide +kernel
theorem dX1_hasMachine_12 : decode cX1_hasMachine 12 = .ok (.ireturn, 1) := by decide +kernel
set_option maxRecDepth 20000 in
theorem ggX1_hasAsk_X6_within : GoodIn wsX1_hasAsk wsX6_within := goodIn_r _ [4] (by decide +kernel) (by decide +kernel)
set_option maxRecDepth 20000 in
theorem gX1_hasAsk_X6_within_n44 : GoodIn wsX1_hasAsk (wsX6_within) := ggX1_hasAsk_X6_within
theorem dX1_hasAsk_0 : decode cX1_hasAsk 0 = .ok (.iload_n 1, 1) := by decide +kernel
theorem dX1_hasAsk_1 : decode cX1_hasAsk 1 = .ok (.i2l, 1) := by decide +kernel
theorem dX1_hasAsk_2 : decode cX1_hasAsk 2 = .ok (.iconst 0, 1) := by decide +kernel
theorem dX1_hasAsk_3 : decode cX1_hasAsk 3 = .ok (.aload_n 0, 1) := by decide +kernel
theorem dX1_hasAsk_4 : decode cX1_hasAsk 4 = .ok (.getfield 51, 3) := by decide +kernel
theorem dX1_hasAsk_7 : decode cX1_hasAsk 7 = .ok (.iconst 1, 1) := by decide +kernel
theorem dX1_hasAsk_8 : decode cX1_hasAsk 8 = .ok (.isub, 1) := by decide +kernel
theorem dX1_hasAsk_9 : decode cX1_hasAsk 9 = .ok (.invokestatic 44, 3) := by decide +kernel
theorem dX1_hasAsk_12 : decode cX1_hasAsk 12 = .ok (.ireturn, 1) := by decide +kernel
set_option maxRecDepth 20000 in
theorem ggX1_isUp_X1_has : GoodIn wsX1_isUp wsX1_has := goodIn_r _ [5] (by decide +kernel) (by decide +kernel)
set_option maxRecDepth 20000 in
theorem gX1_isUp_X1_has : GoodIn wsX1_isUp (va_wsS RX1 57 yX1_has wsX1_has) := goodIn_app (goodIn_of _ (by decide +kernel)) ggX1_isUp_X1_has
theorem dX1_isUp_0 : decode cX1_isUp 0 = .ok (.aload_n 0, 1) := by decide +kernel
theorem dX1_isUp_1 : decode cX1_isUp 1 = .ok (.getfield 54, 3) := by decide +kernel
theorem dX1_isUp_4 : decode cX1_isUp 4 = .ok (.iload_n 1, 1) := by decide +kernel
theorem dX1_isUp_5 : decode cX1_isUp 5 = .ok (.invokestatic 57, 3) := by decide +kernel
theorem dX1_isUp_8 : decode cX1_isUp 8 = .ok (.ireturn, 1) := by decide +kernel
set_option maxRecDepth 20000 in
theorem ggX1_isAskOf_X1_has : GoodIn wsX1_isAskOf wsX1_has := goodIn_r _ [5] (by decide +kernel) (by decide +kernel)
set_option maxRecDepth 20000 in
theorem gX1_isAskOf_X1_has : GoodIn wsX1_isAskOf (va_wsS RX1 57 yX1_has wsX1_has) := goodIn_app (goodIn_of _ (by decide +kernel)) ggX1_isAskOf_X1_has
theorem dX1_isAskOf_0 : decode cX1_isAskOf 0 = .ok (.aload_n 0, 1) := by decide +kernel
theorem dX1_isAskOf_1 : decode cX1_isAskOf 1 = .ok (.getfield 24, 3) := by decide +kernel
theorem dX1_isAskOf_4 : decode cX1_isAskOf 4 = .ok (.iload_n 2, 1) := by decide +kernel
theorem dX1_isAskOf_5 : decode cX1_isAskOf 5 = .ok (.iaload, 1) := by decide +kernel
theorem dX1_isAskOf_6 : decode cX1_isAskOf 6 = .ok (.iload_n 1, 1) := by decide +kernel
theorem dX1_isAskOf_7 : decode cX1_isAskOf 7 = .ok (.invokestatic 57, 3) := by decide +kernel
theorem dX1_isAskOf_10 : decode cX1_isAskOf 10 = .ok (.ireturn, 1) := by decide +kernel
set_option maxRecDepth 20000 in
theorem ggX1_areFoes_X1_has : GoodIn wsX1_areFoes wsX1_has := goodIn_r _ [5] (by decide +kernel) (by decide +kernel)
set_option maxRecDepth 20000 in
theorem gX1_areFoes_X1_has : GoodIn wsX1_areFoes (va_wsS RX1 57 yX1_has wsX1_has) := goodIn_app (goodIn_of _ (by decide +kernel)) ggX1_areFoes_X1_has
theorem dX1_areFoes_0 : decode cX1_areFoes 0 = .ok (.aload_n 0, 1) := by decide +kernel
theorem dX1_areFoes_1 : decode cX1_areFoes 1 = .ok (.getfield 21, 3) := by decide +kernel
theorem dX1_areFoes_4 : decode cX1_areFoes 4 = .ok (.iload_n 1, 1) := by decide +kernel
theorem dX1_areFoes_5 : decode cX1_areFoes 5 = .ok (.iaload, 1) := by decide +kernel
theorem dX1_areFoes_6 : decode cX1_areFoes 6 = .ok (.iload_n 2, 1) := by decide +kernel
theorem dX1_areFoes_7 : decode cX1_areFoes 7 = .ok (.invokestatic 57, 3) := by decide +kernel
theorem dX1_areFoes_10 : decode cX1_areFoes 10 = .ok (.ireturn, 1) := by decide +kernel
theorem dX1_addMachine_0 : decode cX1_addMachine 0 = .ok (.aload_n 0, 1) := by decide +kernel
theorem dX1_addMachine_1 : decode cX1_addMachine 1 = .ok (.dup, 1) := by decide +kernel
theorem dX1_addMachine_2 : decode cX1_addMachine 2 = .ok (.getfield 48, 3) := by decide +kernel
theorem dX1_addMachine_5 : decode cX1_addMachine 5 = .ok (.dup_x1, 1) := by decide +kernel
theorem dX1_addMachine_6 : decode cX1_addMachine 6 = .ok (.iconst 1, 1) := by decide +kernel
theorem dX1_addMachine_7 : decode cX1_addMachine 7 = .ok (.iadd, 1) := by decide +kernel
theorem dX1_addMachine_8 : decode cX1_addMachine 8 = .ok (.putfield 48, 3) := by decide +kernel
theorem dX1_addMachine_11 : decode cX1_addMachine 11 = .ok (.istore_n 3, 1) := by decide +kernel
theorem dX1_addMachine_12 : decode cX1_addMachine 12 = .ok (.aload_n 0, 1) := by decide +kernel
theorem dX1_addMachine_13 : decode cX1_addMachine 13 = .ok (.getfield 11, 3) := by decide +kernel
theorem dX1_addMachine_16 : decode cX1_addMachine 16 = .ok (.iload_n 3, 1) := by decide +kernel
theorem dX1_addMachine_17 : decode cX1_addMachine 17 = .ok (.iload_n 1, 1) := by decide +kernel
theorem dX1_addMachine_18 : decode cX1_addMachine 18 = .ok (.iastore, 1) := by decide +kernel
theorem dX1_addMachine_19 : decode cX1_addMachine 19 = .ok (.aload_n 0, 1) := by decide +kernel
theorem dX1_addMachine_20 : decode cX1_addMachine 20 = .ok (.getfield 15, 3) := by decide +kernel
theorem dX1_addMachine_23 : decode cX1_addMachine 23 = .ok (.iload_n 2, 1) := by decide +kernel
theorem dX1_addMachine_24 : decode cX1_addMachine 24 = .ok (.dup2, 1) := by decide +kernel
theorem dX1_addMachine_25 : decode cX1_addMachine 25 = .ok (.iaload, 1) := by decide +kernel
theorem dX1_addMachine_26 : decode cX1_addMachine 26 = .ok (.iconst 1, 1) := by decide +kernel
theorem dX1_addMachine_27 : decode cX1_addMachine 27 = .ok (.iload_n 3, 1) := by decide +kernel
theorem dX1_addMachine_28 : decode cX1_addMachine 28 = .ok (.ishl, 1) := by decide +kernel
theorem dX1_addMachine_29 : decode cX1_addMachine 29 = .ok (.ior, 1) := by decide +kernel
theorem dX1_addMachine_30 : decode cX1_addMachine 30 = .ok (.iastore, 1) := by decide +kernel
theorem dX1_addMachine_31 : decode cX1_addMachine 31 = .ok (.aload_n 0, 1) := by decide +kernel
theorem dX1_addMachine_32 : decode cX1_addMachine 32 = .ok (.dup, 1) := by decide +kernel
theorem dX1_addMachine_33 : decode cX1_addMachine 33 = .ok (.getfield 54, 3) := by decide +kernel
theorem dX1_addMachine_36 : decode cX1_addMachine 36 = .ok (.iconst 1, 1) := by decide +kernel
theorem dX1_addMachine_37 : decode cX1_addMachine 37 = .ok (.iload_n 3, 1) := by decide +kernel
theorem dX1_addMachine_38 : decode cX1_addMachine 38 = .ok (.ishl, 1) := by decide +kernel
theorem dX1_addMachine_39 : decode cX1_addMachine 39 = .ok (.ior, 1) := by decide +kernel
theorem dX1_addMachine_40 : decode cX1_addMachine 40 = .ok (.putfield 54, 3) := by decide +kernel
theorem dX1_addMachine_43 : decode cX1_addMachine 43 = .ok (.iload_n 3, 1) := by decide +kernel
theorem dX1_addMachine_44 : decode cX1_addMachine 44 = .ok (.ireturn, 1) := by decide +kernel
theorem dX1_turn_0 : decode cX1_turn 0 = .ok (.aload_n 0, 1) := by decide +kernel
theorem dX1_turn_1 : decode cX1_turn 1 = .ok (.dup, 1) := by decide +kernel
theorem dX1_turn_2 : decode cX1_turn 2 = .ok (.getfield 54, 3) := by decide +kernel
theorem dX1_turn_5 : decode cX1_turn 5 = .ok (.iconst 1, 1) := by decide +kernel
theorem dX1_turn_6 : decode cX1_turn 6 = .ok (.iload_n 1, 1) := by decide +kernel
theorem dX1_turn_7 : decode cX1_turn 7 = .ok (.ishl, 1) := by decide +kernel
theorem dX1_turn_8 : decode cX1_turn 8 = .ok (.ixor, 1) := by decide +kernel
theorem dX1_turn_9 : decode cX1_turn 9 = .ok (.putfield 54, 3) := by decide +kernel
theorem dX1_turn_12 : decode cX1_turn 12 = .ok (.return_, 1) := by decide +kernel
set_option maxRecDepth 20000 in
theorem ggX1_addAsk_X1_markAsked : GoodIn wsX1_addAsk wsX1_markAsked := goodIn_r _ [8, 9, 18, 19, 20, 21, 22, 23, 24, 25, 26, 27, 28, 29, 30] (by decide +kernel) (by decide +kernel)
set_option maxRecDepth 20000 in
theorem gX1_addAsk_X1_markAsked : GoodIn wsX1_addAsk (wsV RX1 61 RX1 yX1_markAsked wsX1_markAsked) := goodIn_app (goodIn_of _ (by decide +kernel)) ggX1_addAsk_X1_markAsked
set_option maxRecDepth 20000 in
theorem ggX1_addAsk_X1_tally : GoodIn wsX1_addAsk wsX1_tally := goodIn_r _ [13, 14, 1, 15, 2, 16, 17, 18, 19, 20, 21, 22, 23, 24, 25, 26, 27, 28, 29, 30] (by decide +kernel) (by decide +kernel)
set_option maxRecDepth 20000 in
theorem gX1_addAsk_X1_tally : GoodIn wsX1_addAsk (wsV RX1 65 RX1 yX1_tally wsX1_tally) := goodIn_app (goodIn_of _ (by decide +kernel)) ggX1_addAsk_X1_tally
theorem dX1_addAsk_0 : decode cX1_addAsk 0 = .ok (.aload_n 0, 1) := by decide +kernel
theorem dX1_addAsk_1 : decode cX1_addAsk 1 = .ok (.dup, 1) := by decide +kernel
theorem dX1_addAsk_2 : decode cX1_addAsk 2 = .ok (.getfield 51, 3) := by decide +kernel
theorem dX1_addAsk_5 : decode cX1_addAsk 5 = .ok (.dup_x1, 1) := by decide +kernel
theorem dX1_addAsk_6 : decode cX1_addAsk 6 = .ok (.iconst 1, 1) := by decide +kernel
theorem dX1_addAsk_7 : decode cX1_addAsk 7 = .ok (.iadd, 1) := by decide +kernel
theorem dX1_addAsk_8 : decode cX1_addAsk 8 = .ok (.putfield 51, 3) := by decide +kernel
theorem dX1_addAsk_11 : decode cX1_addAsk 11 = .ok (.istore 4, 2) := by decide +kernel
theorem dX1_addAsk_13 : decode cX1_addAsk 13 = .ok (.aload_n 0, 1) := by decide +kernel
theorem dX1_addAsk_14 : decode cX1_addAsk 14 = .ok (.getfield 18, 3) := by decide +kernel
theorem dX1_addAsk_17 : decode cX1_addAsk 17 = .ok (.iload 4, 2) := by decide +kernel
theorem dX1_addAsk_19 : decode cX1_addAsk 19 = .ok (.iload_n 1, 1) := by decide +kernel
theorem dX1_addAsk_20 : decode cX1_addAsk 20 = .ok (.iastore, 1) := by decide +kernel
theorem dX1_addAsk_21 : decode cX1_addAsk 21 = .ok (.iload_n 2, 1) := by decide +kernel
theorem dX1_addAsk_22 : decode cX1_addAsk 22 = .ok (.istore 5, 2) := by decide +kernel
theorem dX1_addAsk_24 : decode cX1_addAsk 24 = .ok (.iload 5, 2) := by decide +kernel
theorem dX1_addAsk_26 : decode cX1_addAsk 26 = .ok (.iload_n 3, 1) := by decide +kernel
theorem dX1_addAsk_27 : decode cX1_addAsk 27 = .ok (.if_icmp .gt 34, 3) := by decide +kernel
theorem dX1_addAsk_30 : decode cX1_addAsk 30 = .ok (.aload_n 0, 1) := by decide +kernel
theorem dX1_addAsk_31 : decode cX1_addAsk 31 = .ok (.getfield 24, 3) := by decide +kernel
theorem dX1_addAsk_34 : decode cX1_addAsk 34 = .ok (.iload 5, 2) := by decide +kernel
theorem dX1_addAsk_36 : decode cX1_addAsk 36 = .ok (.dup2, 1) := by decide +kernel
theorem dX1_addAsk_37 : decode cX1_addAsk 37 = .ok (.iaload, 1) := by decide +kernel
theorem dX1_addAsk_38 : decode cX1_addAsk 38 = .ok (.iconst 1, 1) := by decide +kernel
theorem dX1_addAsk_39 : decode cX1_addAsk 39 = .ok (.iload 4, 2) := by decide +kernel
theorem dX1_addAsk_41 : decode cX1_addAsk 41 = .ok (.ishl, 1) := by decide +kernel
theorem dX1_addAsk_42 : decode cX1_addAsk 42 = .ok (.ior, 1) := by decide +kernel
theorem dX1_addAsk_43 : decode cX1_addAsk 43 = .ok (.iastore, 1) := by decide +kernel
theorem dX1_addAsk_44 : decode cX1_addAsk 44 = .ok (.aload_n 0, 1) := by decide +kernel
theorem dX1_addAsk_45 : decode cX1_addAsk 45 = .ok (.aload_n 0, 1) := by decide +kernel
theorem dX1_addAsk_46 : decode cX1_addAsk 46 = .ok (.getfield 24, 3) := by decide +kernel
theorem dX1_addAsk_49 : decode cX1_addAsk 49 = .ok (.iload 5, 2) := by decide +kernel
theorem dX1_addAsk_51 : decode cX1_addAsk 51 = .ok (.iaload, 1) := by decide +kernel
theorem dX1_addAsk_52 : decode cX1_addAsk 52 = .ok (.invokevirtual 61, 3) := by decide +kernel
theorem dX1_addAsk_55 : decode cX1_addAsk 55 = .ok (.iinc 5 1, 3) := by decide +kernel
theorem dX1_addAsk_58 : decode cX1_addAsk 58 = .ok (.goto (-34), 3) := by decide +kernel
theorem dX1_addAsk_61 : decode cX1_addAsk 61 = .ok (.aload_n 0, 1) := by decide +kernel
theorem dX1_addAsk_62 : decode cX1_addAsk 62 = .ok (.invokevirtual 65, 3) := by decide +kernel
theorem dX1_addAsk_65 : decode cX1_addAsk 65 = .ok (.iload 4, 2) := by decide +kernel
theorem dX1_addAsk_67 : decode cX1_addAsk 67 = .ok (.ireturn, 1) := by decide +kernel
set_option maxRecDepth 20000 in
theorem ggX1_turnFoes_X1_tally : GoodIn wsX1_turnFoes wsX1_tally := goodIn_r _ [6, 7, 8, 9, 10, 11, 1, 12, 13, 14, 15, 16, 17, 18, 19, 20, 21, 22, 23, 24] (by decide +kernel) (by decide +kernel)
set_option maxRecDepth 20000 in
theorem gX1_turnFoes_X1_tally : GoodIn wsX1_turnFoes (wsV RX1 65 RX1 yX1_tally wsX1_tally) := goodIn_app (goodIn_of _ (by decide +kernel)) ggX1_turnFoes_X1_tally
theorem dX1_turnFoes_0 : decode cX1_turnFoes 0 = .ok (.aload_n 0, 1) := by decide +kernel
theorem dX1_turnFoes_1 : decode cX1_turnFoes 1 = .ok (.getfield 21, 3) := by decide +kernel
theorem dX1_turnFoes_4 : decode cX1_turnFoes 4 = .ok (.iload_n 1, 1) := by decide +kernel
theorem dX1_turnFoes_5 : decode cX1_turnFoes 5 = .ok (.dup2, 1) := by decide +kernel
theorem dX1_turnFoes_6 : decode cX1_turnFoes 6 = .ok (.iaload, 1) := by decide +kernel
theorem dX1_turnFoes_7 : decode cX1_turnFoes 7 = .ok (.iconst 1, 1) := by decide +kernel
theorem dX1_turnFoes_8 : decode cX1_turnFoes 8 = .ok (.iload_n 2, 1) := by decide +kernel
theorem dX1_turnFoes_9 : decode cX1_turnFoes 9 = .ok (.ishl, 1) := by decide +kernel
theorem dX1_turnFoes_10 : decode cX1_turnFoes 10 = .ok (.ixor, 1) := by decide +kernel
theorem dX1_turnFoes_11 : decode cX1_turnFoes 11 = .ok (.iastore, 1) := by decide +kernel
theorem dX1_turnFoes_12 : decode cX1_turnFoes 12 = .ok (.aload_n 0, 1) := by decide +kernel
theorem dX1_turnFoes_13 : decode cX1_turnFoes 13 = .ok (.getfield 21, 3) := by decide +kernel
theorem dX1_turnFoes_16 : decode cX1_turnFoes 16 = .ok (.iload_n 2, 1) := by decide +kernel
theorem dX1_turnFoes_17 : decode cX1_turnFoes 17 = .ok (.dup2, 1) := by decide +kernel
theorem dX1_turnFoes_18 : decode cX1_turnFoes 18 = .ok (.iaload, 1) := by decide +kernel
theorem dX1_turnFoes_19 : decode cX1_turnFoes 19 = .ok (.iconst 1, 1) := by decide +kernel
theorem dX1_turnFoes_20 : decode cX1_turnFoes 20 = .ok (.iload_n 1, 1) := by decide +kernel
theorem dX1_turnFoes_21 : decode cX1_turnFoes 21 = .ok (.ishl, 1) := by decide +kernel
theorem dX1_turnFoes_22 : decode cX1_turnFoes 22 = .ok (.ixor, 1) := by decide +kernel
theorem dX1_turnFoes_23 : decode cX1_turnFoes 23 = .ok (.iastore, 1) := by decide +kernel
theorem dX1_turnFoes_24 : decode cX1_turnFoes 24 = .ok (.aload_n 0, 1) := by decide +kernel
theorem dX1_turnFoes_25 : decode cX1_turnFoes 25 = .ok (.invokevirtual 65, 3) := by decide +kernel
theorem dX1_turnFoes_28 : decode cX1_turnFoes 28 = .ok (.return_, 1) := by decide +kernel
theorem dX1_standing_0 : decode cX1_standing 0 = .ok (.iload_n 1, 1) := by decide +kernel
theorem dX1_standing_1 : decode cX1_standing 1 = .ok (.ifCond .ne 8, 3) := by decide +kernel
theorem dX1_standing_4 : decode cX1_standing 4 = .ok (.aload_n 0, 1) := by decide +kernel
theorem dX1_standing_5 : decode cX1_standing 5 = .ok (.getfield 54, 3) := by decide +kernel
theorem dX1_standing_8 : decode cX1_standing 8 = .ok (.ireturn, 1) := by decide +kernel
theorem dX1_standing_9 : decode cX1_standing 9 = .ok (.iload_n 1, 1) := by decide +kernel
theorem dX1_standing_10 : decode cX1_standing 10 = .ok (.bipush 12, 2) := by decide +kernel
theorem dX1_standing_12 : decode cX1_standing 12 = .ok (.if_icmp .gt 18, 3) := by decide +kernel
theorem dX1_standing_15 : decode cX1_standing 15 = .ok (.aload_n 0, 1) := by decide +kernel
theorem dX1_standing_16 : decode cX1_standing 16 = .ok (.getfield 54, 3) := by decide +kernel
theorem dX1_standing_19 : decode cX1_standing 19 = .ok (.iconst 1, 1) := by decide +kernel
theorem dX1_standing_20 : decode cX1_standing 20 = .ok (.iload_n 1, 1) := by decide +kernel
theorem dX1_standing_21 : decode cX1_standing 21 = .ok (.iconst 1, 1) := by decide +kernel
theorem dX1_standing_22 : decode cX1_standing 22 = .ok (.isub, 1) := by decide +kernel
theorem dX1_standing_23 : decode cX1_standing 23 = .ok (.ishl, 1) := by decide +kernel
theorem dX1_standing_24 : decode cX1_standing 24 = .ok (.iconst (-1), 1) := by decide +kernel
theorem dX1_standing_25 : decode cX1_standing 25 = .ok (.ixor, 1) := by decide +kernel
theorem dX1_standing_26 : decode cX1_standing 26 = .ok (.iand, 1) := by decide +kernel
theorem dX1_standing_27 : decode cX1_standing 27 = .ok (.goto 21, 3) := by decide +kernel
theorem dX1_standing_30 : decode cX1_standing 30 = .ok (.aload_n 0, 1) := by decide +kernel
theorem dX1_standing_31 : decode cX1_standing 31 = .ok (.getfield 54, 3) := by decide +kernel
theorem dX1_standing_34 : decode cX1_standing 34 = .ok (.aload_n 0, 1) := by decide +kernel
theorem dX1_standing_35 : decode cX1_standing 35 = .ok (.getfield 15, 3) := by decide +kernel
theorem dX1_standing_38 : decode cX1_standing 38 = .ok (.iload_n 1, 1) := by decide +kernel
theorem dX1_standing_39 : decode cX1_standing 39 = .ok (.bipush 12, 2) := by decide +kernel
theorem dX1_standing_41 : decode cX1_standing 41 = .ok (.isub, 1) := by decide +kernel
theorem dX1_standing_42 : decode cX1_standing 42 = .ok (.iconst 1, 1) := by decide +kernel
theorem dX1_standing_43 : decode cX1_standing 43 = .ok (.isub, 1) := by decide +kernel
theorem dX1_standing_44 : decode cX1_standing 44 = .ok (.iaload, 1) := by decide +kernel
theorem dX1_standing_45 : decode cX1_standing 45 = .ok (.iconst (-1), 1) := by decide +kernel
theorem dX1_standing_46 : decode cX1_standing 46 = .ok (.ixor, 1) := by decide +kernel
theorem dX1_standing_47 : decode cX1_standing 47 = .ok (.iand, 1) := by decide +kernel
theorem dX1_standing_48 : decode cX1_standing 48 = .ok (.ireturn, 1) := by decide +kernel
set_option maxRecDepth 20000 in
theorem ggX1_sizeOf_X1_has : GoodIn wsX1_sizeOf wsX1_has := goodIn_r _ [6] (by decide +kernel) (by decide +kernel)
set_option maxRecDepth 20000 in
theorem gX1_sizeOf_X1_has : GoodIn wsX1_sizeOf (va_wsS RX1 57 yX1_has wsX1_has) := goodIn_app (goodIn_of _ (by decide +kernel)) ggX1_sizeOf_X1_has
theorem dX1_sizeOf_0 : decode cX1_sizeOf 0 = .ok (.iconst 0, 1) := by decide +kernel
theorem dX1_sizeOf_1 : decode cX1_sizeOf 1 = .ok (.istore_n 2, 1) := by decide +kernel
theorem dX1_sizeOf_2 : decode cX1_sizeOf 2 = .ok (.iconst 0, 1) := by decide +kernel
theorem dX1_sizeOf_3 : decode cX1_sizeOf 3 = .ok (.istore_n 3, 1) := by decide +kernel
theorem dX1_sizeOf_4 : decode cX1_sizeOf 4 = .ok (.iload_n 3, 1) := by decide +kernel
theorem dX1_sizeOf_5 : decode cX1_sizeOf 5 = .ok (.aload_n 0, 1) := by decide +kernel
theorem dX1_sizeOf_6 : decode cX1_sizeOf 6 = .ok (.getfield 48, 3) := by decide +kernel
theorem dX1_sizeOf_9 : decode cX1_sizeOf 9 = .ok (.if_icmp .ge 30, 3) := by decide +kernel
theorem dX1_sizeOf_12 : decode cX1_sizeOf 12 = .ok (.iload_n 2, 1) := by decide +kernel
theorem dX1_sizeOf_13 : decode cX1_sizeOf 13 = .ok (.iload_n 1, 1) := by decide +kernel
theorem dX1_sizeOf_14 : decode cX1_sizeOf 14 = .ok (.iload_n 3, 1) := by decide +kernel
theorem dX1_sizeOf_15 : decode cX1_sizeOf 15 = .ok (.invokestatic 57, 3) := by decide +kernel
theorem dX1_sizeOf_18 : decode cX1_sizeOf 18 = .ok (.ifCond .eq 12, 3) := by decide +kernel
theorem dX1_sizeOf_21 : decode cX1_sizeOf 21 = .ok (.aload_n 0, 1) := by decide +kernel
theorem dX1_sizeOf_22 : decode cX1_sizeOf 22 = .ok (.getfield 11, 3) := by decide +kernel
theorem dX1_sizeOf_25 : decode cX1_sizeOf 25 = .ok (.iload_n 3, 1) := by decide +kernel
theorem dX1_sizeOf_26 : decode cX1_sizeOf 26 = .ok (.iaload, 1) := by decide +kernel
theorem dX1_sizeOf_27 : decode cX1_sizeOf 27 = .ok (.goto 4, 3) := by decide +kernel
theorem dX1_sizeOf_30 : decode cX1_sizeOf 30 = .ok (.iconst 0, 1) := by decide +kernel
theorem dX1_sizeOf_31 : decode cX1_sizeOf 31 = .ok (.iadd, 1) := by decide +kernel
theorem dX1_sizeOf_32 : decode cX1_sizeOf 32 = .ok (.istore_n 2, 1) := by decide +kernel
theorem dX1_sizeOf_33 : decode cX1_sizeOf 33 = .ok (.iinc 3 1, 3) := by decide +kernel
theorem dX1_sizeOf_36 : decode cX1_sizeOf 36 = .ok (.goto (-32), 3) := by decide +kernel
theorem dX1_sizeOf_39 : decode cX1_sizeOf 39 = .ok (.iload_n 2, 1) := by decide +kernel
theorem dX1_sizeOf_40 : decode cX1_sizeOf 40 = .ok (.ireturn, 1) := by decide +kernel
set_option maxRecDepth 20000 in
theorem ggX1_holds_X1_findLatest : GoodIn wsX1_holds wsX1_findLatest := goodIn_r _ [7, 8, 1, 9, 10, 11, 12, 13, 14, 15, 16, 6, 17, 18, 19, 20, 21, 22, 23, 24, 25, 26, 27, 28, 29, 30, 31, 32, 33, 34, 35, 36, 37, 38, 39, 40, 41, 42] (by decide +kernel) (by decide +kernel)
set_option maxRecDepth 20000 in
theorem gX1_holds_X1_findLatest : GoodIn wsX1_holds (wsV RX1 68 RX1 yX1_findLatest wsX1_findLatest) := goodIn_app (goodIn_of _ (by decide +kernel)) ggX1_holds_X1_findLatest
theorem dX1_holds_0 : decode cX1_holds 0 = .ok (.aload_n 0, 1) := by decide +kernel
theorem dX1_holds_1 : decode cX1_holds 1 = .ok (.iload_n 2, 1) := by decide +kernel
theorem dX1_holds_2 : decode cX1_holds 2 = .ok (.invokevirtual 68, 3) := by decide +kernel
theorem dX1_holds_5 : decode cX1_holds 5 = .ok (.aload_n 0, 1) := by decide +kernel
theorem dX1_holds_6 : decode cX1_holds 6 = .ok (.getfield 37, 3) := by decide +kernel
theorem dX1_holds_9 : decode cX1_holds 9 = .ok (.aload_n 0, 1) := by decide +kernel
theorem dX1_holds_10 : decode cX1_holds 10 = .ok (.getfield 24, 3) := by decide +kernel
theorem dX1_holds_13 : decode cX1_holds 13 = .ok (.iload_n 1, 1) := by decide +kernel
theorem dX1_holds_14 : decode cX1_holds 14 = .ok (.iaload, 1) := by decide +kernel
theorem dX1_holds_15 : decode cX1_holds 15 = .ok (.iaload, 1) := by decide +kernel
theorem dX1_holds_16 : decode cX1_holds 16 = .ok (.iconst (-1), 1) := by decide +kernel
theorem dX1_holds_17 : decode cX1_holds 17 = .ok (.if_icmp .eq 7, 3) := by decide +kernel
theorem dX1_holds_20 : decode cX1_holds 20 = .ok (.iconst 1, 1) := by decide +kernel
theorem dX1_holds_21 : decode cX1_holds 21 = .ok (.goto 4, 3) := by decide +kernel
theorem dX1_holds_24 : decode cX1_holds 24 = .ok (.iconst 0, 1) := by decide +kernel
theorem dX1_holds_25 : decode cX1_holds 25 = .ok (.ireturn, 1) := by decide +kernel
set_option maxRecDepth 20000 in
theorem ggX1_layingOf_X1_findLatest : GoodIn wsX1_layingOf wsX1_findLatest := goodIn_r _ [7, 8, 9, 2, 10, 11, 12, 13, 14, 15, 16, 6, 17, 18, 19, 20, 21, 22, 23, 24, 25, 26, 27, 28, 29, 30, 31, 32, 33, 34, 35, 36, 37, 38, 39, 40, 41, 42] (by decide +kernel) (by decide +kernel)
set_option maxRecDepth 20000 in
theorem gX1_layingOf_X1_findLatest : GoodIn wsX1_layingOf (wsV RX1 68 RX1 yX1_findLatest wsX1_findLatest) := goodIn_app (goodIn_of _ (by decide +kernel)) ggX1_layingOf_X1_findLatest
set_option maxRecDepth 20000 in
theorem ggX1_layingOf_X1_has : GoodIn wsX1_layingOf wsX1_has := goodIn_r _ [17] (by decide +kernel) (by decide +kernel)
set_option maxRecDepth 20000 in
theorem gX1_layingOf_X1_has : GoodIn wsX1_layingOf (va_wsS RX1 57 yX1_has wsX1_has) := goodIn_app (goodIn_of _ (by decide +kernel)) ggX1_layingOf_X1_has
set_option maxRecDepth 20000 in
theorem ggX1_layingOf_X1_greatestOn : GoodIn wsX1_layingOf wsX1_greatestOn := goodIn_r _ [28, 24, 10, 29, 9, 30, 31, 32, 33, 34, 35, 36, 37, 38, 39, 40, 41, 42] (by decide +kernel) (by decide +kernel)
set_option maxRecDepth 20000 in
theorem gX1_layingOf_X1_greatestOn : GoodIn wsX1_layingOf (wsV RX1 71 RX1 yX1_greatestOn wsX1_greatestOn) := goodIn_app (goodIn_of _ (by decide +kernel)) ggX1_layingOf_X1_greatestOn
theorem dX1_layingOf_0 : decode cX1_layingOf 0 = .ok (.aload_n 0, 1) := by decide +kernel
theorem dX1_layingOf_1 : decode cX1_layingOf 1 = .ok (.iload_n 2, 1) := by decide +kernel
theorem dX1_layingOf_2 : decode cX1_layingOf 2 = .ok (.invokevirtual 68, 3) := by decide +kernel
theorem dX1_layingOf_5 : decode cX1_layingOf 5 = .ok (.aload_n 0, 1) := by decide +kernel
theorem dX1_layingOf_6 : decode cX1_layingOf 6 = .ok (.getfield 24, 3) := by decide +kernel
theorem dX1_layingOf_9 : decode cX1_layingOf 9 = .ok (.iload_n 1, 1) := by decide +kernel
theorem dX1_layingOf_10 : decode cX1_layingOf 10 = .ok (.iaload, 1) := by decide +kernel
theorem dX1_layingOf_11 : decode cX1_layingOf 11 = .ok (.istore 4, 2) := by decide +kernel
theorem dX1_layingOf_13 : decode cX1_layingOf 13 = .ok (.iconst 0, 1) := by decide +kernel
theorem dX1_layingOf_14 : decode cX1_layingOf 14 = .ok (.istore 5, 2) := by decide +kernel
theorem dX1_layingOf_16 : decode cX1_layingOf 16 = .ok (.iload 5, 2) := by decide +kernel
theorem dX1_layingOf_18 : decode cX1_layingOf 18 = .ok (.aload_n 0, 1) := by decide +kernel
theorem dX1_layingOf_19 : decode cX1_layingOf 19 = .ok (.getfield 48, 3) := by decide +kernel
theorem dX1_layingOf_22 : decode cX1_layingOf 22 = .ok (.if_icmp .ge 47, 3) := by decide +kernel
theorem dX1_layingOf_25 : decode cX1_layingOf 25 = .ok (.iload_n 2, 1) := by decide +kernel
theorem dX1_layingOf_26 : decode cX1_layingOf 26 = .ok (.iload 5, 2) := by decide +kernel
theorem dX1_layingOf_28 : decode cX1_layingOf 28 = .ok (.invokestatic 57, 3) := by decide +kernel
theorem dX1_layingOf_31 : decode cX1_layingOf 31 = .ok (.ifCond .eq 32, 3) := by decide +kernel
theorem dX1_layingOf_34 : decode cX1_layingOf 34 = .ok (.aload_n 0, 1) := by decide +kernel
theorem dX1_layingOf_35 : decode cX1_layingOf 35 = .ok (.iload 5, 2) := by decide +kernel
theorem dX1_layingOf_37 : decode cX1_layingOf 37 = .ok (.iload 4, 2) := by decide +kernel
theorem dX1_layingOf_39 : decode cX1_layingOf 39 = .ok (.invokevirtual 71, 3) := by decide +kernel
theorem dX1_layingOf_42 : decode cX1_layingOf 42 = .ok (.istore 6, 2) := by decide +kernel
theorem dX1_layingOf_44 : decode cX1_layingOf 44 = .ok (.iload 6, 2) := by decide +kernel
theorem dX1_layingOf_46 : decode cX1_layingOf 46 = .ok (.iload_n 3, 1) := by decide +kernel
theorem dX1_layingOf_47 : decode cX1_layingOf 47 = .ok (.invokestatic 57, 3) := by decide +kernel
theorem dX1_layingOf_50 : decode cX1_layingOf 50 = .ok (.ifCond .eq 6, 3) := by decide +kernel
theorem dX1_layingOf_53 : decode cX1_layingOf 53 = .ok (.iload 5, 2) := by decide +kernel
theorem dX1_layingOf_55 : decode cX1_layingOf 55 = .ok (.ireturn, 1) := by decide +kernel
theorem dX1_layingOf_56 : decode cX1_layingOf 56 = .ok (.iload 4, 2) := by decide +kernel
theorem dX1_layingOf_58 : decode cX1_layingOf 58 = .ok (.iload 6, 2) := by decide +kernel
theorem dX1_layingOf_60 : decode cX1_layingOf 60 = .ok (.ixor, 1) := by decide +kernel
theorem dX1_layingOf_61 : decode cX1_layingOf 61 = .ok (.istore 4, 2) := by decide +kernel
theorem dX1_layingOf_63 : decode cX1_layingOf 63 = .ok (.iinc 5 1, 3) := by decide +kernel
theorem dX1_layingOf_66 : decode cX1_layingOf 66 = .ok (.goto (-50), 3) := by decide +kernel
theorem dX1_layingOf_69 : decode cX1_layingOf 69 = .ok (.iconst (-1), 1) := by decide +kernel
theorem dX1_layingOf_70 : decode cX1_layingOf 70 = .ok (.ireturn, 1) := by decide +kernel
set_option maxRecDepth 20000 in
theorem ggX1_lacking_X1_findLatest : GoodIn wsX1_lacking wsX1_findLatest := goodIn_r _ [12, 13, 2, 14, 15, 16, 17, 18, 19, 20, 21, 11, 22, 23, 24, 25, 26, 27, 28, 3, 29, 30, 31, 32, 33, 34, 35, 36, 37, 38, 39, 40, 41, 42, 43, 44, 45, 46] (by decide +kernel) (by decide +kernel)
set_option maxRecDepth 20000 in
theorem gX1_lacking_X1_findLatest : GoodIn wsX1_lacking (wsV RX1 68 RX1 yX1_findLatest wsX1_findLatest) := goodIn_app (goodIn_of _ (by decide +kernel)) ggX1_lacking_X1_findLatest
theorem dX1_lacking_0 : decode cX1_lacking 0 = .ok (.aload_n 0, 1) := by decide +kernel
theorem dX1_lacking_1 : decode cX1_lacking 1 = .ok (.iload_n 2, 1) := by decide +kernel
theorem dX1_lacking_2 : decode cX1_lacking 2 = .ok (.invokevirtual 68, 3) := by decide +kernel
theorem dX1_lacking_5 : decode cX1_lacking 5 = .ok (.aload_n 0, 1) := by decide +kernel
theorem dX1_lacking_6 : decode cX1_lacking 6 = .ok (.getfield 24, 3) := by decide +kernel
theorem dX1_lacking_9 : decode cX1_lacking 9 = .ok (.iload_n 1, 1) := by decide +kernel
theorem dX1_lacking_10 : decode cX1_lacking 10 = .ok (.iaload, 1) := by decide +kernel
theorem dX1_lacking_11 : decode cX1_lacking 11 = .ok (.istore_n 3, 1) := by decide +kernel
theorem dX1_lacking_12 : decode cX1_lacking 12 = .ok (.iconst 0, 1) := by decide +kernel
theorem dX1_lacking_13 : decode cX1_lacking 13 = .ok (.istore 4, 2) := by decide +kernel
theorem dX1_lacking_15 : decode cX1_lacking 15 = .ok (.iload_n 3, 1) := by decide +kernel
theorem dX1_lacking_16 : decode cX1_lacking 16 = .ok (.istore 5, 2) := by decide +kernel
theorem dX1_lacking_18 : decode cX1_lacking 18 = .ok (.iload 5, 2) := by decide +kernel
theorem dX1_lacking_20 : decode cX1_lacking 20 = .ok (.ifCond .le 39, 3) := by decide +kernel
theorem dX1_lacking_23 : decode cX1_lacking 23 = .ok (.aload_n 0, 1) := by decide +kernel
theorem dX1_lacking_24 : decode cX1_lacking 24 = .ok (.getfield 37, 3) := by decide +kernel
theorem dX1_lacking_27 : decode cX1_lacking 27 = .ok (.iload 5, 2) := by decide +kernel
theorem dX1_lacking_29 : decode cX1_lacking 29 = .ok (.iaload, 1) := by decide +kernel
theorem dX1_lacking_30 : decode cX1_lacking 30 = .ok (.iconst (-1), 1) := by decide +kernel
theorem dX1_lacking_31 : decode cX1_lacking 31 = .ok (.if_icmp .eq 17, 3) := by decide +kernel
theorem dX1_lacking_34 : decode cX1_lacking 34 = .ok (.iload 4, 2) := by decide +kernel
theorem dX1_lacking_36 : decode cX1_lacking 36 = .ok (.aload_n 0, 1) := by decide +kernel
theorem dX1_lacking_37 : decode cX1_lacking 37 = .ok (.getfield 27, 3) := by decide +kernel
theorem dX1_lacking_40 : decode cX1_lacking 40 = .ok (.iload 5, 2) := by decide +kernel
theorem dX1_lacking_42 : decode cX1_lacking 42 = .ok (.iaload, 1) := by decide +kernel
theorem dX1_lacking_43 : decode cX1_lacking 43 = .ok (.invokestatic 75, 3) := by decide +kernel
theorem dX1_lacking_46 : decode cX1_lacking 46 = .ok (.istore 4, 2) := by decide +kernel
theorem dX1_lacking_48 : decode cX1_lacking 48 = .ok (.iload 5, 2) := by decide +kernel
theorem dX1_lacking_50 : decode cX1_lacking 50 = .ok (.iconst 1, 1) := by decide +kernel
theorem dX1_lacking_51 : decode cX1_lacking 51 = .ok (.isub, 1) := by decide +kernel
theorem dX1_lacking_52 : decode cX1_lacking 52 = .ok (.iload_n 3, 1) := by decide +kernel
theorem dX1_lacking_53 : decode cX1_lacking 53 = .ok (.iand, 1) := by decide +kernel
theorem dX1_lacking_54 : decode cX1_lacking 54 = .ok (.istore 5, 2) := by decide +kernel
theorem dX1_lacking_56 : decode cX1_lacking 56 = .ok (.goto (-38), 3) := by decide +kernel
theorem dX1_lacking_59 : decode cX1_lacking 59 = .ok (.aload_n 0, 1) := by decide +kernel
theorem dX1_lacking_60 : decode cX1_lacking 60 = .ok (.getfield 27, 3) := by decide +kernel
theorem dX1_lacking_63 : decode cX1_lacking 63 = .ok (.iload_n 3, 1) := by decide +kernel
theorem dX1_lacking_64 : decode cX1_lacking 64 = .ok (.iaload, 1) := by decide +kernel
theorem dX1_lacking_65 : decode cX1_lacking 65 = .ok (.iload 4, 2) := by decide +kernel
theorem dX1_lacking_67 : decode cX1_lacking 67 = .ok (.isub, 1) := by decide +kernel
theorem dX1_lacking_68 : decode cX1_lacking 68 = .ok (.ireturn, 1) := by decide +kernel
set_option maxRecDepth 20000 in
theorem ggX1_leftOver_X1_findLatest : GoodIn wsX1_leftOver wsX1_findLatest := goodIn_r _ [8, 9, 2, 10, 11, 12, 13, 14, 15, 16, 17, 7, 18, 19, 20, 21, 22, 23, 24, 3, 25, 26, 27, 28, 29, 34, 35, 36, 37, 38, 39, 40, 41, 42, 43, 44, 45, 46] (by decide +kernel) (by decide +kernel)
set_option maxRecDepth 20000 in
theorem gX1_leftOver_X1_findLatest : GoodIn wsX1_leftOver (wsV RX1 68 RX1 yX1_findLatest wsX1_findLatest) := goodIn_app (goodIn_of _ (by decide +kernel)) ggX1_leftOver_X1_findLatest
set_option maxRecDepth 20000 in
theorem ggX1_leftOver_X1_sizeOf : GoodIn wsX1_leftOver wsX1_sizeOf := goodIn_r _ [33, 10, 11, 16, 17, 7, 18, 34, 35, 36, 37, 38, 39, 40, 41, 42, 43, 44, 45, 46] (by decide +kernel) (by decide +kernel)
set_option maxRecDepth 20000 in
theorem gX1_leftOver_X1_sizeOf : GoodIn wsX1_leftOver (wsV RX1 80 RX1 yX1_sizeOf wsX1_sizeOf) := goodIn_app (goodIn_of _ (by decide +kernel)) ggX1_leftOver_X1_sizeOf
theorem dX1_leftOver_0 : decode cX1_leftOver 0 = .ok (.aload_n 0, 1) := by decide +kernel
theorem dX1_leftOver_1 : decode cX1_leftOver 1 = .ok (.iload_n 2, 1) := by decide +kernel
theorem dX1_leftOver_2 : decode cX1_leftOver 2 = .ok (.invokevirtual 68, 3) := by decide +kernel
theorem dX1_leftOver_5 : decode cX1_leftOver 5 = .ok (.aload_n 0, 1) := by decide +kernel
theorem dX1_leftOver_6 : decode cX1_leftOver 6 = .ok (.getfield 24, 3) := by decide +kernel
theorem dX1_leftOver_9 : decode cX1_leftOver 9 = .ok (.iload_n 1, 1) := by decide +kernel
theorem dX1_leftOver_10 : decode cX1_leftOver 10 = .ok (.iaload, 1) := by decide +kernel
theorem dX1_leftOver_11 : decode cX1_leftOver 11 = .ok (.istore_n 3, 1) := by decide +kernel
theorem dX1_leftOver_12 : decode cX1_leftOver 12 = .ok (.aload_n 0, 1) := by decide +kernel
theorem dX1_leftOver_13 : decode cX1_leftOver 13 = .ok (.getfield 37, 3) := by decide +kernel
theorem dX1_leftOver_16 : decode cX1_leftOver 16 = .ok (.iload_n 3, 1) := by decide +kernel
theorem dX1_leftOver_17 : decode cX1_leftOver 17 = .ok (.iaload, 1) := by decide +kernel
theorem dX1_leftOver_18 : decode cX1_leftOver 18 = .ok (.iconst (-1), 1) := by decide +kernel
theorem dX1_leftOver_19 : decode cX1_leftOver 19 = .ok (.if_icmp .eq 18, 3) := by decide +kernel
theorem dX1_leftOver_22 : decode cX1_leftOver 22 = .ok (.aload_n 0, 1) := by decide +kernel
theorem dX1_leftOver_23 : decode cX1_leftOver 23 = .ok (.iload_n 2, 1) := by decide +kernel
theorem dX1_leftOver_24 : decode cX1_leftOver 24 = .ok (.invokevirtual 80, 3) := by decide +kernel
theorem dX1_leftOver_27 : decode cX1_leftOver 27 = .ok (.aload_n 0, 1) := by decide +kernel
theorem dX1_leftOver_28 : decode cX1_leftOver 28 = .ok (.getfield 27, 3) := by decide +kernel
theorem dX1_leftOver_31 : decode cX1_leftOver 31 = .ok (.iload_n 3, 1) := by decide +kernel
theorem dX1_leftOver_32 : decode cX1_leftOver 32 = .ok (.iaload, 1) := by decide +kernel
theorem dX1_leftOver_33 : decode cX1_leftOver 33 = .ok (.isub, 1) := by decide +kernel
theorem dX1_leftOver_34 : decode cX1_leftOver 34 = .ok (.goto 4, 3) := by decide +kernel
theorem dX1_leftOver_37 : decode cX1_leftOver 37 = .ok (.iconst 0, 1) := by decide +kernel
theorem dX1_leftOver_38 : decode cX1_leftOver 38 = .ok (.ireturn, 1) := by decide +kernel
set_option maxRecDepth 20000 in
theorem ggX1_firstUnfit_X1_isLookedAt : GoodIn wsX1_firstUnfit wsX1_isLookedAt := goodIn_r _ [5, 6, 48, 49, 50, 51, 52, 53, 54, 55, 56, 57, 58, 59, 60] (by decide +kernel) (by decide +kernel)
set_option maxRecDepth 20000 in
theorem gX1_firstUnfit_X1_isLookedAt : GoodIn wsX1_firstUnfit (wsV RX1 84 RX1 yX1_isLookedAt wsX1_isLookedAt) := goodIn_app (goodIn_of _ (by decide +kernel)) ggX1_firstUnfit_X1_isLookedAt
set_option maxRecDepth 20000 in
theorem ggX1_firstUnfit_X1_standing : GoodIn wsX1_firstUnfit wsX1_standing := goodIn_r _ [10, 11, 12, 48, 49, 50, 51, 52, 53, 54, 55, 56, 57, 58, 59, 60] (by decide +kernel) (by decide +kernel)
set_option maxRecDepth 20000 in
theorem gX1_firstUnfit_X1_standing : GoodIn wsX1_firstUnfit (wsV RX1 87 RX1 yX1_standing wsX1_standing) := goodIn_app (goodIn_of _ (by decide +kernel)) ggX1_firstUnfit_X1_standing
set_option maxRecDepth 20000 in
theorem ggX1_firstUnfit_X1_firstUnfitHour : GoodIn wsX1_firstUnfit wsX1_firstUnfitHour := goodIn_r _ [16, 17, 18, 19, 4, 20, 21, 22, 23, 24, 25, 26, 27, 6, 28, 29, 30, 31, 32, 33, 34, 35, 36, 37, 38, 39, 40, 41, 42, 43, 44, 45, 46, 47, 48, 49, 50, 51, 52, 53, 54, 55, 56, 57, 58, 59, 60] (by decide +kernel) (by decide +kernel)
set_option maxRecDepth 20000 in
theorem gX1_firstUnfit_X1_firstUnfitHour : GoodIn wsX1_firstUnfit (wsV RX1 90 RX1 yX1_firstUnfitHour wsX1_firstUnfitHour) := goodIn_app (goodIn_of _ (by decide +kernel)) ggX1_firstUnfit_X1_firstUnfitHour
theorem dX1_firstUnfit_0 : decode cX1_firstUnfit 0 = .ok (.bipush 24, 2) := by decide +kernel
theorem dX1_firstUnfit_2 : decode cX1_firstUnfit 2 = .ok (.istore_n 2, 1) := by decide +kernel
theorem dX1_firstUnfit_3 : decode cX1_firstUnfit 3 = .ok (.iconst 0, 1) := by decide +kernel
theorem dX1_firstUnfit_4 : decode cX1_firstUnfit 4 = .ok (.istore_n 3, 1) := by decide +kernel
theorem dX1_firstUnfit_5 : decode cX1_firstUnfit 5 = .ok (.iconst 0, 1) := by decide +kernel
theorem dX1_firstUnfit_6 : decode cX1_firstUnfit 6 = .ok (.istore 4, 2) := by decide +kernel
theorem dX1_firstUnfit_8 : decode cX1_firstUnfit 8 = .ok (.iload 4, 2) := by decide +kernel
theorem dX1_firstUnfit_10 : decode cX1_firstUnfit 10 = .ok (.bipush 17, 2) := by decide +kernel
theorem dX1_firstUnfit_12 : decode cX1_firstUnfit 12 = .ok (.if_icmp .ge 52, 3) := by decide +kernel
theorem dX1_firstUnfit_15 : decode cX1_firstUnfit 15 = .ok (.iload_n 2, 1) := by decide +kernel
theorem dX1_firstUnfit_16 : decode cX1_firstUnfit 16 = .ok (.ifCond .le 48, 3) := by decide +kernel
theorem dX1_firstUnfit_19 : decode cX1_firstUnfit 19 = .ok (.aload_n 0, 1) := by decide +kernel
theorem dX1_firstUnfit_20 : decode cX1_firstUnfit 20 = .ok (.iload 4, 2) := by decide +kernel
theorem dX1_firstUnfit_22 : decode cX1_firstUnfit 22 = .ok (.iload_n 1, 1) := by decide +kernel
theorem dX1_firstUnfit_23 : decode cX1_firstUnfit 23 = .ok (.invokevirtual 84, 3) := by decide +kernel
theorem dX1_firstUnfit_26 : decode cX1_firstUnfit 26 = .ok (.ifCond .eq 32, 3) := by decide +kernel
theorem dX1_firstUnfit_29 : decode cX1_firstUnfit 29 = .ok (.aload_n 0, 1) := by decide +kernel
theorem dX1_firstUnfit_30 : decode cX1_firstUnfit 30 = .ok (.aload_n 0, 1) := by decide +kernel
theorem dX1_firstUnfit_31 : decode cX1_firstUnfit 31 = .ok (.iload 4, 2) := by decide +kernel
theorem dX1_firstUnfit_33 : decode cX1_firstUnfit 33 = .ok (.invokevirtual 87, 3) := by decide +kernel
theorem dX1_firstUnfit_36 : decode cX1_firstUnfit 36 = .ok (.iload_n 2, 1) := by decide +kernel
theorem dX1_firstUnfit_37 : decode cX1_firstUnfit 37 = .ok (.invokevirtual 90, 3) := by decide +kernel
theorem dX1_firstUnfit_40 : decode cX1_firstUnfit 40 = .ok (.istore 5, 2) := by decide +kernel
theorem dX1_firstUnfit_42 : decode cX1_firstUnfit 42 = .ok (.iload 5, 2) := by decide +kernel
theorem dX1_firstUnfit_44 : decode cX1_firstUnfit 44 = .ok (.iload_n 2, 1) := by decide +kernel
theorem dX1_firstUnfit_45 : decode cX1_firstUnfit 45 = .ok (.if_icmp .ge 8, 3) := by decide +kernel
theorem dX1_firstUnfit_48 : decode cX1_firstUnfit 48 = .ok (.iload 4, 2) := by decide +kernel
theorem dX1_firstUnfit_50 : decode cX1_firstUnfit 50 = .ok (.goto 4, 3) := by decide +kernel
theorem dX1_firstUnfit_53 : decode cX1_firstUnfit 53 = .ok (.iload_n 3, 1) := by decide +kernel
theorem dX1_firstUnfit_54 : decode cX1_firstUnfit 54 = .ok (.istore_n 3, 1) := by decide +kernel
theorem dX1_firstUnfit_55 : decode cX1_firstUnfit 55 = .ok (.iload 5, 2) := by decide +kernel
theorem dX1_firstUnfit_57 : decode cX1_firstUnfit 57 = .ok (.istore_n 2, 1) := by decide +kernel
theorem dX1_firstUnfit_58 : decode cX1_firstUnfit 58 = .ok (.iinc 4 1, 3) := by decide +kernel
theorem dX1_firstUnfit_61 : decode cX1_firstUnfit 61 = .ok (.goto (-53), 3) := by decide +kernel
theorem dX1_firstUnfit_64 : decode cX1_firstUnfit 64 = .ok (.iload_n 2, 1) := by decide +kernel
theorem dX1_firstUnfit_65 : decode cX1_firstUnfit 65 = .ok (.bipush 24, 2) := by decide +kernel
theorem dX1_firstUnfit_67 : decode cX1_firstUnfit 67 = .ok (.if_icmp .ne 8, 3) := by decide +kernel
theorem dX1_firstUnfit_70 : decode cX1_firstUnfit 70 = .ok (.bipush (-2), 2) := by decide +kernel
theorem dX1_firstUnfit_72 : decode cX1_firstUnfit 72 = .ok (.goto 9, 3) := by decide +kernel
theorem dX1_firstUnfit_75 : decode cX1_firstUnfit 75 = .ok (.bipush 100, 2) := by decide +kernel
theorem dX1_firstUnfit_77 : decode cX1_firstUnfit 77 = .ok (.iload_n 2, 1) := by decide +kernel
theorem dX1_firstUnfit_78 : decode cX1_firstUnfit 78 = .ok (.imul, 1) := by decide +kernel
theorem dX1_firstUnfit_79 : decode cX1_firstUnfit 79 = .ok (.iload_n 3, 1) := by decide +kernel
theorem dX1_firstUnfit_80 : decode cX1_firstUnfit 80 = .ok (.iadd, 1) := by decide +kernel
theorem dX1_firstUnfit_81 : decode cX1_firstUnfit 81 = .ok (.ireturn, 1) := by decide +kernel
theorem dX1_isLookedAt_0 : decode cX1_isLookedAt 0 = .ok (.iload_n 1, 1) := by decide +kernel
theorem dX1_isLookedAt_1 : decode cX1_isLookedAt 1 = .ok (.bipush 12, 2) := by decide +kernel
theorem dX1_isLookedAt_3 : decode cX1_isLookedAt 3 = .ok (.if_icmp .le 14, 3) := by decide +kernel
theorem dX1_isLookedAt_6 : decode cX1_isLookedAt 6 = .ok (.iload_n 2, 1) := by decide +kernel
theorem dX1_isLookedAt_7 : decode cX1_isLookedAt 7 = .ok (.iconst 2, 1) := by decide +kernel
theorem dX1_isLookedAt_8 : decode cX1_isLookedAt 8 = .ok (.if_icmp .ne 7, 3) := by decide +kernel
theorem dX1_isLookedAt_11 : decode cX1_isLookedAt 11 = .ok (.iconst 1, 1) := by decide +kernel
theorem dX1_isLookedAt_12 : decode cX1_isLookedAt 12 = .ok (.goto 4, 3) := by decide +kernel
theorem dX1_isLookedAt_15 : decode cX1_isLookedAt 15 = .ok (.iconst 0, 1) := by decide +kernel
theorem dX1_isLookedAt_16 : decode cX1_isLookedAt 16 = .ok (.ireturn, 1) := by decide +kernel
theorem dX1_isLookedAt_17 : decode cX1_isLookedAt 17 = .ok (.iload_n 1, 1) := by decide +kernel
theorem dX1_isLookedAt_18 : decode cX1_isLookedAt 18 = .ok (.ifCond .eq 15, 3) := by decide +kernel
theorem dX1_isLookedAt_21 : decode cX1_isLookedAt 21 = .ok (.iload_n 2, 1) := by decide +kernel
theorem dX1_isLookedAt_22 : decode cX1_isLookedAt 22 = .ok (.ifCond .le 15, 3) := by decide +kernel
theorem dX1_isLookedAt_25 : decode cX1_isLookedAt 25 = .ok (.iload_n 1, 1) := by decide +kernel
theorem dX1_isLookedAt_26 : decode cX1_isLookedAt 26 = .ok (.aload_n 0, 1) := by decide +kernel
theorem dX1_isLookedAt_27 : decode cX1_isLookedAt 27 = .ok (.getfield 48, 3) := by decide +kernel
theorem dX1_isLookedAt_30 : decode cX1_isLookedAt 30 = .ok (.if_icmp .gt 7, 3) := by decide +kernel
theorem dX1_isLookedAt_33 : decode cX1_isLookedAt 33 = .ok (.iconst 1, 1) := by decide +kernel
theorem dX1_isLookedAt_34 : decode cX1_isLookedAt 34 = .ok (.goto 4, 3) := by decide +kernel
theorem dX1_isLookedAt_37 : decode cX1_isLookedAt 37 = .ok (.iconst 0, 1) := by decide +kernel
theorem dX1_isLookedAt_38 : decode cX1_isLookedAt 38 = .ok (.ireturn, 1) := by decide +kernel
set_option maxRecDepth 20000 in
theorem ggX1_firstUnfitHour_X1_holds : GoodIn wsX1_firstUnfitHour wsX1_holds := goodIn_r _ [5, 6, 7, 8, 9, 10, 4, 11, 12, 13, 14, 15, 16, 17, 18, 19, 20, 21, 22, 23, 24, 25, 26, 27, 28, 29, 30, 31, 32, 33, 34, 35, 36, 37, 38, 39, 40, 41, 42, 43, 44, 45, 46] (by decide +kernel) (by decide +kernel)
set_option maxRecDepth 20000 in
theorem gX1_firstUnfitHour_X1_holds : GoodIn wsX1_firstUnfitHour (wsV RX1 93 RX1 yX1_holds wsX1_holds) := goodIn_app (goodIn_of _ (by decide +kernel)) ggX1_firstUnfitHour_X1_holds
theorem dX1_firstUnfitHour_0 : decode cX1_firstUnfitHour 0 = .ok (.iconst 0, 1) := by decide +kernel
theorem dX1_firstUnfitHour_1 : decode cX1_firstUnfitHour 1 = .ok (.istore_n 3, 1) := by decide +kernel
theorem dX1_firstUnfitHour_2 : decode cX1_firstUnfitHour 2 = .ok (.iload_n 3, 1) := by decide +kernel
theorem dX1_firstUnfitHour_3 : decode cX1_firstUnfitHour 3 = .ok (.iload_n 2, 1) := by decide +kernel
theorem dX1_firstUnfitHour_4 : decode cX1_firstUnfitHour 4 = .ok (.if_icmp .ge 20, 3) := by decide +kernel
theorem dX1_firstUnfitHour_7 : decode cX1_firstUnfitHour 7 = .ok (.aload_n 0, 1) := by decide +kernel
theorem dX1_firstUnfitHour_8 : decode cX1_firstUnfitHour 8 = .ok (.iload_n 3, 1) := by decide +kernel
theorem dX1_firstUnfitHour_9 : decode cX1_firstUnfitHour 9 = .ok (.iload_n 1, 1) := by decide +kernel
theorem dX1_firstUnfitHour_10 : decode cX1_firstUnfitHour 10 = .ok (.invokevirtual 93, 3) := by decide +kernel
theorem dX1_firstUnfitHour_13 : decode cX1_firstUnfitHour 13 = .ok (.ifCond .ne 5, 3) := by decide +kernel
theorem dX1_firstUnfitHour_16 : decode cX1_firstUnfitHour 16 = .ok (.iload_n 3, 1) := by decide +kernel
theorem dX1_firstUnfitHour_17 : decode cX1_firstUnfitHour 17 = .ok (.ireturn, 1) := by decide +kernel
theorem dX1_firstUnfitHour_18 : decode cX1_firstUnfitHour 18 = .ok (.iinc 3 1, 3) := by decide +kernel
theorem dX1_firstUnfitHour_21 : decode cX1_firstUnfitHour 21 = .ok (.goto (-19), 3) := by decide +kernel
theorem dX1_firstUnfitHour_24 : decode cX1_firstUnfitHour 24 = .ok (.iload_n 2, 1) := by decide +kernel
theorem dX1_firstUnfitHour_25 : decode cX1_firstUnfitHour 25 = .ok (.ireturn, 1) := by decide +kernel
theorem dX1_markAsked_0 : decode cX1_markAsked 0 = .ok (.iload_n 1, 1) := by decide +kernel
theorem dX1_markAsked_1 : decode cX1_markAsked 1 = .ok (.istore_n 2, 1) := by decide +kernel
theorem dX1_markAsked_2 : decode cX1_markAsked 2 = .ok (.iload_n 2, 1) := by decide +kernel
theorem dX1_markAsked_3 : decode cX1_markAsked 3 = .ok (.ifCond .le 19, 3) := by decide +kernel
theorem dX1_markAsked_6 : decode cX1_markAsked 6 = .ok (.aload_n 0, 1) := by decide +kernel
theorem dX1_markAsked_7 : decode cX1_markAsked 7 = .ok (.getfield 34, 3) := by decide +kernel
theorem dX1_markAsked_10 : decode cX1_markAsked 10 = .ok (.iload_n 2, 1) := by decide +kernel
theorem dX1_markAsked_11 : decode cX1_markAsked 11 = .ok (.iconst 1, 1) := by decide +kernel
theorem dX1_markAsked_12 : decode cX1_markAsked 12 = .ok (.bastore, 1) := by decide +kernel
theorem dX1_markAsked_13 : decode cX1_markAsked 13 = .ok (.iload_n 2, 1) := by decide +kernel
theorem dX1_markAsked_14 : decode cX1_markAsked 14 = .ok (.iconst 1, 1) := by decide +kernel
theorem dX1_markAsked_15 : decode cX1_markAsked 15 = .ok (.isub, 1) := by decide +kernel
theorem dX1_markAsked_16 : decode cX1_markAsked 16 = .ok (.iload_n 1, 1) := by decide +kernel
theorem dX1_markAsked_17 : decode cX1_markAsked 17 = .ok (.iand, 1) := by decide +kernel
theorem dX1_markAsked_18 : decode cX1_markAsked 18 = .ok (.istore_n 2, 1) := by decide +kernel
theorem dX1_markAsked_19 : decode cX1_markAsked 19 = .ok (.goto (-17), 3) := by decide +kernel
theorem dX1_markAsked_22 : decode cX1_markAsked 22 = .ok (.return_, 1) := by decide +kernel
theorem dX1_tally_0 : decode cX1_tally 0 = .ok (.aload_n 0, 1) := by decide +kernel
theorem dX1_tally_1 : decode cX1_tally 1 = .ok (.iconst (-1), 1) := by decide +kernel
theorem dX1_tally_2 : decode cX1_tally 2 = .ok (.putfield 40, 3) := by decide +kernel
theorem dX1_tally_5 : decode cX1_tally 5 = .ok (.iconst 0, 1) := by decide +kernel
theorem dX1_tally_6 : decode cX1_tally 6 = .ok (.istore_n 1, 1) := by decide +kernel
theorem dX1_tally_7 : decode cX1_tally 7 = .ok (.iload_n 1, 1) := by decide +kernel
theorem dX1_tally_8 : decode cX1_tally 8 = .ok (.aload_n 0, 1) := by decide +kernel
theorem dX1_tally_9 : decode cX1_tally 9 = .ok (.getfield 51, 3) := by decide +kernel
theorem dX1_tally_12 : decode cX1_tally 12 = .ok (.if_icmp .ge 80, 3) := by decide +kernel
theorem dX1_tally_15 : decode cX1_tally 15 = .ok (.iconst 1, 1) := by decide +kernel
theorem dX1_tally_16 : decode cX1_tally 16 = .ok (.iload_n 1, 1) := by decide +kernel
theorem dX1_tally_17 : decode cX1_tally 17 = .ok (.ishl, 1) := by decide +kernel
theorem dX1_tally_18 : decode cX1_tally 18 = .ok (.istore_n 2, 1) := by decide +kernel
theorem dX1_tally_19 : decode cX1_tally 19 = .ok (.iconst 0, 1) := by decide +kernel
theorem dX1_tally_20 : decode cX1_tally 20 = .ok (.istore_n 3, 1) := by decide +kernel
theorem dX1_tally_21 : decode cX1_tally 21 = .ok (.iload_n 3, 1) := by decide +kernel
theorem dX1_tally_22 : decode cX1_tally 22 = .ok (.iload_n 2, 1) := by decide +kernel
theorem dX1_tally_23 : decode cX1_tally 23 = .ok (.if_icmp .ge 63, 3) := by decide +kernel
theorem dX1_tally_26 : decode cX1_tally 26 = .ok (.aload_n 0, 1) := by decide +kernel
theorem dX1_tally_27 : decode cX1_tally 27 = .ok (.getfield 27, 3) := by decide +kernel
theorem dX1_tally_30 : decode cX1_tally 30 = .ok (.iload_n 2, 1) := by decide +kernel
theorem dX1_tally_31 : decode cX1_tally 31 = .ok (.iload_n 3, 1) := by decide +kernel
theorem dX1_tally_32 : decode cX1_tally 32 = .ok (.ior, 1) := by decide +kernel
theorem dX1_tally_33 : decode cX1_tally 33 = .ok (.aload_n 0, 1) := by decide +kernel
theorem dX1_tally_34 : decode cX1_tally 34 = .ok (.getfield 27, 3) := by decide +kernel
theorem dX1_tally_37 : decode cX1_tally 37 = .ok (.iload_n 3, 1) := by decide +kernel
theorem dX1_tally_38 : decode cX1_tally 38 = .ok (.iaload, 1) := by decide +kernel
theorem dX1_tally_39 : decode cX1_tally 39 = .ok (.aload_n 0, 1) := by decide +kernel
theorem dX1_tally_40 : decode cX1_tally 40 = .ok (.getfield 18, 3) := by decide +kernel
theorem dX1_tally_43 : decode cX1_tally 43 = .ok (.iload_n 1, 1) := by decide +kernel
theorem dX1_tally_44 : decode cX1_tally 44 = .ok (.iaload, 1) := by decide +kernel
theorem dX1_tally_45 : decode cX1_tally 45 = .ok (.iadd, 1) := by decide +kernel
theorem dX1_tally_46 : decode cX1_tally 46 = .ok (.iastore, 1) := by decide +kernel
theorem dX1_tally_47 : decode cX1_tally 47 = .ok (.aload_n 0, 1) := by decide +kernel
theorem dX1_tally_48 : decode cX1_tally 48 = .ok (.getfield 30, 3) := by decide +kernel
theorem dX1_tally_51 : decode cX1_tally 51 = .ok (.iload_n 2, 1) := by decide +kernel
theorem dX1_tally_52 : decode cX1_tally 52 = .ok (.iload_n 3, 1) := by decide +kernel
theorem dX1_tally_53 : decode cX1_tally 53 = .ok (.ior, 1) := by decide +kernel
theorem dX1_tally_54 : decode cX1_tally 54 = .ok (.aload_n 0, 1) := by decide +kernel
theorem dX1_tally_55 : decode cX1_tally 55 = .ok (.getfield 30, 3) := by decide +kernel
theorem dX1_tally_58 : decode cX1_tally 58 = .ok (.iload_n 3, 1) := by decide +kernel
theorem dX1_tally_59 : decode cX1_tally 59 = .ok (.baload, 1) := by decide +kernel
theorem dX1_tally_60 : decode cX1_tally 60 = .ok (.ifCond .ne 14, 3) := by decide +kernel
theorem dX1_tally_63 : decode cX1_tally 63 = .ok (.aload_n 0, 1) := by decide +kernel
theorem dX1_tally_64 : decode cX1_tally 64 = .ok (.getfield 21, 3) := by decide +kernel
theorem dX1_tally_67 : decode cX1_tally 67 = .ok (.iload_n 1, 1) := by decide +kernel
theorem dX1_tally_68 : decode cX1_tally 68 = .ok (.iaload, 1) := by decide +kernel
theorem dX1_tally_69 : decode cX1_tally 69 = .ok (.iload_n 3, 1) := by decide +kernel
theorem dX1_tally_70 : decode cX1_tally 70 = .ok (.iand, 1) := by decide +kernel
theorem dX1_tally_71 : decode cX1_tally 71 = .ok (.ifCond .eq 7, 3) := by decide +kernel
theorem dX1_tally_74 : decode cX1_tally 74 = .ok (.iconst 1, 1) := by decide +kernel
theorem dX1_tally_75 : decode cX1_tally 75 = .ok (.goto 4, 3) := by decide +kernel
theorem dX1_tally_78 : decode cX1_tally 78 = .ok (.iconst 0, 1) := by decide +kernel
theorem dX1_tally_79 : decode cX1_tally 79 = .ok (.bastore, 1) := by decide +kernel
theorem dX1_tally_80 : decode cX1_tally 80 = .ok (.iinc 3 1, 3) := by decide +kernel
theorem dX1_tally_83 : decode cX1_tally 83 = .ok (.goto (-62), 3) := by decide +kernel
theorem dX1_tally_86 : decode cX1_tally 86 = .ok (.iinc 1 1, 3) := by decide +kernel
theorem dX1_tally_89 : decode cX1_tally 89 = .ok (.goto (-82), 3) := by decide +kernel
theorem dX1_tally_92 : decode cX1_tally 92 = .ok (.return_, 1) := by decide +kernel
set_option maxRecDepth 20000 in
theorem ggX1_findLatest_J7_fill_53178 : GoodIn wsX1_findLatest wsJ7_fill_53178 := goodIn_r _ [8] (by decide +kernel) (by decide +kernel)
set_option maxRecDepth 20000 in
theorem gX1_findLatest_J7_fill_53178 : GoodIn wsX1_findLatest (va_wsS RX1 96 yJ7_fill_53178 wsJ7_fill_53178) := goodIn_app (goodIn_of _ (by decide +kernel)) ggX1_findLatest_J7_fill_53178
set_option maxRecDepth 20000 in
theorem ggX1_findLatest_X1_has : GoodIn wsX1_findLatest wsX1_has := goodIn_r _ [12] (by decide +kernel) (by decide +kernel)
set_option maxRecDepth 20000 in
theorem gX1_findLatest_X1_has : GoodIn wsX1_findLatest (va_wsS RX1 57 yX1_has wsX1_has) := goodIn_app (goodIn_of _ (by decide +kernel)) ggX1_findLatest_X1_has
set_option maxRecDepth 20000 in
theorem ggX1_findLatest_X1_findWith : GoodIn wsX1_findLatest wsX1_findWith := goodIn_r _ [16, 17, 2, 18, 19, 20, 21, 22, 11, 23, 4, 24, 25, 26, 27, 28, 29, 30, 31, 32, 33, 34, 35, 36, 37] (by decide +kernel) (by decide +kernel)
set_option maxRecDepth 20000 in
theorem gX1_findLatest_X1_findWith : GoodIn wsX1_findLatest (wsV RX1 102 RX1 yX1_findWith wsX1_findWith) := goodIn_app (goodIn_of _ (by decide +kernel)) ggX1_findLatest_X1_findWith
theorem dX1_findLatest_0 : decode cX1_findLatest 0 = .ok (.aload_n 0, 1) := by decide +kernel
theorem dX1_findLatest_1 : decode cX1_findLatest 1 = .ok (.getfield 40, 3) := by decide +kernel
theorem dX1_findLatest_4 : decode cX1_findLatest 4 = .ok (.iload_n 1, 1) := by decide +kernel
theorem dX1_findLatest_5 : decode cX1_findLatest 5 = .ok (.if_icmp .ne 4, 3) := by decide +kernel
theorem dX1_findLatest_8 : decode cX1_findLatest 8 = .ok (.return_, 1) := by decide +kernel
theorem dX1_findLatest_9 : decode cX1_findLatest 9 = .ok (.aload_n 0, 1) := by decide +kernel
theorem dX1_findLatest_10 : decode cX1_findLatest 10 = .ok (.iload_n 1, 1) := by decide +kernel
theorem dX1_findLatest_11 : decode cX1_findLatest 11 = .ok (.putfield 40, 3) := by decide +kernel
theorem dX1_findLatest_14 : decode cX1_findLatest 14 = .ok (.aload_n 0, 1) := by decide +kernel
theorem dX1_findLatest_15 : decode cX1_findLatest 15 = .ok (.getfield 37, 3) := by decide +kernel
theorem dX1_findLatest_18 : decode cX1_findLatest 18 = .ok (.iconst (-1), 1) := by decide +kernel
theorem dX1_findLatest_19 : decode cX1_findLatest 19 = .ok (.invokestatic 96, 3) := by decide +kernel
theorem dX1_findLatest_22 : decode cX1_findLatest 22 = .ok (.aload_n 0, 1) := by decide +kernel
theorem dX1_findLatest_23 : decode cX1_findLatest 23 = .ok (.getfield 37, 3) := by decide +kernel
theorem dX1_findLatest_26 : decode cX1_findLatest 26 = .ok (.iconst 0, 1) := by decide +kernel
theorem dX1_findLatest_27 : decode cX1_findLatest 27 = .ok (.bipush 12, 2) := by decide +kernel
theorem dX1_findLatest_29 : decode cX1_findLatest 29 = .ok (.iastore, 1) := by decide +kernel
theorem dX1_findLatest_30 : decode cX1_findLatest 30 = .ok (.iconst 0, 1) := by decide +kernel
theorem dX1_findLatest_31 : decode cX1_findLatest 31 = .ok (.istore_n 2, 1) := by decide +kernel
theorem dX1_findLatest_32 : decode cX1_findLatest 32 = .ok (.aload_n 0, 1) := by decide +kernel
theorem dX1_findLatest_33 : decode cX1_findLatest 33 = .ok (.getfield 48, 3) := by decide +kernel
theorem dX1_findLatest_36 : decode cX1_findLatest 36 = .ok (.iconst 1, 1) := by decide +kernel
theorem dX1_findLatest_37 : decode cX1_findLatest 37 = .ok (.isub, 1) := by decide +kernel
theorem dX1_findLatest_38 : decode cX1_findLatest 38 = .ok (.istore_n 3, 1) := by decide +kernel
theorem dX1_findLatest_39 : decode cX1_findLatest 39 = .ok (.iload_n 3, 1) := by decide +kernel
theorem dX1_findLatest_40 : decode cX1_findLatest 40 = .ok (.ifCond .lt 32, 3) := by decide +kernel
theorem dX1_findLatest_43 : decode cX1_findLatest 43 = .ok (.iload_n 1, 1) := by decide +kernel
theorem dX1_findLatest_44 : decode cX1_findLatest 44 = .ok (.iload_n 3, 1) := by decide +kernel
theorem dX1_findLatest_45 : decode cX1_findLatest 45 = .ok (.invokestatic 57, 3) := by decide +kernel
theorem dX1_findLatest_48 : decode cX1_findLatest 48 = .ok (.ifCond .eq 18, 3) := by decide +kernel
theorem dX1_findLatest_51 : decode cX1_findLatest 51 = .ok (.iload_n 2, 1) := by decide +kernel
theorem dX1_findLatest_52 : decode cX1_findLatest 52 = .ok (.aload_n 0, 1) := by decide +kernel
theorem dX1_findLatest_53 : decode cX1_findLatest 53 = .ok (.getfield 11, 3) := by decide +kernel
theorem dX1_findLatest_56 : decode cX1_findLatest 56 = .ok (.iload_n 3, 1) := by decide +kernel
theorem dX1_findLatest_57 : decode cX1_findLatest 57 = .ok (.iaload, 1) := by decide +kernel
theorem dX1_findLatest_58 : decode cX1_findLatest 58 = .ok (.iadd, 1) := by decide +kernel
theorem dX1_findLatest_59 : decode cX1_findLatest 59 = .ok (.istore_n 2, 1) := by decide +kernel
theorem dX1_findLatest_60 : decode cX1_findLatest 60 = .ok (.aload_n 0, 1) := by decide +kernel
theorem dX1_findLatest_61 : decode cX1_findLatest 61 = .ok (.iload_n 3, 1) := by decide +kernel
theorem dX1_findLatest_62 : decode cX1_findLatest 62 = .ok (.iload_n 2, 1) := by decide +kernel
theorem dX1_findLatest_63 : decode cX1_findLatest 63 = .ok (.invokevirtual 102, 3) := by decide +kernel
theorem dX1_findLatest_66 : decode cX1_findLatest 66 = .ok (.iinc 3 (-1), 3) := by decide +kernel
theorem dX1_findLatest_69 : decode cX1_findLatest 69 = .ok (.goto (-30), 3) := by decide +kernel
theorem dX1_findLatest_72 : decode cX1_findLatest 72 = .ok (.return_, 1) := by decide +kernel
set_option maxRecDepth 20000 in
theorem ggX1_findWith_X1_greatestOn : GoodIn wsX1_findWith wsX1_greatestOn := goodIn_r _ [9, 4, 10, 11, 2, 12, 13, 14, 15, 16, 17, 18, 19, 20, 21, 22, 23, 24] (by decide +kernel) (by decide +kernel)
set_option maxRecDepth 20000 in
theorem gX1_findWith_X1_greatestOn : GoodIn wsX1_findWith (wsV RX1 71 RX1 yX1_greatestOn wsX1_greatestOn) := goodIn_app (goodIn_of _ (by decide +kernel)) ggX1_findWith_X1_greatestOn
theorem dX1_findWith_0 : decode cX1_findWith 0 = .ok (.iconst 1, 1) := by decide +kernel
theorem dX1_findWith_1 : decode cX1_findWith 1 = .ok (.istore_n 3, 1) := by decide +kernel
theorem dX1_findWith_2 : decode cX1_findWith 2 = .ok (.iload_n 3, 1) := by decide +kernel
theorem dX1_findWith_3 : decode cX1_findWith 3 = .ok (.iconst 1, 1) := by decide +kernel
theorem dX1_findWith_4 : decode cX1_findWith 4 = .ok (.aload_n 0, 1) := by decide +kernel
theorem dX1_findWith_5 : decode cX1_findWith 5 = .ok (.getfield 51, 3) := by decide +kernel
theorem dX1_findWith_8 : decode cX1_findWith 8 = .ok (.ishl, 1) := by decide +kernel
theorem dX1_findWith_9 : decode cX1_findWith 9 = .ok (.if_icmp .ge 54, 3) := by decide +kernel
theorem dX1_findWith_12 : decode cX1_findWith 12 = .ok (.aload_n 0, 1) := by decide +kernel
theorem dX1_findWith_13 : decode cX1_findWith 13 = .ok (.getfield 37, 3) := by decide +kernel
theorem dX1_findWith_16 : decode cX1_findWith 16 = .ok (.iload_n 3, 1) := by decide +kernel
theorem dX1_findWith_17 : decode cX1_findWith 17 = .ok (.iaload, 1) := by decide +kernel
theorem dX1_findWith_18 : decode cX1_findWith 18 = .ok (.iconst (-1), 1) := by decide +kernel
theorem dX1_findWith_19 : decode cX1_findWith 19 = .ok (.if_icmp .ne 38, 3) := by decide +kernel
theorem dX1_findWith_22 : decode cX1_findWith 22 = .ok (.aload_n 0, 1) := by decide +kernel
theorem dX1_findWith_23 : decode cX1_findWith 23 = .ok (.getfield 34, 3) := by decide +kernel
theorem dX1_findWith_26 : decode cX1_findWith 26 = .ok (.iload_n 3, 1) := by decide +kernel
theorem dX1_findWith_27 : decode cX1_findWith 27 = .ok (.baload, 1) := by decide +kernel
theorem dX1_findWith_28 : decode cX1_findWith 28 = .ok (.ifCond .eq 29, 3) := by decide +kernel
theorem dX1_findWith_31 : decode cX1_findWith 31 = .ok (.aload_n 0, 1) := by decide +kernel
theorem dX1_findWith_32 : decode cX1_findWith 32 = .ok (.getfield 27, 3) := by decide +kernel
theorem dX1_findWith_35 : decode cX1_findWith 35 = .ok (.iload_n 3, 1) := by decide +kernel
theorem dX1_findWith_36 : decode cX1_findWith 36 = .ok (.iaload, 1) := by decide +kernel
theorem dX1_findWith_37 : decode cX1_findWith 37 = .ok (.iload_n 2, 1) := by decide +kernel
theorem dX1_findWith_38 : decode cX1_findWith 38 = .ok (.if_icmp .gt 19, 3) := by decide +kernel
theorem dX1_findWith_41 : decode cX1_findWith 41 = .ok (.aload_n 0, 1) := by decide +kernel
theorem dX1_findWith_42 : decode cX1_findWith 42 = .ok (.iload_n 1, 1) := by decide +kernel
theorem dX1_findWith_43 : decode cX1_findWith 43 = .ok (.iload_n 3, 1) := by decide +kernel
theorem dX1_findWith_44 : decode cX1_findWith 44 = .ok (.invokevirtual 71, 3) := by decide +kernel
theorem dX1_findWith_47 : decode cX1_findWith 47 = .ok (.ifCond .le 10, 3) := by decide +kernel
theorem dX1_findWith_50 : decode cX1_findWith 50 = .ok (.aload_n 0, 1) := by decide +kernel
theorem dX1_findWith_51 : decode cX1_findWith 51 = .ok (.getfield 37, 3) := by decide +kernel
theorem dX1_findWith_54 : decode cX1_findWith 54 = .ok (.iload_n 3, 1) := by decide +kernel
theorem dX1_findWith_55 : decode cX1_findWith 55 = .ok (.iload_n 1, 1) := by decide +kernel
theorem dX1_findWith_56 : decode cX1_findWith 56 = .ok (.iastore, 1) := by decide +kernel
theorem dX1_findWith_57 : decode cX1_findWith 57 = .ok (.iinc 3 1, 3) := by decide +kernel
theorem dX1_findWith_60 : decode cX1_findWith 60 = .ok (.goto (-58), 3) := by decide +kernel
theorem dX1_findWith_63 : decode cX1_findWith 63 = .ok (.return_, 1) := by decide +kernel
theorem dX1_greatestOn_0 : decode cX1_greatestOn 0 = .ok (.iload_n 2, 1) := by decide +kernel
theorem dX1_greatestOn_1 : decode cX1_greatestOn 1 = .ok (.istore_n 3, 1) := by decide +kernel
theorem dX1_greatestOn_2 : decode cX1_greatestOn 2 = .ok (.iload_n 3, 1) := by decide +kernel
theorem dX1_greatestOn_3 : decode cX1_greatestOn 3 = .ok (.ifCond .le 50, 3) := by decide +kernel
theorem dX1_greatestOn_6 : decode cX1_greatestOn 6 = .ok (.aload_n 0, 1) := by decide +kernel
theorem dX1_greatestOn_7 : decode cX1_greatestOn 7 = .ok (.getfield 27, 3) := by decide +kernel
theorem dX1_greatestOn_10 : decode cX1_greatestOn 10 = .ok (.iload_n 3, 1) := by decide +kernel
theorem dX1_greatestOn_11 : decode cX1_greatestOn 11 = .ok (.iaload, 1) := by decide +kernel
theorem dX1_greatestOn_12 : decode cX1_greatestOn 12 = .ok (.aload_n 0, 1) := by decide +kernel
theorem dX1_greatestOn_13 : decode cX1_greatestOn 13 = .ok (.getfield 11, 3) := by decide +kernel
theorem dX1_greatestOn_16 : decode cX1_greatestOn 16 = .ok (.iload_n 1, 1) := by decide +kernel
theorem dX1_greatestOn_17 : decode cX1_greatestOn 17 = .ok (.iaload, 1) := by decide +kernel
theorem dX1_greatestOn_18 : decode cX1_greatestOn 18 = .ok (.if_icmp .gt 26, 3) := by decide +kernel
theorem dX1_greatestOn_21 : decode cX1_greatestOn 21 = .ok (.aload_n 0, 1) := by decide +kernel
theorem dX1_greatestOn_22 : decode cX1_greatestOn 22 = .ok (.getfield 30, 3) := by decide +kernel
theorem dX1_greatestOn_25 : decode cX1_greatestOn 25 = .ok (.iload_n 3, 1) := by decide +kernel
theorem dX1_greatestOn_26 : decode cX1_greatestOn 26 = .ok (.baload, 1) := by decide +kernel
theorem dX1_greatestOn_27 : decode cX1_greatestOn 27 = .ok (.ifCond .ne 17, 3) := by decide +kernel
theorem dX1_greatestOn_30 : decode cX1_greatestOn 30 = .ok (.aload_n 0, 1) := by decide +kernel
theorem dX1_greatestOn_31 : decode cX1_greatestOn 31 = .ok (.getfield 37, 3) := by decide +kernel
theorem dX1_greatestOn_34 : decode cX1_greatestOn 34 = .ok (.iload_n 2, 1) := by decide +kernel
theorem dX1_greatestOn_35 : decode cX1_greatestOn 35 = .ok (.iload_n 3, 1) := by decide +kernel
theorem dX1_greatestOn_36 : decode cX1_greatestOn 36 = .ok (.ixor, 1) := by decide +kernel
theorem dX1_greatestOn_37 : decode cX1_greatestOn 37 = .ok (.iaload, 1) := by decide +kernel
theorem dX1_greatestOn_38 : decode cX1_greatestOn 38 = .ok (.iload_n 1, 1) := by decide +kernel
theorem dX1_greatestOn_39 : decode cX1_greatestOn 39 = .ok (.if_icmp .le 5, 3) := by decide +kernel
theorem dX1_greatestOn_42 : decode cX1_greatestOn 42 = .ok (.iload_n 3, 1) := by decide +kernel
theorem dX1_greatestOn_43 : decode cX1_greatestOn 43 = .ok (.ireturn, 1) := by decide +kernel
theorem dX1_greatestOn_44 : decode cX1_greatestOn 44 = .ok (.iload_n 3, 1) := by decide +kernel
theorem dX1_greatestOn_45 : decode cX1_greatestOn 45 = .ok (.iconst 1, 1) := by decide +kernel
theorem dX1_greatestOn_46 : decode cX1_greatestOn 46 = .ok (.isub, 1) := by decide +kernel
theorem dX1_greatestOn_47 : decode cX1_greatestOn 47 = .ok (.iload_n 2, 1) := by decide +kernel
theorem dX1_greatestOn_48 : decode cX1_greatestOn 48 = .ok (.iand, 1) := by decide +kernel
theorem dX1_greatestOn_49 : decode cX1_greatestOn 49 = .ok (.istore_n 3, 1) := by decide +kernel
theorem dX1_greatestOn_50 : decode cX1_greatestOn 50 = .ok (.goto (-48), 3) := by decide +kernel
theorem dX1_greatestOn_53 : decode cX1_greatestOn 53 = .ok (.iconst 0, 1) := by decide +kernel
theorem dX1_greatestOn_54 : decode cX1_greatestOn 54 = .ok (.ireturn, 1) := by decide +kernel
theorem dX1_has_0 : decode cX1_has 0 = .ok (.iload_n 0, 1) := by decide +kernel
theorem dX1_has_1 : decode cX1_has 1 = .ok (.iload_n 1, 1) := by decide +kernel
theorem dX1_has_2 : decode cX1_has 2 = .ok (.ishr, 1) := by decide +kernel
theorem dX1_has_3 : decode cX1_has 3 = .ok (.iconst 1, 1) := by decide +kernel
theorem dX1_has_4 : decode cX1_has 4 = .ok (.iand, 1) := by decide +kernel
theorem dX1_has_5 : decode cX1_has 5 = .ok (.ifCond .eq 7, 3) := by decide +kernel
theorem dX1_has_8 : decode cX1_has 8 = .ok (.iconst 1, 1) := by decide +kernel
theorem dX1_has_9 : decode cX1_has 9 = .ok (.goto 4, 3) := by decide +kernel
theorem dX1_has_12 : decode cX1_has 12 = .ok (.iconst 0, 1) := by decide +kernel
theorem dX1_has_13 : decode cX1_has 13 = .ok (.ireturn, 1) := by decide +kernel
theorem dX2_init_0 : decode cX2_init 0 = .ok (.aload_n 0, 1) := by decide +kernel
theorem dX2_init_1 : decode cX2_init 1 = .ok (.invokespecial 5, 3) := by decide +kernel
theorem dX2_init_4 : decode cX2_init 4 = .ok (.aload_n 0, 1) := by decide +kernel
theorem dX2_init_5 : decode cX2_init 5 = .ok (.bipush 12, 2) := by decide +kernel
theorem dX2_init_7 : decode cX2_init 7 = .ok (.iconst 4, 1) := by decide +kernel
theorem dX2_init_8 : decode cX2_init 8 = .ok (.multianewarray 11 2, 4) := by decide +kernel
theorem dX2_init_12 : decode cX2_init 12 = .ok (.putfield 13, 3) := by decide +kernel
theorem dX2_init_15 : decode cX2_init 15 = .ok (.aload_n 0, 1) := by decide +kernel
theorem dX2_init_16 : decode cX2_init 16 = .ok (.bipush 12, 2) := by decide +kernel
theorem dX2_init_18 : decode cX2_init 18 = .ok (.newarray .int, 2) := by decide +kernel
theorem dX2_init_20 : decode cX2_init 20 = .ok (.putfield 16, 3) := by decide +kernel
theorem dX2_init_23 : decode cX2_init 23 = .ok (.aload_n 0, 1) := by decide +kernel
theorem dX2_init_24 : decode cX2_init 24 = .ok (.iconst 4, 1) := by decide +kernel
theorem dX2_init_25 : decode cX2_init 25 = .ok (.newarray .int, 2) := by decide +kernel
theorem dX2_init_27 : decode cX2_init 27 = .ok (.putfield 20, 3) := by decide +kernel
theorem dX2_init_30 : decode cX2_init 30 = .ok (.aload_n 0, 1) := by decide +kernel
theorem dX2_init_31 : decode cX2_init 31 = .ok (.iconst 4, 1) := by decide +kernel
theorem dX2_init_32 : decode cX2_init 32 = .ok (.newarray .int, 2) := by decide +kernel
theorem dX2_init_34 : decode cX2_init 34 = .ok (.putfield 23, 3) := by decide +kernel
theorem dX2_init_37 : decode cX2_init 37 = .ok (.aload_n 0, 1) := by decide +kernel
theorem dX2_init_38 : decode cX2_init 38 = .ok (.iconst 4, 1) := by decide +kernel
theorem dX2_init_39 : decode cX2_init 39 = .ok (.newarray .int, 2) := by decide +kernel
theorem dX2_init_41 : decode cX2_init 41 = .ok (.putfield 26, 3) := by decide +kernel
theorem dX2_init_44 : decode cX2_init 44 = .ok (.aload_n 0, 1) := by decide +kernel
theorem dX2_init_45 : decode cX2_init 45 = .ok (.iconst 4, 1) := by decide +kernel
theorem dX2_init_46 : decode cX2_init 46 = .ok (.bipush 12, 2) := by decide +kernel
theorem dX2_init_48 : decode cX2_init 48 = .ok (.multianewarray 11 2, 4) := by decide +kernel
theorem dX2_init_52 : decode cX2_init 52 = .ok (.putfield 29, 3) := by decide +kernel
theorem dX2_init_55 : decode cX2_init 55 = .ok (.aload_n 0, 1) := by decide +kernel
theorem dX2_init_56 : decode cX2_init 56 = .ok (.sipush 501, 3) := by decide +kernel
theorem dX2_init_59 : decode cX2_init 59 = .ok (.newarray .int, 2) := by decide +kernel
theorem dX2_init_61 : decode cX2_init 61 = .ok (.putfield 32, 3) := by decide +kernel
theorem dX2_init_64 : decode cX2_init 64 = .ok (.aload_n 0, 1) := by decide +kernel
theorem dX2_init_65 : decode cX2_init 65 = .ok (.sipush 384, 3) := by decide +kernel
theorem dX2_init_68 : decode cX2_init 68 = .ok (.newarray .long, 2) := by decide +kernel
theorem dX2_init_70 : decode cX2_init 70 = .ok (.putfield 35, 3) := by decide +kernel
theorem dX2_init_73 : decode cX2_init 73 = .ok (.return_, 1) := by decide +kernel
set_option maxRecDepth 20000 in
theorem ggX2_hasType_X6_within : GoodIn wsX2_hasType wsX6_within := goodIn_r _ [4] (by decide +kernel) (by decide +kernel)
set_option maxRecDepth 20000 in
theorem gX2_hasType_X6_within_n43 : GoodIn wsX2_hasType (wsX6_within) := ggX2_hasType_X6_within
theorem dX2_hasType_0 : decode cX2_hasType 0 = .ok (.iload_n 1, 1) := by decide +kernel
theorem dX2_hasType_1 : decode cX2_hasType 1 = .ok (.i2l, 1) := by decide +kernel
theorem dX2_hasType_2 : decode cX2_hasType 2 = .ok (.iconst 0, 1) := by decide +kernel
theorem dX2_hasType_3 : decode cX2_hasType 3 = .ok (.aload_n 0, 1) := by decide +kernel
theorem dX2_hasType_4 : decode cX2_hasType 4 = .ok (.getfield 39, 3) := by decide +kernel
theorem dX2_hasType_7 : decode cX2_hasType 7 = .ok (.iconst 1, 1) := by decide +kernel
theorem dX2_hasType_8 : decode cX2_hasType 8 = .ok (.isub, 1) := by decide +kernel
theorem dX2_hasType_9 : decode cX2_hasType 9 = .ok (.invokestatic 43, 3) := by decide +kernel
theorem dX2_hasType_12 : decode cX2_hasType 12 = .ok (.ireturn, 1) := by decide +kernel
theorem dX2_isEnough_0 : decode cX2_isEnough 0 = .ok (.aload_n 0, 1) := by decide +kernel
theorem dX2_isEnough_1 : decode cX2_isEnough 1 = .ok (.getfield 47, 3) := by decide +kernel
theorem dX2_isEnough_4 : decode cX2_isEnough 4 = .ok (.ldc 50, 2) := by decide +kernel
theorem dX2_isEnough_6 : decode cX2_isEnough 6 = .ok (.if_icmp .ge 7, 3) := by decide +kernel
theorem dX2_isEnough_9 : decode cX2_isEnough 9 = .ok (.iconst 1, 1) := by decide +kernel
theorem dX2_isEnough_10 : decode cX2_isEnough 10 = .ok (.goto 4, 3) := by decide +kernel
theorem dX2_isEnough_13 : decode cX2_isEnough 13 = .ok (.iconst 0, 1) := by decide +kernel
theorem dX2_isEnough_14 : decode cX2_isEnough 14 = .ok (.ireturn, 1) := by decide +kernel
set_option maxRecDepth 20000 in
theorem ggX2_want_X4_at : GoodIn wsX2_want wsX4_at := goodIn_r _ [7, 8, 21, 22, 23] (by decide +kernel) (by decide +kernel)
set_option maxRecDepth 20000 in
theorem gX2_want_X4_at : GoodIn wsX2_want (wsV RX2 51 RX4 yX4_at wsX4_at) := goodIn_app (goodIn_of _ (by decide +kernel)) ggX2_want_X4_at
theorem dX2_want_0 : decode cX2_want 0 = .ok (.iconst 0, 1) := by decide +kernel
theorem dX2_want_1 : decode cX2_want 1 = .ok (.istore_n 3, 1) := by decide +kernel
theorem dX2_want_2 : decode cX2_want 2 = .ok (.iload_n 3, 1) := by decide +kernel
theorem dX2_want_3 : decode cX2_want 3 = .ok (.bipush 12, 2) := by decide +kernel
theorem dX2_want_5 : decode cX2_want 5 = .ok (.if_icmp .ge 22, 3) := by decide +kernel
theorem dX2_want_8 : decode cX2_want 8 = .ok (.aload_n 0, 1) := by decide +kernel
theorem dX2_want_9 : decode cX2_want 9 = .ok (.getfield 16, 3) := by decide +kernel
theorem dX2_want_12 : decode cX2_want 12 = .ok (.iload_n 3, 1) := by decide +kernel
theorem dX2_want_13 : decode cX2_want 13 = .ok (.aload_n 1, 1) := by decide +kernel
theorem dX2_want_14 : decode cX2_want 14 = .ok (.iload_n 2, 1) := by decide +kernel
theorem dX2_want_15 : decode cX2_want 15 = .ok (.iload_n 3, 1) := by decide +kernel
theorem dX2_want_16 : decode cX2_want 16 = .ok (.invokevirtual 51, 3) := by decide +kernel
theorem dX2_want_19 : decode cX2_want 19 = .ok (.l2i, 1) := by decide +kernel
theorem dX2_want_20 : decode cX2_want 20 = .ok (.iastore, 1) := by decide +kernel
theorem dX2_want_21 : decode cX2_want 21 = .ok (.iinc 3 1, 3) := by decide +kernel
theorem dX2_want_24 : decode cX2_want 24 = .ok (.goto (-22), 3) := by decide +kernel
theorem dX2_want_27 : decode cX2_want 27 = .ok (.aload_n 0, 1) := by decide +kernel
theorem dX2_want_28 : decode cX2_want 28 = .ok (.iconst 0, 1) := by decide +kernel
theorem dX2_want_29 : decode cX2_want 29 = .ok (.putfield 57, 3) := by decide +kernel
theorem dX2_want_32 : decode cX2_want 32 = .ok (.return_, 1) := by decide +kernel
theorem dX2_own_0 : decode cX2_own 0 = .ok (.aload_n 0, 1) := by decide +kernel
theorem dX2_own_1 : decode cX2_own 1 = .ok (.iload_n 1, 1) := by decide +kernel
theorem dX2_own_2 : decode cX2_own 2 = .ok (.putfield 61, 3) := by decide +kernel
theorem dX2_own_5 : decode cX2_own 5 = .ok (.aload_n 0, 1) := by decide +kernel
theorem dX2_own_6 : decode cX2_own 6 = .ok (.iconst 0, 1) := by decide +kernel
theorem dX2_own_7 : decode cX2_own 7 = .ok (.putfield 57, 3) := by decide +kernel
theorem dX2_own_10 : decode cX2_own 10 = .ok (.return_, 1) := by decide +kernel
set_option maxRecDepth 20000 in
theorem ggX2_addType_X4_at : GoodIn wsX2_addType wsX4_at := goodIn_r _ [11, 12, 25, 26, 27] (by decide +kernel) (by decide +kernel)
set_option maxRecDepth 20000 in
theorem gX2_addType_X4_at : GoodIn wsX2_addType (wsV RX2 51 RX4 yX4_at wsX4_at) := goodIn_app (goodIn_of _ (by decide +kernel)) ggX2_addType_X4_at
theorem dX2_addType_0 : decode cX2_addType 0 = .ok (.aload_n 0, 1) := by decide +kernel
theorem dX2_addType_1 : decode cX2_addType 1 = .ok (.dup, 1) := by decide +kernel
theorem dX2_addType_2 : decode cX2_addType 2 = .ok (.getfield 39, 3) := by decide +kernel
theorem dX2_addType_5 : decode cX2_addType 5 = .ok (.dup_x1, 1) := by decide +kernel
theorem dX2_addType_6 : decode cX2_addType 6 = .ok (.iconst 1, 1) := by decide +kernel
theorem dX2_addType_7 : decode cX2_addType 7 = .ok (.iadd, 1) := by decide +kernel
theorem dX2_addType_8 : decode cX2_addType 8 = .ok (.putfield 39, 3) := by decide +kernel
theorem dX2_addType_11 : decode cX2_addType 11 = .ok (.istore 6, 2) := by decide +kernel
theorem dX2_addType_13 : decode cX2_addType 13 = .ok (.aload_n 0, 1) := by decide +kernel
theorem dX2_addType_14 : decode cX2_addType 14 = .ok (.getfield 20, 3) := by decide +kernel
theorem dX2_addType_17 : decode cX2_addType 17 = .ok (.iload 6, 2) := by decide +kernel
theorem dX2_addType_19 : decode cX2_addType 19 = .ok (.iload_n 1, 1) := by decide +kernel
theorem dX2_addType_20 : decode cX2_addType 20 = .ok (.iastore, 1) := by decide +kernel
theorem dX2_addType_21 : decode cX2_addType 21 = .ok (.aload_n 0, 1) := by decide +kernel
theorem dX2_addType_22 : decode cX2_addType 22 = .ok (.getfield 23, 3) := by decide +kernel
theorem dX2_addType_25 : decode cX2_addType 25 = .ok (.iload 6, 2) := by decide +kernel
theorem dX2_addType_27 : decode cX2_addType 27 = .ok (.iload_n 2, 1) := by decide +kernel
theorem dX2_addType_28 : decode cX2_addType 28 = .ok (.iastore, 1) := by decide +kernel
theorem dX2_addType_29 : decode cX2_addType 29 = .ok (.aload_n 0, 1) := by decide +kernel
theorem dX2_addType_30 : decode cX2_addType 30 = .ok (.getfield 26, 3) := by decide +kernel
theorem dX2_addType_33 : decode cX2_addType 33 = .ok (.iload 6, 2) := by decide +kernel
theorem dX2_addType_35 : decode cX2_addType 35 = .ok (.iload_n 3, 1) := by decide +kernel
theorem dX2_addType_36 : decode cX2_addType 36 = .ok (.iastore, 1) := by decide +kernel
theorem dX2_addType_37 : decode cX2_addType 37 = .ok (.iconst 0, 1) := by decide +kernel
theorem dX2_addType_38 : decode cX2_addType 38 = .ok (.istore 7, 2) := by decide +kernel
theorem dX2_addType_40 : decode cX2_addType 40 = .ok (.iload 7, 2) := by decide +kernel
theorem dX2_addType_42 : decode cX2_addType 42 = .ok (.bipush 12, 2) := by decide +kernel
theorem dX2_addType_44 : decode cX2_addType 44 = .ok (.if_icmp .ge 29, 3) := by decide +kernel
theorem dX2_addType_47 : decode cX2_addType 47 = .ok (.aload_n 0, 1) := by decide +kernel
theorem dX2_addType_48 : decode cX2_addType 48 = .ok (.getfield 29, 3) := by decide +kernel
theorem dX2_addType_51 : decode cX2_addType 51 = .ok (.iload 6, 2) := by decide +kernel
theorem dX2_addType_53 : decode cX2_addType 53 = .ok (.aaload, 1) := by decide +kernel
theorem dX2_addType_54 : decode cX2_addType 54 = .ok (.iload 7, 2) := by decide +kernel
theorem dX2_addType_56 : decode cX2_addType 56 = .ok (.aload 4, 2) := by decide +kernel
theorem dX2_addType_58 : decode cX2_addType 58 = .ok (.iload 5, 2) := by decide +kernel
theorem dX2_addType_60 : decode cX2_addType 60 = .ok (.iload 7, 2) := by decide +kernel
theorem dX2_addType_62 : decode cX2_addType 62 = .ok (.invokevirtual 51, 3) := by decide +kernel
theorem dX2_addType_65 : decode cX2_addType 65 = .ok (.l2i, 1) := by decide +kernel
theorem dX2_addType_66 : decode cX2_addType 66 = .ok (.iastore, 1) := by decide +kernel
theorem dX2_addType_67 : decode cX2_addType 67 = .ok (.iinc 7 1, 3) := by decide +kernel
theorem dX2_addType_70 : decode cX2_addType 70 = .ok (.goto (-30), 3) := by decide +kernel
theorem dX2_addType_73 : decode cX2_addType 73 = .ok (.aload_n 0, 1) := by decide +kernel
theorem dX2_addType_74 : decode cX2_addType 74 = .ok (.iconst 0, 1) := by decide +kernel
theorem dX2_addType_75 : decode cX2_addType 75 = .ok (.putfield 57, 3) := by decide +kernel
theorem dX2_addType_78 : decode cX2_addType 78 = .ok (.iload 6, 2) := by decide +kernel
theorem dX2_addType_80 : decode cX2_addType 80 = .ok (.ireturn, 1) := by decide +kernel
set_option maxRecDepth 20000 in
theorem ggX2_solve_J7_fill_53178 : GoodIn wsX2_solve wsJ7_fill_53178 := goodIn_r _ [13] (by decide +kernel) (by decide +kernel)
set_option maxRecDepth 20000 in
theorem gX2_solve_J7_fill_53178 : GoodIn wsX2_solve (va_wsS RX2 64 yJ7_fill_53178 wsJ7_fill_53178) := goodIn_app (goodIn_of _ (by decide +kernel)) ggX2_solve_J7_fill_53178
set_option maxRecDepth 20000 in
theorem ggX2_solve_J7_fill_d0a16 : GoodIn wsX2_solve wsJ7_fill_d0a16 := goodIn_r _ [16] (by decide +kernel) (by decide +kernel)
set_option maxRecDepth 20000 in
theorem gX2_solve_J7_fill_d0a16 : GoodIn wsX2_solve (va_wsS RX2 70 yJ7_fill_d0a16 wsJ7_fill_d0a16) := goodIn_app (goodIn_of _ (by decide +kernel)) ggX2_solve_J7_fill_d0a16
set_option maxRecDepth 20000 in
theorem ggX2_solve_J7_fill_fda19 : GoodIn wsX2_solve wsJ7_fill_fda19 := goodIn_r _ [19, 20, 21, 12, 22] (by decide +kernel) (by decide +kernel)
set_option maxRecDepth 20000 in
theorem gX2_solve_J7_fill_fda19 : GoodIn wsX2_solve (va_wsS RX2 73 yJ7_fill_fda19 wsJ7_fill_fda19) := goodIn_app (goodIn_of _ (by decide +kernel)) ggX2_solve_J7_fill_fda19
set_option maxRecDepth 20000 in
theorem ggX2_solve_X2_offer : GoodIn wsX2_solve wsX2_offer := goodIn_r _ [27, 28, 7, 29, 2, 30, 31, 32, 33, 34, 3, 35, 36, 26, 37, 51, 52, 53, 54, 55, 56, 57, 58, 59, 60, 61, 62] (by decide +kernel) (by decide +kernel)
set_option maxRecDepth 20000 in
theorem gX2_solve_X2_offer : GoodIn wsX2_solve (wsV RX2 76 RX2 yX2_offer wsX2_offer) := goodIn_app (goodIn_of _ (by decide +kernel)) ggX2_solve_X2_offer
set_option maxRecDepth 20000 in
theorem ggX2_solve_X2_isEnough : GoodIn wsX2_solve wsX2_isEnough := goodIn_r _ [41, 9, 5, 51, 52, 53, 54, 55, 56, 57, 58, 59, 60, 61, 62] (by decide +kernel) (by decide +kernel)
set_option maxRecDepth 20000 in
theorem gX2_solve_X2_isEnough : GoodIn wsX2_solve (wsV RX2 80 RX2 yX2_isEnough wsX2_isEnough) := goodIn_app (goodIn_of _ (by decide +kernel)) ggX2_solve_X2_isEnough
set_option maxRecDepth 20000 in
theorem ggX2_solve_X2_choose : GoodIn wsX2_solve wsX2_choose := goodIn_r _ [45, 8, 6, 30, 31, 32, 33, 34, 46, 47, 48, 49, 26, 50, 3, 35, 36, 37, 51, 52, 53, 54, 55, 56, 57, 58, 59, 60, 61, 62] (by decide +kernel) (by decide +kernel)
set_option maxRecDepth 20000 in
theorem gX2_solve_X2_choose : GoodIn wsX2_solve (wsV RX2 84 RX2 yX2_choose wsX2_choose) := goodIn_app (goodIn_of _ (by decide +kernel)) ggX2_solve_X2_choose
theorem dX2_solve_0 : decode cX2_solve 0 = .ok (.aload_n 0, 1) := by decide +kernel
theorem dX2_solve_1 : decode cX2_solve 1 = .ok (.getfield 57, 3) := by decide +kernel
theorem dX2_solve_4 : decode cX2_solve 4 = .ok (.ifCond .eq 4, 3) := by decide +kernel
theorem dX2_solve_7 : decode cX2_solve 7 = .ok (.return_, 1) := by decide +kernel
theorem dX2_solve_8 : decode cX2_solve 8 = .ok (.aload_n 0, 1) := by decide +kernel
theorem dX2_solve_9 : decode cX2_solve 9 = .ok (.iconst 1, 1) := by decide +kernel
theorem dX2_solve_10 : decode cX2_solve 10 = .ok (.putfield 57, 3) := by decide +kernel
theorem dX2_solve_13 : decode cX2_solve 13 = .ok (.aload_n 0, 1) := by decide +kernel
theorem dX2_solve_14 : decode cX2_solve 14 = .ok (.getfield 32, 3) := by decide +kernel
theorem dX2_solve_17 : decode cX2_solve 17 = .ok (.iconst 0, 1) := by decide +kernel
theorem dX2_solve_18 : decode cX2_solve 18 = .ok (.invokestatic 64, 3) := by decide +kernel
theorem dX2_solve_21 : decode cX2_solve 21 = .ok (.aload_n 0, 1) := by decide +kernel
theorem dX2_solve_22 : decode cX2_solve 22 = .ok (.getfield 35, 3) := by decide +kernel
theorem dX2_solve_25 : decode cX2_solve 25 = .ok (.lconst 0, 1) := by decide +kernel
theorem dX2_solve_26 : decode cX2_solve 26 = .ok (.invokestatic 70, 3) := by decide +kernel
theorem dX2_solve_29 : decode cX2_solve 29 = .ok (.bipush 11, 2) := by decide +kernel
theorem dX2_solve_31 : decode cX2_solve 31 = .ok (.istore_n 1, 1) := by decide +kernel
theorem dX2_solve_32 : decode cX2_solve 32 = .ok (.iload_n 1, 1) := by decide +kernel
theorem dX2_solve_33 : decode cX2_solve 33 = .ok (.ifCond .lt 58, 3) := by decide +kernel
theorem dX2_solve_36 : decode cX2_solve 36 = .ok (.aload_n 0, 1) := by decide +kernel
theorem dX2_solve_37 : decode cX2_solve 37 = .ok (.getfield 32, 3) := by decide +kernel
theorem dX2_solve_40 : decode cX2_solve 40 = .ok (.iconst 0, 1) := by decide +kernel
theorem dX2_solve_41 : decode cX2_solve 41 = .ok (.aload_n 0, 1) := by decide +kernel
theorem dX2_solve_42 : decode cX2_solve 42 = .ok (.getfield 16, 3) := by decide +kernel
theorem dX2_solve_45 : decode cX2_solve 45 = .ok (.iload_n 1, 1) := by decide +kernel
theorem dX2_solve_46 : decode cX2_solve 46 = .ok (.iaload, 1) := by decide +kernel
theorem dX2_solve_47 : decode cX2_solve 47 = .ok (.ldc 50, 2) := by decide +kernel
theorem dX2_solve_49 : decode cX2_solve 49 = .ok (.invokestatic 73, 3) := by decide +kernel
theorem dX2_solve_52 : decode cX2_solve 52 = .ok (.aload_n 0, 1) := by decide +kernel
theorem dX2_solve_53 : decode cX2_solve 53 = .ok (.getfield 39, 3) := by decide +kernel
theorem dX2_solve_56 : decode cX2_solve 56 = .ok (.iconst 1, 1) := by decide +kernel
theorem dX2_solve_57 : decode cX2_solve 57 = .ok (.isub, 1) := by decide +kernel
theorem dX2_solve_58 : decode cX2_solve 58 = .ok (.istore_n 2, 1) := by decide +kernel
theorem dX2_solve_59 : decode cX2_solve 59 = .ok (.iload_n 2, 1) := by decide +kernel
theorem dX2_solve_60 : decode cX2_solve 60 = .ok (.ifCond .lt 25, 3) := by decide +kernel
theorem dX2_solve_63 : decode cX2_solve 63 = .ok (.aload_n 0, 1) := by decide +kernel
theorem dX2_solve_64 : decode cX2_solve 64 = .ok (.getfield 23, 3) := by decide +kernel
theorem dX2_solve_67 : decode cX2_solve 67 = .ok (.iload_n 2, 1) := by decide +kernel
theorem dX2_solve_68 : decode cX2_solve 68 = .ok (.iaload, 1) := by decide +kernel
theorem dX2_solve_69 : decode cX2_solve 69 = .ok (.iload_n 1, 1) := by decide +kernel
theorem dX2_solve_70 : decode cX2_solve 70 = .ok (.if_icmp .gt 9, 3) := by decide +kernel
theorem dX2_solve_73 : decode cX2_solve 73 = .ok (.aload_n 0, 1) := by decide +kernel
theorem dX2_solve_74 : decode cX2_solve 74 = .ok (.iload_n 1, 1) := by decide +kernel
theorem dX2_solve_75 : decode cX2_solve 75 = .ok (.iload_n 2, 1) := by decide +kernel
theorem dX2_solve_76 : decode cX2_solve 76 = .ok (.invokevirtual 76, 3) := by decide +kernel
theorem dX2_solve_79 : decode cX2_solve 79 = .ok (.iinc 2 (-1), 3) := by decide +kernel
theorem dX2_solve_82 : decode cX2_solve 82 = .ok (.goto (-23), 3) := by decide +kernel
theorem dX2_solve_85 : decode cX2_solve 85 = .ok (.iinc 1 (-1), 3) := by decide +kernel
theorem dX2_solve_88 : decode cX2_solve 88 = .ok (.goto (-56), 3) := by decide +kernel
theorem dX2_solve_91 : decode cX2_solve 91 = .ok (.aload_n 0, 1) := by decide +kernel
theorem dX2_solve_92 : decode cX2_solve 92 = .ok (.aload_n 0, 1) := by decide +kernel
theorem dX2_solve_93 : decode cX2_solve 93 = .ok (.getfield 32, 3) := by decide +kernel
theorem dX2_solve_96 : decode cX2_solve 96 = .ok (.aload_n 0, 1) := by decide +kernel
theorem dX2_solve_97 : decode cX2_solve 97 = .ok (.getfield 61, 3) := by decide +kernel
theorem dX2_solve_100 : decode cX2_solve 100 = .ok (.iaload, 1) := by decide +kernel
theorem dX2_solve_101 : decode cX2_solve 101 = .ok (.putfield 47, 3) := by decide +kernel
theorem dX2_solve_104 : decode cX2_solve 104 = .ok (.aload_n 0, 1) := by decide +kernel
theorem dX2_solve_105 : decode cX2_solve 105 = .ok (.invokevirtual 80, 3) := by decide +kernel
theorem dX2_solve_108 : decode cX2_solve 108 = .ok (.ifCond .eq 7, 3) := by decide +kernel
theorem dX2_solve_111 : decode cX2_solve 111 = .ok (.aload_n 0, 1) := by decide +kernel
theorem dX2_solve_112 : decode cX2_solve 112 = .ok (.invokevirtual 84, 3) := by decide +kernel
theorem dX2_solve_115 : decode cX2_solve 115 = .ok (.return_, 1) := by decide +kernel
set_option maxRecDepth 20000 in
theorem ggX2_offer_X2_word : GoodIn wsX2_offer wsX2_word := goodIn_r _ [14] (by decide +kernel) (by decide +kernel)
set_option maxRecDepth 20000 in
theorem gX2_offer_X2_word : GoodIn wsX2_offer (va_wsS RX2 93 yX2_word wsX2_word) := goodIn_app (goodIn_of _ (by decide +kernel)) ggX2_offer_X2_word
theorem dX2_offer_0 : decode cX2_offer 0 = .ok (.aload_n 0, 1) := by decide +kernel
theorem dX2_offer_1 : decode cX2_offer 1 = .ok (.getfield 29, 3) := by decide +kernel
theorem dX2_offer_4 : decode cX2_offer 4 = .ok (.iload_n 2, 1) := by decide +kernel
theorem dX2_offer_5 : decode cX2_offer 5 = .ok (.aaload, 1) := by decide +kernel
theorem dX2_offer_6 : decode cX2_offer 6 = .ok (.iload_n 1, 1) := by decide +kernel
theorem dX2_offer_7 : decode cX2_offer 7 = .ok (.aload_n 0, 1) := by decide +kernel
theorem dX2_offer_8 : decode cX2_offer 8 = .ok (.getfield 23, 3) := by decide +kernel
theorem dX2_offer_11 : decode cX2_offer 11 = .ok (.iload_n 2, 1) := by decide +kernel
theorem dX2_offer_12 : decode cX2_offer 12 = .ok (.iaload, 1) := by decide +kernel
theorem dX2_offer_13 : decode cX2_offer 13 = .ok (.isub, 1) := by decide +kernel
theorem dX2_offer_14 : decode cX2_offer 14 = .ok (.iaload, 1) := by decide +kernel
theorem dX2_offer_15 : decode cX2_offer 15 = .ok (.aload_n 0, 1) := by decide +kernel
theorem dX2_offer_16 : decode cX2_offer 16 = .ok (.getfield 26, 3) := by decide +kernel
theorem dX2_offer_19 : decode cX2_offer 19 = .ok (.iload_n 2, 1) := by decide +kernel
theorem dX2_offer_20 : decode cX2_offer 20 = .ok (.iaload, 1) := by decide +kernel
theorem dX2_offer_21 : decode cX2_offer 21 = .ok (.bipush 12, 2) := by decide +kernel
theorem dX2_offer_23 : decode cX2_offer 23 = .ok (.iload_n 1, 1) := by decide +kernel
theorem dX2_offer_24 : decode cX2_offer 24 = .ok (.isub, 1) := by decide +kernel
theorem dX2_offer_25 : decode cX2_offer 25 = .ok (.imul, 1) := by decide +kernel
theorem dX2_offer_26 : decode cX2_offer 26 = .ok (.iadd, 1) := by decide +kernel
theorem dX2_offer_27 : decode cX2_offer 27 = .ok (.istore_n 3, 1) := by decide +kernel
theorem dX2_offer_28 : decode cX2_offer 28 = .ok (.sipush 499, 3) := by decide +kernel
theorem dX2_offer_31 : decode cX2_offer 31 = .ok (.istore 4, 2) := by decide +kernel
theorem dX2_offer_33 : decode cX2_offer 33 = .ok (.iload 4, 2) := by decide +kernel
theorem dX2_offer_35 : decode cX2_offer 35 = .ok (.ifCond .lt 76, 3) := by decide +kernel
theorem dX2_offer_38 : decode cX2_offer 38 = .ok (.iload_n 3, 1) := by decide +kernel
theorem dX2_offer_39 : decode cX2_offer 39 = .ok (.aload_n 0, 1) := by decide +kernel
theorem dX2_offer_40 : decode cX2_offer 40 = .ok (.getfield 32, 3) := by decide +kernel
theorem dX2_offer_43 : decode cX2_offer 43 = .ok (.sipush 500, 3) := by decide +kernel
theorem dX2_offer_46 : decode cX2_offer 46 = .ok (.iload 4, 2) := by decide +kernel
theorem dX2_offer_48 : decode cX2_offer 48 = .ok (.aload_n 0, 1) := by decide +kernel
theorem dX2_offer_49 : decode cX2_offer 49 = .ok (.getfield 20, 3) := by decide +kernel
theorem dX2_offer_52 : decode cX2_offer 52 = .ok (.iload_n 2, 1) := by decide +kernel
theorem dX2_offer_53 : decode cX2_offer 53 = .ok (.iaload, 1) := by decide +kernel
theorem dX2_offer_54 : decode cX2_offer 54 = .ok (.iadd, 1) := by decide +kernel
theorem dX2_offer_55 : decode cX2_offer 55 = .ok (.invokestatic 87, 3) := by decide +kernel
theorem dX2_offer_58 : decode cX2_offer 58 = .ok (.iaload, 1) := by decide +kernel
theorem dX2_offer_59 : decode cX2_offer 59 = .ok (.iadd, 1) := by decide +kernel
theorem dX2_offer_60 : decode cX2_offer 60 = .ok (.istore 5, 2) := by decide +kernel
theorem dX2_offer_62 : decode cX2_offer 62 = .ok (.iload 5, 2) := by decide +kernel
theorem dX2_offer_64 : decode cX2_offer 64 = .ok (.aload_n 0, 1) := by decide +kernel
theorem dX2_offer_65 : decode cX2_offer 65 = .ok (.getfield 32, 3) := by decide +kernel
theorem dX2_offer_68 : decode cX2_offer 68 = .ok (.iload 4, 2) := by decide +kernel
theorem dX2_offer_70 : decode cX2_offer 70 = .ok (.iaload, 1) := by decide +kernel
theorem dX2_offer_71 : decode cX2_offer 71 = .ok (.if_icmp .ge 34, 3) := by decide +kernel
theorem dX2_offer_74 : decode cX2_offer 74 = .ok (.aload_n 0, 1) := by decide +kernel
theorem dX2_offer_75 : decode cX2_offer 75 = .ok (.getfield 32, 3) := by decide +kernel
theorem dX2_offer_78 : decode cX2_offer 78 = .ok (.iload 4, 2) := by decide +kernel
theorem dX2_offer_80 : decode cX2_offer 80 = .ok (.iload 5, 2) := by decide +kernel
theorem dX2_offer_82 : decode cX2_offer 82 = .ok (.iastore, 1) := by decide +kernel
theorem dX2_offer_83 : decode cX2_offer 83 = .ok (.aload_n 0, 1) := by decide +kernel
theorem dX2_offer_84 : decode cX2_offer 84 = .ok (.getfield 35, 3) := by decide +kernel
theorem dX2_offer_87 : decode cX2_offer 87 = .ok (.iload_n 1, 1) := by decide +kernel
theorem dX2_offer_88 : decode cX2_offer 88 = .ok (.iload_n 2, 1) := by decide +kernel
theorem dX2_offer_89 : decode cX2_offer 89 = .ok (.iload 4, 2) := by decide +kernel
theorem dX2_offer_91 : decode cX2_offer 91 = .ok (.invokestatic 93, 3) := by decide +kernel
theorem dX2_offer_94 : decode cX2_offer 94 = .ok (.dup2, 1) := by decide +kernel
theorem dX2_offer_95 : decode cX2_offer 95 = .ok (.laload, 1) := by decide +kernel
theorem dX2_offer_96 : decode cX2_offer 96 = .ok (.lconst 1, 1) := by decide +kernel
theorem dX2_offer_97 : decode cX2_offer 97 = .ok (.iload 4, 2) := by decide +kernel
theorem dX2_offer_99 : decode cX2_offer 99 = .ok (.bipush 63, 2) := by decide +kernel
theorem dX2_offer_101 : decode cX2_offer 101 = .ok (.iand, 1) := by decide +kernel
theorem dX2_offer_102 : decode cX2_offer 102 = .ok (.lshl, 1) := by decide +kernel
theorem dX2_offer_103 : decode cX2_offer 103 = .ok (.lor, 1) := by decide +kernel
theorem dX2_offer_104 : decode cX2_offer 104 = .ok (.lastore, 1) := by decide +kernel
theorem dX2_offer_105 : decode cX2_offer 105 = .ok (.iinc 4 (-1), 3) := by decide +kernel
theorem dX2_offer_108 : decode cX2_offer 108 = .ok (.goto (-75), 3) := by decide +kernel
theorem dX2_offer_111 : decode cX2_offer 111 = .ok (.return_, 1) := by decide +kernel
set_option maxRecDepth 20000 in
theorem ggX2_choose_X2_mustBuy : GoodIn wsX2_choose wsX2_mustBuy := goodIn_r _ [13, 14, 15, 16, 12, 17, 18, 19, 20, 21, 22, 23, 24, 25, 26, 27, 28, 29] (by decide +kernel) (by decide +kernel)
set_option maxRecDepth 20000 in
theorem gX2_choose_X2_mustBuy : GoodIn wsX2_choose (wsV RX2 97 RX2 yX2_mustBuy wsX2_mustBuy) := goodIn_app (goodIn_of _ (by decide +kernel)) ggX2_choose_X2_mustBuy
theorem dX2_choose_0 : decode cX2_choose 0 = .ok (.aload_n 0, 1) := by decide +kernel
theorem dX2_choose_1 : decode cX2_choose 1 = .ok (.getfield 61, 3) := by decide +kernel
theorem dX2_choose_4 : decode cX2_choose 4 = .ok (.istore_n 1, 1) := by decide +kernel
theorem dX2_choose_5 : decode cX2_choose 5 = .ok (.iconst 0, 1) := by decide +kernel
theorem dX2_choose_6 : decode cX2_choose 6 = .ok (.istore_n 2, 1) := by decide +kernel
theorem dX2_choose_7 : decode cX2_choose 7 = .ok (.iload_n 2, 1) := by decide +kernel
theorem dX2_choose_8 : decode cX2_choose 8 = .ok (.bipush 12, 2) := by decide +kernel
theorem dX2_choose_10 : decode cX2_choose 10 = .ok (.if_icmp .ge 84, 3) := by decide +kernel
theorem dX2_choose_13 : decode cX2_choose 13 = .ok (.iconst 0, 1) := by decide +kernel
theorem dX2_choose_14 : decode cX2_choose 14 = .ok (.istore_n 3, 1) := by decide +kernel
theorem dX2_choose_15 : decode cX2_choose 15 = .ok (.iload_n 3, 1) := by decide +kernel
theorem dX2_choose_16 : decode cX2_choose 16 = .ok (.aload_n 0, 1) := by decide +kernel
theorem dX2_choose_17 : decode cX2_choose 17 = .ok (.getfield 39, 3) := by decide +kernel
theorem dX2_choose_20 : decode cX2_choose 20 = .ok (.if_icmp .ge 68, 3) := by decide +kernel
theorem dX2_choose_23 : decode cX2_choose 23 = .ok (.iconst 0, 1) := by decide +kernel
theorem dX2_choose_24 : decode cX2_choose 24 = .ok (.istore 4, 2) := by decide +kernel
theorem dX2_choose_26 : decode cX2_choose 26 = .ok (.iload 4, 2) := by decide +kernel
theorem dX2_choose_28 : decode cX2_choose 28 = .ok (.sipush 500, 3) := by decide +kernel
theorem dX2_choose_31 : decode cX2_choose 31 = .ok (.if_icmp .ge 41, 3) := by decide +kernel
theorem dX2_choose_34 : decode cX2_choose 34 = .ok (.iload_n 1, 1) := by decide +kernel
theorem dX2_choose_35 : decode cX2_choose 35 = .ok (.sipush 500, 3) := by decide +kernel
theorem dX2_choose_38 : decode cX2_choose 38 = .ok (.if_icmp .ge 34, 3) := by decide +kernel
theorem dX2_choose_41 : decode cX2_choose 41 = .ok (.aload_n 0, 1) := by decide +kernel
theorem dX2_choose_42 : decode cX2_choose 42 = .ok (.iload_n 2, 1) := by decide +kernel
theorem dX2_choose_43 : decode cX2_choose 43 = .ok (.iload_n 3, 1) := by decide +kernel
theorem dX2_choose_44 : decode cX2_choose 44 = .ok (.iload_n 1, 1) := by decide +kernel
theorem dX2_choose_45 : decode cX2_choose 45 = .ok (.invokevirtual 97, 3) := by decide +kernel
theorem dX2_choose_48 : decode cX2_choose 48 = .ok (.ifCond .eq 24, 3) := by decide +kernel
theorem dX2_choose_51 : decode cX2_choose 51 = .ok (.sipush 500, 3) := by decide +kernel
theorem dX2_choose_54 : decode cX2_choose 54 = .ok (.iload_n 1, 1) := by decide +kernel
theorem dX2_choose_55 : decode cX2_choose 55 = .ok (.aload_n 0, 1) := by decide +kernel
theorem dX2_choose_56 : decode cX2_choose 56 = .ok (.getfield 20, 3) := by decide +kernel
theorem dX2_choose_59 : decode cX2_choose 59 = .ok (.iload_n 3, 1) := by decide +kernel
theorem dX2_choose_60 : decode cX2_choose 60 = .ok (.iaload, 1) := by decide +kernel
theorem dX2_choose_61 : decode cX2_choose 61 = .ok (.iadd, 1) := by decide +kernel
theorem dX2_choose_62 : decode cX2_choose 62 = .ok (.invokestatic 87, 3) := by decide +kernel
theorem dX2_choose_65 : decode cX2_choose 65 = .ok (.istore_n 1, 1) := by decide +kernel
theorem dX2_choose_66 : decode cX2_choose 66 = .ok (.iinc 4 1, 3) := by decide +kernel
theorem dX2_choose_69 : decode cX2_choose 69 = .ok (.goto (-43), 3) := by decide +kernel
theorem dX2_choose_72 : decode cX2_choose 72 = .ok (.aload_n 0, 1) := by decide +kernel
theorem dX2_choose_73 : decode cX2_choose 73 = .ok (.getfield 13, 3) := by decide +kernel
theorem dX2_choose_76 : decode cX2_choose 76 = .ok (.iload_n 2, 1) := by decide +kernel
theorem dX2_choose_77 : decode cX2_choose 77 = .ok (.aaload, 1) := by decide +kernel
theorem dX2_choose_78 : decode cX2_choose 78 = .ok (.iload_n 3, 1) := by decide +kernel
theorem dX2_choose_79 : decode cX2_choose 79 = .ok (.iload 4, 2) := by decide +kernel
theorem dX2_choose_81 : decode cX2_choose 81 = .ok (.iastore, 1) := by decide +kernel
theorem dX2_choose_82 : decode cX2_choose 82 = .ok (.iinc 3 1, 3) := by decide +kernel
theorem dX2_choose_85 : decode cX2_choose 85 = .ok (.goto (-70), 3) := by decide +kernel
theorem dX2_choose_88 : decode cX2_choose 88 = .ok (.iinc 2 1, 3) := by decide +kernel
theorem dX2_choose_91 : decode cX2_choose 91 = .ok (.goto (-84), 3) := by decide +kernel
theorem dX2_choose_94 : decode cX2_choose 94 = .ok (.return_, 1) := by decide +kernel
set_option maxRecDepth 20000 in
theorem ggX2_mustBuy_X2_word : GoodIn wsX2_mustBuy wsX2_word := goodIn_r _ [5] (by decide +kernel) (by decide +kernel)
set_option maxRecDepth 20000 in
theorem gX2_mustBuy_X2_word : GoodIn wsX2_mustBuy (va_wsS RX2 93 yX2_word wsX2_word) := goodIn_app (goodIn_of _ (by decide +kernel)) ggX2_mustBuy_X2_word
theorem dX2_mustBuy_0 : decode cX2_mustBuy 0 = .ok (.aload_n 0, 1) := by decide +kernel
theorem dX2_mustBuy_1 : decode cX2_mustBuy 1 = .ok (.getfield 35, 3) := by decide +kernel
theorem dX2_mustBuy_4 : decode cX2_mustBuy 4 = .ok (.iload_n 1, 1) := by decide +kernel
theorem dX2_mustBuy_5 : decode cX2_mustBuy 5 = .ok (.iload_n 2, 1) := by decide +kernel
theorem dX2_mustBuy_6 : decode cX2_mustBuy 6 = .ok (.iload_n 3, 1) := by decide +kernel
theorem dX2_mustBuy_7 : decode cX2_mustBuy 7 = .ok (.invokestatic 93, 3) := by decide +kernel
theorem dX2_mustBuy_10 : decode cX2_mustBuy 10 = .ok (.laload, 1) := by decide +kernel
theorem dX2_mustBuy_11 : decode cX2_mustBuy 11 = .ok (.iload_n 3, 1) := by decide +kernel
theorem dX2_mustBuy_12 : decode cX2_mustBuy 12 = .ok (.bipush 63, 2) := by decide +kernel
theorem dX2_mustBuy_14 : decode cX2_mustBuy 14 = .ok (.iand, 1) := by decide +kernel
theorem dX2_mustBuy_15 : decode cX2_mustBuy 15 = .ok (.lushr, 1) := by decide +kernel
theorem dX2_mustBuy_16 : decode cX2_mustBuy 16 = .ok (.lconst 1, 1) := by decide +kernel
theorem dX2_mustBuy_17 : decode cX2_mustBuy 17 = .ok (.land, 1) := by decide +kernel
theorem dX2_mustBuy_18 : decode cX2_mustBuy 18 = .ok (.lconst 0, 1) := by decide +kernel
theorem dX2_mustBuy_19 : decode cX2_mustBuy 19 = .ok (.lcmp, 1) := by decide +kernel
theorem dX2_mustBuy_20 : decode cX2_mustBuy 20 = .ok (.ifCond .eq 7, 3) := by decide +kernel
theorem dX2_mustBuy_23 : decode cX2_mustBuy 23 = .ok (.iconst 1, 1) := by decide +kernel
theorem dX2_mustBuy_24 : decode cX2_mustBuy 24 = .ok (.goto 4, 3) := by decide +kernel
theorem dX2_mustBuy_27 : decode cX2_mustBuy 27 = .ok (.iconst 0, 1) := by decide +kernel
theorem dX2_mustBuy_28 : decode cX2_mustBuy 28 = .ok (.ireturn, 1) := by decide +kernel
theorem dX2_word_0 : decode cX2_word 0 = .ok (.iload_n 0, 1) := by decide +kernel
theorem dX2_word_1 : decode cX2_word 1 = .ok (.iconst 4, 1) := by decide +kernel
theorem dX2_word_2 : decode cX2_word 2 = .ok (.imul, 1) := by decide +kernel
theorem dX2_word_3 : decode cX2_word 3 = .ok (.iload_n 1, 1) := by decide +kernel
theorem dX2_word_4 : decode cX2_word 4 = .ok (.iadd, 1) := by decide +kernel
theorem dX2_word_5 : decode cX2_word 5 = .ok (.bipush 8, 2) := by decide +kernel
theorem dX2_word_7 : decode cX2_word 7 = .ok (.imul, 1) := by decide +kernel
theorem dX2_word_8 : decode cX2_word 8 = .ok (.iload_n 2, 1) := by decide +kernel
theorem dX2_word_9 : decode cX2_word 9 = .ok (.bipush 6, 2) := by decide +kernel
theorem dX2_word_11 : decode cX2_word 11 = .ok (.ishr, 1) := by decide +kernel
theorem dX2_word_12 : decode cX2_word 12 = .ok (.iadd, 1) := by decide +kernel
theorem dX2_word_13 : decode cX2_word 13 = .ok (.ireturn, 1) := by decide +kernel
set_option maxRecDepth 20000 in
theorem ggX3_init_X0_init : GoodIn wsX3_init wsX0_init := goodIn_r _ [18, 19, 2, 3, 20, 21, 5, 22, 23, 24, 34, 35, 36, 37] (by decide +kernel) (by decide +kernel)
set_option maxRecDepth 20000 in
theorem gX3_init_X0_init : GoodIn wsX3_init (wsX0_init) := ggX3_init_X0_init
theorem dX3_init_0 : decode cX3_init 0 = .ok (.aload_n 0, 1) := by decide +kernel
theorem dX3_init_1 : decode cX3_init 1 = .ok (.invokespecial 5, 3) := by decide +kernel
theorem dX3_init_4 : decode cX3_init 4 = .ok (.aload_n 0, 1) := by decide +kernel
theorem dX3_init_5 : decode cX3_init 5 = .ok (.bipush 8, 2) := by decide +kernel
theorem dX3_init_7 : decode cX3_init 7 = .ok (.bipush 24, 2) := by decide +kernel
theorem dX3_init_9 : decode cX3_init 9 = .ok (.multianewarray 11 2, 4) := by decide +kernel
theorem dX3_init_13 : decode cX3_init 13 = .ok (.putfield 13, 3) := by decide +kernel
theorem dX3_init_16 : decode cX3_init 16 = .ok (.aload_n 0, 1) := by decide +kernel
theorem dX3_init_17 : decode cX3_init 17 = .ok (.bipush 8, 2) := by decide +kernel
theorem dX3_init_19 : decode cX3_init 19 = .ok (.newarray .int, 2) := by decide +kernel
theorem dX3_init_21 : decode cX3_init 21 = .ok (.putfield 16, 3) := by decide +kernel
theorem dX3_init_24 : decode cX3_init 24 = .ok (.aload_n 0, 1) := by decide +kernel
theorem dX3_init_25 : decode cX3_init 25 = .ok (.bipush 8, 2) := by decide +kernel
theorem dX3_init_27 : decode cX3_init 27 = .ok (.newarray .int, 2) := by decide +kernel
theorem dX3_init_29 : decode cX3_init 29 = .ok (.putfield 20, 3) := by decide +kernel
theorem dX3_init_32 : decode cX3_init 32 = .ok (.aload_n 0, 1) := by decide +kernel
theorem dX3_init_33 : decode cX3_init 33 = .ok (.bipush 8, 2) := by decide +kernel
theorem dX3_init_35 : decode cX3_init 35 = .ok (.newarray .int, 2) := by decide +kernel
theorem dX3_init_37 : decode cX3_init 37 = .ok (.putfield 23, 3) := by decide +kernel
theorem dX3_init_40 : decode cX3_init 40 = .ok (.aload_n 0, 1) := by decide +kernel
theorem dX3_init_41 : decode cX3_init 41 = .ok (.bipush 8, 2) := by decide +kernel
theorem dX3_init_43 : decode cX3_init 43 = .ok (.newarray .int, 2) := by decide +kernel
theorem dX3_init_45 : decode cX3_init 45 = .ok (.putfield 26, 3) := by decide +kernel
theorem dX3_init_48 : decode cX3_init 48 = .ok (.aload_n 0, 1) := by decide +kernel
theorem dX3_init_49 : decode cX3_init 49 = .ok (.new 29, 3) := by decide +kernel
theorem dX3_init_52 : decode cX3_init 52 = .ok (.dup, 1) := by decide +kernel
theorem dX3_init_53 : decode cX3_init 53 = .ok (.bipush 34, 2) := by decide +kernel
theorem dX3_init_55 : decode cX3_init 55 = .ok (.invokespecial 31, 3) := by decide +kernel
theorem dX3_init_58 : decode cX3_init 58 = .ok (.putfield 34, 3) := by decide +kernel
theorem dX3_init_61 : decode cX3_init 61 = .ok (.aload_n 0, 1) := by decide +kernel
theorem dX3_init_62 : decode cX3_init 62 = .ok (.iconst (-1), 1) := by decide +kernel
theorem dX3_init_63 : decode cX3_init 63 = .ok (.putfield 38, 3) := by decide +kernel
theorem dX3_init_66 : decode cX3_init 66 = .ok (.return_, 1) := by decide +kernel
set_option maxRecDepth 20000 in
theorem ggX3_hasBatch_X6_within : GoodIn wsX3_hasBatch wsX6_within := goodIn_r _ [4] (by decide +kernel) (by decide +kernel)
set_option maxRecDepth 20000 in
theorem gX3_hasBatch_X6_within_n45 : GoodIn wsX3_hasBatch (wsX6_within) := ggX3_hasBatch_X6_within
theorem dX3_hasBatch_0 : decode cX3_hasBatch 0 = .ok (.iload_n 1, 1) := by decide +kernel
theorem dX3_hasBatch_1 : decode cX3_hasBatch 1 = .ok (.i2l, 1) := by decide +kernel
theorem dX3_hasBatch_2 : decode cX3_hasBatch 2 = .ok (.iconst 0, 1) := by decide +kernel
theorem dX3_hasBatch_3 : decode cX3_hasBatch 3 = .ok (.aload_n 0, 1) := by decide +kernel
theorem dX3_hasBatch_4 : decode cX3_hasBatch 4 = .ok (.getfield 42, 3) := by decide +kernel
theorem dX3_hasBatch_7 : decode cX3_hasBatch 7 = .ok (.iconst 1, 1) := by decide +kernel
theorem dX3_hasBatch_8 : decode cX3_hasBatch 8 = .ok (.isub, 1) := by decide +kernel
theorem dX3_hasBatch_9 : decode cX3_hasBatch 9 = .ok (.invokestatic 45, 3) := by decide +kernel
theorem dX3_hasBatch_12 : decode cX3_hasBatch 12 = .ok (.ireturn, 1) := by decide +kernel
set_option maxRecDepth 20000 in
theorem ggX3_addBatch_X3_forget : GoodIn wsX3_addBatch wsX3_forget := goodIn_r _ [10, 11, 12, 13, 14, 15, 16, 17, 18, 19, 20] (by decide +kernel) (by decide +kernel)
set_option maxRecDepth 20000 in
theorem gX3_addBatch_X3_forget : GoodIn wsX3_addBatch (wsV RX3 49 RX3 yX3_forget wsX3_forget) := goodIn_app (goodIn_of _ (by decide +kernel)) ggX3_addBatch_X3_forget
theorem dX3_addBatch_0 : decode cX3_addBatch 0 = .ok (.aload_n 0, 1) := by decide +kernel
theorem dX3_addBatch_1 : decode cX3_addBatch 1 = .ok (.dup, 1) := by decide +kernel
theorem dX3_addBatch_2 : decode cX3_addBatch 2 = .ok (.getfield 42, 3) := by decide +kernel
theorem dX3_addBatch_5 : decode cX3_addBatch 5 = .ok (.dup_x1, 1) := by decide +kernel
theorem dX3_addBatch_6 : decode cX3_addBatch 6 = .ok (.iconst 1, 1) := by decide +kernel
theorem dX3_addBatch_7 : decode cX3_addBatch 7 = .ok (.iadd, 1) := by decide +kernel
theorem dX3_addBatch_8 : decode cX3_addBatch 8 = .ok (.putfield 42, 3) := by decide +kernel
theorem dX3_addBatch_11 : decode cX3_addBatch 11 = .ok (.istore 5, 2) := by decide +kernel
theorem dX3_addBatch_13 : decode cX3_addBatch 13 = .ok (.aload_n 0, 1) := by decide +kernel
theorem dX3_addBatch_14 : decode cX3_addBatch 14 = .ok (.getfield 16, 3) := by decide +kernel
theorem dX3_addBatch_17 : decode cX3_addBatch 17 = .ok (.iload 5, 2) := by decide +kernel
theorem dX3_addBatch_19 : decode cX3_addBatch 19 = .ok (.iload_n 1, 1) := by decide +kernel
theorem dX3_addBatch_20 : decode cX3_addBatch 20 = .ok (.iastore, 1) := by decide +kernel
theorem dX3_addBatch_21 : decode cX3_addBatch 21 = .ok (.aload_n 0, 1) := by decide +kernel
theorem dX3_addBatch_22 : decode cX3_addBatch 22 = .ok (.getfield 20, 3) := by decide +kernel
theorem dX3_addBatch_25 : decode cX3_addBatch 25 = .ok (.iload 5, 2) := by decide +kernel
theorem dX3_addBatch_27 : decode cX3_addBatch 27 = .ok (.iload_n 2, 1) := by decide +kernel
theorem dX3_addBatch_28 : decode cX3_addBatch 28 = .ok (.iastore, 1) := by decide +kernel
theorem dX3_addBatch_29 : decode cX3_addBatch 29 = .ok (.aload_n 0, 1) := by decide +kernel
theorem dX3_addBatch_30 : decode cX3_addBatch 30 = .ok (.getfield 23, 3) := by decide +kernel
theorem dX3_addBatch_33 : decode cX3_addBatch 33 = .ok (.iload 5, 2) := by decide +kernel
theorem dX3_addBatch_35 : decode cX3_addBatch 35 = .ok (.iload_n 3, 1) := by decide +kernel
theorem dX3_addBatch_36 : decode cX3_addBatch 36 = .ok (.iastore, 1) := by decide +kernel
theorem dX3_addBatch_37 : decode cX3_addBatch 37 = .ok (.aload_n 0, 1) := by decide +kernel
theorem dX3_addBatch_38 : decode cX3_addBatch 38 = .ok (.getfield 26, 3) := by decide +kernel
theorem dX3_addBatch_41 : decode cX3_addBatch 41 = .ok (.iload 5, 2) := by decide +kernel
theorem dX3_addBatch_43 : decode cX3_addBatch 43 = .ok (.iload 4, 2) := by decide +kernel
theorem dX3_addBatch_45 : decode cX3_addBatch 45 = .ok (.iastore, 1) := by decide +kernel
theorem dX3_addBatch_46 : decode cX3_addBatch 46 = .ok (.aload_n 0, 1) := by decide +kernel
theorem dX3_addBatch_47 : decode cX3_addBatch 47 = .ok (.invokevirtual 49, 3) := by decide +kernel
theorem dX3_addBatch_50 : decode cX3_addBatch 50 = .ok (.iload 5, 2) := by decide +kernel
theorem dX3_addBatch_52 : decode cX3_addBatch 52 = .ok (.ireturn, 1) := by decide +kernel
theorem dX3_forget_0 : decode cX3_forget 0 = .ok (.aload_n 0, 1) := by decide +kernel
theorem dX3_forget_1 : decode cX3_forget 1 = .ok (.iconst (-1), 1) := by decide +kernel
theorem dX3_forget_2 : decode cX3_forget 2 = .ok (.putfield 38, 3) := by decide +kernel
theorem dX3_forget_5 : decode cX3_forget 5 = .ok (.return_, 1) := by decide +kernel
set_option maxRecDepth 20000 in
theorem ggX3_lay_X3_layPipes : GoodIn wsX3_lay wsX3_layPipes := goodIn_r _ [8, 3, 9, 10, 11, 12, 13, 14, 15, 16, 17, 18, 19, 20, 21, 22, 23, 24, 25, 26, 27, 28, 29, 30, 31, 32, 33, 34, 35, 36, 37, 38, 39, 40, 41, 42, 43, 44, 45, 46, 47, 48, 49, 50, 51, 52, 53, 54, 55, 56, 57, 58, 59, 60, 61, 62, 92, 93, 94, 95, 96, 97, 98, 99, 100, 101, 102, 103, 104, 105, 106, 107, 108, 109, 110, 111, 112, 113, 114, 115, 116, 117] (by decide +kernel) (by decide +kernel)
set_option maxRecDepth 20000 in
theorem gX3_lay_X3_layPipes : GoodIn wsX3_lay (wsV RX3 52 RX3 yX3_layPipes wsX3_layPipes) := goodIn_app (goodIn_of _ (by decide +kernel)) ggX3_lay_X3_layPipes
set_option maxRecDepth 20000 in
theorem ggX3_lay_X0_push : GoodIn wsX3_lay wsX0_push := goodIn_r _ [66, 67, 68, 69, 70, 17, 71, 72, 73, 19, 20, 21, 22, 23, 24, 74, 75, 76, 77, 78, 79, 80, 81, 101, 102, 103, 104] (by decide +kernel) (by decide +kernel)
set_option maxRecDepth 20000 in
theorem gX3_lay_X0_push : GoodIn wsX3_lay (wsV RX3 59 RX0 yX0_push wsX0_push) := goodIn_app (goodIn_of _ (by decide +kernel)) ggX3_lay_X0_push
set_option maxRecDepth 20000 in
theorem ggX3_lay_X3_settleParts : GoodIn wsX3_lay wsX3_settleParts := goodIn_r _ [85, 9, 11, 12, 86, 3, 87, 88, 89, 17, 90, 20, 91, 64, 65, 66, 67, 68, 69, 70, 71, 72, 73, 19, 21, 22, 23, 24, 74, 75, 76, 77, 78, 79, 80, 81, 92, 93, 94, 95, 96, 97, 98, 99, 100, 101, 102, 103, 104] (by decide +kernel) (by decide +kernel)
set_option maxRecDepth 20000 in
theorem gX3_lay_X3_settleParts : GoodIn wsX3_lay (wsV RX3 63 RX3 yX3_settleParts wsX3_settleParts) := goodIn_app (goodIn_of _ (by decide +kernel)) ggX3_lay_X3_settleParts
theorem dX3_lay_0 : decode cX3_lay 0 = .ok (.aload_n 0, 1) := by decide +kernel
theorem dX3_lay_1 : decode cX3_lay 1 = .ok (.getfield 38, 3) := by decide +kernel
theorem dX3_lay_4 : decode cX3_lay 4 = .ok (.iload_n 2, 1) := by decide +kernel
theorem dX3_lay_5 : decode cX3_lay 5 = .ok (.if_icmp .ne 4, 3) := by decide +kernel
theorem dX3_lay_8 : decode cX3_lay 8 = .ok (.return_, 1) := by decide +kernel
theorem dX3_lay_9 : decode cX3_lay 9 = .ok (.aload_n 0, 1) := by decide +kernel
theorem dX3_lay_10 : decode cX3_lay 10 = .ok (.iload_n 2, 1) := by decide +kernel
theorem dX3_lay_11 : decode cX3_lay 11 = .ok (.putfield 38, 3) := by decide +kernel
theorem dX3_lay_14 : decode cX3_lay 14 = .ok (.aload_n 0, 1) := by decide +kernel
theorem dX3_lay_15 : decode cX3_lay 15 = .ok (.aload_n 0, 1) := by decide +kernel
theorem dX3_lay_16 : decode cX3_lay 16 = .ok (.aload_n 1, 1) := by decide +kernel
theorem dX3_lay_17 : decode cX3_lay 17 = .ok (.iload_n 2, 1) := by decide +kernel
theorem dX3_lay_18 : decode cX3_lay 18 = .ok (.invokevirtual 52, 3) := by decide +kernel
theorem dX3_lay_21 : decode cX3_lay 21 = .ok (.putfield 56, 3) := by decide +kernel
theorem dX3_lay_24 : decode cX3_lay 24 = .ok (.aload_n 0, 1) := by decide +kernel
theorem dX3_lay_25 : decode cX3_lay 25 = .ok (.dup, 1) := by decide +kernel
theorem dX3_lay_26 : decode cX3_lay 26 = .ok (.getfield 56, 3) := by decide +kernel
theorem dX3_lay_29 : decode cX3_lay 29 = .ok (.aload_n 0, 1) := by decide +kernel
theorem dX3_lay_30 : decode cX3_lay 30 = .ok (.getfield 34, 3) := by decide +kernel
theorem dX3_lay_33 : decode cX3_lay 33 = .ok (.bipush 32, 2) := by decide +kernel
theorem dX3_lay_35 : decode cX3_lay 35 = .ok (.bipush 33, 2) := by decide +kernel
theorem dX3_lay_37 : decode cX3_lay 37 = .ok (.aload_n 0, 1) := by decide +kernel
theorem dX3_lay_38 : decode cX3_lay 38 = .ok (.getfield 56, 3) := by decide +kernel
theorem dX3_lay_41 : decode cX3_lay 41 = .ok (.invokevirtual 59, 3) := by decide +kernel
theorem dX3_lay_44 : decode cX3_lay 44 = .ok (.isub, 1) := by decide +kernel
theorem dX3_lay_45 : decode cX3_lay 45 = .ok (.putfield 56, 3) := by decide +kernel
theorem dX3_lay_48 : decode cX3_lay 48 = .ok (.aload_n 0, 1) := by decide +kernel
theorem dX3_lay_49 : decode cX3_lay 49 = .ok (.getfield 56, 3) := by decide +kernel
theorem dX3_lay_52 : decode cX3_lay 52 = .ok (.ifCond .ne 7, 3) := by decide +kernel
theorem dX3_lay_55 : decode cX3_lay 55 = .ok (.aload_n 0, 1) := by decide +kernel
theorem dX3_lay_56 : decode cX3_lay 56 = .ok (.invokevirtual 63, 3) := by decide +kernel
theorem dX3_lay_59 : decode cX3_lay 59 = .ok (.return_, 1) := by decide +kernel
set_option maxRecDepth 20000 in
theorem ggX3_layPipes_X0_empty : GoodIn wsX3_layPipes wsX0_empty := goodIn_r _ [11, 12, 13, 14, 15, 16, 17, 65, 66, 67, 68] (by decide +kernel) (by decide +kernel)
set_option maxRecDepth 20000 in
theorem gX3_layPipes_X0_empty : GoodIn wsX3_layPipes (wsV RX3 66 RX0 yX0_empty wsX0_empty) := goodIn_app (goodIn_of _ (by decide +kernel)) ggX3_layPipes_X0_empty
set_option maxRecDepth 20000 in
theorem ggX3_layPipes_X0_pipe : GoodIn wsX3_layPipes wsX0_pipe := goodIn_r _ [21, 13, 65, 66, 67, 68] (by decide +kernel) (by decide +kernel)
set_option maxRecDepth 20000 in
theorem gX3_layPipes_X0_pipe : GoodIn wsX3_layPipes (wsV RX3 69 RX0 yX0_pipe wsX0_pipe) := goodIn_app (goodIn_of _ (by decide +kernel)) ggX3_layPipes_X0_pipe
set_option maxRecDepth 20000 in
theorem ggX3_layPipes_X1_leftOver : GoodIn wsX3_layPipes wsX1_leftOver := goodIn_r _ [26, 27, 28, 29, 30, 31, 32, 25, 33, 34, 35, 36, 37, 15, 16, 17, 38, 39, 40, 41, 42, 43, 44, 45, 46, 47, 48, 49, 50, 51, 52, 53, 54, 55, 69, 70, 71, 72, 73, 74, 75, 76, 77, 78, 79, 80, 81] (by decide +kernel) (by decide +kernel)
set_option maxRecDepth 20000 in
theorem gX3_layPipes_X1_leftOver : GoodIn wsX3_layPipes (wsV RX3 73 RX1 yX1_leftOver wsX1_leftOver) := goodIn_app (goodIn_of _ (by decide +kernel)) ggX3_layPipes_X1_leftOver
theorem dX3_layPipes_0 : decode cX3_layPipes 0 = .ok (.iconst 0, 1) := by decide +kernel
theorem dX3_layPipes_1 : decode cX3_layPipes 1 = .ok (.istore_n 3, 1) := by decide +kernel
theorem dX3_layPipes_2 : decode cX3_layPipes 2 = .ok (.aload_n 0, 1) := by decide +kernel
theorem dX3_layPipes_3 : decode cX3_layPipes 3 = .ok (.getfield 34, 3) := by decide +kernel
theorem dX3_layPipes_6 : decode cX3_layPipes 6 = .ok (.invokevirtual 66, 3) := by decide +kernel
theorem dX3_layPipes_9 : decode cX3_layPipes 9 = .ok (.iconst 0, 1) := by decide +kernel
theorem dX3_layPipes_10 : decode cX3_layPipes 10 = .ok (.istore 4, 2) := by decide +kernel
theorem dX3_layPipes_12 : decode cX3_layPipes 12 = .ok (.iload 4, 2) := by decide +kernel
theorem dX3_layPipes_14 : decode cX3_layPipes 14 = .ok (.aload_n 0, 1) := by decide +kernel
theorem dX3_layPipes_15 : decode cX3_layPipes 15 = .ok (.getfield 42, 3) := by decide +kernel
theorem dX3_layPipes_18 : decode cX3_layPipes 18 = .ok (.if_icmp .ge 85, 3) := by decide +kernel
theorem dX3_layPipes_21 : decode cX3_layPipes 21 = .ok (.iload_n 3, 1) := by decide +kernel
theorem dX3_layPipes_22 : decode cX3_layPipes 22 = .ok (.aload_n 0, 1) := by decide +kernel
theorem dX3_layPipes_23 : decode cX3_layPipes 23 = .ok (.getfield 16, 3) := by decide +kernel
theorem dX3_layPipes_26 : decode cX3_layPipes 26 = .ok (.iload 4, 2) := by decide +kernel
theorem dX3_layPipes_28 : decode cX3_layPipes 28 = .ok (.iaload, 1) := by decide +kernel
theorem dX3_layPipes_29 : decode cX3_layPipes 29 = .ok (.iadd, 1) := by decide +kernel
theorem dX3_layPipes_30 : decode cX3_layPipes 30 = .ok (.istore_n 3, 1) := by decide +kernel
theorem dX3_layPipes_31 : decode cX3_layPipes 31 = .ok (.aload_n 0, 1) := by decide +kernel
theorem dX3_layPipes_32 : decode cX3_layPipes 32 = .ok (.getfield 34, 3) := by decide +kernel
theorem dX3_layPipes_35 : decode cX3_layPipes 35 = .ok (.bipush 32, 2) := by decide +kernel
theorem dX3_layPipes_37 : decode cX3_layPipes 37 = .ok (.iload 4, 2) := by decide +kernel
theorem dX3_layPipes_39 : decode cX3_layPipes 39 = .ok (.aload_n 0, 1) := by decide +kernel
theorem dX3_layPipes_40 : decode cX3_layPipes 40 = .ok (.getfield 16, 3) := by decide +kernel
theorem dX3_layPipes_43 : decode cX3_layPipes 43 = .ok (.iload 4, 2) := by decide +kernel
theorem dX3_layPipes_45 : decode cX3_layPipes 45 = .ok (.iaload, 1) := by decide +kernel
theorem dX3_layPipes_46 : decode cX3_layPipes 46 = .ok (.invokevirtual 69, 3) := by decide +kernel
theorem dX3_layPipes_49 : decode cX3_layPipes 49 = .ok (.aload_n 0, 1) := by decide +kernel
theorem dX3_layPipes_50 : decode cX3_layPipes 50 = .ok (.getfield 20, 3) := by decide +kernel
theorem dX3_layPipes_53 : decode cX3_layPipes 53 = .ok (.iload 4, 2) := by decide +kernel
theorem dX3_layPipes_55 : decode cX3_layPipes 55 = .ok (.iaload, 1) := by decide +kernel
theorem dX3_layPipes_56 : decode cX3_layPipes 56 = .ok (.istore 5, 2) := by decide +kernel
theorem dX3_layPipes_58 : decode cX3_layPipes 58 = .ok (.iload 5, 2) := by decide +kernel
theorem dX3_layPipes_60 : decode cX3_layPipes 60 = .ok (.aload_n 0, 1) := by decide +kernel
theorem dX3_layPipes_61 : decode cX3_layPipes 61 = .ok (.getfield 23, 3) := by decide +kernel
theorem dX3_layPipes_64 : decode cX3_layPipes 64 = .ok (.iload 4, 2) := by decide +kernel
theorem dX3_layPipes_66 : decode cX3_layPipes 66 = .ok (.iaload, 1) := by decide +kernel
theorem dX3_layPipes_67 : decode cX3_layPipes 67 = .ok (.if_icmp .ge 30, 3) := by decide +kernel
theorem dX3_layPipes_70 : decode cX3_layPipes 70 = .ok (.aload_n 0, 1) := by decide +kernel
theorem dX3_layPipes_71 : decode cX3_layPipes 71 = .ok (.getfield 34, 3) := by decide +kernel
theorem dX3_layPipes_74 : decode cX3_layPipes 74 = .ok (.iload 4, 2) := by decide +kernel
theorem dX3_layPipes_76 : decode cX3_layPipes 76 = .ok (.bipush 8, 2) := by decide +kernel
theorem dX3_layPipes_78 : decode cX3_layPipes 78 = .ok (.iload 5, 2) := by decide +kernel
theorem dX3_layPipes_80 : decode cX3_layPipes 80 = .ok (.iadd, 1) := by decide +kernel
theorem dX3_layPipes_81 : decode cX3_layPipes 81 = .ok (.aload_n 0, 1) := by decide +kernel
theorem dX3_layPipes_82 : decode cX3_layPipes 82 = .ok (.getfield 26, 3) := by decide +kernel
theorem dX3_layPipes_85 : decode cX3_layPipes 85 = .ok (.iload 4, 2) := by decide +kernel
theorem dX3_layPipes_87 : decode cX3_layPipes 87 = .ok (.iaload, 1) := by decide +kernel
theorem dX3_layPipes_88 : decode cX3_layPipes 88 = .ok (.invokevirtual 69, 3) := by decide +kernel
theorem dX3_layPipes_91 : decode cX3_layPipes 91 = .ok (.iinc 5 1, 3) := by decide +kernel
theorem dX3_layPipes_94 : decode cX3_layPipes 94 = .ok (.goto (-36), 3) := by decide +kernel
theorem dX3_layPipes_97 : decode cX3_layPipes 97 = .ok (.iinc 4 1, 3) := by decide +kernel
theorem dX3_layPipes_100 : decode cX3_layPipes 100 = .ok (.goto (-88), 3) := by decide +kernel
theorem dX3_layPipes_103 : decode cX3_layPipes 103 = .ok (.iconst 0, 1) := by decide +kernel
theorem dX3_layPipes_104 : decode cX3_layPipes 104 = .ok (.istore 4, 2) := by decide +kernel
theorem dX3_layPipes_106 : decode cX3_layPipes 106 = .ok (.iload 4, 2) := by decide +kernel
theorem dX3_layPipes_108 : decode cX3_layPipes 108 = .ok (.bipush 24, 2) := by decide +kernel
theorem dX3_layPipes_110 : decode cX3_layPipes 110 = .ok (.if_icmp .ge 30, 3) := by decide +kernel
theorem dX3_layPipes_113 : decode cX3_layPipes 113 = .ok (.aload_n 0, 1) := by decide +kernel
theorem dX3_layPipes_114 : decode cX3_layPipes 114 = .ok (.getfield 34, 3) := by decide +kernel
theorem dX3_layPipes_117 : decode cX3_layPipes 117 = .ok (.bipush 8, 2) := by decide +kernel
theorem dX3_layPipes_119 : decode cX3_layPipes 119 = .ok (.iload 4, 2) := by decide +kernel
theorem dX3_layPipes_121 : decode cX3_layPipes 121 = .ok (.iadd, 1) := by decide +kernel
theorem dX3_layPipes_122 : decode cX3_layPipes 122 = .ok (.bipush 33, 2) := by decide +kernel
theorem dX3_layPipes_124 : decode cX3_layPipes 124 = .ok (.aload_n 1, 1) := by decide +kernel
theorem dX3_layPipes_125 : decode cX3_layPipes 125 = .ok (.iload 4, 2) := by decide +kernel
theorem dX3_layPipes_127 : decode cX3_layPipes 127 = .ok (.iload_n 2, 1) := by decide +kernel
theorem dX3_layPipes_128 : decode cX3_layPipes 128 = .ok (.invokevirtual 73, 3) := by decide +kernel
theorem dX3_layPipes_131 : decode cX3_layPipes 131 = .ok (.invokevirtual 69, 3) := by decide +kernel
theorem dX3_layPipes_134 : decode cX3_layPipes 134 = .ok (.iinc 4 1, 3) := by decide +kernel
theorem dX3_layPipes_137 : decode cX3_layPipes 137 = .ok (.goto (-31), 3) := by decide +kernel
theorem dX3_layPipes_140 : decode cX3_layPipes 140 = .ok (.iload_n 3, 1) := by decide +kernel
theorem dX3_layPipes_141 : decode cX3_layPipes 141 = .ok (.ireturn, 1) := by decide +kernel
set_option maxRecDepth 20000 in
theorem ggX3_settleParts_X0_settle : GoodIn wsX3_settleParts wsX0_settle := goodIn_r _ [10, 11, 12, 13, 14, 9, 15, 16, 17, 18, 19, 20, 21, 22, 23, 24, 25, 26, 27, 28, 29, 30, 31, 32, 33, 34, 35, 45, 46, 47, 48] (by decide +kernel) (by decide +kernel)
set_option maxRecDepth 20000 in
theorem gX3_settleParts_X0_settle : GoodIn wsX3_settleParts (wsV RX3 79 RX0 yX0_settle wsX0_settle) := goodIn_app (goodIn_of _ (by decide +kernel)) ggX3_settleParts_X0_settle
theorem dX3_settleParts_0 : decode cX3_settleParts 0 = .ok (.iconst 0, 1) := by decide +kernel
theorem dX3_settleParts_1 : decode cX3_settleParts 1 = .ok (.istore_n 1, 1) := by decide +kernel
theorem dX3_settleParts_2 : decode cX3_settleParts 2 = .ok (.iload_n 1, 1) := by decide +kernel
theorem dX3_settleParts_3 : decode cX3_settleParts 3 = .ok (.aload_n 0, 1) := by decide +kernel
theorem dX3_settleParts_4 : decode cX3_settleParts 4 = .ok (.getfield 42, 3) := by decide +kernel
theorem dX3_settleParts_7 : decode cX3_settleParts 7 = .ok (.if_icmp .ge 52, 3) := by decide +kernel
theorem dX3_settleParts_10 : decode cX3_settleParts 10 = .ok (.aload_n 0, 1) := by decide +kernel
theorem dX3_settleParts_11 : decode cX3_settleParts 11 = .ok (.getfield 20, 3) := by decide +kernel
theorem dX3_settleParts_14 : decode cX3_settleParts 14 = .ok (.iload_n 1, 1) := by decide +kernel
theorem dX3_settleParts_15 : decode cX3_settleParts 15 = .ok (.iaload, 1) := by decide +kernel
theorem dX3_settleParts_16 : decode cX3_settleParts 16 = .ok (.istore_n 2, 1) := by decide +kernel
theorem dX3_settleParts_17 : decode cX3_settleParts 17 = .ok (.iload_n 2, 1) := by decide +kernel
theorem dX3_settleParts_18 : decode cX3_settleParts 18 = .ok (.aload_n 0, 1) := by decide +kernel
theorem dX3_settleParts_19 : decode cX3_settleParts 19 = .ok (.getfield 23, 3) := by decide +kernel
theorem dX3_settleParts_22 : decode cX3_settleParts 22 = .ok (.iload_n 1, 1) := by decide +kernel
theorem dX3_settleParts_23 : decode cX3_settleParts 23 = .ok (.iaload, 1) := by decide +kernel
theorem dX3_settleParts_24 : decode cX3_settleParts 24 = .ok (.if_icmp .ge 29, 3) := by decide +kernel
theorem dX3_settleParts_27 : decode cX3_settleParts 27 = .ok (.aload_n 0, 1) := by decide +kernel
theorem dX3_settleParts_28 : decode cX3_settleParts 28 = .ok (.getfield 13, 3) := by decide +kernel
theorem dX3_settleParts_31 : decode cX3_settleParts 31 = .ok (.iload_n 1, 1) := by decide +kernel
theorem dX3_settleParts_32 : decode cX3_settleParts 32 = .ok (.aaload, 1) := by decide +kernel
theorem dX3_settleParts_33 : decode cX3_settleParts 33 = .ok (.iload_n 2, 1) := by decide +kernel
theorem dX3_settleParts_34 : decode cX3_settleParts 34 = .ok (.aload_n 0, 1) := by decide +kernel
theorem dX3_settleParts_35 : decode cX3_settleParts 35 = .ok (.getfield 34, 3) := by decide +kernel
theorem dX3_settleParts_38 : decode cX3_settleParts 38 = .ok (.iload_n 1, 1) := by decide +kernel
theorem dX3_settleParts_39 : decode cX3_settleParts 39 = .ok (.bipush 8, 2) := by decide +kernel
theorem dX3_settleParts_41 : decode cX3_settleParts 41 = .ok (.iload_n 2, 1) := by decide +kernel
theorem dX3_settleParts_42 : decode cX3_settleParts 42 = .ok (.iadd, 1) := by decide +kernel
theorem dX3_settleParts_43 : decode cX3_settleParts 43 = .ok (.invokevirtual 79, 3) := by decide +kernel
theorem dX3_settleParts_46 : decode cX3_settleParts 46 = .ok (.iastore, 1) := by decide +kernel
theorem dX3_settleParts_47 : decode cX3_settleParts 47 = .ok (.iinc 2 1, 3) := by decide +kernel
theorem dX3_settleParts_50 : decode cX3_settleParts 50 = .ok (.goto (-33), 3) := by decide +kernel
theorem dX3_settleParts_53 : decode cX3_settleParts 53 = .ok (.iinc 1 1, 3) := by decide +kernel
theorem dX3_settleParts_56 : decode cX3_settleParts 56 = .ok (.goto (-54), 3) := by decide +kernel
theorem dX3_settleParts_59 : decode cX3_settleParts 59 = .ok (.return_, 1) := by decide +kernel
set_option maxRecDepth 20000 in
theorem ggX4_init_J7_fill_53178 : GoodIn wsX4_init wsJ7_fill_53178 := goodIn_r _ [13] (by decide +kernel) (by decide +kernel)
set_option maxRecDepth 20000 in
theorem gX4_init_J7_fill_53178 : GoodIn wsX4_init (va_wsS RX4 23 yJ7_fill_53178 wsJ7_fill_53178) := goodIn_app (goodIn_of _ (by decide +kernel)) ggX4_init_J7_fill_53178
theorem dX4_init_0 : decode cX4_init 0 = .ok (.aload_n 0, 1) := by decide +kernel
theorem dX4_init_1 : decode cX4_init 1 = .ok (.invokespecial 3, 3) := by decide +kernel
theorem dX4_init_4 : decode cX4_init 4 = .ok (.aload_n 0, 1) := by decide +kernel
theorem dX4_init_5 : decode cX4_init 5 = .ok (.bipush 6, 2) := by decide +kernel
theorem dX4_init_7 : decode cX4_init 7 = .ok (.bipush 64, 2) := by decide +kernel
theorem dX4_init_9 : decode cX4_init 9 = .ok (.multianewarray 11 2, 4) := by decide +kernel
theorem dX4_init_13 : decode cX4_init 13 = .ok (.putfield 13, 3) := by decide +kernel
theorem dX4_init_16 : decode cX4_init 16 = .ok (.aload_n 0, 1) := by decide +kernel
theorem dX4_init_17 : decode cX4_init 17 = .ok (.bipush 6, 2) := by decide +kernel
theorem dX4_init_19 : decode cX4_init 19 = .ok (.newarray .int, 2) := by decide +kernel
theorem dX4_init_21 : decode cX4_init 21 = .ok (.putfield 16, 3) := by decide +kernel
theorem dX4_init_24 : decode cX4_init 24 = .ok (.aload_n 0, 1) := by decide +kernel
theorem dX4_init_25 : decode cX4_init 25 = .ok (.bipush 6, 2) := by decide +kernel
theorem dX4_init_27 : decode cX4_init 27 = .ok (.newarray .int, 2) := by decide +kernel
theorem dX4_init_29 : decode cX4_init 29 = .ok (.putfield 20, 3) := by decide +kernel
theorem dX4_init_32 : decode cX4_init 32 = .ok (.aload_n 0, 1) := by decide +kernel
theorem dX4_init_33 : decode cX4_init 33 = .ok (.getfield 20, 3) := by decide +kernel
theorem dX4_init_36 : decode cX4_init 36 = .ok (.iconst (-1), 1) := by decide +kernel
theorem dX4_init_37 : decode cX4_init 37 = .ok (.invokestatic 23, 3) := by decide +kernel
theorem dX4_init_40 : decode cX4_init 40 = .ok (.return_, 1) := by decide +kernel
set_option maxRecDepth 20000 in
theorem ggX4_isNumber_X6_within : GoodIn wsX4_isNumber wsX6_within := goodIn_r _ [3] (by decide +kernel) (by decide +kernel)
set_option maxRecDepth 20000 in
theorem gX4_isNumber_X6_within_n29 : GoodIn wsX4_isNumber (wsX6_within) := ggX4_isNumber_X6_within
theorem dX4_isNumber_0 : decode cX4_isNumber 0 = .ok (.iload_n 0, 1) := by decide +kernel
theorem dX4_isNumber_1 : decode cX4_isNumber 1 = .ok (.i2l, 1) := by decide +kernel
theorem dX4_isNumber_2 : decode cX4_isNumber 2 = .ok (.iconst 0, 1) := by decide +kernel
theorem dX4_isNumber_3 : decode cX4_isNumber 3 = .ok (.iconst 5, 1) := by decide +kernel
theorem dX4_isNumber_4 : decode cX4_isNumber 4 = .ok (.invokestatic 29, 3) := by decide +kernel
theorem dX4_isNumber_7 : decode cX4_isNumber 7 = .ok (.ireturn, 1) := by decide +kernel
theorem dX4_isMissing_0 : decode cX4_isMissing 0 = .ok (.aload_n 0, 1) := by decide +kernel
theorem dX4_isMissing_1 : decode cX4_isMissing 1 = .ok (.getfield 20, 3) := by decide +kernel
theorem dX4_isMissing_4 : decode cX4_isMissing 4 = .ok (.iload_n 1, 1) := by decide +kernel
theorem dX4_isMissing_5 : decode cX4_isMissing 5 = .ok (.iaload, 1) := by decide +kernel
theorem dX4_isMissing_6 : decode cX4_isMissing 6 = .ok (.iconst (-1), 1) := by decide +kernel
theorem dX4_isMissing_7 : decode cX4_isMissing 7 = .ok (.if_icmp .ne 7, 3) := by decide +kernel
theorem dX4_isMissing_10 : decode cX4_isMissing 10 = .ok (.iconst 1, 1) := by decide +kernel
theorem dX4_isMissing_11 : decode cX4_isMissing 11 = .ok (.goto 4, 3) := by decide +kernel
theorem dX4_isMissing_14 : decode cX4_isMissing 14 = .ok (.iconst 0, 1) := by decide +kernel
theorem dX4_isMissing_15 : decode cX4_isMissing 15 = .ok (.ireturn, 1) := by decide +kernel
set_option maxRecDepth 20000 in
theorem ggX4_make_J7_fill_d0a16 : GoodIn wsX4_make wsJ7_fill_d0a16 := goodIn_r _ [7] (by decide +kernel) (by decide +kernel)
set_option maxRecDepth 20000 in
theorem gX4_make_J7_fill_d0a16 : GoodIn wsX4_make (va_wsS RX4 33 yJ7_fill_d0a16 wsJ7_fill_d0a16) := goodIn_app (goodIn_of _ (by decide +kernel)) ggX4_make_J7_fill_d0a16
theorem dX4_make_0 : decode cX4_make 0 = .ok (.aload_n 0, 1) := by decide +kernel
theorem dX4_make_1 : decode cX4_make 1 = .ok (.getfield 13, 3) := by decide +kernel
theorem dX4_make_4 : decode cX4_make 4 = .ok (.iload_n 1, 1) := by decide +kernel
theorem dX4_make_5 : decode cX4_make 5 = .ok (.aaload, 1) := by decide +kernel
theorem dX4_make_6 : decode cX4_make 6 = .ok (.lconst 0, 1) := by decide +kernel
theorem dX4_make_7 : decode cX4_make 7 = .ok (.invokestatic 33, 3) := by decide +kernel
theorem dX4_make_10 : decode cX4_make 10 = .ok (.aload_n 0, 1) := by decide +kernel
theorem dX4_make_11 : decode cX4_make 11 = .ok (.getfield 16, 3) := by decide +kernel
theorem dX4_make_14 : decode cX4_make 14 = .ok (.iload_n 1, 1) := by decide +kernel
theorem dX4_make_15 : decode cX4_make 15 = .ok (.iload_n 2, 1) := by decide +kernel
theorem dX4_make_16 : decode cX4_make 16 = .ok (.iastore, 1) := by decide +kernel
theorem dX4_make_17 : decode cX4_make 17 = .ok (.aload_n 0, 1) := by decide +kernel
theorem dX4_make_18 : decode cX4_make 18 = .ok (.getfield 20, 3) := by decide +kernel
theorem dX4_make_21 : decode cX4_make 21 = .ok (.iload_n 1, 1) := by decide +kernel
theorem dX4_make_22 : decode cX4_make 22 = .ok (.iload_n 3, 1) := by decide +kernel
theorem dX4_make_23 : decode cX4_make 23 = .ok (.iastore, 1) := by decide +kernel
theorem dX4_make_24 : decode cX4_make 24 = .ok (.return_, 1) := by decide +kernel
theorem dX4_lose_0 : decode cX4_lose 0 = .ok (.aload_n 0, 1) := by decide +kernel
theorem dX4_lose_1 : decode cX4_lose 1 = .ok (.getfield 20, 3) := by decide +kernel
theorem dX4_lose_4 : decode cX4_lose 4 = .ok (.iload_n 1, 1) := by decide +kernel
theorem dX4_lose_5 : decode cX4_lose 5 = .ok (.iconst (-1), 1) := by decide +kernel
theorem dX4_lose_6 : decode cX4_lose 6 = .ok (.iastore, 1) := by decide +kernel
theorem dX4_lose_7 : decode cX4_lose 7 = .ok (.return_, 1) := by decide +kernel
theorem dX4_at_0 : decode cX4_at 0 = .ok (.aload_n 0, 1) := by decide +kernel
theorem dX4_at_1 : decode cX4_at 1 = .ok (.getfield 13, 3) := by decide +kernel
theorem dX4_at_4 : decode cX4_at 4 = .ok (.iload_n 1, 1) := by decide +kernel
theorem dX4_at_5 : decode cX4_at 5 = .ok (.aaload, 1) := by decide +kernel
theorem dX4_at_6 : decode cX4_at 6 = .ok (.iload_n 2, 1) := by decide +kernel
theorem dX4_at_7 : decode cX4_at 7 = .ok (.laload, 1) := by decide +kernel
theorem dX4_at_8 : decode cX4_at 8 = .ok (.lreturn, 1) := by decide +kernel
set_option maxRecDepth 20000 in
theorem ggX4_put_X4_cut : GoodIn wsX4_put wsX4_cut := goodIn_r _ [6] (by decide +kernel) (by decide +kernel)
set_option maxRecDepth 20000 in
theorem gX4_put_X4_cut : GoodIn wsX4_put (va_wsS RX4 36 yX4_cut wsX4_cut) := goodIn_app (goodIn_of _ (by decide +kernel)) ggX4_put_X4_cut
theorem dX4_put_0 : decode cX4_put 0 = .ok (.aload_n 0, 1) := by decide +kernel
theorem dX4_put_1 : decode cX4_put 1 = .ok (.getfield 13, 3) := by decide +kernel
theorem dX4_put_4 : decode cX4_put 4 = .ok (.iload_n 1, 1) := by decide +kernel
theorem dX4_put_5 : decode cX4_put 5 = .ok (.aaload, 1) := by decide +kernel
theorem dX4_put_6 : decode cX4_put 6 = .ok (.iload_n 2, 1) := by decide +kernel
theorem dX4_put_7 : decode cX4_put 7 = .ok (.lload_n 3, 1) := by decide +kernel
theorem dX4_put_8 : decode cX4_put 8 = .ok (.aload_n 0, 1) := by decide +kernel
theorem dX4_put_9 : decode cX4_put 9 = .ok (.getfield 16, 3) := by decide +kernel
theorem dX4_put_12 : decode cX4_put 12 = .ok (.iload_n 1, 1) := by decide +kernel
theorem dX4_put_13 : decode cX4_put 13 = .ok (.iaload, 1) := by decide +kernel
theorem dX4_put_14 : decode cX4_put 14 = .ok (.invokestatic 36, 3) := by decide +kernel
theorem dX4_put_17 : decode cX4_put 17 = .ok (.lastore, 1) := by decide +kernel
theorem dX4_put_18 : decode cX4_put 18 = .ok (.return_, 1) := by decide +kernel
set_option maxRecDepth 20000 in
theorem ggX4_whyNoPlace_X4_isNumber : GoodIn wsX4_whyNoPlace wsX4_isNumber := goodIn_r _ [5, 6, 7, 8] (by decide +kernel) (by decide +kernel)
set_option maxRecDepth 20000 in
theorem gX4_whyNoPlace_X4_isNumber : GoodIn wsX4_whyNoPlace (va_wsS RX4 40 yX4_isNumber wsX4_isNumber) := goodIn_app (goodIn_of _ (by decide +kernel)) ggX4_whyNoPlace_X4_isNumber
set_option maxRecDepth 20000 in
theorem ggX4_whyNoPlace_X4_isMissing : GoodIn wsX4_whyNoPlace wsX4_isMissing := goodIn_r _ [12, 1, 13, 14, 15] (by decide +kernel) (by decide +kernel)
set_option maxRecDepth 20000 in
theorem gX4_whyNoPlace_X4_isMissing : GoodIn wsX4_whyNoPlace (wsV RX4 44 RX4 yX4_isMissing wsX4_isMissing) := goodIn_app (goodIn_of _ (by decide +kernel)) ggX4_whyNoPlace_X4_isMissing
set_option maxRecDepth 20000 in
theorem ggX4_whyNoPlace_X6_within : GoodIn wsX4_whyNoPlace wsX6_within := goodIn_r _ [8] (by decide +kernel) (by decide +kernel)
set_option maxRecDepth 20000 in
theorem gX4_whyNoPlace_X6_within_n29 : GoodIn wsX4_whyNoPlace (wsX6_within) := ggX4_whyNoPlace_X6_within
theorem dX4_whyNoPlace_0 : decode cX4_whyNoPlace 0 = .ok (.iload_n 1, 1) := by decide +kernel
theorem dX4_whyNoPlace_1 : decode cX4_whyNoPlace 1 = .ok (.invokestatic 40, 3) := by decide +kernel
theorem dX4_whyNoPlace_4 : decode cX4_whyNoPlace 4 = .ok (.ifCond .ne 5, 3) := by decide +kernel
theorem dX4_whyNoPlace_7 : decode cX4_whyNoPlace 7 = .ok (.iconst 1, 1) := by decide +kernel
theorem dX4_whyNoPlace_8 : decode cX4_whyNoPlace 8 = .ok (.ireturn, 1) := by decide +kernel
theorem dX4_whyNoPlace_9 : decode cX4_whyNoPlace 9 = .ok (.aload_n 0, 1) := by decide +kernel
theorem dX4_whyNoPlace_10 : decode cX4_whyNoPlace 10 = .ok (.iload_n 1, 1) := by decide +kernel
theorem dX4_whyNoPlace_11 : decode cX4_whyNoPlace 11 = .ok (.invokevirtual 44, 3) := by decide +kernel
theorem dX4_whyNoPlace_14 : decode cX4_whyNoPlace 14 = .ok (.ifCond .eq 5, 3) := by decide +kernel
theorem dX4_whyNoPlace_17 : decode cX4_whyNoPlace 17 = .ok (.iconst 2, 1) := by decide +kernel
theorem dX4_whyNoPlace_18 : decode cX4_whyNoPlace 18 = .ok (.ireturn, 1) := by decide +kernel
theorem dX4_whyNoPlace_19 : decode cX4_whyNoPlace 19 = .ok (.iload_n 2, 1) := by decide +kernel
theorem dX4_whyNoPlace_20 : decode cX4_whyNoPlace 20 = .ok (.i2l, 1) := by decide +kernel
theorem dX4_whyNoPlace_21 : decode cX4_whyNoPlace 21 = .ok (.iconst 0, 1) := by decide +kernel
theorem dX4_whyNoPlace_22 : decode cX4_whyNoPlace 22 = .ok (.aload_n 0, 1) := by decide +kernel
theorem dX4_whyNoPlace_23 : decode cX4_whyNoPlace 23 = .ok (.getfield 20, 3) := by decide +kernel
theorem dX4_whyNoPlace_26 : decode cX4_whyNoPlace 26 = .ok (.iload_n 1, 1) := by decide +kernel
theorem dX4_whyNoPlace_27 : decode cX4_whyNoPlace 27 = .ok (.iaload, 1) := by decide +kernel
theorem dX4_whyNoPlace_28 : decode cX4_whyNoPlace 28 = .ok (.iconst 1, 1) := by decide +kernel
theorem dX4_whyNoPlace_29 : decode cX4_whyNoPlace 29 = .ok (.isub, 1) := by decide +kernel
theorem dX4_whyNoPlace_30 : decode cX4_whyNoPlace 30 = .ok (.invokestatic 29, 3) := by decide +kernel
theorem dX4_whyNoPlace_33 : decode cX4_whyNoPlace 33 = .ok (.ifCond .eq 7, 3) := by decide +kernel
theorem dX4_whyNoPlace_36 : decode cX4_whyNoPlace 36 = .ok (.iconst 0, 1) := by decide +kernel
theorem dX4_whyNoPlace_37 : decode cX4_whyNoPlace 37 = .ok (.goto 4, 3) := by decide +kernel
theorem dX4_whyNoPlace_40 : decode cX4_whyNoPlace 40 = .ok (.iconst 3, 1) := by decide +kernel
theorem dX4_whyNoPlace_41 : decode cX4_whyNoPlace 41 = .ok (.ireturn, 1) := by decide +kernel
set_option maxRecDepth 20000 in
theorem ggX4_whyNotFirst_X4_isMissing : GoodIn wsX4_whyNotFirst wsX4_isMissing := goodIn_r _ [7, 1, 11, 12, 13] (by decide +kernel) (by decide +kernel)
set_option maxRecDepth 20000 in
theorem gX4_whyNotFirst_X4_isMissing : GoodIn wsX4_whyNotFirst (wsV RX4 44 RX4 yX4_isMissing wsX4_isMissing) := goodIn_app (goodIn_of _ (by decide +kernel)) ggX4_whyNotFirst_X4_isMissing
set_option maxRecDepth 20000 in
theorem ggX4_whyNotFirst_X6_within : GoodIn wsX4_whyNotFirst wsX6_within := goodIn_r _ [10] (by decide +kernel) (by decide +kernel)
set_option maxRecDepth 20000 in
theorem gX4_whyNotFirst_X6_within_n29 : GoodIn wsX4_whyNotFirst (wsX6_within) := ggX4_whyNotFirst_X6_within
theorem dX4_whyNotFirst_0 : decode cX4_whyNotFirst 0 = .ok (.aload_n 0, 1) := by decide +kernel
theorem dX4_whyNotFirst_1 : decode cX4_whyNotFirst 1 = .ok (.iload_n 1, 1) := by decide +kernel
theorem dX4_whyNotFirst_2 : decode cX4_whyNotFirst 2 = .ok (.invokevirtual 44, 3) := by decide +kernel
theorem dX4_whyNotFirst_5 : decode cX4_whyNotFirst 5 = .ok (.ifCond .eq 5, 3) := by decide +kernel
theorem dX4_whyNotFirst_8 : decode cX4_whyNotFirst 8 = .ok (.iconst 2, 1) := by decide +kernel
theorem dX4_whyNotFirst_9 : decode cX4_whyNotFirst 9 = .ok (.ireturn, 1) := by decide +kernel
theorem dX4_whyNotFirst_10 : decode cX4_whyNotFirst 10 = .ok (.iload_n 2, 1) := by decide +kernel
theorem dX4_whyNotFirst_11 : decode cX4_whyNotFirst 11 = .ok (.aload_n 0, 1) := by decide +kernel
theorem dX4_whyNotFirst_12 : decode cX4_whyNotFirst 12 = .ok (.getfield 20, 3) := by decide +kernel
theorem dX4_whyNotFirst_15 : decode cX4_whyNotFirst 15 = .ok (.iload_n 1, 1) := by decide +kernel
theorem dX4_whyNotFirst_16 : decode cX4_whyNotFirst 16 = .ok (.iaload, 1) := by decide +kernel
theorem dX4_whyNotFirst_17 : decode cX4_whyNotFirst 17 = .ok (.if_icmp .le 5, 3) := by decide +kernel
theorem dX4_whyNotFirst_20 : decode cX4_whyNotFirst 20 = .ok (.iconst 3, 1) := by decide +kernel
theorem dX4_whyNotFirst_21 : decode cX4_whyNotFirst 21 = .ok (.ireturn, 1) := by decide +kernel
theorem dX4_whyNotFirst_22 : decode cX4_whyNotFirst 22 = .ok (.iconst 0, 1) := by decide +kernel
theorem dX4_whyNotFirst_23 : decode cX4_whyNotFirst 23 = .ok (.istore 4, 2) := by decide +kernel
theorem dX4_whyNotFirst_25 : decode cX4_whyNotFirst 25 = .ok (.iload 4, 2) := by decide +kernel
theorem dX4_whyNotFirst_27 : decode cX4_whyNotFirst 27 = .ok (.iload_n 2, 1) := by decide +kernel
theorem dX4_whyNotFirst_28 : decode cX4_whyNotFirst 28 = .ok (.if_icmp .ge 28, 3) := by decide +kernel
theorem dX4_whyNotFirst_31 : decode cX4_whyNotFirst 31 = .ok (.aload_n 0, 1) := by decide +kernel
theorem dX4_whyNotFirst_32 : decode cX4_whyNotFirst 32 = .ok (.getfield 13, 3) := by decide +kernel
theorem dX4_whyNotFirst_35 : decode cX4_whyNotFirst 35 = .ok (.iload_n 1, 1) := by decide +kernel
theorem dX4_whyNotFirst_36 : decode cX4_whyNotFirst 36 = .ok (.aaload, 1) := by decide +kernel
theorem dX4_whyNotFirst_37 : decode cX4_whyNotFirst 37 = .ok (.iload 4, 2) := by decide +kernel
theorem dX4_whyNotFirst_39 : decode cX4_whyNotFirst 39 = .ok (.laload, 1) := by decide +kernel
theorem dX4_whyNotFirst_40 : decode cX4_whyNotFirst 40 = .ok (.iconst 0, 1) := by decide +kernel
theorem dX4_whyNotFirst_41 : decode cX4_whyNotFirst 41 = .ok (.iload_n 3, 1) := by decide +kernel
theorem dX4_whyNotFirst_42 : decode cX4_whyNotFirst 42 = .ok (.invokestatic 29, 3) := by decide +kernel
theorem dX4_whyNotFirst_45 : decode cX4_whyNotFirst 45 = .ok (.ifCond .ne 5, 3) := by decide +kernel
theorem dX4_whyNotFirst_48 : decode cX4_whyNotFirst 48 = .ok (.iconst 1, 1) := by decide +kernel
theorem dX4_whyNotFirst_49 : decode cX4_whyNotFirst 49 = .ok (.ireturn, 1) := by decide +kernel
theorem dX4_whyNotFirst_50 : decode cX4_whyNotFirst 50 = .ok (.iinc 4 1, 3) := by decide +kernel
theorem dX4_whyNotFirst_53 : decode cX4_whyNotFirst 53 = .ok (.goto (-28), 3) := by decide +kernel
theorem dX4_whyNotFirst_56 : decode cX4_whyNotFirst 56 = .ok (.iconst 0, 1) := by decide +kernel
theorem dX4_whyNotFirst_57 : decode cX4_whyNotFirst 57 = .ok (.ireturn, 1) := by decide +kernel
theorem dX4_spans_0 : decode cX4_spans 0 = .ok (.iload_n 2, 1) := by decide +kernel
theorem dX4_spans_1 : decode cX4_spans 1 = .ok (.i2l, 1) := by decide +kernel
theorem dX4_spans_2 : decode cX4_spans 2 = .ok (.iload_n 3, 1) := by decide +kernel
theorem dX4_spans_3 : decode cX4_spans 3 = .ok (.i2l, 1) := by decide +kernel
theorem dX4_spans_4 : decode cX4_spans 4 = .ok (.ladd, 1) := by decide +kernel
theorem dX4_spans_5 : decode cX4_spans 5 = .ok (.aload_n 0, 1) := by decide +kernel
theorem dX4_spans_6 : decode cX4_spans 6 = .ok (.getfield 20, 3) := by decide +kernel
theorem dX4_spans_9 : decode cX4_spans 9 = .ok (.iload_n 1, 1) := by decide +kernel
theorem dX4_spans_10 : decode cX4_spans 10 = .ok (.iaload, 1) := by decide +kernel
theorem dX4_spans_11 : decode cX4_spans 11 = .ok (.i2l, 1) := by decide +kernel
theorem dX4_spans_12 : decode cX4_spans 12 = .ok (.lcmp, 1) := by decide +kernel
theorem dX4_spans_13 : decode cX4_spans 13 = .ok (.ifCond .gt 7, 3) := by decide +kernel
theorem dX4_spans_16 : decode cX4_spans 16 = .ok (.iconst 1, 1) := by decide +kernel
theorem dX4_spans_17 : decode cX4_spans 17 = .ok (.goto 4, 3) := by decide +kernel
theorem dX4_spans_20 : decode cX4_spans 20 = .ok (.iconst 0, 1) := by decide +kernel
theorem dX4_spans_21 : decode cX4_spans 21 = .ok (.ireturn, 1) := by decide +kernel
set_option maxRecDepth 20000 in
theorem ggX4_carry_X4_put : GoodIn wsX4_carry wsX4_put := goodIn_r _ [10, 1, 11, 12, 13, 9, 14, 15, 16, 17] (by decide +kernel) (by decide +kernel)
set_option maxRecDepth 20000 in
theorem gX4_carry_X4_put : GoodIn wsX4_carry (wsV RX4 53 RX4 yX4_put wsX4_put) := goodIn_app (goodIn_of _ (by decide +kernel)) ggX4_carry_X4_put
theorem dX4_carry_0 : decode cX4_carry 0 = .ok (.aload_n 0, 1) := by decide +kernel
theorem dX4_carry_1 : decode cX4_carry 1 = .ok (.getfield 13, 3) := by decide +kernel
theorem dX4_carry_4 : decode cX4_carry 4 = .ok (.iload_n 1, 1) := by decide +kernel
theorem dX4_carry_5 : decode cX4_carry 5 = .ok (.aaload, 1) := by decide +kernel
theorem dX4_carry_6 : decode cX4_carry 6 = .ok (.iload_n 2, 1) := by decide +kernel
theorem dX4_carry_7 : decode cX4_carry 7 = .ok (.aload_n 0, 1) := by decide +kernel
theorem dX4_carry_8 : decode cX4_carry 8 = .ok (.getfield 13, 3) := by decide +kernel
theorem dX4_carry_11 : decode cX4_carry 11 = .ok (.iload_n 3, 1) := by decide +kernel
theorem dX4_carry_12 : decode cX4_carry 12 = .ok (.aaload, 1) := by decide +kernel
theorem dX4_carry_13 : decode cX4_carry 13 = .ok (.iload 4, 2) := by decide +kernel
theorem dX4_carry_15 : decode cX4_carry 15 = .ok (.iload 5, 2) := by decide +kernel
theorem dX4_carry_17 : decode cX4_carry 17 = .ok (.invokestatic 47, 3) := by decide +kernel
theorem dX4_carry_20 : decode cX4_carry 20 = .ok (.iload 4, 2) := by decide +kernel
theorem dX4_carry_22 : decode cX4_carry 22 = .ok (.istore 6, 2) := by decide +kernel
theorem dX4_carry_24 : decode cX4_carry 24 = .ok (.iload 6, 2) := by decide +kernel
theorem dX4_carry_26 : decode cX4_carry 26 = .ok (.iload 4, 2) := by decide +kernel
theorem dX4_carry_28 : decode cX4_carry 28 = .ok (.iload 5, 2) := by decide +kernel
theorem dX4_carry_30 : decode cX4_carry 30 = .ok (.iadd, 1) := by decide +kernel
theorem dX4_carry_31 : decode cX4_carry 31 = .ok (.if_icmp .ge 25, 3) := by decide +kernel
theorem dX4_carry_34 : decode cX4_carry 34 = .ok (.aload_n 0, 1) := by decide +kernel
theorem dX4_carry_35 : decode cX4_carry 35 = .ok (.iload_n 3, 1) := by decide +kernel
theorem dX4_carry_36 : decode cX4_carry 36 = .ok (.iload 6, 2) := by decide +kernel
theorem dX4_carry_38 : decode cX4_carry 38 = .ok (.aload_n 0, 1) := by decide +kernel
theorem dX4_carry_39 : decode cX4_carry 39 = .ok (.getfield 13, 3) := by decide +kernel
theorem dX4_carry_42 : decode cX4_carry 42 = .ok (.iload_n 3, 1) := by decide +kernel
theorem dX4_carry_43 : decode cX4_carry 43 = .ok (.aaload, 1) := by decide +kernel
theorem dX4_carry_44 : decode cX4_carry 44 = .ok (.iload 6, 2) := by decide +kernel
theorem dX4_carry_46 : decode cX4_carry 46 = .ok (.laload, 1) := by decide +kernel
theorem dX4_carry_47 : decode cX4_carry 47 = .ok (.invokevirtual 53, 3) := by decide +kernel
theorem dX4_carry_50 : decode cX4_carry 50 = .ok (.iinc 6 1, 3) := by decide +kernel
theorem dX4_carry_53 : decode cX4_carry 53 = .ok (.goto (-29), 3) := by decide +kernel
theorem dX4_carry_56 : decode cX4_carry 56 = .ok (.return_, 1) := by decide +kernel
theorem dX4_cut_0 : decode cX4_cut 0 = .ok (.iload_n 2, 1) := by decide +kernel
theorem dX4_cut_1 : decode cX4_cut 1 = .ok (.tableswitch 41 0 2 #[27, 32, 37], 27) := by decide +kernel
theorem dX4_cut_28 : decode cX4_cut 28 = .ok (.lload_n 0, 1) := by decide +kernel
theorem dX4_cut_29 : decode cX4_cut 29 = .ok (.l2i, 1) := by decide +kernel
theorem dX4_cut_30 : decode cX4_cut 30 = .ok (.i2b, 1) := by decide +kernel
theorem dX4_cut_31 : decode cX4_cut 31 = .ok (.i2l, 1) := by decide +kernel
theorem dX4_cut_32 : decode cX4_cut 32 = .ok (.lreturn, 1) := by decide +kernel
theorem dX4_cut_33 : decode cX4_cut 33 = .ok (.lload_n 0, 1) := by decide +kernel
theorem dX4_cut_34 : decode cX4_cut 34 = .ok (.l2i, 1) := by decide +kernel
theorem dX4_cut_35 : decode cX4_cut 35 = .ok (.i2s, 1) := by decide +kernel
theorem dX4_cut_36 : decode cX4_cut 36 = .ok (.i2l, 1) := by decide +kernel
theorem dX4_cut_37 : decode cX4_cut 37 = .ok (.lreturn, 1) := by decide +kernel
theorem dX4_cut_38 : decode cX4_cut 38 = .ok (.lload_n 0, 1) := by decide +kernel
theorem dX4_cut_39 : decode cX4_cut 39 = .ok (.l2i, 1) := by decide +kernel
theorem dX4_cut_40 : decode cX4_cut 40 = .ok (.i2l, 1) := by decide +kernel
theorem dX4_cut_41 : decode cX4_cut 41 = .ok (.lreturn, 1) := by decide +kernel
theorem dX4_cut_42 : decode cX4_cut 42 = .ok (.lload_n 0, 1) := by decide +kernel
theorem dX4_cut_43 : decode cX4_cut 43 = .ok (.lreturn, 1) := by decide +kernel
theorem dX5_init_0 : decode cX5_init 0 = .ok (.aload_n 0, 1) := by decide +kernel
theorem dX5_init_1 : decode cX5_init 1 = .ok (.invokespecial 1, 3) := by decide +kernel
theorem dX5_init_4 : decode cX5_init 4 = .ok (.aload_n 0, 1) := by decide +kernel
theorem dX5_init_5 : decode cX5_init 5 = .ok (.bipush 20, 2) := by decide +kernel
theorem dX5_init_7 : decode cX5_init 7 = .ok (.newarray .int, 2) := by decide +kernel
theorem dX5_init_9 : decode cX5_init 9 = .ok (.putfield 9, 3) := by decide +kernel
theorem dX5_init_12 : decode cX5_init 12 = .ok (.return_, 1) := by decide +kernel
set_option maxRecDepth 20000 in
theorem ggX5_serve_J7_fill_53178 : GoodIn wsX5_serve wsJ7_fill_53178 := goodIn_r _ [14] (by decide +kernel) (by decide +kernel)
set_option maxRecDepth 20000 in
theorem gX5_serve_J7_fill_53178 : GoodIn wsX5_serve (va_wsS RX5 29 yJ7_fill_53178 wsJ7_fill_53178) := goodIn_app (goodIn_of _ (by decide +kernel)) ggX5_serve_J7_fill_53178
set_option maxRecDepth 20000 in
theorem ggX5_serve_X4_at : GoodIn wsX5_serve wsX4_at := goodIn_r _ [19, 20, 32, 33, 34] (by decide +kernel) (by decide +kernel)
set_option maxRecDepth 20000 in
theorem gX5_serve_X4_at : GoodIn wsX5_serve (wsV RX5 35 RX4 yX4_at wsX4_at) := goodIn_app (goodIn_of _ (by decide +kernel)) ggX5_serve_X4_at
set_option maxRecDepth 20000 in
theorem ggX5_serve_X5_note : GoodIn wsX5_serve wsX5_note := goodIn_r _ [25, 1, 7, 8, 9, 10, 2, 3, 4, 26, 27, 28, 29, 30, 31] (by decide +kernel) (by decide +kernel)
set_option maxRecDepth 20000 in
theorem gX5_serve_X5_note : GoodIn wsX5_serve (wsV RX5 47 RX5 yX5_note wsX5_note) := goodIn_app (goodIn_of _ (by decide +kernel)) ggX5_serve_X5_note
theorem dX5_serve_0 : decode cX5_serve 0 = .ok (.aload_n 0, 1) := by decide +kernel
theorem dX5_serve_1 : decode cX5_serve 1 = .ok (.iconst 0, 1) := by decide +kernel
theorem dX5_serve_2 : decode cX5_serve 2 = .ok (.putfield 13, 3) := by decide +kernel
theorem dX5_serve_5 : decode cX5_serve 5 = .ok (.aload_n 0, 1) := by decide +kernel
theorem dX5_serve_6 : decode cX5_serve 6 = .ok (.iconst 0, 1) := by decide +kernel
theorem dX5_serve_7 : decode cX5_serve 7 = .ok (.putfield 17, 3) := by decide +kernel
theorem dX5_serve_10 : decode cX5_serve 10 = .ok (.aload_n 0, 1) := by decide +kernel
theorem dX5_serve_11 : decode cX5_serve 11 = .ok (.iconst 0, 1) := by decide +kernel
theorem dX5_serve_12 : decode cX5_serve 12 = .ok (.putfield 20, 3) := by decide +kernel
theorem dX5_serve_15 : decode cX5_serve 15 = .ok (.aload_n 0, 1) := by decide +kernel
theorem dX5_serve_16 : decode cX5_serve 16 = .ok (.iconst 0, 1) := by decide +kernel
theorem dX5_serve_17 : decode cX5_serve 17 = .ok (.putfield 23, 3) := by decide +kernel
theorem dX5_serve_20 : decode cX5_serve 20 = .ok (.aload_n 0, 1) := by decide +kernel
theorem dX5_serve_21 : decode cX5_serve 21 = .ok (.iconst 0, 1) := by decide +kernel
theorem dX5_serve_22 : decode cX5_serve 22 = .ok (.putfield 26, 3) := by decide +kernel
theorem dX5_serve_25 : decode cX5_serve 25 = .ok (.aload_n 0, 1) := by decide +kernel
theorem dX5_serve_26 : decode cX5_serve 26 = .ok (.getfield 9, 3) := by decide +kernel
theorem dX5_serve_29 : decode cX5_serve 29 = .ok (.iconst 0, 1) := by decide +kernel
theorem dX5_serve_30 : decode cX5_serve 30 = .ok (.invokestatic 29, 3) := by decide +kernel
theorem dX5_serve_33 : decode cX5_serve 33 = .ok (.iconst 0, 1) := by decide +kernel
theorem dX5_serve_34 : decode cX5_serve 34 = .ok (.istore 6, 2) := by decide +kernel
theorem dX5_serve_36 : decode cX5_serve 36 = .ok (.iconst 0, 1) := by decide +kernel
theorem dX5_serve_37 : decode cX5_serve 37 = .ok (.istore 7, 2) := by decide +kernel
theorem dX5_serve_39 : decode cX5_serve 39 = .ok (.iload 7, 2) := by decide +kernel
theorem dX5_serve_41 : decode cX5_serve 41 = .ok (.iload_n 3, 1) := by decide +kernel
theorem dX5_serve_42 : decode cX5_serve 42 = .ok (.if_icmp .ge 98, 3) := by decide +kernel
theorem dX5_serve_45 : decode cX5_serve 45 = .ok (.aload_n 1, 1) := by decide +kernel
theorem dX5_serve_46 : decode cX5_serve 46 = .ok (.iload_n 2, 1) := by decide +kernel
theorem dX5_serve_47 : decode cX5_serve 47 = .ok (.iload 7, 2) := by decide +kernel
theorem dX5_serve_49 : decode cX5_serve 49 = .ok (.invokevirtual 35, 3) := by decide +kernel
theorem dX5_serve_52 : decode cX5_serve 52 = .ok (.lstore 8, 2) := by decide +kernel
theorem dX5_serve_54 : decode cX5_serve 54 = .ok (.iconst 0, 1) := by decide +kernel
theorem dX5_serve_55 : decode cX5_serve 55 = .ok (.istore 10, 2) := by decide +kernel
theorem dX5_serve_57 : decode cX5_serve 57 = .ok (.iload 10, 2) := by decide +kernel
theorem dX5_serve_59 : decode cX5_serve 59 = .ok (.i2l, 1) := by decide +kernel
theorem dX5_serve_60 : decode cX5_serve 60 = .ok (.lload 8, 2) := by decide +kernel
theorem dX5_serve_62 : decode cX5_serve 62 = .ok (.lcmp, 1) := by decide +kernel
theorem dX5_serve_63 : decode cX5_serve 63 = .ok (.ifCond .ge 71, 3) := by decide +kernel
theorem dX5_serve_66 : decode cX5_serve 66 = .ok (.iload 7, 2) := by decide +kernel
theorem dX5_serve_68 : decode cX5_serve 68 = .ok (.aload_n 0, 1) := by decide +kernel
theorem dX5_serve_69 : decode cX5_serve 69 = .ok (.getfield 9, 3) := by decide +kernel
theorem dX5_serve_72 : decode cX5_serve 72 = .ok (.iload 6, 2) := by decide +kernel
theorem dX5_serve_74 : decode cX5_serve 74 = .ok (.iaload, 1) := by decide +kernel
theorem dX5_serve_75 : decode cX5_serve 75 = .ok (.invokestatic 41, 3) := by decide +kernel
theorem dX5_serve_78 : decode cX5_serve 78 = .ok (.istore 11, 2) := by decide +kernel
theorem dX5_serve_80 : decode cX5_serve 80 = .ok (.aload_n 0, 1) := by decide +kernel
theorem dX5_serve_81 : decode cX5_serve 81 = .ok (.iload 11, 2) := by decide +kernel
theorem dX5_serve_83 : decode cX5_serve 83 = .ok (.iload 7, 2) := by decide +kernel
theorem dX5_serve_85 : decode cX5_serve 85 = .ok (.isub, 1) := by decide +kernel
theorem dX5_serve_86 : decode cX5_serve 86 = .ok (.invokevirtual 47, 3) := by decide +kernel
theorem dX5_serve_89 : decode cX5_serve 89 = .ok (.aload_n 0, 1) := by decide +kernel
theorem dX5_serve_90 : decode cX5_serve 90 = .ok (.iload 11, 2) := by decide +kernel
theorem dX5_serve_92 : decode cX5_serve 92 = .ok (.iload 5, 2) := by decide +kernel
theorem dX5_serve_94 : decode cX5_serve 94 = .ok (.iadd, 1) := by decide +kernel
theorem dX5_serve_95 : decode cX5_serve 95 = .ok (.putfield 26, 3) := by decide +kernel
theorem dX5_serve_98 : decode cX5_serve 98 = .ok (.aload_n 0, 1) := by decide +kernel
theorem dX5_serve_99 : decode cX5_serve 99 = .ok (.getfield 9, 3) := by decide +kernel
theorem dX5_serve_102 : decode cX5_serve 102 = .ok (.iload 6, 2) := by decide +kernel
theorem dX5_serve_104 : decode cX5_serve 104 = .ok (.aload_n 0, 1) := by decide +kernel
theorem dX5_serve_105 : decode cX5_serve 105 = .ok (.getfield 26, 3) := by decide +kernel
theorem dX5_serve_108 : decode cX5_serve 108 = .ok (.iastore, 1) := by decide +kernel
theorem dX5_serve_109 : decode cX5_serve 109 = .ok (.iload 6, 2) := by decide +kernel
theorem dX5_serve_111 : decode cX5_serve 111 = .ok (.iconst 1, 1) := by decide +kernel
theorem dX5_serve_112 : decode cX5_serve 112 = .ok (.iadd, 1) := by decide +kernel
theorem dX5_serve_113 : decode cX5_serve 113 = .ok (.iload 4, 2) := by decide +kernel
theorem dX5_serve_115 : decode cX5_serve 115 = .ok (.if_icmp .ge 10, 3) := by decide +kernel
theorem dX5_serve_118 : decode cX5_serve 118 = .ok (.iload 6, 2) := by decide +kernel
theorem dX5_serve_120 : decode cX5_serve 120 = .ok (.iconst 1, 1) := by decide +kernel
theorem dX5_serve_121 : decode cX5_serve 121 = .ok (.iadd, 1) := by decide +kernel
theorem dX5_serve_122 : decode cX5_serve 122 = .ok (.goto 4, 3) := by decide +kernel
theorem dX5_serve_125 : decode cX5_serve 125 = .ok (.iconst 0, 1) := by decide +kernel
theorem dX5_serve_126 : decode cX5_serve 126 = .ok (.istore 6, 2) := by decide +kernel
theorem dX5_serve_128 : decode cX5_serve 128 = .ok (.iinc 10 1, 3) := by decide +kernel
theorem dX5_serve_131 : decode cX5_serve 131 = .ok (.goto (-74), 3) := by decide +kernel
theorem dX5_serve_134 : decode cX5_serve 134 = .ok (.iinc 7 1, 3) := by decide +kernel
theorem dX5_serve_137 : decode cX5_serve 137 = .ok (.goto (-98), 3) := by decide +kernel
theorem dX5_serve_140 : decode cX5_serve 140 = .ok (.return_, 1) := by decide +kernel
theorem dX5_told_0 : decode cX5_told 0 = .ok (.iload_n 1, 1) := by decide +kernel
theorem dX5_told_1 : decode cX5_told 1 = .ok (.tableswitch 51 0 3 #[31, 36, 41, 46], 31) := by decide +kernel
theorem dX5_told_32 : decode cX5_told 32 = .ok (.aload_n 0, 1) := by decide +kernel
theorem dX5_told_33 : decode cX5_told 33 = .ok (.getfield 13, 3) := by decide +kernel
theorem dX5_told_36 : decode cX5_told 36 = .ok (.ireturn, 1) := by decide +kernel
theorem dX5_told_37 : decode cX5_told 37 = .ok (.aload_n 0, 1) := by decide +kernel
theorem dX5_told_38 : decode cX5_told 38 = .ok (.getfield 17, 3) := by decide +kernel
theorem dX5_told_41 : decode cX5_told 41 = .ok (.ireturn, 1) := by decide +kernel
theorem dX5_told_42 : decode cX5_told 42 = .ok (.aload_n 0, 1) := by decide +kernel
theorem dX5_told_43 : decode cX5_told 43 = .ok (.getfield 20, 3) := by decide +kernel
theorem dX5_told_46 : decode cX5_told 46 = .ok (.ireturn, 1) := by decide +kernel
theorem dX5_told_47 : decode cX5_told 47 = .ok (.aload_n 0, 1) := by decide +kernel
theorem dX5_told_48 : decode cX5_told 48 = .ok (.getfield 23, 3) := by decide +kernel
theorem dX5_told_51 : decode cX5_told 51 = .ok (.ireturn, 1) := by decide +kernel
theorem dX5_told_52 : decode cX5_told 52 = .ok (.aload_n 0, 1) := by decide +kernel
theorem dX5_told_53 : decode cX5_told 53 = .ok (.getfield 26, 3) := by decide +kernel
theorem dX5_told_56 : decode cX5_told 56 = .ok (.ireturn, 1) := by decide +kernel
theorem dX5_note_0 : decode cX5_note 0 = .ok (.aload_n 0, 1) := by decide +kernel
theorem dX5_note_1 : decode cX5_note 1 = .ok (.aload_n 0, 1) := by decide +kernel
theorem dX5_note_2 : decode cX5_note 2 = .ok (.getfield 13, 3) := by decide +kernel
theorem dX5_note_5 : decode cX5_note 5 = .ok (.iload_n 1, 1) := by decide +kernel
theorem dX5_note_6 : decode cX5_note 6 = .ok (.invokestatic 41, 3) := by decide +kernel
theorem dX5_note_9 : decode cX5_note 9 = .ok (.putfield 13, 3) := by decide +kernel
theorem dX5_note_12 : decode cX5_note 12 = .ok (.aload_n 0, 1) := by decide +kernel
theorem dX5_note_13 : decode cX5_note 13 = .ok (.dup, 1) := by decide +kernel
theorem dX5_note_14 : decode cX5_note 14 = .ok (.getfield 17, 3) := by decide +kernel
theorem dX5_note_17 : decode cX5_note 17 = .ok (.iload_n 1, 1) := by decide +kernel
theorem dX5_note_18 : decode cX5_note 18 = .ok (.iadd, 1) := by decide +kernel
theorem dX5_note_19 : decode cX5_note 19 = .ok (.putfield 17, 3) := by decide +kernel
theorem dX5_note_22 : decode cX5_note 22 = .ok (.aload_n 0, 1) := by decide +kernel
theorem dX5_note_23 : decode cX5_note 23 = .ok (.dup, 1) := by decide +kernel
theorem dX5_note_24 : decode cX5_note 24 = .ok (.getfield 20, 3) := by decide +kernel
theorem dX5_note_27 : decode cX5_note 27 = .ok (.iconst 1, 1) := by decide +kernel
theorem dX5_note_28 : decode cX5_note 28 = .ok (.iadd, 1) := by decide +kernel
theorem dX5_note_29 : decode cX5_note 29 = .ok (.putfield 20, 3) := by decide +kernel
theorem dX5_note_32 : decode cX5_note 32 = .ok (.aload_n 0, 1) := by decide +kernel
theorem dX5_note_33 : decode cX5_note 33 = .ok (.dup, 1) := by decide +kernel
theorem dX5_note_34 : decode cX5_note 34 = .ok (.getfield 23, 3) := by decide +kernel
theorem dX5_note_37 : decode cX5_note 37 = .ok (.iload_n 1, 1) := by decide +kernel
theorem dX5_note_38 : decode cX5_note 38 = .ok (.ifCond .le 7, 3) := by decide +kernel
theorem dX5_note_41 : decode cX5_note 41 = .ok (.iconst 1, 1) := by decide +kernel
theorem dX5_note_42 : decode cX5_note 42 = .ok (.goto 4, 3) := by decide +kernel
theorem dX5_note_45 : decode cX5_note 45 = .ok (.iconst 0, 1) := by decide +kernel
theorem dX5_note_46 : decode cX5_note 46 = .ok (.iadd, 1) := by decide +kernel
theorem dX5_note_47 : decode cX5_note 47 = .ok (.putfield 23, 3) := by decide +kernel
theorem dX5_note_50 : decode cX5_note 50 = .ok (.return_, 1) := by decide +kernel
theorem dX6_within_0 : decode cX6_within 0 = .ok (.lload_n 0, 1) := by decide +kernel
theorem dX6_within_1 : decode cX6_within 1 = .ok (.iload_n 2, 1) := by decide +kernel
theorem dX6_within_2 : decode cX6_within 2 = .ok (.i2l, 1) := by decide +kernel
theorem dX6_within_3 : decode cX6_within 3 = .ok (.lcmp, 1) := by decide +kernel
theorem dX6_within_4 : decode cX6_within 4 = .ok (.ifCond .lt 14, 3) := by decide +kernel
theorem dX6_within_7 : decode cX6_within 7 = .ok (.lload_n 0, 1) := by decide +kernel
theorem dX6_within_8 : decode cX6_within 8 = .ok (.iload_n 3, 1) := by decide +kernel
theorem dX6_within_9 : decode cX6_within 9 = .ok (.i2l, 1) := by decide +kernel
theorem dX6_within_10 : decode cX6_within 10 = .ok (.lcmp, 1) := by decide +kernel
theorem dX6_within_11 : decode cX6_within 11 = .ok (.ifCond .gt 7, 3) := by decide +kernel
theorem dX6_within_14 : decode cX6_within 14 = .ok (.iconst 1, 1) := by decide +kernel
theorem dX6_within_15 : decode cX6_within 15 = .ok (.goto 4, 3) := by decide +kernel
theorem dX6_within_18 : decode cX6_within 18 = .ok (.iconst 0, 1) := by decide +kernel
theorem dX6_within_19 : decode cX6_within 19 = .ok (.ireturn, 1) := by decide +kernel
theorem dJ9_max_7cf53_0 : decode cJ9_max_7cf53 0 = .ok (.iload_n 0, 1) := by decide +kernel
theorem dJ9_max_7cf53_1 : decode cJ9_max_7cf53 1 = .ok (.iload_n 1, 1) := by decide +kernel
theorem dJ9_max_7cf53_2 : decode cJ9_max_7cf53 2 = .ok (.if_icmp .lt 7, 3) := by decide +kernel
theorem dJ9_max_7cf53_5 : decode cJ9_max_7cf53 5 = .ok (.iload_n 0, 1) := by decide +kernel
theorem dJ9_max_7cf53_6 : decode cJ9_max_7cf53 6 = .ok (.goto 4, 3) := by decide +kernel
theorem dJ9_max_7cf53_9 : decode cJ9_max_7cf53 9 = .ok (.iload_n 1, 1) := by decide +kernel
theorem dJ9_max_7cf53_10 : decode cJ9_max_7cf53 10 = .ok (.ireturn, 1) := by decide +kernel
theorem dJ9_min_7cf53_0 : decode cJ9_min_7cf53 0 = .ok (.iload_n 0, 1) := by decide +kernel
theorem dJ9_min_7cf53_1 : decode cJ9_min_7cf53 1 = .ok (.iload_n 1, 1) := by decide +kernel
theorem dJ9_min_7cf53_2 : decode cJ9_min_7cf53 2 = .ok (.if_icmp .gt 7, 3) := by decide +kernel
theorem dJ9_min_7cf53_5 : decode cJ9_min_7cf53 5 = .ok (.iload_n 0, 1) := by decide +kernel
theorem dJ9_min_7cf53_6 : decode cJ9_min_7cf53 6 = .ok (.goto 4, 3) := by decide +kernel
theorem dJ9_min_7cf53_9 : decode cJ9_min_7cf53 9 = .ok (.iload_n 1, 1) := by decide +kernel
theorem dJ9_min_7cf53_10 : decode cJ9_min_7cf53 10 = .ok (.ireturn, 1) := by decide +kernel
theorem dJ7_rangeCheck_23922_0 : decode cJ7_rangeCheck_23922 0 = .ok (.iload_n 1, 1) := by decide +kernel
theorem dJ7_rangeCheck_23922_1 : decode cJ7_rangeCheck_23922 1 = .ok (.iload_n 2, 1) := by decide +kernel
theorem dJ7_rangeCheck_23922_2 : decode cJ7_rangeCheck_23922 2 = .ok (.if_icmp .le 44, 3) := by decide +kernel
theorem dJ7_rangeCheck_23922_5 : decode cJ7_rangeCheck_23922 5 = .ok (.new 43, 3) := by decide +kernel
theorem dJ7_rangeCheck_23922_8 : decode cJ7_rangeCheck_23922 8 = .ok (.dup, 1) := by decide +kernel
theorem dJ7_rangeCheck_23922_9 : decode cJ7_rangeCheck_23922 9 = .ok (.new 45, 3) := by decide +kernel
theorem dJ7_rangeCheck_23922_12 : decode cJ7_rangeCheck_23922 12 = .ok (.dup, 1) := by decide +kernel
theorem dJ7_rangeCheck_23922_13 : decode cJ7_rangeCheck_23922 13 = .ok (.invokespecial 47, 3) := by decide +kernel
theorem dJ7_rangeCheck_23922_16 : decode cJ7_rangeCheck_23922 16 = .ok (.ldc 48, 2) := by decide +kernel
theorem dJ7_rangeCheck_23922_18 : decode cJ7_rangeCheck_23922 18 = .ok (.invokevirtual 50, 3) := by decide +kernel
theorem dJ7_rangeCheck_23922_21 : decode cJ7_rangeCheck_23922 21 = .ok (.iload_n 1, 1) := by decide +kernel
theorem dJ7_rangeCheck_23922_22 : decode cJ7_rangeCheck_23922 22 = .ok (.invokevirtual 54, 3) := by decide +kernel
theorem dJ7_rangeCheck_23922_25 : decode cJ7_rangeCheck_23922 25 = .ok (.ldc 57, 2) := by decide +kernel
theorem dJ7_rangeCheck_23922_27 : decode cJ7_rangeCheck_23922 27 = .ok (.invokevirtual 50, 3) := by decide +kernel
theorem dJ7_rangeCheck_23922_30 : decode cJ7_rangeCheck_23922 30 = .ok (.iload_n 2, 1) := by decide +kernel
theorem dJ7_rangeCheck_23922_31 : decode cJ7_rangeCheck_23922 31 = .ok (.invokevirtual 54, 3) := by decide +kernel
theorem dJ7_rangeCheck_23922_34 : decode cJ7_rangeCheck_23922 34 = .ok (.ldc 59, 2) := by decide +kernel
theorem dJ7_rangeCheck_23922_36 : decode cJ7_rangeCheck_23922 36 = .ok (.invokevirtual 50, 3) := by decide +kernel
theorem dJ7_rangeCheck_23922_39 : decode cJ7_rangeCheck_23922 39 = .ok (.invokevirtual 61, 3) := by decide +kernel
theorem dJ7_rangeCheck_23922_42 : decode cJ7_rangeCheck_23922 42 = .ok (.invokespecial 65, 3) := by decide +kernel
theorem dJ7_rangeCheck_23922_45 : decode cJ7_rangeCheck_23922 45 = .ok (.athrow, 1) := by decide +kernel
theorem dJ7_rangeCheck_23922_46 : decode cJ7_rangeCheck_23922 46 = .ok (.iload_n 1, 1) := by decide +kernel
theorem dJ7_rangeCheck_23922_47 : decode cJ7_rangeCheck_23922 47 = .ok (.ifCond .ge 12, 3) := by decide +kernel
theorem dJ7_rangeCheck_23922_50 : decode cJ7_rangeCheck_23922 50 = .ok (.new 68, 3) := by decide +kernel
theorem dJ7_rangeCheck_23922_53 : decode cJ7_rangeCheck_23922 53 = .ok (.dup, 1) := by decide +kernel
theorem dJ7_rangeCheck_23922_54 : decode cJ7_rangeCheck_23922 54 = .ok (.iload_n 1, 1) := by decide +kernel
theorem dJ7_rangeCheck_23922_55 : decode cJ7_rangeCheck_23922 55 = .ok (.invokespecial 70, 3) := by decide +kernel
theorem dJ7_rangeCheck_23922_58 : decode cJ7_rangeCheck_23922 58 = .ok (.athrow, 1) := by decide +kernel
theorem dJ7_rangeCheck_23922_59 : decode cJ7_rangeCheck_23922 59 = .ok (.iload_n 2, 1) := by decide +kernel
theorem dJ7_rangeCheck_23922_60 : decode cJ7_rangeCheck_23922 60 = .ok (.iload_n 0, 1) := by decide +kernel
theorem dJ7_rangeCheck_23922_61 : decode cJ7_rangeCheck_23922 61 = .ok (.if_icmp .le 12, 3) := by decide +kernel
theorem dJ7_rangeCheck_23922_64 : decode cJ7_rangeCheck_23922 64 = .ok (.new 68, 3) := by decide +kernel
theorem dJ7_rangeCheck_23922_67 : decode cJ7_rangeCheck_23922 67 = .ok (.dup, 1) := by decide +kernel
theorem dJ7_rangeCheck_23922_68 : decode cJ7_rangeCheck_23922 68 = .ok (.iload_n 2, 1) := by decide +kernel
theorem dJ7_rangeCheck_23922_69 : decode cJ7_rangeCheck_23922 69 = .ok (.invokespecial 70, 3) := by decide +kernel
theorem dJ7_rangeCheck_23922_72 : decode cJ7_rangeCheck_23922 72 = .ok (.athrow, 1) := by decide +kernel
theorem dJ7_rangeCheck_23922_73 : decode cJ7_rangeCheck_23922 73 = .ok (.return_, 1) := by decide +kernel
theorem dJ7_fill_d0a16_0 : decode cJ7_fill_d0a16 0 = .ok (.iconst 0, 1) := by decide +kernel
theorem dJ7_fill_d0a16_1 : decode cJ7_fill_d0a16 1 = .ok (.istore_n 3, 1) := by decide +kernel
theorem dJ7_fill_d0a16_2 : decode cJ7_fill_d0a16 2 = .ok (.aload_n 0, 1) := by decide +kernel
theorem dJ7_fill_d0a16_3 : decode cJ7_fill_d0a16 3 = .ok (.arraylength, 1) := by decide +kernel
theorem dJ7_fill_d0a16_4 : decode cJ7_fill_d0a16 4 = .ok (.istore 4, 2) := by decide +kernel
theorem dJ7_fill_d0a16_6 : decode cJ7_fill_d0a16 6 = .ok (.iload_n 3, 1) := by decide +kernel
theorem dJ7_fill_d0a16_7 : decode cJ7_fill_d0a16 7 = .ok (.iload 4, 2) := by decide +kernel
theorem dJ7_fill_d0a16_9 : decode cJ7_fill_d0a16 9 = .ok (.if_icmp .ge 13, 3) := by decide +kernel
theorem dJ7_fill_d0a16_12 : decode cJ7_fill_d0a16 12 = .ok (.aload_n 0, 1) := by decide +kernel
theorem dJ7_fill_d0a16_13 : decode cJ7_fill_d0a16 13 = .ok (.iload_n 3, 1) := by decide +kernel
theorem dJ7_fill_d0a16_14 : decode cJ7_fill_d0a16 14 = .ok (.lload_n 1, 1) := by decide +kernel
theorem dJ7_fill_d0a16_15 : decode cJ7_fill_d0a16 15 = .ok (.lastore, 1) := by decide +kernel
theorem dJ7_fill_d0a16_16 : decode cJ7_fill_d0a16 16 = .ok (.iinc 3 1, 3) := by decide +kernel
theorem dJ7_fill_d0a16_19 : decode cJ7_fill_d0a16 19 = .ok (.goto (-13), 3) := by decide +kernel
theorem dJ7_fill_d0a16_22 : decode cJ7_fill_d0a16 22 = .ok (.return_, 1) := by decide +kernel
theorem dJ7_fill_53178_0 : decode cJ7_fill_53178 0 = .ok (.iconst 0, 1) := by decide +kernel
theorem dJ7_fill_53178_1 : decode cJ7_fill_53178 1 = .ok (.istore_n 2, 1) := by decide +kernel
theorem dJ7_fill_53178_2 : decode cJ7_fill_53178 2 = .ok (.aload_n 0, 1) := by decide +kernel
theorem dJ7_fill_53178_3 : decode cJ7_fill_53178 3 = .ok (.arraylength, 1) := by decide +kernel
theorem dJ7_fill_53178_4 : decode cJ7_fill_53178 4 = .ok (.istore_n 3, 1) := by decide +kernel
theorem dJ7_fill_53178_5 : decode cJ7_fill_53178 5 = .ok (.iload_n 2, 1) := by decide +kernel
theorem dJ7_fill_53178_6 : decode cJ7_fill_53178 6 = .ok (.iload_n 3, 1) := by decide +kernel
theorem dJ7_fill_53178_7 : decode cJ7_fill_53178 7 = .ok (.if_icmp .ge 13, 3) := by decide +kernel
theorem dJ7_fill_53178_10 : decode cJ7_fill_53178 10 = .ok (.aload_n 0, 1) := by decide +kernel
theorem dJ7_fill_53178_11 : decode cJ7_fill_53178 11 = .ok (.iload_n 2, 1) := by decide +kernel
theorem dJ7_fill_53178_12 : decode cJ7_fill_53178 12 = .ok (.iload_n 1, 1) := by decide +kernel
theorem dJ7_fill_53178_13 : decode cJ7_fill_53178 13 = .ok (.iastore, 1) := by decide +kernel
theorem dJ7_fill_53178_14 : decode cJ7_fill_53178 14 = .ok (.iinc 2 1, 3) := by decide +kernel
theorem dJ7_fill_53178_17 : decode cJ7_fill_53178 17 = .ok (.goto (-12), 3) := by decide +kernel
theorem dJ7_fill_53178_20 : decode cJ7_fill_53178 20 = .ok (.return_, 1) := by decide +kernel
set_option maxRecDepth 20000 in
theorem ggJ7_fill_fda19_J7_rangeCheck_23922 : GoodIn wsJ7_fill_fda19 wsJ7_rangeCheck_23922 := goodIn_r _ [4] (by decide +kernel) (by decide +kernel)
set_option maxRecDepth 20000 in
theorem gJ7_fill_fda19_J7_rangeCheck_23922 : GoodIn wsJ7_fill_fda19 (va_wsS RJ7 13 yJ7_rangeCheck_23922 wsJ7_rangeCheck_23922) := goodIn_app (goodIn_of _ (by decide +kernel)) ggJ7_fill_fda19_J7_rangeCheck_23922
theorem dJ7_fill_fda19_0 : decode cJ7_fill_fda19 0 = .ok (.aload_n 0, 1) := by decide +kernel
theorem dJ7_fill_fda19_1 : decode cJ7_fill_fda19 1 = .ok (.arraylength, 1) := by decide +kernel
theorem dJ7_fill_fda19_2 : decode cJ7_fill_fda19 2 = .ok (.iload_n 1, 1) := by decide +kernel
theorem dJ7_fill_fda19_3 : decode cJ7_fill_fda19 3 = .ok (.iload_n 2, 1) := by decide +kernel
theorem dJ7_fill_fda19_4 : decode cJ7_fill_fda19 4 = .ok (.invokestatic 13, 3) := by decide +kernel
theorem dJ7_fill_fda19_7 : decode cJ7_fill_fda19 7 = .ok (.iload_n 1, 1) := by decide +kernel
theorem dJ7_fill_fda19_8 : decode cJ7_fill_fda19 8 = .ok (.istore 4, 2) := by decide +kernel
theorem dJ7_fill_fda19_10 : decode cJ7_fill_fda19 10 = .ok (.iload 4, 2) := by decide +kernel
theorem dJ7_fill_fda19_12 : decode cJ7_fill_fda19 12 = .ok (.iload_n 2, 1) := by decide +kernel
theorem dJ7_fill_fda19_13 : decode cJ7_fill_fda19 13 = .ok (.if_icmp .ge 14, 3) := by decide +kernel
theorem dJ7_fill_fda19_16 : decode cJ7_fill_fda19 16 = .ok (.aload_n 0, 1) := by decide +kernel
theorem dJ7_fill_fda19_17 : decode cJ7_fill_fda19 17 = .ok (.iload 4, 2) := by decide +kernel
theorem dJ7_fill_fda19_19 : decode cJ7_fill_fda19 19 = .ok (.iload_n 3, 1) := by decide +kernel
theorem dJ7_fill_fda19_20 : decode cJ7_fill_fda19 20 = .ok (.iastore, 1) := by decide +kernel
theorem dJ7_fill_fda19_21 : decode cJ7_fill_fda19 21 = .ok (.iinc 4 1, 3) := by decide +kernel
theorem dJ7_fill_fda19_24 : decode cJ7_fill_fda19 24 = .ok (.goto (-14), 3) := by decide +kernel
theorem dJ7_fill_fda19_27 : decode cJ7_fill_fda19 27 = .ok (.return_, 1) := by decide +kernel
