set_option maxRecDepth 20000 in
theorem ggX7_layIn_X7_isWay : GoodIn wsX7_layIn wsX7_isWay := goodIn_r _ [44, 45, 46, 47, 48, 49, 11, 50, 5, 7, 6, 4, 51, 3, 1, 2, 52, 53, 54, 55, 56, 57, 70, 71, 72, 73, 74, 75, 76, 77, 78, 79, 80, 81, 82, 83, 84, 85, 86, 87, 88, 89, 90, 91, 92, 93, 94, 95, 96, 97, 98, 99, 100, 101, 102, 103, 104, 105, 106, 107, 108, 109, 110, 111] (by decide +kernel) (by decide +kernel)
set_option maxRecDepth 20000 in
theorem gX7_layIn_X7_isWay : GoodIn wsX7_layIn (wsV RX7 183 RX7 yX7_isWay wsX7_isWay) := goodIn_app (goodIn_of _ (by decide +kernel)) ggX7_layIn_X7_isWay
set_option maxRecDepth 20000 in
theorem ggX7_layIn_X7_goAlong : GoodIn wsX7_layIn wsX7_goAlong := goodIn_r _ [61, 45, 62, 63, 64, 65, 47, 48, 49, 11, 50, 5, 7, 6, 4, 51, 3, 1, 2, 52, 53, 54, 55, 56, 57, 66, 67, 68, 69, 70, 71, 72, 73, 74, 75, 76, 77, 78, 79, 80, 81, 82, 83, 84, 85, 86, 87, 88, 89, 90, 91, 92, 93, 94, 95, 96, 97, 98, 99, 100, 101, 102, 103, 104, 105, 106, 107, 108, 109, 110, 111] (by decide +kernel) (by decide +kernel)
set_option maxRecDepth 20000 in
theorem gX7_layIn_X7_goAlong : GoodIn wsX7_layIn (wsV RX7 186 RX7 yX7_goAlong wsX7_goAlong) := goodIn_app (goodIn_of _ (by decide +kernel)) ggX7_layIn_X7_goAlong
theorem dX7_layIn_0 : decode cX7_layIn 0 = .ok (.aload_n 0, 1) := by decide +kernel
theorem dX7_layIn_1 : decode cX7_layIn 1 = .ok (.iload_n 1, 1) := by decide +kernel
theorem dX7_layIn_2 : decode cX7_layIn 2 = .ok (.invokevirtual 158, 3) := by decide +kernel
theorem dX7_layIn_5 : decode cX7_layIn 5 = .ok (.iconst 0, 1) := by decide +kernel
theorem dX7_layIn_6 : decode cX7_layIn 6 = .ok (.istore_n 2, 1) := by decide +kernel
theorem dX7_layIn_7 : decode cX7_layIn 7 = .ok (.iconst 0, 1) := by decide +kernel
theorem dX7_layIn_8 : decode cX7_layIn 8 = .ok (.istore_n 3, 1) := by decide +kernel
theorem dX7_layIn_9 : decode cX7_layIn 9 = .ok (.iload_n 3, 1) := by decide +kernel
theorem dX7_layIn_10 : decode cX7_layIn 10 = .ok (.bipush 24, 2) := by decide +kernel
theorem dX7_layIn_12 : decode cX7_layIn 12 = .ok (.if_icmp .ge 28, 3) := by decide +kernel
theorem dX7_layIn_15 : decode cX7_layIn 15 = .ok (.aload_n 0, 1) := by decide +kernel
theorem dX7_layIn_16 : decode cX7_layIn 16 = .ok (.getfield 66, 3) := by decide +kernel
theorem dX7_layIn_19 : decode cX7_layIn 19 = .ok (.iload_n 3, 1) := by decide +kernel
theorem dX7_layIn_20 : decode cX7_layIn 20 = .ok (.aload_n 0, 1) := by decide +kernel
theorem dX7_layIn_21 : decode cX7_layIn 21 = .ok (.iload_n 3, 1) := by decide +kernel
theorem dX7_layIn_22 : decode cX7_layIn 22 = .ok (.iload_n 1, 1) := by decide +kernel
theorem dX7_layIn_23 : decode cX7_layIn 23 = .ok (.invokevirtual 165, 3) := by decide +kernel
theorem dX7_layIn_26 : decode cX7_layIn 26 = .ok (.iastore, 1) := by decide +kernel
theorem dX7_layIn_27 : decode cX7_layIn 27 = .ok (.aload_n 0, 1) := by decide +kernel
theorem dX7_layIn_28 : decode cX7_layIn 28 = .ok (.getfield 69, 3) := by decide +kernel
theorem dX7_layIn_31 : decode cX7_layIn 31 = .ok (.iload_n 3, 1) := by decide +kernel
theorem dX7_layIn_32 : decode cX7_layIn 32 = .ok (.iconst 0, 1) := by decide +kernel
theorem dX7_layIn_33 : decode cX7_layIn 33 = .ok (.iastore, 1) := by decide +kernel
theorem dX7_layIn_34 : decode cX7_layIn 34 = .ok (.iinc 3 1, 3) := by decide +kernel
theorem dX7_layIn_37 : decode cX7_layIn 37 = .ok (.goto (-28), 3) := by decide +kernel
theorem dX7_layIn_40 : decode cX7_layIn 40 = .ok (.iconst 0, 1) := by decide +kernel
theorem dX7_layIn_41 : decode cX7_layIn 41 = .ok (.istore_n 3, 1) := by decide +kernel
theorem dX7_layIn_42 : decode cX7_layIn 42 = .ok (.iload_n 3, 1) := by decide +kernel
theorem dX7_layIn_43 : decode cX7_layIn 43 = .ok (.aload_n 0, 1) := by decide +kernel
theorem dX7_layIn_44 : decode cX7_layIn 44 = .ok (.getfield 63, 3) := by decide +kernel
theorem dX7_layIn_47 : decode cX7_layIn 47 = .ok (.arraylength, 1) := by decide +kernel
theorem dX7_layIn_48 : decode cX7_layIn 48 = .ok (.if_icmp .ge 23, 3) := by decide +kernel
theorem dX7_layIn_51 : decode cX7_layIn 51 = .ok (.aload_n 0, 1) := by decide +kernel
theorem dX7_layIn_52 : decode cX7_layIn 52 = .ok (.getfield 63, 3) := by decide +kernel
theorem dX7_layIn_55 : decode cX7_layIn 55 = .ok (.iload_n 3, 1) := by decide +kernel
theorem dX7_layIn_56 : decode cX7_layIn 56 = .ok (.iconst 0, 1) := by decide +kernel
theorem dX7_layIn_57 : decode cX7_layIn 57 = .ok (.iastore, 1) := by decide +kernel
theorem dX7_layIn_58 : decode cX7_layIn 58 = .ok (.aload_n 0, 1) := by decide +kernel
theorem dX7_layIn_59 : decode cX7_layIn 59 = .ok (.getfield 75, 3) := by decide +kernel
theorem dX7_layIn_62 : decode cX7_layIn 62 = .ok (.iload_n 3, 1) := by decide +kernel
theorem dX7_layIn_63 : decode cX7_layIn 63 = .ok (.iconst 0, 1) := by decide +kernel
theorem dX7_layIn_64 : decode cX7_layIn 64 = .ok (.bastore, 1) := by decide +kernel
theorem dX7_layIn_65 : decode cX7_layIn 65 = .ok (.iinc 3 1, 3) := by decide +kernel
theorem dX7_layIn_68 : decode cX7_layIn 68 = .ok (.goto (-26), 3) := by decide +kernel
theorem dX7_layIn_71 : decode cX7_layIn 71 = .ok (.iconst 0, 1) := by decide +kernel
theorem dX7_layIn_72 : decode cX7_layIn 72 = .ok (.istore_n 3, 1) := by decide +kernel
theorem dX7_layIn_73 : decode cX7_layIn 73 = .ok (.iload_n 3, 1) := by decide +kernel
theorem dX7_layIn_74 : decode cX7_layIn 74 = .ok (.aload_n 0, 1) := by decide +kernel
theorem dX7_layIn_75 : decode cX7_layIn 75 = .ok (.getfield 143, 3) := by decide +kernel
theorem dX7_layIn_78 : decode cX7_layIn 78 = .ok (.if_icmp .ge 25, 3) := by decide +kernel
theorem dX7_layIn_81 : decode cX7_layIn 81 = .ok (.aload_n 0, 1) := by decide +kernel
theorem dX7_layIn_82 : decode cX7_layIn 82 = .ok (.getfield 72, 3) := by decide +kernel
theorem dX7_layIn_85 : decode cX7_layIn 85 = .ok (.iload_n 3, 1) := by decide +kernel
theorem dX7_layIn_86 : decode cX7_layIn 86 = .ok (.iconst 0, 1) := by decide +kernel
theorem dX7_layIn_87 : decode cX7_layIn 87 = .ok (.iastore, 1) := by decide +kernel
theorem dX7_layIn_88 : decode cX7_layIn 88 = .ok (.iload_n 2, 1) := by decide +kernel
theorem dX7_layIn_89 : decode cX7_layIn 89 = .ok (.aload_n 0, 1) := by decide +kernel
theorem dX7_layIn_90 : decode cX7_layIn 90 = .ok (.getfield 51, 3) := by decide +kernel
theorem dX7_layIn_93 : decode cX7_layIn 93 = .ok (.iload_n 3, 1) := by decide +kernel
theorem dX7_layIn_94 : decode cX7_layIn 94 = .ok (.iaload, 1) := by decide +kernel
theorem dX7_layIn_95 : decode cX7_layIn 95 = .ok (.iadd, 1) := by decide +kernel
theorem dX7_layIn_96 : decode cX7_layIn 96 = .ok (.istore_n 2, 1) := by decide +kernel
theorem dX7_layIn_97 : decode cX7_layIn 97 = .ok (.iinc 3 1, 3) := by decide +kernel
theorem dX7_layIn_100 : decode cX7_layIn 100 = .ok (.goto (-27), 3) := by decide +kernel
theorem dX7_layIn_103 : decode cX7_layIn 103 = .ok (.aload_n 0, 1) := by decide +kernel
theorem dX7_layIn_104 : decode cX7_layIn 104 = .ok (.bipush 33, 2) := by decide +kernel
theorem dX7_layIn_106 : decode cX7_layIn 106 = .ok (.bipush 32, 2) := by decide +kernel
theorem dX7_layIn_108 : decode cX7_layIn 108 = .ok (.invokevirtual 183, 3) := by decide +kernel
theorem dX7_layIn_111 : decode cX7_layIn 111 = .ok (.ifCond .eq 20, 3) := by decide +kernel
theorem dX7_layIn_114 : decode cX7_layIn 114 = .ok (.iload_n 2, 1) := by decide +kernel
theorem dX7_layIn_115 : decode cX7_layIn 115 = .ok (.aload_n 0, 1) := by decide +kernel
theorem dX7_layIn_116 : decode cX7_layIn 116 = .ok (.bipush 33, 2) := by decide +kernel
theorem dX7_layIn_118 : decode cX7_layIn 118 = .ok (.bipush 32, 2) := by decide +kernel
theorem dX7_layIn_120 : decode cX7_layIn 120 = .ok (.sipush 10000, 3) := by decide +kernel
theorem dX7_layIn_123 : decode cX7_layIn 123 = .ok (.invokevirtual 186, 3) := by decide +kernel
theorem dX7_layIn_126 : decode cX7_layIn 126 = .ok (.isub, 1) := by decide +kernel
theorem dX7_layIn_127 : decode cX7_layIn 127 = .ok (.istore_n 2, 1) := by decide +kernel
theorem dX7_layIn_128 : decode cX7_layIn 128 = .ok (.goto (-25), 3) := by decide +kernel
theorem dX7_layIn_131 : decode cX7_layIn 131 = .ok (.iload_n 2, 1) := by decide +kernel
theorem dX7_layIn_132 : decode cX7_layIn 132 = .ok (.ireturn, 1) := by decide +kernel
set_option maxRecDepth 20000 in
theorem ggX7_rest_X7_isFall : GoodIn wsX7_rest wsX7_isFall := goodIn_r _ [5] (by decide +kernel) (by decide +kernel)
set_option maxRecDepth 20000 in
theorem gX7_rest_X7_isFall : GoodIn wsX7_rest (va_wsS RX7 155 yX7_isFall wsX7_isFall) := goodIn_app (goodIn_of _ (by decide +kernel)) ggX7_rest_X7_isFall
set_option maxRecDepth 20000 in
theorem ggX7_rest_X7_refuse : GoodIn wsX7_rest wsX7_refuse := goodIn_r _ [9, 1, 82, 83, 84, 85, 86, 87, 88, 89, 90, 91, 92, 93, 94, 95, 96, 97, 98, 99, 100, 101, 102, 103, 104, 105, 106, 107, 108, 109, 110, 111, 112, 113, 114, 115, 116, 117, 118, 119, 120, 121, 122, 123] (by decide +kernel) (by decide +kernel)
set_option maxRecDepth 20000 in
theorem gX7_rest_X7_refuse : GoodIn wsX7_rest (wsV RX7 126 RX7 yX7_refuse wsX7_refuse) := goodIn_app (goodIn_of _ (by decide +kernel)) ggX7_rest_X7_refuse
set_option maxRecDepth 20000 in
theorem ggX7_rest_X7_layIn : GoodIn wsX7_rest wsX7_layIn := goodIn_r _ [13, 14, 15, 16, 17, 18, 19, 20, 21, 22, 23, 4, 24, 25, 26, 27, 28, 29, 30, 31, 32, 33, 34, 35, 36, 37, 38, 39, 40, 41, 42, 43, 44, 45, 46, 47, 48, 49, 50, 51, 52, 53, 54, 55, 56, 57, 58, 59, 60, 61, 62, 63, 64, 65, 66, 67, 68, 69, 70, 71, 72, 73, 74, 75, 76, 77, 78, 79, 80, 81, 82, 83, 84, 85, 86, 87, 88, 89, 90, 91, 92, 93, 94, 95, 96, 97, 98, 99, 100, 101, 102, 103, 104, 105, 106, 107, 108, 109, 110, 111, 112, 113, 114, 115, 116, 117, 118, 119, 120, 121, 122, 123] (by decide +kernel) (by decide +kernel)
set_option maxRecDepth 20000 in
theorem gX7_rest_X7_layIn : GoodIn wsX7_rest (wsV RX7 190 RX7 yX7_layIn wsX7_layIn) := goodIn_app (goodIn_of _ (by decide +kernel)) ggX7_rest_X7_layIn
theorem dX7_rest_0 : decode cX7_rest 0 = .ok (.iload_n 1, 1) := by decide +kernel
theorem dX7_rest_1 : decode cX7_rest 1 = .ok (.invokestatic 155, 3) := by decide +kernel
theorem dX7_rest_4 : decode cX7_rest 4 = .ok (.ifCond .ne 9, 3) := by decide +kernel
theorem dX7_rest_7 : decode cX7_rest 7 = .ok (.aload_n 0, 1) := by decide +kernel
theorem dX7_rest_8 : decode cX7_rest 8 = .ok (.iconst 1, 1) := by decide +kernel
theorem dX7_rest_9 : decode cX7_rest 9 = .ok (.invokevirtual 126, 3) := by decide +kernel
theorem dX7_rest_12 : decode cX7_rest 12 = .ok (.ireturn, 1) := by decide +kernel
theorem dX7_rest_13 : decode cX7_rest 13 = .ok (.aload_n 0, 1) := by decide +kernel
theorem dX7_rest_14 : decode cX7_rest 14 = .ok (.iconst 0, 1) := by decide +kernel
theorem dX7_rest_15 : decode cX7_rest 15 = .ok (.putfield 105, 3) := by decide +kernel
theorem dX7_rest_18 : decode cX7_rest 18 = .ok (.aload_n 0, 1) := by decide +kernel
theorem dX7_rest_19 : decode cX7_rest 19 = .ok (.iload_n 1, 1) := by decide +kernel
theorem dX7_rest_20 : decode cX7_rest 20 = .ok (.invokevirtual 190, 3) := by decide +kernel
theorem dX7_rest_23 : decode cX7_rest 23 = .ok (.ireturn, 1) := by decide +kernel
set_option maxRecDepth 20000 in
theorem ggX7_part_X7_isFall : GoodIn wsX7_part wsX7_isFall := goodIn_r _ [11] (by decide +kernel) (by decide +kernel)
set_option maxRecDepth 20000 in
theorem gX7_part_X7_isFall : GoodIn wsX7_part (va_wsS RX7 155 yX7_isFall wsX7_isFall) := goodIn_app (goodIn_of _ (by decide +kernel)) ggX7_part_X7_isFall
set_option maxRecDepth 20000 in
theorem ggX7_part_X7_isHour : GoodIn wsX7_part wsX7_isHour := goodIn_r _ [14] (by decide +kernel) (by decide +kernel)
set_option maxRecDepth 20000 in
theorem gX7_part_X7_isHour : GoodIn wsX7_part (va_wsS RX7 152 yX7_isHour wsX7_isHour) := goodIn_app (goodIn_of _ (by decide +kernel)) ggX7_part_X7_isHour
set_option maxRecDepth 20000 in
theorem ggX7_part_X7_refuse : GoodIn wsX7_part wsX7_refuse := goodIn_r _ [18, 2, 85, 86, 87, 88, 89, 90, 91, 92, 93, 94, 95, 96, 97, 98, 99, 100, 101, 102, 103, 104, 105, 106, 107, 108, 109, 110, 111, 112, 113, 114, 115, 116, 117, 118, 119, 120, 121, 122, 123, 124, 125, 126] (by decide +kernel) (by decide +kernel)
set_option maxRecDepth 20000 in
theorem gX7_part_X7_refuse : GoodIn wsX7_part (wsV RX7 126 RX7 yX7_refuse wsX7_refuse) := goodIn_app (goodIn_of _ (by decide +kernel)) ggX7_part_X7_refuse
set_option maxRecDepth 20000 in
theorem ggX7_part_X7_layIn : GoodIn wsX7_part wsX7_layIn := goodIn_r _ [22, 23, 24, 6, 5, 1, 25, 26, 27, 28, 29, 10, 30, 31, 32, 33, 34, 35, 36, 37, 38, 39, 40, 41, 42, 43, 44, 45, 46, 47, 48, 49, 50, 51, 52, 53, 54, 55, 56, 57, 58, 59, 60, 61, 62, 63, 64, 65, 66, 67, 68, 7, 69, 70, 71, 72, 3, 4, 73, 74, 75, 76, 77, 78, 79, 80, 81, 82, 83, 84, 85, 86, 87, 88, 89, 90, 91, 92, 93, 94, 95, 96, 97, 98, 99, 100, 101, 102, 103, 104, 105, 106, 107, 108, 109, 110, 111, 112, 113, 114, 115, 116, 117, 118, 119, 120, 121, 122, 123, 124, 125, 126] (by decide +kernel) (by decide +kernel)
set_option maxRecDepth 20000 in
theorem gX7_part_X7_layIn : GoodIn wsX7_part (wsV RX7 190 RX7 yX7_layIn wsX7_layIn) := goodIn_app (goodIn_of _ (by decide +kernel)) ggX7_part_X7_layIn
set_option maxRecDepth 20000 in
theorem ggX7_part_X7_isWay : GoodIn wsX7_part wsX7_isWay := goodIn_r _ [62, 63, 64, 65, 66, 67, 10, 68, 1, 26, 25, 5, 7, 6, 23, 24, 69, 70, 71, 72, 3, 4, 85, 86, 87, 88, 89, 90, 91, 92, 93, 94, 95, 96, 97, 98, 99, 100, 101, 102, 103, 104, 105, 106, 107, 108, 109, 110, 111, 112, 113, 114, 115, 116, 117, 118, 119, 120, 121, 122, 123, 124, 125, 126] (by decide +kernel) (by decide +kernel)
set_option maxRecDepth 20000 in
theorem gX7_part_X7_isWay : GoodIn wsX7_part (wsV RX7 183 RX7 yX7_isWay wsX7_isWay) := goodIn_app (goodIn_of _ (by decide +kernel)) ggX7_part_X7_isWay
set_option maxRecDepth 20000 in
theorem ggX7_part_X7_goAlong : GoodIn wsX7_part wsX7_goAlong := goodIn_r _ [76, 63, 77, 78, 79, 80, 65, 66, 67, 10, 68, 1, 26, 25, 5, 7, 6, 23, 24, 69, 70, 71, 72, 3, 4, 81, 82, 83, 84, 85, 86, 87, 88, 89, 90, 91, 92, 93, 94, 95, 96, 97, 98, 99, 100, 101, 102, 103, 104, 105, 106, 107, 108, 109, 110, 111, 112, 113, 114, 115, 116, 117, 118, 119, 120, 121, 122, 123, 124, 125, 126] (by decide +kernel) (by decide +kernel)
set_option maxRecDepth 20000 in
theorem gX7_part_X7_goAlong : GoodIn wsX7_part (wsV RX7 186 RX7 yX7_goAlong wsX7_goAlong) := goodIn_app (goodIn_of _ (by decide +kernel)) ggX7_part_X7_goAlong
theorem dX7_part_0 : decode cX7_part 0 = .ok (.iload_n 1, 1) := by decide +kernel
theorem dX7_part_1 : decode cX7_part 1 = .ok (.invokestatic 155, 3) := by decide +kernel
theorem dX7_part_4 : decode cX7_part 4 = .ok (.ifCond .eq 22, 3) := by decide +kernel
theorem dX7_part_7 : decode cX7_part 7 = .ok (.iload_n 2, 1) := by decide +kernel
theorem dX7_part_8 : decode cX7_part 8 = .ok (.ifCond .lt 18, 3) := by decide +kernel
theorem dX7_part_11 : decode cX7_part 11 = .ok (.iload_n 2, 1) := by decide +kernel
theorem dX7_part_12 : decode cX7_part 12 = .ok (.aload_n 0, 1) := by decide +kernel
theorem dX7_part_13 : decode cX7_part 13 = .ok (.getfield 143, 3) := by decide +kernel
theorem dX7_part_16 : decode cX7_part 16 = .ok (.if_icmp .ge 10, 3) := by decide +kernel
theorem dX7_part_19 : decode cX7_part 19 = .ok (.iload_n 3, 1) := by decide +kernel
theorem dX7_part_20 : decode cX7_part 20 = .ok (.invokestatic 152, 3) := by decide +kernel
theorem dX7_part_23 : decode cX7_part 23 = .ok (.ifCond .ne 9, 3) := by decide +kernel
theorem dX7_part_26 : decode cX7_part 26 = .ok (.aload_n 0, 1) := by decide +kernel
theorem dX7_part_27 : decode cX7_part 27 = .ok (.iconst 1, 1) := by decide +kernel
theorem dX7_part_28 : decode cX7_part 28 = .ok (.invokevirtual 126, 3) := by decide +kernel
theorem dX7_part_31 : decode cX7_part 31 = .ok (.ireturn, 1) := by decide +kernel
theorem dX7_part_32 : decode cX7_part 32 = .ok (.aload_n 0, 1) := by decide +kernel
theorem dX7_part_33 : decode cX7_part 33 = .ok (.iload_n 1, 1) := by decide +kernel
theorem dX7_part_34 : decode cX7_part 34 = .ok (.invokevirtual 190, 3) := by decide +kernel
theorem dX7_part_37 : decode cX7_part 37 = .ok (.ifCond .le 10, 3) := by decide +kernel
theorem dX7_part_40 : decode cX7_part 40 = .ok (.aload_n 0, 1) := by decide +kernel
theorem dX7_part_41 : decode cX7_part 41 = .ok (.bipush 7, 2) := by decide +kernel
theorem dX7_part_43 : decode cX7_part 43 = .ok (.invokevirtual 126, 3) := by decide +kernel
theorem dX7_part_46 : decode cX7_part 46 = .ok (.ireturn, 1) := by decide +kernel
theorem dX7_part_47 : decode cX7_part 47 = .ok (.aload_n 0, 1) := by decide +kernel
theorem dX7_part_48 : decode cX7_part 48 = .ok (.iconst 0, 1) := by decide +kernel
theorem dX7_part_49 : decode cX7_part 49 = .ok (.putfield 105, 3) := by decide +kernel
theorem dX7_part_52 : decode cX7_part 52 = .ok (.iconst 0, 1) := by decide +kernel
theorem dX7_part_53 : decode cX7_part 53 = .ok (.istore 4, 2) := by decide +kernel
theorem dX7_part_55 : decode cX7_part 55 = .ok (.iload 4, 2) := by decide +kernel
theorem dX7_part_57 : decode cX7_part 57 = .ok (.iload_n 2, 1) := by decide +kernel
theorem dX7_part_58 : decode cX7_part 58 = .ok (.if_icmp .gt 128, 3) := by decide +kernel
theorem dX7_part_61 : decode cX7_part 61 = .ok (.aload_n 0, 1) := by decide +kernel
theorem dX7_part_62 : decode cX7_part 62 = .ok (.getfield 54, 3) := by decide +kernel
theorem dX7_part_65 : decode cX7_part 65 = .ok (.iload 4, 2) := by decide +kernel
theorem dX7_part_67 : decode cX7_part 67 = .ok (.iaload, 1) := by decide +kernel
theorem dX7_part_68 : decode cX7_part 68 = .ok (.istore 5, 2) := by decide +kernel
theorem dX7_part_70 : decode cX7_part 70 = .ok (.iload 5, 2) := by decide +kernel
theorem dX7_part_72 : decode cX7_part 72 = .ok (.aload_n 0, 1) := by decide +kernel
theorem dX7_part_73 : decode cX7_part 73 = .ok (.getfield 57, 3) := by decide +kernel
theorem dX7_part_76 : decode cX7_part 76 = .ok (.iload 4, 2) := by decide +kernel
theorem dX7_part_78 : decode cX7_part 78 = .ok (.iaload, 1) := by decide +kernel
theorem dX7_part_79 : decode cX7_part 79 = .ok (.if_icmp .ge 101, 3) := by decide +kernel
theorem dX7_part_82 : decode cX7_part 82 = .ok (.bipush 24, 2) := by decide +kernel
theorem dX7_part_84 : decode cX7_part 84 = .ok (.iload 4, 2) := by decide +kernel
theorem dX7_part_86 : decode cX7_part 86 = .ok (.imul, 1) := by decide +kernel
theorem dX7_part_87 : decode cX7_part 87 = .ok (.iload 5, 2) := by decide +kernel
theorem dX7_part_89 : decode cX7_part 89 = .ok (.iadd, 1) := by decide +kernel
theorem dX7_part_90 : decode cX7_part 90 = .ok (.istore 6, 2) := by decide +kernel
theorem dX7_part_92 : decode cX7_part 92 = .ok (.aload_n 0, 1) := by decide +kernel
theorem dX7_part_93 : decode cX7_part 93 = .ok (.getfield 75, 3) := by decide +kernel
theorem dX7_part_96 : decode cX7_part 96 = .ok (.iload 6, 2) := by decide +kernel
theorem dX7_part_98 : decode cX7_part 98 = .ok (.iconst 1, 1) := by decide +kernel
theorem dX7_part_99 : decode cX7_part 99 = .ok (.bastore, 1) := by decide +kernel
theorem dX7_part_100 : decode cX7_part 100 = .ok (.aload_n 0, 1) := by decide +kernel
theorem dX7_part_101 : decode cX7_part 101 = .ok (.getfield 63, 3) := by decide +kernel
theorem dX7_part_104 : decode cX7_part 104 = .ok (.iload 6, 2) := by decide +kernel
theorem dX7_part_106 : decode cX7_part 106 = .ok (.iaload, 1) := by decide +kernel
theorem dX7_part_107 : decode cX7_part 107 = .ok (.aload_n 0, 1) := by decide +kernel
theorem dX7_part_108 : decode cX7_part 108 = .ok (.getfield 60, 3) := by decide +kernel
theorem dX7_part_111 : decode cX7_part 111 = .ok (.iload 4, 2) := by decide +kernel
theorem dX7_part_113 : decode cX7_part 113 = .ok (.iaload, 1) := by decide +kernel
theorem dX7_part_114 : decode cX7_part 114 = .ok (.if_icmp .ge 60, 3) := by decide +kernel
theorem dX7_part_117 : decode cX7_part 117 = .ok (.aload_n 0, 1) := by decide +kernel
theorem dX7_part_118 : decode cX7_part 118 = .ok (.bipush 8, 2) := by decide +kernel
theorem dX7_part_120 : decode cX7_part 120 = .ok (.iload 5, 2) := by decide +kernel
theorem dX7_part_122 : decode cX7_part 122 = .ok (.iadd, 1) := by decide +kernel
theorem dX7_part_123 : decode cX7_part 123 = .ok (.iload 4, 2) := by decide +kernel
theorem dX7_part_125 : decode cX7_part 125 = .ok (.invokevirtual 183, 3) := by decide +kernel
theorem dX7_part_128 : decode cX7_part 128 = .ok (.ifCond .eq 46, 3) := by decide +kernel
theorem dX7_part_131 : decode cX7_part 131 = .ok (.aload_n 0, 1) := by decide +kernel
theorem dX7_part_132 : decode cX7_part 132 = .ok (.bipush 8, 2) := by decide +kernel
theorem dX7_part_134 : decode cX7_part 134 = .ok (.iload 5, 2) := by decide +kernel
theorem dX7_part_136 : decode cX7_part 136 = .ok (.iadd, 1) := by decide +kernel
theorem dX7_part_137 : decode cX7_part 137 = .ok (.iload 4, 2) := by decide +kernel
theorem dX7_part_139 : decode cX7_part 139 = .ok (.aload_n 0, 1) := by decide +kernel
theorem dX7_part_140 : decode cX7_part 140 = .ok (.getfield 60, 3) := by decide +kernel
theorem dX7_part_143 : decode cX7_part 143 = .ok (.iload 4, 2) := by decide +kernel
theorem dX7_part_145 : decode cX7_part 145 = .ok (.iaload, 1) := by decide +kernel
theorem dX7_part_146 : decode cX7_part 146 = .ok (.aload_n 0, 1) := by decide +kernel
theorem dX7_part_147 : decode cX7_part 147 = .ok (.getfield 63, 3) := by decide +kernel
theorem dX7_part_150 : decode cX7_part 150 = .ok (.iload 6, 2) := by decide +kernel
theorem dX7_part_152 : decode cX7_part 152 = .ok (.iaload, 1) := by decide +kernel
theorem dX7_part_153 : decode cX7_part 153 = .ok (.isub, 1) := by decide +kernel
theorem dX7_part_154 : decode cX7_part 154 = .ok (.invokevirtual 186, 3) := by decide +kernel
theorem dX7_part_157 : decode cX7_part 157 = .ok (.istore 7, 2) := by decide +kernel
theorem dX7_part_159 : decode cX7_part 159 = .ok (.aload_n 0, 1) := by decide +kernel
theorem dX7_part_160 : decode cX7_part 160 = .ok (.getfield 63, 3) := by decide +kernel
theorem dX7_part_163 : decode cX7_part 163 = .ok (.iload 6, 2) := by decide +kernel
theorem dX7_part_165 : decode cX7_part 165 = .ok (.dup2, 1) := by decide +kernel
theorem dX7_part_166 : decode cX7_part 166 = .ok (.iaload, 1) := by decide +kernel
theorem dX7_part_167 : decode cX7_part 167 = .ok (.iload 7, 2) := by decide +kernel
theorem dX7_part_169 : decode cX7_part 169 = .ok (.iadd, 1) := by decide +kernel
theorem dX7_part_170 : decode cX7_part 170 = .ok (.iastore, 1) := by decide +kernel
theorem dX7_part_171 : decode cX7_part 171 = .ok (.goto (-71), 3) := by decide +kernel
theorem dX7_part_174 : decode cX7_part 174 = .ok (.iinc 5 1, 3) := by decide +kernel
theorem dX7_part_177 : decode cX7_part 177 = .ok (.goto (-107), 3) := by decide +kernel
theorem dX7_part_180 : decode cX7_part 180 = .ok (.iinc 4 1, 3) := by decide +kernel
theorem dX7_part_183 : decode cX7_part 183 = .ok (.goto (-128), 3) := by decide +kernel
theorem dX7_part_186 : decode cX7_part 186 = .ok (.aload_n 0, 1) := by decide +kernel
theorem dX7_part_187 : decode cX7_part 187 = .ok (.getfield 63, 3) := by decide +kernel
theorem dX7_part_190 : decode cX7_part 190 = .ok (.bipush 24, 2) := by decide +kernel
theorem dX7_part_192 : decode cX7_part 192 = .ok (.iload_n 2, 1) := by decide +kernel
theorem dX7_part_193 : decode cX7_part 193 = .ok (.imul, 1) := by decide +kernel
theorem dX7_part_194 : decode cX7_part 194 = .ok (.iload_n 3, 1) := by decide +kernel
theorem dX7_part_195 : decode cX7_part 195 = .ok (.iadd, 1) := by decide +kernel
theorem dX7_part_196 : decode cX7_part 196 = .ok (.iaload, 1) := by decide +kernel
theorem dX7_part_197 : decode cX7_part 197 = .ok (.ireturn, 1) := by decide +kernel
theorem dX7_step_0 : decode cX7_step 0 = .ok (.aload_n 0, 1) := by decide +kernel
theorem dX7_step_1 : decode cX7_step 1 = .ok (.iconst 0, 1) := by decide +kernel
theorem dX7_step_2 : decode cX7_step 2 = .ok (.putfield 193, 3) := by decide +kernel
theorem dX7_step_5 : decode cX7_step 5 = .ok (.aload_n 0, 1) := by decide +kernel
theorem dX7_step_6 : decode cX7_step 6 = .ok (.iconst 0, 1) := by decide +kernel
theorem dX7_step_7 : decode cX7_step 7 = .ok (.putfield 196, 3) := by decide +kernel
theorem dX7_step_10 : decode cX7_step 10 = .ok (.aload_n 0, 1) := by decide +kernel
theorem dX7_step_11 : decode cX7_step 11 = .ok (.iconst 0, 1) := by decide +kernel
theorem dX7_step_12 : decode cX7_step 12 = .ok (.putfield 199, 3) := by decide +kernel
theorem dX7_step_15 : decode cX7_step 15 = .ok (.aload_n 0, 1) := by decide +kernel
theorem dX7_step_16 : decode cX7_step 16 = .ok (.iconst 0, 1) := by decide +kernel
theorem dX7_step_17 : decode cX7_step 17 = .ok (.putfield 202, 3) := by decide +kernel
theorem dX7_step_20 : decode cX7_step 20 = .ok (.aload_n 0, 1) := by decide +kernel
theorem dX7_step_21 : decode cX7_step 21 = .ok (.iconst 0, 1) := by decide +kernel
theorem dX7_step_22 : decode cX7_step 22 = .ok (.putfield 205, 3) := by decide +kernel
theorem dX7_step_25 : decode cX7_step 25 = .ok (.iconst 0, 1) := by decide +kernel
theorem dX7_step_26 : decode cX7_step 26 = .ok (.istore 5, 2) := by decide +kernel
theorem dX7_step_28 : decode cX7_step 28 = .ok (.iload 5, 2) := by decide +kernel
theorem dX7_step_30 : decode cX7_step 30 = .ok (.iload_n 3, 1) := by decide +kernel
theorem dX7_step_31 : decode cX7_step 31 = .ok (.if_icmp .ge 17, 3) := by decide +kernel
theorem dX7_step_34 : decode cX7_step 34 = .ok (.aload_n 0, 1) := by decide +kernel
theorem dX7_step_35 : decode cX7_step 35 = .ok (.getfield 84, 3) := by decide +kernel
theorem dX7_step_38 : decode cX7_step 38 = .ok (.iload 5, 2) := by decide +kernel
theorem dX7_step_40 : decode cX7_step 40 = .ok (.iconst 0, 1) := by decide +kernel
theorem dX7_step_41 : decode cX7_step 41 = .ok (.iastore, 1) := by decide +kernel
theorem dX7_step_42 : decode cX7_step 42 = .ok (.iinc 5 1, 3) := by decide +kernel
theorem dX7_step_45 : decode cX7_step 45 = .ok (.goto (-17), 3) := by decide +kernel
theorem dX7_step_48 : decode cX7_step 48 = .ok (.iconst 0, 1) := by decide +kernel
theorem dX7_step_49 : decode cX7_step 49 = .ok (.istore 5, 2) := by decide +kernel
theorem dX7_step_51 : decode cX7_step 51 = .ok (.iload 5, 2) := by decide +kernel
theorem dX7_step_53 : decode cX7_step 53 = .ok (.iload_n 2, 1) := by decide +kernel
theorem dX7_step_54 : decode cX7_step 54 = .ok (.if_icmp .ge 180, 3) := by decide +kernel
theorem dX7_step_57 : decode cX7_step 57 = .ok (.iconst 0, 1) := by decide +kernel
theorem dX7_step_58 : decode cX7_step 58 = .ok (.istore 6, 2) := by decide +kernel
theorem dX7_step_60 : decode cX7_step 60 = .ok (.iload 6, 2) := by decide +kernel
theorem dX7_step_62 : decode cX7_step 62 = .ok (.aload_n 0, 1) := by decide +kernel
theorem dX7_step_63 : decode cX7_step 63 = .ok (.getfield 16, 3) := by decide +kernel
theorem dX7_step_66 : decode cX7_step 66 = .ok (.bipush 64, 2) := by decide +kernel
theorem dX7_step_68 : decode cX7_step 68 = .ok (.iload_n 1, 1) := by decide +kernel
theorem dX7_step_69 : decode cX7_step 69 = .ok (.imul, 1) := by decide +kernel
theorem dX7_step_70 : decode cX7_step 70 = .ok (.iload 5, 2) := by decide +kernel
theorem dX7_step_72 : decode cX7_step 72 = .ok (.iadd, 1) := by decide +kernel
theorem dX7_step_73 : decode cX7_step 73 = .ok (.laload, 1) := by decide +kernel
theorem dX7_step_74 : decode cX7_step 74 = .ok (.l2i, 1) := by decide +kernel
theorem dX7_step_75 : decode cX7_step 75 = .ok (.if_icmp .ge 153, 3) := by decide +kernel
theorem dX7_step_78 : decode cX7_step 78 = .ok (.iconst 0, 1) := by decide +kernel
theorem dX7_step_79 : decode cX7_step 79 = .ok (.istore 7, 2) := by decide +kernel
theorem dX7_step_81 : decode cX7_step 81 = .ok (.iconst 1, 1) := by decide +kernel
theorem dX7_step_82 : decode cX7_step 82 = .ok (.istore 8, 2) := by decide +kernel
theorem dX7_step_84 : decode cX7_step 84 = .ok (.iload 8, 2) := by decide +kernel
theorem dX7_step_86 : decode cX7_step 86 = .ok (.iload_n 3, 1) := by decide +kernel
theorem dX7_step_87 : decode cX7_step 87 = .ok (.if_icmp .ge 30, 3) := by decide +kernel
theorem dX7_step_90 : decode cX7_step 90 = .ok (.aload_n 0, 1) := by decide +kernel
theorem dX7_step_91 : decode cX7_step 91 = .ok (.getfield 84, 3) := by decide +kernel
theorem dX7_step_94 : decode cX7_step 94 = .ok (.iload 8, 2) := by decide +kernel
theorem dX7_step_96 : decode cX7_step 96 = .ok (.iaload, 1) := by decide +kernel
theorem dX7_step_97 : decode cX7_step 97 = .ok (.aload_n 0, 1) := by decide +kernel
theorem dX7_step_98 : decode cX7_step 98 = .ok (.getfield 84, 3) := by decide +kernel
theorem dX7_step_101 : decode cX7_step 101 = .ok (.iload 7, 2) := by decide +kernel
theorem dX7_step_103 : decode cX7_step 103 = .ok (.iaload, 1) := by decide +kernel
theorem dX7_step_104 : decode cX7_step 104 = .ok (.if_icmp .ge 7, 3) := by decide +kernel
theorem dX7_step_107 : decode cX7_step 107 = .ok (.iload 8, 2) := by decide +kernel
theorem dX7_step_109 : decode cX7_step 109 = .ok (.istore 7, 2) := by decide +kernel
theorem dX7_step_111 : decode cX7_step 111 = .ok (.iinc 8 1, 3) := by decide +kernel
theorem dX7_step_114 : decode cX7_step 114 = .ok (.goto (-30), 3) := by decide +kernel
theorem dX7_step_117 : decode cX7_step 117 = .ok (.iload 5, 2) := by decide +kernel
theorem dX7_step_119 : decode cX7_step 119 = .ok (.aload_n 0, 1) := by decide +kernel
theorem dX7_step_120 : decode cX7_step 120 = .ok (.getfield 84, 3) := by decide +kernel
theorem dX7_step_123 : decode cX7_step 123 = .ok (.iload 7, 2) := by decide +kernel
theorem dX7_step_125 : decode cX7_step 125 = .ok (.iaload, 1) := by decide +kernel
theorem dX7_step_126 : decode cX7_step 126 = .ok (.invokestatic 208, 3) := by decide +kernel
theorem dX7_step_129 : decode cX7_step 129 = .ok (.istore 8, 2) := by decide +kernel
theorem dX7_step_131 : decode cX7_step 131 = .ok (.aload_n 0, 1) := by decide +kernel
theorem dX7_step_132 : decode cX7_step 132 = .ok (.getfield 84, 3) := by decide +kernel
theorem dX7_step_135 : decode cX7_step 135 = .ok (.iload 7, 2) := by decide +kernel
theorem dX7_step_137 : decode cX7_step 137 = .ok (.iload 8, 2) := by decide +kernel
theorem dX7_step_139 : decode cX7_step 139 = .ok (.iload 4, 2) := by decide +kernel
theorem dX7_step_141 : decode cX7_step 141 = .ok (.iadd, 1) := by decide +kernel
theorem dX7_step_142 : decode cX7_step 142 = .ok (.iastore, 1) := by decide +kernel
theorem dX7_step_143 : decode cX7_step 143 = .ok (.aload_n 0, 1) := by decide +kernel
theorem dX7_step_144 : decode cX7_step 144 = .ok (.dup, 1) := by decide +kernel
theorem dX7_step_145 : decode cX7_step 145 = .ok (.getfield 199, 3) := by decide +kernel
theorem dX7_step_148 : decode cX7_step 148 = .ok (.iconst 1, 1) := by decide +kernel
theorem dX7_step_149 : decode cX7_step 149 = .ok (.iadd, 1) := by decide +kernel
theorem dX7_step_150 : decode cX7_step 150 = .ok (.putfield 199, 3) := by decide +kernel
theorem dX7_step_153 : decode cX7_step 153 = .ok (.aload_n 0, 1) := by decide +kernel
theorem dX7_step_154 : decode cX7_step 154 = .ok (.dup, 1) := by decide +kernel
theorem dX7_step_155 : decode cX7_step 155 = .ok (.getfield 196, 3) := by decide +kernel
theorem dX7_step_158 : decode cX7_step 158 = .ok (.iload 8, 2) := by decide +kernel
theorem dX7_step_160 : decode cX7_step 160 = .ok (.iload 5, 2) := by decide +kernel
theorem dX7_step_162 : decode cX7_step 162 = .ok (.isub, 1) := by decide +kernel
theorem dX7_step_163 : decode cX7_step 163 = .ok (.iadd, 1) := by decide +kernel
theorem dX7_step_164 : decode cX7_step 164 = .ok (.putfield 196, 3) := by decide +kernel
theorem dX7_step_167 : decode cX7_step 167 = .ok (.aload_n 0, 1) := by decide +kernel
theorem dX7_step_168 : decode cX7_step 168 = .ok (.dup, 1) := by decide +kernel
theorem dX7_step_169 : decode cX7_step 169 = .ok (.getfield 202, 3) := by decide +kernel
theorem dX7_step_172 : decode cX7_step 172 = .ok (.iload 8, 2) := by decide +kernel
theorem dX7_step_174 : decode cX7_step 174 = .ok (.iload 5, 2) := by decide +kernel
theorem dX7_step_176 : decode cX7_step 176 = .ok (.if_icmp .le 7, 3) := by decide +kernel
theorem dX7_step_179 : decode cX7_step 179 = .ok (.iconst 1, 1) := by decide +kernel
theorem dX7_step_180 : decode cX7_step 180 = .ok (.goto 4, 3) := by decide +kernel
theorem dX7_step_183 : decode cX7_step 183 = .ok (.iconst 0, 1) := by decide +kernel
theorem dX7_step_184 : decode cX7_step 184 = .ok (.iadd, 1) := by decide +kernel
theorem dX7_step_185 : decode cX7_step 185 = .ok (.putfield 202, 3) := by decide +kernel
theorem dX7_step_188 : decode cX7_step 188 = .ok (.aload_n 0, 1) := by decide +kernel
theorem dX7_step_189 : decode cX7_step 189 = .ok (.aload_n 0, 1) := by decide +kernel
theorem dX7_step_190 : decode cX7_step 190 = .ok (.getfield 193, 3) := by decide +kernel
theorem dX7_step_193 : decode cX7_step 193 = .ok (.iload 8, 2) := by decide +kernel
theorem dX7_step_195 : decode cX7_step 195 = .ok (.iload 5, 2) := by decide +kernel
theorem dX7_step_197 : decode cX7_step 197 = .ok (.isub, 1) := by decide +kernel
theorem dX7_step_198 : decode cX7_step 198 = .ok (.invokestatic 208, 3) := by decide +kernel
theorem dX7_step_201 : decode cX7_step 201 = .ok (.putfield 193, 3) := by decide +kernel
theorem dX7_step_204 : decode cX7_step 204 = .ok (.aload_n 0, 1) := by decide +kernel
theorem dX7_step_205 : decode cX7_step 205 = .ok (.aload_n 0, 1) := by decide +kernel
theorem dX7_step_206 : decode cX7_step 206 = .ok (.getfield 205, 3) := by decide +kernel
theorem dX7_step_209 : decode cX7_step 209 = .ok (.aload_n 0, 1) := by decide +kernel
theorem dX7_step_210 : decode cX7_step 210 = .ok (.getfield 84, 3) := by decide +kernel
theorem dX7_step_213 : decode cX7_step 213 = .ok (.iload 7, 2) := by decide +kernel
theorem dX7_step_215 : decode cX7_step 215 = .ok (.iaload, 1) := by decide +kernel
theorem dX7_step_216 : decode cX7_step 216 = .ok (.invokestatic 208, 3) := by decide +kernel
theorem dX7_step_219 : decode cX7_step 219 = .ok (.putfield 205, 3) := by decide +kernel
theorem dX7_step_222 : decode cX7_step 222 = .ok (.iinc 6 1, 3) := by decide +kernel
theorem dX7_step_225 : decode cX7_step 225 = .ok (.goto (-165), 3) := by decide +kernel
theorem dX7_step_228 : decode cX7_step 228 = .ok (.iinc 5 1, 3) := by decide +kernel
theorem dX7_step_231 : decode cX7_step 231 = .ok (.goto (-180), 3) := by decide +kernel
theorem dX7_step_234 : decode cX7_step 234 = .ok (.return_, 1) := by decide +kernel
set_option maxRecDepth 20000 in
theorem ggX7_line_X7_wrongNumbers : GoodIn wsX7_line wsX7_wrongNumbers := goodIn_r _ [12, 13, 14, 15, 16, 11, 17, 31, 32, 33, 34, 35, 36, 37, 38, 39, 40, 41, 42, 43, 44, 45, 46, 47, 48, 49, 50, 51, 52, 53, 54, 55, 56, 57, 58, 59, 60, 61, 62, 63, 64, 65, 66, 67, 68, 69, 70, 71, 72] (by decide +kernel) (by decide +kernel)
set_option maxRecDepth 20000 in
theorem gX7_line_X7_wrongNumbers : GoodIn wsX7_line (wsV RX7 213 RX7 yX7_wrongNumbers wsX7_wrongNumbers) := goodIn_app (goodIn_of _ (by decide +kernel)) ggX7_line_X7_wrongNumbers
set_option maxRecDepth 20000 in
theorem ggX7_line_X7_refuse : GoodIn wsX7_line wsX7_refuse := goodIn_r _ [21, 2, 31, 32, 33, 34, 35, 36, 37, 38, 39, 40, 41, 42, 43, 44, 45, 46, 47, 48, 49, 50, 51, 52, 53, 54, 55, 56, 57, 58, 59, 60, 61, 62, 63, 64, 65, 66, 67, 68, 69, 70, 71, 72] (by decide +kernel) (by decide +kernel)
set_option maxRecDepth 20000 in
theorem gX7_line_X7_refuse : GoodIn wsX7_line (wsV RX7 126 RX7 yX7_refuse wsX7_refuse) := goodIn_app (goodIn_of _ (by decide +kernel)) ggX7_line_X7_refuse
set_option maxRecDepth 20000 in
theorem ggX7_line_X7_step : GoodIn wsX7_line wsX7_step := goodIn_r _ [25, 3, 4, 5, 6, 7, 26, 14, 27, 28, 29, 30, 31, 32, 33, 34, 35, 36, 37, 38, 39, 40, 41, 42, 43, 44, 45, 46, 47, 48, 49, 50, 51, 52, 53, 54, 55, 56, 57, 58, 59, 60, 61, 62, 63, 64, 65, 66, 67, 68, 69, 70, 71, 72] (by decide +kernel) (by decide +kernel)
set_option maxRecDepth 20000 in
theorem gX7_line_X7_step : GoodIn wsX7_line (wsV RX7 217 RX7 yX7_step wsX7_step) := goodIn_app (goodIn_of _ (by decide +kernel)) ggX7_line_X7_step
theorem dX7_line_0 : decode cX7_line 0 = .ok (.iload_n 2, 1) := by decide +kernel
theorem dX7_line_1 : decode cX7_line 1 = .ok (.iconst 1, 1) := by decide +kernel
theorem dX7_line_2 : decode cX7_line 2 = .ok (.if_icmp .lt 44, 3) := by decide +kernel
theorem dX7_line_5 : decode cX7_line 5 = .ok (.iload_n 2, 1) := by decide +kernel
theorem dX7_line_6 : decode cX7_line 6 = .ok (.bipush 64, 2) := by decide +kernel
theorem dX7_line_8 : decode cX7_line 8 = .ok (.if_icmp .gt 38, 3) := by decide +kernel
theorem dX7_line_11 : decode cX7_line 11 = .ok (.iload_n 3, 1) := by decide +kernel
theorem dX7_line_12 : decode cX7_line 12 = .ok (.iconst 1, 1) := by decide +kernel
theorem dX7_line_13 : decode cX7_line 13 = .ok (.if_icmp .lt 33, 3) := by decide +kernel
theorem dX7_line_16 : decode cX7_line 16 = .ok (.iload_n 3, 1) := by decide +kernel
theorem dX7_line_17 : decode cX7_line 17 = .ok (.bipush 20, 2) := by decide +kernel
theorem dX7_line_19 : decode cX7_line 19 = .ok (.if_icmp .gt 27, 3) := by decide +kernel
theorem dX7_line_22 : decode cX7_line 22 = .ok (.iload 4, 2) := by decide +kernel
theorem dX7_line_24 : decode cX7_line 24 = .ok (.iconst 1, 1) := by decide +kernel
theorem dX7_line_25 : decode cX7_line 25 = .ok (.if_icmp .lt 21, 3) := by decide +kernel
theorem dX7_line_28 : decode cX7_line 28 = .ok (.iload 4, 2) := by decide +kernel
theorem dX7_line_30 : decode cX7_line 30 = .ok (.bipush 100, 2) := by decide +kernel
theorem dX7_line_32 : decode cX7_line 32 = .ok (.if_icmp .gt 14, 3) := by decide +kernel
theorem dX7_line_35 : decode cX7_line 35 = .ok (.iload 5, 2) := by decide +kernel
theorem dX7_line_37 : decode cX7_line 37 = .ok (.ifCond .lt 9, 3) := by decide +kernel
theorem dX7_line_40 : decode cX7_line 40 = .ok (.iload 5, 2) := by decide +kernel
theorem dX7_line_42 : decode cX7_line 42 = .ok (.iconst 4, 1) := by decide +kernel
theorem dX7_line_43 : decode cX7_line 43 = .ok (.if_icmp .le 7, 3) := by decide +kernel
theorem dX7_line_46 : decode cX7_line 46 = .ok (.iconst 1, 1) := by decide +kernel
theorem dX7_line_47 : decode cX7_line 47 = .ok (.goto 12, 3) := by decide +kernel
theorem dX7_line_50 : decode cX7_line 50 = .ok (.aload_n 0, 1) := by decide +kernel
theorem dX7_line_51 : decode cX7_line 51 = .ok (.iload_n 1, 1) := by decide +kernel
theorem dX7_line_52 : decode cX7_line 52 = .ok (.iload_n 2, 1) := by decide +kernel
theorem dX7_line_53 : decode cX7_line 53 = .ok (.ldc2_w 211, 3) := by decide +kernel
theorem dX7_line_56 : decode cX7_line 56 = .ok (.invokevirtual 213, 3) := by decide +kernel
theorem dX7_line_59 : decode cX7_line 59 = .ok (.istore 6, 2) := by decide +kernel
theorem dX7_line_61 : decode cX7_line 61 = .ok (.iload 6, 2) := by decide +kernel
theorem dX7_line_63 : decode cX7_line 63 = .ok (.ifCond .le 10, 3) := by decide +kernel
theorem dX7_line_66 : decode cX7_line 66 = .ok (.aload_n 0, 1) := by decide +kernel
theorem dX7_line_67 : decode cX7_line 67 = .ok (.iload 6, 2) := by decide +kernel
theorem dX7_line_69 : decode cX7_line 69 = .ok (.invokevirtual 126, 3) := by decide +kernel
theorem dX7_line_72 : decode cX7_line 72 = .ok (.ireturn, 1) := by decide +kernel
theorem dX7_line_73 : decode cX7_line 73 = .ok (.aload_n 0, 1) := by decide +kernel
theorem dX7_line_74 : decode cX7_line 74 = .ok (.iload_n 1, 1) := by decide +kernel
theorem dX7_line_75 : decode cX7_line 75 = .ok (.iload_n 2, 1) := by decide +kernel
theorem dX7_line_76 : decode cX7_line 76 = .ok (.iload_n 3, 1) := by decide +kernel
theorem dX7_line_77 : decode cX7_line 77 = .ok (.iload 4, 2) := by decide +kernel
theorem dX7_line_79 : decode cX7_line 79 = .ok (.invokevirtual 217, 3) := by decide +kernel
theorem dX7_line_82 : decode cX7_line 82 = .ok (.aload_n 0, 1) := by decide +kernel
theorem dX7_line_83 : decode cX7_line 83 = .ok (.iconst 0, 1) := by decide +kernel
theorem dX7_line_84 : decode cX7_line 84 = .ok (.putfield 105, 3) := by decide +kernel
theorem dX7_line_87 : decode cX7_line 87 = .ok (.iload 5, 2) := by decide +kernel
theorem dX7_line_89 : decode cX7_line 89 = .ok (.ifCond .ne 10, 3) := by decide +kernel
theorem dX7_line_92 : decode cX7_line 92 = .ok (.aload_n 0, 1) := by decide +kernel
theorem dX7_line_93 : decode cX7_line 93 = .ok (.getfield 193, 3) := by decide +kernel
theorem dX7_line_96 : decode cX7_line 96 = .ok (.goto 46, 3) := by decide +kernel
theorem dX7_line_99 : decode cX7_line 99 = .ok (.iload 5, 2) := by decide +kernel
theorem dX7_line_101 : decode cX7_line 101 = .ok (.iconst 1, 1) := by decide +kernel
theorem dX7_line_102 : decode cX7_line 102 = .ok (.if_icmp .ne 10, 3) := by decide +kernel
theorem dX7_line_105 : decode cX7_line 105 = .ok (.aload_n 0, 1) := by decide +kernel
theorem dX7_line_106 : decode cX7_line 106 = .ok (.getfield 196, 3) := by decide +kernel
theorem dX7_line_109 : decode cX7_line 109 = .ok (.goto 33, 3) := by decide +kernel
theorem dX7_line_112 : decode cX7_line 112 = .ok (.iload 5, 2) := by decide +kernel
theorem dX7_line_114 : decode cX7_line 114 = .ok (.iconst 2, 1) := by decide +kernel
theorem dX7_line_115 : decode cX7_line 115 = .ok (.if_icmp .ne 10, 3) := by decide +kernel
theorem dX7_line_118 : decode cX7_line 118 = .ok (.aload_n 0, 1) := by decide +kernel
theorem dX7_line_119 : decode cX7_line 119 = .ok (.getfield 199, 3) := by decide +kernel
theorem dX7_line_122 : decode cX7_line 122 = .ok (.goto 20, 3) := by decide +kernel
theorem dX7_line_125 : decode cX7_line 125 = .ok (.iload 5, 2) := by decide +kernel
theorem dX7_line_127 : decode cX7_line 127 = .ok (.iconst 3, 1) := by decide +kernel
theorem dX7_line_128 : decode cX7_line 128 = .ok (.if_icmp .ne 10, 3) := by decide +kernel
theorem dX7_line_131 : decode cX7_line 131 = .ok (.aload_n 0, 1) := by decide +kernel
theorem dX7_line_132 : decode cX7_line 132 = .ok (.getfield 202, 3) := by decide +kernel
theorem dX7_line_135 : decode cX7_line 135 = .ok (.goto 7, 3) := by decide +kernel
theorem dX7_line_138 : decode cX7_line 138 = .ok (.aload_n 0, 1) := by decide +kernel
theorem dX7_line_139 : decode cX7_line 139 = .ok (.getfield 205, 3) := by decide +kernel
theorem dX7_line_142 : decode cX7_line 142 = .ok (.ireturn, 1) := by decide +kernel
set_option maxRecDepth 20000 in
theorem ggX7_hands_X7_wrongNumbers : GoodIn wsX7_hands wsX7_wrongNumbers := goodIn_r _ [8, 9, 10, 11, 12, 7, 13, 31, 32, 33, 34, 35, 36, 37, 38, 39, 40, 41, 42, 43, 44, 45, 46, 47, 48, 49, 50, 51, 52, 53, 54, 55, 56, 57, 58, 59, 60, 61, 62, 63, 64, 65, 66, 67, 68, 69, 70, 71, 72] (by decide +kernel) (by decide +kernel)
set_option maxRecDepth 20000 in
theorem gX7_hands_X7_wrongNumbers : GoodIn wsX7_hands (wsV RX7 213 RX7 yX7_wrongNumbers wsX7_wrongNumbers) := goodIn_app (goodIn_of _ (by decide +kernel)) ggX7_hands_X7_wrongNumbers
set_option maxRecDepth 20000 in
theorem ggX7_hands_X7_refuse : GoodIn wsX7_hands wsX7_refuse := goodIn_r _ [17, 2, 31, 32, 33, 34, 35, 36, 37, 38, 39, 40, 41, 42, 43, 44, 45, 46, 47, 48, 49, 50, 51, 52, 53, 54, 55, 56, 57, 58, 59, 60, 61, 62, 63, 64, 65, 66, 67, 68, 69, 70, 71, 72] (by decide +kernel) (by decide +kernel)
set_option maxRecDepth 20000 in
theorem gX7_hands_X7_refuse : GoodIn wsX7_hands (wsV RX7 126 RX7 yX7_refuse wsX7_refuse) := goodIn_app (goodIn_of _ (by decide +kernel)) ggX7_hands_X7_refuse
set_option maxRecDepth 20000 in
theorem ggX7_hands_X7_step : GoodIn wsX7_hands wsX7_step := goodIn_r _ [21, 3, 22, 23, 24, 25, 26, 10, 27, 28, 29, 30, 31, 32, 33, 34, 35, 36, 37, 38, 39, 40, 41, 42, 43, 44, 45, 46, 47, 48, 49, 50, 51, 52, 53, 54, 55, 56, 57, 58, 59, 60, 61, 62, 63, 64, 65, 66, 67, 68, 69, 70, 71, 72] (by decide +kernel) (by decide +kernel)
set_option maxRecDepth 20000 in
theorem gX7_hands_X7_step : GoodIn wsX7_hands (wsV RX7 217 RX7 yX7_step wsX7_step) := goodIn_app (goodIn_of _ (by decide +kernel)) ggX7_hands_X7_step
theorem dX7_hands_0 : decode cX7_hands 0 = .ok (.iload_n 2, 1) := by decide +kernel
theorem dX7_hands_1 : decode cX7_hands 1 = .ok (.iconst 1, 1) := by decide +kernel
theorem dX7_hands_2 : decode cX7_hands 2 = .ok (.if_icmp .lt 33, 3) := by decide +kernel
theorem dX7_hands_5 : decode cX7_hands 5 = .ok (.iload_n 2, 1) := by decide +kernel
theorem dX7_hands_6 : decode cX7_hands 6 = .ok (.bipush 64, 2) := by decide +kernel
theorem dX7_hands_8 : decode cX7_hands 8 = .ok (.if_icmp .gt 27, 3) := by decide +kernel
theorem dX7_hands_11 : decode cX7_hands 11 = .ok (.iload_n 3, 1) := by decide +kernel
theorem dX7_hands_12 : decode cX7_hands 12 = .ok (.iconst 1, 1) := by decide +kernel
theorem dX7_hands_13 : decode cX7_hands 13 = .ok (.if_icmp .lt 22, 3) := by decide +kernel
theorem dX7_hands_16 : decode cX7_hands 16 = .ok (.iload_n 3, 1) := by decide +kernel
theorem dX7_hands_17 : decode cX7_hands 17 = .ok (.bipush 100, 2) := by decide +kernel
theorem dX7_hands_19 : decode cX7_hands 19 = .ok (.if_icmp .gt 16, 3) := by decide +kernel
theorem dX7_hands_22 : decode cX7_hands 22 = .ok (.iload 4, 2) := by decide +kernel
theorem dX7_hands_24 : decode cX7_hands 24 = .ok (.ifCond .lt 11, 3) := by decide +kernel
theorem dX7_hands_27 : decode cX7_hands 27 = .ok (.iload 4, 2) := by decide +kernel
theorem dX7_hands_29 : decode cX7_hands 29 = .ok (.sipush 10000, 3) := by decide +kernel
theorem dX7_hands_32 : decode cX7_hands 32 = .ok (.if_icmp .le 7, 3) := by decide +kernel
theorem dX7_hands_35 : decode cX7_hands 35 = .ok (.iconst 1, 1) := by decide +kernel
theorem dX7_hands_36 : decode cX7_hands 36 = .ok (.goto 12, 3) := by decide +kernel
theorem dX7_hands_39 : decode cX7_hands 39 = .ok (.aload_n 0, 1) := by decide +kernel
theorem dX7_hands_40 : decode cX7_hands 40 = .ok (.iload_n 1, 1) := by decide +kernel
theorem dX7_hands_41 : decode cX7_hands 41 = .ok (.iload_n 2, 1) := by decide +kernel
theorem dX7_hands_42 : decode cX7_hands 42 = .ok (.ldc2_w 211, 3) := by decide +kernel
theorem dX7_hands_45 : decode cX7_hands 45 = .ok (.invokevirtual 213, 3) := by decide +kernel
theorem dX7_hands_48 : decode cX7_hands 48 = .ok (.istore 5, 2) := by decide +kernel
theorem dX7_hands_50 : decode cX7_hands 50 = .ok (.iload 5, 2) := by decide +kernel
theorem dX7_hands_52 : decode cX7_hands 52 = .ok (.ifCond .le 10, 3) := by decide +kernel
theorem dX7_hands_55 : decode cX7_hands 55 = .ok (.aload_n 0, 1) := by decide +kernel
theorem dX7_hands_56 : decode cX7_hands 56 = .ok (.iload 5, 2) := by decide +kernel
theorem dX7_hands_58 : decode cX7_hands 58 = .ok (.invokevirtual 126, 3) := by decide +kernel
theorem dX7_hands_61 : decode cX7_hands 61 = .ok (.ireturn, 1) := by decide +kernel
theorem dX7_hands_62 : decode cX7_hands 62 = .ok (.aload_n 0, 1) := by decide +kernel
theorem dX7_hands_63 : decode cX7_hands 63 = .ok (.iconst 0, 1) := by decide +kernel
theorem dX7_hands_64 : decode cX7_hands 64 = .ok (.putfield 105, 3) := by decide +kernel
theorem dX7_hands_67 : decode cX7_hands 67 = .ok (.iconst 1, 1) := by decide +kernel
theorem dX7_hands_68 : decode cX7_hands 68 = .ok (.istore 6, 2) := by decide +kernel
theorem dX7_hands_70 : decode cX7_hands 70 = .ok (.iload 6, 2) := by decide +kernel
theorem dX7_hands_72 : decode cX7_hands 72 = .ok (.bipush 20, 2) := by decide +kernel
theorem dX7_hands_74 : decode cX7_hands 74 = .ok (.if_icmp .gt 30, 3) := by decide +kernel
theorem dX7_hands_77 : decode cX7_hands 77 = .ok (.aload_n 0, 1) := by decide +kernel
theorem dX7_hands_78 : decode cX7_hands 78 = .ok (.iload_n 1, 1) := by decide +kernel
theorem dX7_hands_79 : decode cX7_hands 79 = .ok (.iload_n 2, 1) := by decide +kernel
theorem dX7_hands_80 : decode cX7_hands 80 = .ok (.iload 6, 2) := by decide +kernel
theorem dX7_hands_82 : decode cX7_hands 82 = .ok (.iload_n 3, 1) := by decide +kernel
theorem dX7_hands_83 : decode cX7_hands 83 = .ok (.invokevirtual 217, 3) := by decide +kernel
theorem dX7_hands_86 : decode cX7_hands 86 = .ok (.aload_n 0, 1) := by decide +kernel
theorem dX7_hands_87 : decode cX7_hands 87 = .ok (.getfield 193, 3) := by decide +kernel
theorem dX7_hands_90 : decode cX7_hands 90 = .ok (.iload 4, 2) := by decide +kernel
theorem dX7_hands_92 : decode cX7_hands 92 = .ok (.if_icmp .gt 6, 3) := by decide +kernel
theorem dX7_hands_95 : decode cX7_hands 95 = .ok (.iload 6, 2) := by decide +kernel
theorem dX7_hands_97 : decode cX7_hands 97 = .ok (.ireturn, 1) := by decide +kernel
theorem dX7_hands_98 : decode cX7_hands 98 = .ok (.iinc 6 1, 3) := by decide +kernel
theorem dX7_hands_101 : decode cX7_hands 101 = .ok (.goto (-31), 3) := by decide +kernel
theorem dX7_hands_104 : decode cX7_hands 104 = .ok (.aload_n 0, 1) := by decide +kernel
theorem dX7_hands_105 : decode cX7_hands 105 = .ok (.bipush 7, 2) := by decide +kernel
theorem dX7_hands_107 : decode cX7_hands 107 = .ok (.invokevirtual 126, 3) := by decide +kernel
theorem dX7_hands_110 : decode cX7_hands 110 = .ok (.ireturn, 1) := by decide +kernel
set_option maxRecDepth 20000 in
theorem ggX7_wanted_X7_wrongNumbers : GoodIn wsX7_wanted wsX7_wrongNumbers := goodIn_r _ [8, 9, 3, 10, 11, 7, 12, 18, 19, 20, 21, 22, 23, 24, 25, 26, 27, 28, 29, 30, 31, 32, 33, 34, 35, 36, 37, 38, 39, 40, 41, 42, 43, 44, 45, 46, 47, 48, 49, 50, 51, 52, 53, 54, 55, 56, 57, 58, 59] (by decide +kernel) (by decide +kernel)
set_option maxRecDepth 20000 in
theorem gX7_wanted_X7_wrongNumbers : GoodIn wsX7_wanted (wsV RX7 213 RX7 yX7_wrongNumbers wsX7_wrongNumbers) := goodIn_app (goodIn_of _ (by decide +kernel)) ggX7_wanted_X7_wrongNumbers
set_option maxRecDepth 20000 in
theorem ggX7_wanted_X7_is : GoodIn wsX7_wanted wsX7_is := goodIn_r _ [16, 17, 18, 19, 20, 21, 22, 23, 24, 25, 26, 27, 28, 29, 30, 31, 32, 33, 34, 35, 36, 37, 38, 39, 40, 41, 42, 43, 44, 45, 46, 47, 48, 49, 50, 51, 52, 53, 54, 55, 56, 57, 58, 59] (by decide +kernel) (by decide +kernel)
set_option maxRecDepth 20000 in
theorem gX7_wanted_X7_is : GoodIn wsX7_wanted (wsV RX7 113 RX7 yX7_is wsX7_is) := goodIn_app (goodIn_of _ (by decide +kernel)) ggX7_wanted_X7_is
theorem dX7_wanted_0 : decode cX7_wanted 0 = .ok (.aload_n 0, 1) := by decide +kernel
theorem dX7_wanted_1 : decode cX7_wanted 1 = .ok (.iload_n 1, 1) := by decide +kernel
theorem dX7_wanted_2 : decode cX7_wanted 2 = .ok (.bipush 12, 2) := by decide +kernel
theorem dX7_wanted_4 : decode cX7_wanted 4 = .ok (.ldc2_w 221, 3) := by decide +kernel
theorem dX7_wanted_7 : decode cX7_wanted 7 = .ok (.invokevirtual 213, 3) := by decide +kernel
theorem dX7_wanted_10 : decode cX7_wanted 10 = .ok (.istore_n 2, 1) := by decide +kernel
theorem dX7_wanted_11 : decode cX7_wanted 11 = .ok (.iload_n 2, 1) := by decide +kernel
theorem dX7_wanted_12 : decode cX7_wanted 12 = .ok (.ifCond .le 9, 3) := by decide +kernel
theorem dX7_wanted_15 : decode cX7_wanted 15 = .ok (.aload_n 0, 1) := by decide +kernel
theorem dX7_wanted_16 : decode cX7_wanted 16 = .ok (.iload_n 2, 1) := by decide +kernel
theorem dX7_wanted_17 : decode cX7_wanted 17 = .ok (.invokevirtual 113, 3) := by decide +kernel
theorem dX7_wanted_20 : decode cX7_wanted 20 = .ok (.ireturn, 1) := by decide +kernel
theorem dX7_wanted_21 : decode cX7_wanted 21 = .ok (.iconst 0, 1) := by decide +kernel
theorem dX7_wanted_22 : decode cX7_wanted 22 = .ok (.istore_n 3, 1) := by decide +kernel
theorem dX7_wanted_23 : decode cX7_wanted 23 = .ok (.iload_n 3, 1) := by decide +kernel
theorem dX7_wanted_24 : decode cX7_wanted 24 = .ok (.bipush 12, 2) := by decide +kernel
theorem dX7_wanted_26 : decode cX7_wanted 26 = .ok (.if_icmp .ge 27, 3) := by decide +kernel
theorem dX7_wanted_29 : decode cX7_wanted 29 = .ok (.aload_n 0, 1) := by decide +kernel
theorem dX7_wanted_30 : decode cX7_wanted 30 = .ok (.getfield 87, 3) := by decide +kernel
theorem dX7_wanted_33 : decode cX7_wanted 33 = .ok (.iload_n 3, 1) := by decide +kernel
theorem dX7_wanted_34 : decode cX7_wanted 34 = .ok (.aload_n 0, 1) := by decide +kernel
theorem dX7_wanted_35 : decode cX7_wanted 35 = .ok (.getfield 16, 3) := by decide +kernel
theorem dX7_wanted_38 : decode cX7_wanted 38 = .ok (.bipush 64, 2) := by decide +kernel
theorem dX7_wanted_40 : decode cX7_wanted 40 = .ok (.iload_n 1, 1) := by decide +kernel
theorem dX7_wanted_41 : decode cX7_wanted 41 = .ok (.imul, 1) := by decide +kernel
theorem dX7_wanted_42 : decode cX7_wanted 42 = .ok (.iload_n 3, 1) := by decide +kernel
theorem dX7_wanted_43 : decode cX7_wanted 43 = .ok (.iadd, 1) := by decide +kernel
theorem dX7_wanted_44 : decode cX7_wanted 44 = .ok (.laload, 1) := by decide +kernel
theorem dX7_wanted_45 : decode cX7_wanted 45 = .ok (.l2i, 1) := by decide +kernel
theorem dX7_wanted_46 : decode cX7_wanted 46 = .ok (.iastore, 1) := by decide +kernel
theorem dX7_wanted_47 : decode cX7_wanted 47 = .ok (.iinc 3 1, 3) := by decide +kernel
theorem dX7_wanted_50 : decode cX7_wanted 50 = .ok (.goto (-27), 3) := by decide +kernel
theorem dX7_wanted_53 : decode cX7_wanted 53 = .ok (.aload_n 0, 1) := by decide +kernel
theorem dX7_wanted_54 : decode cX7_wanted 54 = .ok (.iconst 0, 1) := by decide +kernel
theorem dX7_wanted_55 : decode cX7_wanted 55 = .ok (.invokevirtual 113, 3) := by decide +kernel
theorem dX7_wanted_58 : decode cX7_wanted 58 = .ok (.ireturn, 1) := by decide +kernel
set_option maxRecDepth 20000 in
theorem ggX7_have_X7_is : GoodIn wsX7_have wsX7_is := goodIn_r _ [6, 7, 8, 9, 10, 11, 12, 13, 14, 15, 16, 17, 18, 19, 20, 21, 22, 23, 24, 25, 26, 27, 28, 29, 30, 31, 32, 33, 34, 35, 36, 37, 38, 39, 40, 41, 42, 43, 44, 45, 46, 47, 48, 49] (by decide +kernel) (by decide +kernel)
set_option maxRecDepth 20000 in
theorem gX7_have_X7_is : GoodIn wsX7_have (wsV RX7 113 RX7 yX7_is wsX7_is) := goodIn_app (goodIn_of _ (by decide +kernel)) ggX7_have_X7_is
theorem dX7_have_0 : decode cX7_have 0 = .ok (.iload_n 1, 1) := by decide +kernel
theorem dX7_have_1 : decode cX7_have 1 = .ok (.ifCond .lt 10, 3) := by decide +kernel
theorem dX7_have_4 : decode cX7_have 4 = .ok (.iload_n 1, 1) := by decide +kernel
theorem dX7_have_5 : decode cX7_have 5 = .ok (.sipush 500, 3) := by decide +kernel
theorem dX7_have_8 : decode cX7_have 8 = .ok (.if_icmp .le 9, 3) := by decide +kernel
theorem dX7_have_11 : decode cX7_have 11 = .ok (.aload_n 0, 1) := by decide +kernel
theorem dX7_have_12 : decode cX7_have 12 = .ok (.iconst 1, 1) := by decide +kernel
theorem dX7_have_13 : decode cX7_have 13 = .ok (.invokevirtual 113, 3) := by decide +kernel
theorem dX7_have_16 : decode cX7_have 16 = .ok (.ireturn, 1) := by decide +kernel
theorem dX7_have_17 : decode cX7_have 17 = .ok (.aload_n 0, 1) := by decide +kernel
theorem dX7_have_18 : decode cX7_have 18 = .ok (.iload_n 1, 1) := by decide +kernel
theorem dX7_have_19 : decode cX7_have 19 = .ok (.putfield 223, 3) := by decide +kernel
theorem dX7_have_22 : decode cX7_have 22 = .ok (.aload_n 0, 1) := by decide +kernel
theorem dX7_have_23 : decode cX7_have 23 = .ok (.iconst 0, 1) := by decide +kernel
theorem dX7_have_24 : decode cX7_have 24 = .ok (.invokevirtual 113, 3) := by decide +kernel
theorem dX7_have_27 : decode cX7_have 27 = .ok (.ireturn, 1) := by decide +kernel
set_option maxRecDepth 20000 in
theorem ggX7_type_X7_wrongNumbers : GoodIn wsX7_type wsX7_wrongNumbers := goodIn_r _ [13, 14, 7, 15, 16, 12, 17, 22, 23, 24, 25, 26, 27, 28, 29, 30, 31, 32, 33, 34, 35, 36, 37, 38, 39, 40, 41, 42, 43, 44, 45, 46, 47, 48, 49, 50, 51, 52, 53, 54, 55, 56, 57, 58, 59, 60, 61, 62, 63] (by decide +kernel) (by decide +kernel)
set_option maxRecDepth 20000 in
theorem gX7_type_X7_wrongNumbers : GoodIn wsX7_type (wsV RX7 213 RX7 yX7_wrongNumbers wsX7_wrongNumbers) := goodIn_app (goodIn_of _ (by decide +kernel)) ggX7_type_X7_wrongNumbers
set_option maxRecDepth 20000 in
theorem ggX7_type_X7_refuse : GoodIn wsX7_type wsX7_refuse := goodIn_r _ [21, 8, 22, 23, 24, 25, 26, 27, 28, 29, 30, 31, 32, 33, 34, 35, 36, 37, 38, 39, 40, 41, 42, 43, 44, 45, 46, 47, 48, 49, 50, 51, 52, 53, 54, 55, 56, 57, 58, 59, 60, 61, 62, 63] (by decide +kernel) (by decide +kernel)
set_option maxRecDepth 20000 in
theorem gX7_type_X7_refuse : GoodIn wsX7_type (wsV RX7 126 RX7 yX7_refuse wsX7_refuse) := goodIn_app (goodIn_of _ (by decide +kernel)) ggX7_type_X7_refuse
theorem dX7_type_0 : decode cX7_type 0 = .ok (.iload_n 1, 1) := by decide +kernel
theorem dX7_type_1 : decode cX7_type 1 = .ok (.iconst 1, 1) := by decide +kernel
theorem dX7_type_2 : decode cX7_type 2 = .ok (.if_icmp .lt 32, 3) := by decide +kernel
theorem dX7_type_5 : decode cX7_type 5 = .ok (.iload_n 1, 1) := by decide +kernel
theorem dX7_type_6 : decode cX7_type 6 = .ok (.bipush 100, 2) := by decide +kernel
theorem dX7_type_8 : decode cX7_type 8 = .ok (.if_icmp .gt 26, 3) := by decide +kernel
theorem dX7_type_11 : decode cX7_type 11 = .ok (.iload_n 2, 1) := by decide +kernel
theorem dX7_type_12 : decode cX7_type 12 = .ok (.ifCond .lt 22, 3) := by decide +kernel
theorem dX7_type_15 : decode cX7_type 15 = .ok (.iload_n 2, 1) := by decide +kernel
theorem dX7_type_16 : decode cX7_type 16 = .ok (.bipush 11, 2) := by decide +kernel
theorem dX7_type_18 : decode cX7_type 18 = .ok (.if_icmp .gt 16, 3) := by decide +kernel
theorem dX7_type_21 : decode cX7_type 21 = .ok (.iload 4, 2) := by decide +kernel
theorem dX7_type_23 : decode cX7_type 23 = .ok (.ifCond .lt 11, 3) := by decide +kernel
theorem dX7_type_26 : decode cX7_type 26 = .ok (.iload 4, 2) := by decide +kernel
theorem dX7_type_28 : decode cX7_type 28 = .ok (.sipush 1000, 3) := by decide +kernel
theorem dX7_type_31 : decode cX7_type 31 = .ok (.if_icmp .le 7, 3) := by decide +kernel
theorem dX7_type_34 : decode cX7_type 34 = .ok (.iconst 1, 1) := by decide +kernel
theorem dX7_type_35 : decode cX7_type 35 = .ok (.goto 13, 3) := by decide +kernel
theorem dX7_type_38 : decode cX7_type 38 = .ok (.aload_n 0, 1) := by decide +kernel
theorem dX7_type_39 : decode cX7_type 39 = .ok (.iload_n 3, 1) := by decide +kernel
theorem dX7_type_40 : decode cX7_type 40 = .ok (.bipush 12, 2) := by decide +kernel
theorem dX7_type_42 : decode cX7_type 42 = .ok (.ldc2_w 226, 3) := by decide +kernel
theorem dX7_type_45 : decode cX7_type 45 = .ok (.invokevirtual 213, 3) := by decide +kernel
theorem dX7_type_48 : decode cX7_type 48 = .ok (.istore 5, 2) := by decide +kernel
theorem dX7_type_50 : decode cX7_type 50 = .ok (.iload 5, 2) := by decide +kernel
theorem dX7_type_52 : decode cX7_type 52 = .ok (.ifCond .ne 14, 3) := by decide +kernel
theorem dX7_type_55 : decode cX7_type 55 = .ok (.aload_n 0, 1) := by decide +kernel
theorem dX7_type_56 : decode cX7_type 56 = .ok (.getfield 146, 3) := by decide +kernel
theorem dX7_type_59 : decode cX7_type 59 = .ok (.iconst 4, 1) := by decide +kernel
theorem dX7_type_60 : decode cX7_type 60 = .ok (.if_icmp .ne 6, 3) := by decide +kernel
theorem dX7_type_63 : decode cX7_type 63 = .ok (.iconst 4, 1) := by decide +kernel
theorem dX7_type_64 : decode cX7_type 64 = .ok (.istore 5, 2) := by decide +kernel
theorem dX7_type_66 : decode cX7_type 66 = .ok (.iload 5, 2) := by decide +kernel
theorem dX7_type_68 : decode cX7_type 68 = .ok (.ifCond .le 10, 3) := by decide +kernel
theorem dX7_type_71 : decode cX7_type 71 = .ok (.aload_n 0, 1) := by decide +kernel
theorem dX7_type_72 : decode cX7_type 72 = .ok (.iload 5, 2) := by decide +kernel
theorem dX7_type_74 : decode cX7_type 74 = .ok (.invokevirtual 126, 3) := by decide +kernel
theorem dX7_type_77 : decode cX7_type 77 = .ok (.ireturn, 1) := by decide +kernel
theorem dX7_type_78 : decode cX7_type 78 = .ok (.aload_n 0, 1) := by decide +kernel
theorem dX7_type_79 : decode cX7_type 79 = .ok (.getfield 90, 3) := by decide +kernel
theorem dX7_type_82 : decode cX7_type 82 = .ok (.aload_n 0, 1) := by decide +kernel
theorem dX7_type_83 : decode cX7_type 83 = .ok (.getfield 146, 3) := by decide +kernel
theorem dX7_type_86 : decode cX7_type 86 = .ok (.iload_n 1, 1) := by decide +kernel
theorem dX7_type_87 : decode cX7_type 87 = .ok (.iastore, 1) := by decide +kernel
theorem dX7_type_88 : decode cX7_type 88 = .ok (.aload_n 0, 1) := by decide +kernel
theorem dX7_type_89 : decode cX7_type 89 = .ok (.getfield 93, 3) := by decide +kernel
theorem dX7_type_92 : decode cX7_type 92 = .ok (.aload_n 0, 1) := by decide +kernel
theorem dX7_type_93 : decode cX7_type 93 = .ok (.getfield 146, 3) := by decide +kernel
theorem dX7_type_96 : decode cX7_type 96 = .ok (.iload_n 2, 1) := by decide +kernel
theorem dX7_type_97 : decode cX7_type 97 = .ok (.iastore, 1) := by decide +kernel
theorem dX7_type_98 : decode cX7_type 98 = .ok (.aload_n 0, 1) := by decide +kernel
theorem dX7_type_99 : decode cX7_type 99 = .ok (.getfield 96, 3) := by decide +kernel
theorem dX7_type_102 : decode cX7_type 102 = .ok (.aload_n 0, 1) := by decide +kernel
theorem dX7_type_103 : decode cX7_type 103 = .ok (.getfield 146, 3) := by decide +kernel
theorem dX7_type_106 : decode cX7_type 106 = .ok (.iload 4, 2) := by decide +kernel
theorem dX7_type_108 : decode cX7_type 108 = .ok (.iastore, 1) := by decide +kernel
theorem dX7_type_109 : decode cX7_type 109 = .ok (.iconst 0, 1) := by decide +kernel
theorem dX7_type_110 : decode cX7_type 110 = .ok (.istore 6, 2) := by decide +kernel
theorem dX7_type_112 : decode cX7_type 112 = .ok (.iload 6, 2) := by decide +kernel
theorem dX7_type_114 : decode cX7_type 114 = .ok (.bipush 12, 2) := by decide +kernel
theorem dX7_type_116 : decode cX7_type 116 = .ok (.if_icmp .ge 37, 3) := by decide +kernel
theorem dX7_type_119 : decode cX7_type 119 = .ok (.aload_n 0, 1) := by decide +kernel
theorem dX7_type_120 : decode cX7_type 120 = .ok (.getfield 99, 3) := by decide +kernel
theorem dX7_type_123 : decode cX7_type 123 = .ok (.bipush 12, 2) := by decide +kernel
theorem dX7_type_125 : decode cX7_type 125 = .ok (.aload_n 0, 1) := by decide +kernel
theorem dX7_type_126 : decode cX7_type 126 = .ok (.getfield 146, 3) := by decide +kernel
theorem dX7_type_129 : decode cX7_type 129 = .ok (.imul, 1) := by decide +kernel
theorem dX7_type_130 : decode cX7_type 130 = .ok (.iload 6, 2) := by decide +kernel
theorem dX7_type_132 : decode cX7_type 132 = .ok (.iadd, 1) := by decide +kernel
theorem dX7_type_133 : decode cX7_type 133 = .ok (.aload_n 0, 1) := by decide +kernel
theorem dX7_type_134 : decode cX7_type 134 = .ok (.getfield 16, 3) := by decide +kernel
theorem dX7_type_137 : decode cX7_type 137 = .ok (.bipush 64, 2) := by decide +kernel
theorem dX7_type_139 : decode cX7_type 139 = .ok (.iload_n 3, 1) := by decide +kernel
theorem dX7_type_140 : decode cX7_type 140 = .ok (.imul, 1) := by decide +kernel
theorem dX7_type_141 : decode cX7_type 141 = .ok (.iload 6, 2) := by decide +kernel
theorem dX7_type_143 : decode cX7_type 143 = .ok (.iadd, 1) := by decide +kernel
theorem dX7_type_144 : decode cX7_type 144 = .ok (.laload, 1) := by decide +kernel
theorem dX7_type_145 : decode cX7_type 145 = .ok (.l2i, 1) := by decide +kernel
theorem dX7_type_146 : decode cX7_type 146 = .ok (.iastore, 1) := by decide +kernel
theorem dX7_type_147 : decode cX7_type 147 = .ok (.iinc 6 1, 3) := by decide +kernel
theorem dX7_type_150 : decode cX7_type 150 = .ok (.goto (-38), 3) := by decide +kernel
theorem dX7_type_153 : decode cX7_type 153 = .ok (.aload_n 0, 1) := by decide +kernel
theorem dX7_type_154 : decode cX7_type 154 = .ok (.dup, 1) := by decide +kernel
theorem dX7_type_155 : decode cX7_type 155 = .ok (.getfield 146, 3) := by decide +kernel
theorem dX7_type_158 : decode cX7_type 158 = .ok (.iconst 1, 1) := by decide +kernel
theorem dX7_type_159 : decode cX7_type 159 = .ok (.iadd, 1) := by decide +kernel
theorem dX7_type_160 : decode cX7_type 160 = .ok (.putfield 146, 3) := by decide +kernel
theorem dX7_type_163 : decode cX7_type 163 = .ok (.aload_n 0, 1) := by decide +kernel
theorem dX7_type_164 : decode cX7_type 164 = .ok (.iconst 0, 1) := by decide +kernel
theorem dX7_type_165 : decode cX7_type 165 = .ok (.putfield 105, 3) := by decide +kernel
theorem dX7_type_168 : decode cX7_type 168 = .ok (.aload_n 0, 1) := by decide +kernel
theorem dX7_type_169 : decode cX7_type 169 = .ok (.getfield 146, 3) := by decide +kernel
theorem dX7_type_172 : decode cX7_type 172 = .ok (.iconst 1, 1) := by decide +kernel
theorem dX7_type_173 : decode cX7_type 173 = .ok (.isub, 1) := by decide +kernel
theorem dX7_type_174 : decode cX7_type 174 = .ok (.ireturn, 1) := by decide +kernel
theorem dX7_at_0 : decode cX7_at 0 = .ok (.sipush 501, 3) := by decide +kernel
theorem dX7_at_3 : decode cX7_at 3 = .ok (.iconst 4, 1) := by decide +kernel
theorem dX7_at_4 : decode cX7_at 4 = .ok (.iload_n 0, 1) := by decide +kernel
theorem dX7_at_5 : decode cX7_at 5 = .ok (.imul, 1) := by decide +kernel
theorem dX7_at_6 : decode cX7_at 6 = .ok (.iload_n 1, 1) := by decide +kernel
theorem dX7_at_7 : decode cX7_at 7 = .ok (.iadd, 1) := by decide +kernel
theorem dX7_at_8 : decode cX7_at 8 = .ok (.imul, 1) := by decide +kernel
theorem dX7_at_9 : decode cX7_at 9 = .ok (.iload_n 2, 1) := by decide +kernel
theorem dX7_at_10 : decode cX7_at 10 = .ok (.iadd, 1) := by decide +kernel
theorem dX7_at_11 : decode cX7_at 11 = .ok (.ireturn, 1) := by decide +kernel
theorem dX7_takes_0 : decode cX7_takes 0 = .ok (.aload_n 0, 1) := by decide +kernel
theorem dX7_takes_1 : decode cX7_takes 1 = .ok (.getfield 99, 3) := by decide +kernel
theorem dX7_takes_4 : decode cX7_takes 4 = .ok (.bipush 12, 2) := by decide +kernel
theorem dX7_takes_6 : decode cX7_takes 6 = .ok (.iload_n 1, 1) := by decide +kernel
theorem dX7_takes_7 : decode cX7_takes 7 = .ok (.imul, 1) := by decide +kernel
theorem dX7_takes_8 : decode cX7_takes 8 = .ok (.iload_n 2, 1) := by decide +kernel
theorem dX7_takes_9 : decode cX7_takes 9 = .ok (.iadd, 1) := by decide +kernel
theorem dX7_takes_10 : decode cX7_takes 10 = .ok (.aload_n 0, 1) := by decide +kernel
theorem dX7_takes_11 : decode cX7_takes 11 = .ok (.getfield 93, 3) := by decide +kernel
theorem dX7_takes_14 : decode cX7_takes 14 = .ok (.iload_n 1, 1) := by decide +kernel
theorem dX7_takes_15 : decode cX7_takes 15 = .ok (.iaload, 1) := by decide +kernel
theorem dX7_takes_16 : decode cX7_takes 16 = .ok (.isub, 1) := by decide +kernel
theorem dX7_takes_17 : decode cX7_takes 17 = .ok (.iaload, 1) := by decide +kernel
theorem dX7_takes_18 : decode cX7_takes 18 = .ok (.aload_n 0, 1) := by decide +kernel
theorem dX7_takes_19 : decode cX7_takes 19 = .ok (.getfield 96, 3) := by decide +kernel
theorem dX7_takes_22 : decode cX7_takes 22 = .ok (.iload_n 1, 1) := by decide +kernel
theorem dX7_takes_23 : decode cX7_takes 23 = .ok (.iaload, 1) := by decide +kernel
theorem dX7_takes_24 : decode cX7_takes 24 = .ok (.bipush 12, 2) := by decide +kernel
theorem dX7_takes_26 : decode cX7_takes 26 = .ok (.iload_n 2, 1) := by decide +kernel
theorem dX7_takes_27 : decode cX7_takes 27 = .ok (.isub, 1) := by decide +kernel
theorem dX7_takes_28 : decode cX7_takes 28 = .ok (.imul, 1) := by decide +kernel
theorem dX7_takes_29 : decode cX7_takes 29 = .ok (.iadd, 1) := by decide +kernel
theorem dX7_takes_30 : decode cX7_takes 30 = .ok (.ireturn, 1) := by decide +kernel
set_option maxRecDepth 20000 in
theorem ggX7_reckon_X7_at : GoodIn wsX7_reckon wsX7_at := goodIn_r _ [14] (by decide +kernel) (by decide +kernel)
set_option maxRecDepth 20000 in
theorem gX7_reckon_X7_at : GoodIn wsX7_reckon (va_wsS RX7 228 yX7_at wsX7_at) := goodIn_app (goodIn_of _ (by decide +kernel)) ggX7_reckon_X7_at
set_option maxRecDepth 20000 in
theorem ggX7_reckon_X7_takes : GoodIn wsX7_reckon wsX7_takes := goodIn_r _ [18, 19, 5, 20, 21, 22, 23, 24, 25, 26, 27, 28, 29, 30, 31, 32, 33, 34, 35, 36, 37, 38, 39, 40, 41, 42, 43, 44, 45, 46, 47, 48, 49, 50, 51, 52, 53, 54, 55, 56, 57, 58, 59, 60, 61, 62] (by decide +kernel) (by decide +kernel)
set_option maxRecDepth 20000 in
theorem gX7_reckon_X7_takes : GoodIn wsX7_reckon (wsV RX7 232 RX7 yX7_takes wsX7_takes) := goodIn_app (goodIn_of _ (by decide +kernel)) ggX7_reckon_X7_takes
theorem dX7_reckon_0 : decode cX7_reckon 0 = .ok (.iconst 0, 1) := by decide +kernel
theorem dX7_reckon_1 : decode cX7_reckon 1 = .ok (.istore_n 1, 1) := by decide +kernel
theorem dX7_reckon_2 : decode cX7_reckon 2 = .ok (.iload_n 1, 1) := by decide +kernel
theorem dX7_reckon_3 : decode cX7_reckon 3 = .ok (.sipush 500, 3) := by decide +kernel
theorem dX7_reckon_6 : decode cX7_reckon 6 = .ok (.if_icmp .gt 22, 3) := by decide +kernel
theorem dX7_reckon_9 : decode cX7_reckon 9 = .ok (.aload_n 0, 1) := by decide +kernel
theorem dX7_reckon_10 : decode cX7_reckon 10 = .ok (.getfield 102, 3) := by decide +kernel
theorem dX7_reckon_13 : decode cX7_reckon 13 = .ok (.bipush 12, 2) := by decide +kernel
theorem dX7_reckon_15 : decode cX7_reckon 15 = .ok (.iconst 0, 1) := by decide +kernel
theorem dX7_reckon_16 : decode cX7_reckon 16 = .ok (.iload_n 1, 1) := by decide +kernel
theorem dX7_reckon_17 : decode cX7_reckon 17 = .ok (.invokestatic 228, 3) := by decide +kernel
theorem dX7_reckon_20 : decode cX7_reckon 20 = .ok (.iconst 0, 1) := by decide +kernel
theorem dX7_reckon_21 : decode cX7_reckon 21 = .ok (.iastore, 1) := by decide +kernel
theorem dX7_reckon_22 : decode cX7_reckon 22 = .ok (.iinc 1 1, 3) := by decide +kernel
theorem dX7_reckon_25 : decode cX7_reckon 25 = .ok (.goto (-23), 3) := by decide +kernel
theorem dX7_reckon_28 : decode cX7_reckon 28 = .ok (.bipush 11, 2) := by decide +kernel
theorem dX7_reckon_30 : decode cX7_reckon 30 = .ok (.istore_n 1, 1) := by decide +kernel
theorem dX7_reckon_31 : decode cX7_reckon 31 = .ok (.iload_n 1, 1) := by decide +kernel
theorem dX7_reckon_32 : decode cX7_reckon 32 = .ok (.ifCond .lt 173, 3) := by decide +kernel
theorem dX7_reckon_35 : decode cX7_reckon 35 = .ok (.iconst 3, 1) := by decide +kernel
theorem dX7_reckon_36 : decode cX7_reckon 36 = .ok (.istore_n 2, 1) := by decide +kernel
theorem dX7_reckon_37 : decode cX7_reckon 37 = .ok (.iload_n 2, 1) := by decide +kernel
theorem dX7_reckon_38 : decode cX7_reckon 38 = .ok (.ifCond .lt 161, 3) := by decide +kernel
theorem dX7_reckon_41 : decode cX7_reckon 41 = .ok (.sipush 500, 3) := by decide +kernel
theorem dX7_reckon_44 : decode cX7_reckon 44 = .ok (.istore_n 3, 1) := by decide +kernel
theorem dX7_reckon_45 : decode cX7_reckon 45 = .ok (.iload_n 3, 1) := by decide +kernel
theorem dX7_reckon_46 : decode cX7_reckon 46 = .ok (.ifCond .lt 147, 3) := by decide +kernel
theorem dX7_reckon_49 : decode cX7_reckon 49 = .ok (.iload_n 2, 1) := by decide +kernel
theorem dX7_reckon_50 : decode cX7_reckon 50 = .ok (.iconst 3, 1) := by decide +kernel
theorem dX7_reckon_51 : decode cX7_reckon 51 = .ok (.if_icmp .ge 19, 3) := by decide +kernel
theorem dX7_reckon_54 : decode cX7_reckon 54 = .ok (.aload_n 0, 1) := by decide +kernel
theorem dX7_reckon_55 : decode cX7_reckon 55 = .ok (.getfield 102, 3) := by decide +kernel
theorem dX7_reckon_58 : decode cX7_reckon 58 = .ok (.iload_n 1, 1) := by decide +kernel
theorem dX7_reckon_59 : decode cX7_reckon 59 = .ok (.iload_n 2, 1) := by decide +kernel
theorem dX7_reckon_60 : decode cX7_reckon 60 = .ok (.iconst 1, 1) := by decide +kernel
theorem dX7_reckon_61 : decode cX7_reckon 61 = .ok (.iadd, 1) := by decide +kernel
theorem dX7_reckon_62 : decode cX7_reckon 62 = .ok (.iload_n 3, 1) := by decide +kernel
theorem dX7_reckon_63 : decode cX7_reckon 63 = .ok (.invokestatic 228, 3) := by decide +kernel
theorem dX7_reckon_66 : decode cX7_reckon 66 = .ok (.iaload, 1) := by decide +kernel
theorem dX7_reckon_67 : decode cX7_reckon 67 = .ok (.goto 31, 3) := by decide +kernel
theorem dX7_reckon_70 : decode cX7_reckon 70 = .ok (.iload_n 3, 1) := by decide +kernel
theorem dX7_reckon_71 : decode cX7_reckon 71 = .ok (.aload_n 0, 1) := by decide +kernel
theorem dX7_reckon_72 : decode cX7_reckon 72 = .ok (.getfield 87, 3) := by decide +kernel
theorem dX7_reckon_75 : decode cX7_reckon 75 = .ok (.iload_n 1, 1) := by decide +kernel
theorem dX7_reckon_76 : decode cX7_reckon 76 = .ok (.iaload, 1) := by decide +kernel
theorem dX7_reckon_77 : decode cX7_reckon 77 = .ok (.if_icmp .lt 19, 3) := by decide +kernel
theorem dX7_reckon_80 : decode cX7_reckon 80 = .ok (.aload_n 0, 1) := by decide +kernel
theorem dX7_reckon_81 : decode cX7_reckon 81 = .ok (.getfield 102, 3) := by decide +kernel
theorem dX7_reckon_84 : decode cX7_reckon 84 = .ok (.iload_n 1, 1) := by decide +kernel
theorem dX7_reckon_85 : decode cX7_reckon 85 = .ok (.iconst 1, 1) := by decide +kernel
theorem dX7_reckon_86 : decode cX7_reckon 86 = .ok (.iadd, 1) := by decide +kernel
theorem dX7_reckon_87 : decode cX7_reckon 87 = .ok (.iconst 0, 1) := by decide +kernel
theorem dX7_reckon_88 : decode cX7_reckon 88 = .ok (.iload_n 3, 1) := by decide +kernel
theorem dX7_reckon_89 : decode cX7_reckon 89 = .ok (.invokestatic 228, 3) := by decide +kernel
theorem dX7_reckon_92 : decode cX7_reckon 92 = .ok (.iaload, 1) := by decide +kernel
theorem dX7_reckon_93 : decode cX7_reckon 93 = .ok (.goto 5, 3) := by decide +kernel
theorem dX7_reckon_96 : decode cX7_reckon 96 = .ok (.ldc 231, 2) := by decide +kernel
theorem dX7_reckon_98 : decode cX7_reckon 98 = .ok (.istore 4, 2) := by decide +kernel
theorem dX7_reckon_100 : decode cX7_reckon 100 = .ok (.iload_n 2, 1) := by decide +kernel
theorem dX7_reckon_101 : decode cX7_reckon 101 = .ok (.aload_n 0, 1) := by decide +kernel
theorem dX7_reckon_102 : decode cX7_reckon 102 = .ok (.getfield 146, 3) := by decide +kernel
theorem dX7_reckon_105 : decode cX7_reckon 105 = .ok (.if_icmp .ge 69, 3) := by decide +kernel
theorem dX7_reckon_108 : decode cX7_reckon 108 = .ok (.iload_n 1, 1) := by decide +kernel
theorem dX7_reckon_109 : decode cX7_reckon 109 = .ok (.aload_n 0, 1) := by decide +kernel
theorem dX7_reckon_110 : decode cX7_reckon 110 = .ok (.getfield 93, 3) := by decide +kernel
theorem dX7_reckon_113 : decode cX7_reckon 113 = .ok (.iload_n 2, 1) := by decide +kernel
theorem dX7_reckon_114 : decode cX7_reckon 114 = .ok (.iaload, 1) := by decide +kernel
theorem dX7_reckon_115 : decode cX7_reckon 115 = .ok (.if_icmp .lt 59, 3) := by decide +kernel
theorem dX7_reckon_118 : decode cX7_reckon 118 = .ok (.iload_n 3, 1) := by decide +kernel
theorem dX7_reckon_119 : decode cX7_reckon 119 = .ok (.sipush 500, 3) := by decide +kernel
theorem dX7_reckon_122 : decode cX7_reckon 122 = .ok (.if_icmp .ge 52, 3) := by decide +kernel
theorem dX7_reckon_125 : decode cX7_reckon 125 = .ok (.aload_n 0, 1) := by decide +kernel
theorem dX7_reckon_126 : decode cX7_reckon 126 = .ok (.getfield 102, 3) := by decide +kernel
theorem dX7_reckon_129 : decode cX7_reckon 129 = .ok (.iload_n 1, 1) := by decide +kernel
theorem dX7_reckon_130 : decode cX7_reckon 130 = .ok (.iload_n 2, 1) := by decide +kernel
theorem dX7_reckon_131 : decode cX7_reckon 131 = .ok (.sipush 500, 3) := by decide +kernel
theorem dX7_reckon_134 : decode cX7_reckon 134 = .ok (.iload_n 3, 1) := by decide +kernel
theorem dX7_reckon_135 : decode cX7_reckon 135 = .ok (.aload_n 0, 1) := by decide +kernel
theorem dX7_reckon_136 : decode cX7_reckon 136 = .ok (.getfield 90, 3) := by decide +kernel
theorem dX7_reckon_139 : decode cX7_reckon 139 = .ok (.iload_n 2, 1) := by decide +kernel
theorem dX7_reckon_140 : decode cX7_reckon 140 = .ok (.iaload, 1) := by decide +kernel
theorem dX7_reckon_141 : decode cX7_reckon 141 = .ok (.iadd, 1) := by decide +kernel
theorem dX7_reckon_142 : decode cX7_reckon 142 = .ok (.invokestatic 174, 3) := by decide +kernel
theorem dX7_reckon_145 : decode cX7_reckon 145 = .ok (.invokestatic 228, 3) := by decide +kernel
theorem dX7_reckon_148 : decode cX7_reckon 148 = .ok (.iaload, 1) := by decide +kernel
theorem dX7_reckon_149 : decode cX7_reckon 149 = .ok (.istore 5, 2) := by decide +kernel
theorem dX7_reckon_151 : decode cX7_reckon 151 = .ok (.iload 5, 2) := by decide +kernel
theorem dX7_reckon_153 : decode cX7_reckon 153 = .ok (.ldc 231, 2) := by decide +kernel
theorem dX7_reckon_155 : decode cX7_reckon 155 = .ok (.if_icmp .ge 19, 3) := by decide +kernel
theorem dX7_reckon_158 : decode cX7_reckon 158 = .ok (.iload 4, 2) := by decide +kernel
theorem dX7_reckon_160 : decode cX7_reckon 160 = .ok (.iload 5, 2) := by decide +kernel
theorem dX7_reckon_162 : decode cX7_reckon 162 = .ok (.aload_n 0, 1) := by decide +kernel
theorem dX7_reckon_163 : decode cX7_reckon 163 = .ok (.iload_n 2, 1) := by decide +kernel
theorem dX7_reckon_164 : decode cX7_reckon 164 = .ok (.iload_n 1, 1) := by decide +kernel
theorem dX7_reckon_165 : decode cX7_reckon 165 = .ok (.invokevirtual 232, 3) := by decide +kernel
theorem dX7_reckon_168 : decode cX7_reckon 168 = .ok (.iadd, 1) := by decide +kernel
theorem dX7_reckon_169 : decode cX7_reckon 169 = .ok (.invokestatic 174, 3) := by decide +kernel
theorem dX7_reckon_172 : decode cX7_reckon 172 = .ok (.istore 4, 2) := by decide +kernel
theorem dX7_reckon_174 : decode cX7_reckon 174 = .ok (.aload_n 0, 1) := by decide +kernel
theorem dX7_reckon_175 : decode cX7_reckon 175 = .ok (.getfield 102, 3) := by decide +kernel
theorem dX7_reckon_178 : decode cX7_reckon 178 = .ok (.iload_n 1, 1) := by decide +kernel
theorem dX7_reckon_179 : decode cX7_reckon 179 = .ok (.iload_n 2, 1) := by decide +kernel
theorem dX7_reckon_180 : decode cX7_reckon 180 = .ok (.iload_n 3, 1) := by decide +kernel
theorem dX7_reckon_181 : decode cX7_reckon 181 = .ok (.invokestatic 228, 3) := by decide +kernel
theorem dX7_reckon_184 : decode cX7_reckon 184 = .ok (.iload 4, 2) := by decide +kernel
theorem dX7_reckon_186 : decode cX7_reckon 186 = .ok (.iastore, 1) := by decide +kernel
theorem dX7_reckon_187 : decode cX7_reckon 187 = .ok (.iinc 3 (-1), 3) := by decide +kernel
theorem dX7_reckon_190 : decode cX7_reckon 190 = .ok (.goto (-145), 3) := by decide +kernel
theorem dX7_reckon_193 : decode cX7_reckon 193 = .ok (.iinc 2 (-1), 3) := by decide +kernel
theorem dX7_reckon_196 : decode cX7_reckon 196 = .ok (.goto (-159), 3) := by decide +kernel
theorem dX7_reckon_199 : decode cX7_reckon 199 = .ok (.iinc 1 (-1), 3) := by decide +kernel
theorem dX7_reckon_202 : decode cX7_reckon 202 = .ok (.goto (-171), 3) := by decide +kernel
theorem dX7_reckon_205 : decode cX7_reckon 205 = .ok (.return_, 1) := by decide +kernel
set_option maxRecDepth 20000 in
theorem ggX7_cheapest_X7_reckon : GoodIn wsX7_cheapest wsX7_reckon := goodIn_r _ [9, 1, 10, 3, 11, 12, 13, 14, 15, 16, 17, 18, 19, 8, 20, 21, 22, 23, 24, 25, 26, 31, 32, 33, 34, 35, 36, 37, 38, 39, 40, 41, 42, 43, 44, 45, 46, 47, 48, 49, 50, 51, 52, 53, 54, 55, 56, 57, 58, 59, 60, 61, 62, 63, 64, 65, 66, 67, 68, 69, 70, 71, 72] (by decide +kernel) (by decide +kernel)
set_option maxRecDepth 20000 in
theorem gX7_cheapest_X7_reckon : GoodIn wsX7_cheapest (wsV RX7 235 RX7 yX7_reckon wsX7_reckon) := goodIn_app (goodIn_of _ (by decide +kernel)) ggX7_cheapest_X7_reckon
set_option maxRecDepth 20000 in
theorem ggX7_cheapest_X7_at : GoodIn wsX7_cheapest wsX7_at := goodIn_r _ [20] (by decide +kernel) (by decide +kernel)
set_option maxRecDepth 20000 in
theorem gX7_cheapest_X7_at : GoodIn wsX7_cheapest (va_wsS RX7 228 yX7_at wsX7_at) := goodIn_app (goodIn_of _ (by decide +kernel)) ggX7_cheapest_X7_at
set_option maxRecDepth 20000 in
theorem ggX7_cheapest_X7_refuse : GoodIn wsX7_cheapest wsX7_refuse := goodIn_r _ [30, 4, 31, 32, 33, 34, 35, 36, 37, 38, 39, 40, 41, 42, 43, 44, 45, 46, 47, 48, 49, 50, 51, 52, 53, 54, 55, 56, 57, 58, 59, 60, 61, 62, 63, 64, 65, 66, 67, 68, 69, 70, 71, 72] (by decide +kernel) (by decide +kernel)
set_option maxRecDepth 20000 in
theorem gX7_cheapest_X7_refuse : GoodIn wsX7_cheapest (wsV RX7 126 RX7 yX7_refuse wsX7_refuse) := goodIn_app (goodIn_of _ (by decide +kernel)) ggX7_cheapest_X7_refuse
theorem dX7_cheapest_0 : decode cX7_cheapest 0 = .ok (.aload_n 0, 1) := by decide +kernel
theorem dX7_cheapest_1 : decode cX7_cheapest 1 = .ok (.invokevirtual 235, 3) := by decide +kernel
theorem dX7_cheapest_4 : decode cX7_cheapest 4 = .ok (.aload_n 0, 1) := by decide +kernel
theorem dX7_cheapest_5 : decode cX7_cheapest 5 = .ok (.getfield 102, 3) := by decide +kernel
theorem dX7_cheapest_8 : decode cX7_cheapest 8 = .ok (.iconst 0, 1) := by decide +kernel
theorem dX7_cheapest_9 : decode cX7_cheapest 9 = .ok (.iconst 0, 1) := by decide +kernel
theorem dX7_cheapest_10 : decode cX7_cheapest 10 = .ok (.aload_n 0, 1) := by decide +kernel
theorem dX7_cheapest_11 : decode cX7_cheapest 11 = .ok (.getfield 223, 3) := by decide +kernel
theorem dX7_cheapest_14 : decode cX7_cheapest 14 = .ok (.invokestatic 228, 3) := by decide +kernel
theorem dX7_cheapest_17 : decode cX7_cheapest 17 = .ok (.iaload, 1) := by decide +kernel
theorem dX7_cheapest_18 : decode cX7_cheapest 18 = .ok (.istore_n 1, 1) := by decide +kernel
theorem dX7_cheapest_19 : decode cX7_cheapest 19 = .ok (.iload_n 1, 1) := by decide +kernel
theorem dX7_cheapest_20 : decode cX7_cheapest 20 = .ok (.ldc 231, 2) := by decide +kernel
theorem dX7_cheapest_22 : decode cX7_cheapest 22 = .ok (.if_icmp .ne 10, 3) := by decide +kernel
theorem dX7_cheapest_25 : decode cX7_cheapest 25 = .ok (.aload_n 0, 1) := by decide +kernel
theorem dX7_cheapest_26 : decode cX7_cheapest 26 = .ok (.bipush 7, 2) := by decide +kernel
theorem dX7_cheapest_28 : decode cX7_cheapest 28 = .ok (.invokevirtual 126, 3) := by decide +kernel
theorem dX7_cheapest_31 : decode cX7_cheapest 31 = .ok (.ireturn, 1) := by decide +kernel
theorem dX7_cheapest_32 : decode cX7_cheapest 32 = .ok (.aload_n 0, 1) := by decide +kernel
theorem dX7_cheapest_33 : decode cX7_cheapest 33 = .ok (.iconst 0, 1) := by decide +kernel
theorem dX7_cheapest_34 : decode cX7_cheapest 34 = .ok (.putfield 105, 3) := by decide +kernel
theorem dX7_cheapest_37 : decode cX7_cheapest 37 = .ok (.iload_n 1, 1) := by decide +kernel
theorem dX7_cheapest_38 : decode cX7_cheapest 38 = .ok (.ireturn, 1) := by decide +kernel
set_option maxRecDepth 20000 in
theorem ggX7_buys_X7_refuse : GoodIn wsX7_buys wsX7_refuse := goodIn_r _ [16, 5, 31, 32, 33, 34, 35, 36, 37, 38, 39, 40, 41, 42, 43, 44, 45, 46, 47, 48, 49, 50, 51, 52, 53, 54, 55, 56, 57, 58, 59, 60, 61, 62, 63, 64, 65, 66, 67, 68, 69, 70, 71, 72] (by decide +kernel) (by decide +kernel)
set_option maxRecDepth 20000 in
theorem gX7_buys_X7_refuse : GoodIn wsX7_buys (wsV RX7 126 RX7 yX7_refuse wsX7_refuse) := goodIn_app (goodIn_of _ (by decide +kernel)) ggX7_buys_X7_refuse
set_option maxRecDepth 20000 in
theorem ggX7_buys_X7_reckon : GoodIn wsX7_buys wsX7_reckon := goodIn_r _ [20, 2, 6, 4, 1, 21, 7, 8, 9, 10, 11, 22, 23, 15, 24, 25, 26, 27, 28, 29, 30, 31, 32, 33, 34, 35, 36, 37, 38, 39, 40, 41, 42, 43, 44, 45, 46, 47, 48, 49, 50, 51, 52, 53, 54, 55, 56, 57, 58, 59, 60, 61, 62, 63, 64, 65, 66, 67, 68, 69, 70, 71, 72] (by decide +kernel) (by decide +kernel)
set_option maxRecDepth 20000 in
theorem gX7_buys_X7_reckon : GoodIn wsX7_buys (wsV RX7 235 RX7 yX7_reckon wsX7_reckon) := goodIn_app (goodIn_of _ (by decide +kernel)) ggX7_buys_X7_reckon
set_option maxRecDepth 20000 in
theorem ggX7_buys_X7_at : GoodIn wsX7_buys wsX7_at := goodIn_r _ [24] (by decide +kernel) (by decide +kernel)
set_option maxRecDepth 20000 in
theorem gX7_buys_X7_at : GoodIn wsX7_buys (va_wsS RX7 228 yX7_at wsX7_at) := goodIn_app (goodIn_of _ (by decide +kernel)) ggX7_buys_X7_at
theorem dX7_buys_0 : decode cX7_buys 0 = .ok (.iload_n 1, 1) := by decide +kernel
theorem dX7_buys_1 : decode cX7_buys 1 = .ok (.ifCond .lt 21, 3) := by decide +kernel
theorem dX7_buys_4 : decode cX7_buys 4 = .ok (.iload_n 1, 1) := by decide +kernel
theorem dX7_buys_5 : decode cX7_buys 5 = .ok (.bipush 12, 2) := by decide +kernel
theorem dX7_buys_7 : decode cX7_buys 7 = .ok (.if_icmp .ge 15, 3) := by decide +kernel
theorem dX7_buys_10 : decode cX7_buys 10 = .ok (.iload_n 2, 1) := by decide +kernel
theorem dX7_buys_11 : decode cX7_buys 11 = .ok (.ifCond .lt 11, 3) := by decide +kernel
theorem dX7_buys_14 : decode cX7_buys 14 = .ok (.iload_n 2, 1) := by decide +kernel
theorem dX7_buys_15 : decode cX7_buys 15 = .ok (.aload_n 0, 1) := by decide +kernel
theorem dX7_buys_16 : decode cX7_buys 16 = .ok (.getfield 146, 3) := by decide +kernel
theorem dX7_buys_19 : decode cX7_buys 19 = .ok (.if_icmp .lt 9, 3) := by decide +kernel
theorem dX7_buys_22 : decode cX7_buys 22 = .ok (.aload_n 0, 1) := by decide +kernel
theorem dX7_buys_23 : decode cX7_buys 23 = .ok (.iconst 1, 1) := by decide +kernel
theorem dX7_buys_24 : decode cX7_buys 24 = .ok (.invokevirtual 126, 3) := by decide +kernel
theorem dX7_buys_27 : decode cX7_buys 27 = .ok (.ireturn, 1) := by decide +kernel
theorem dX7_buys_28 : decode cX7_buys 28 = .ok (.aload_n 0, 1) := by decide +kernel
theorem dX7_buys_29 : decode cX7_buys 29 = .ok (.invokevirtual 235, 3) := by decide +kernel
theorem dX7_buys_32 : decode cX7_buys 32 = .ok (.aload_n 0, 1) := by decide +kernel
theorem dX7_buys_33 : decode cX7_buys 33 = .ok (.getfield 102, 3) := by decide +kernel
theorem dX7_buys_36 : decode cX7_buys 36 = .ok (.iconst 0, 1) := by decide +kernel
theorem dX7_buys_37 : decode cX7_buys 37 = .ok (.iconst 0, 1) := by decide +kernel
theorem dX7_buys_38 : decode cX7_buys 38 = .ok (.aload_n 0, 1) := by decide +kernel
theorem dX7_buys_39 : decode cX7_buys 39 = .ok (.getfield 223, 3) := by decide +kernel
theorem dX7_buys_42 : decode cX7_buys 42 = .ok (.invokestatic 228, 3) := by decide +kernel
theorem dX7_buys_45 : decode cX7_buys 45 = .ok (.iaload, 1) := by decide +kernel
theorem dX7_buys_46 : decode cX7_buys 46 = .ok (.ldc 231, 2) := by decide +kernel
theorem dX7_buys_48 : decode cX7_buys 48 = .ok (.if_icmp .ne 10, 3) := by decide +kernel
theorem dX7_buys_51 : decode cX7_buys 51 = .ok (.aload_n 0, 1) := by decide +kernel
theorem dX7_buys_52 : decode cX7_buys 52 = .ok (.bipush 7, 2) := by decide +kernel
theorem dX7_buys_54 : decode cX7_buys 54 = .ok (.invokevirtual 126, 3) := by decide +kernel
theorem dX7_buys_57 : decode cX7_buys 57 = .ok (.ireturn, 1) := by decide +kernel
theorem dX7_buys_58 : decode cX7_buys 58 = .ok (.aload_n 0, 1) := by decide +kernel
theorem dX7_buys_59 : decode cX7_buys 59 = .ok (.iconst 0, 1) := by decide +kernel
theorem dX7_buys_60 : decode cX7_buys 60 = .ok (.putfield 105, 3) := by decide +kernel
theorem dX7_buys_63 : decode cX7_buys 63 = .ok (.aload_n 0, 1) := by decide +kernel
theorem dX7_buys_64 : decode cX7_buys 64 = .ok (.getfield 223, 3) := by decide +kernel
theorem dX7_buys_67 : decode cX7_buys 67 = .ok (.istore_n 3, 1) := by decide +kernel
theorem dX7_buys_68 : decode cX7_buys 68 = .ok (.iconst 0, 1) := by decide +kernel
theorem dX7_buys_69 : decode cX7_buys 69 = .ok (.istore 4, 2) := by decide +kernel
theorem dX7_buys_71 : decode cX7_buys 71 = .ok (.iload 4, 2) := by decide +kernel
theorem dX7_buys_73 : decode cX7_buys 73 = .ok (.bipush 12, 2) := by decide +kernel
theorem dX7_buys_75 : decode cX7_buys 75 = .ok (.if_icmp .ge 134, 3) := by decide +kernel
theorem dX7_buys_78 : decode cX7_buys 78 = .ok (.iconst 0, 1) := by decide +kernel
theorem dX7_buys_79 : decode cX7_buys 79 = .ok (.istore 5, 2) := by decide +kernel
theorem dX7_buys_81 : decode cX7_buys 81 = .ok (.iload 5, 2) := by decide +kernel
theorem dX7_buys_83 : decode cX7_buys 83 = .ok (.iconst 4, 1) := by decide +kernel
theorem dX7_buys_84 : decode cX7_buys 84 = .ok (.if_icmp .ge 119, 3) := by decide +kernel
theorem dX7_buys_87 : decode cX7_buys 87 = .ok (.iconst 0, 1) := by decide +kernel
theorem dX7_buys_88 : decode cX7_buys 88 = .ok (.istore 6, 2) := by decide +kernel
theorem dX7_buys_90 : decode cX7_buys 90 = .ok (.aload_n 0, 1) := by decide +kernel
theorem dX7_buys_91 : decode cX7_buys 91 = .ok (.getfield 102, 3) := by decide +kernel
theorem dX7_buys_94 : decode cX7_buys 94 = .ok (.iload 4, 2) := by decide +kernel
theorem dX7_buys_96 : decode cX7_buys 96 = .ok (.iload 5, 2) := by decide +kernel
theorem dX7_buys_98 : decode cX7_buys 98 = .ok (.iload_n 3, 1) := by decide +kernel
theorem dX7_buys_99 : decode cX7_buys 99 = .ok (.invokestatic 228, 3) := by decide +kernel
theorem dX7_buys_102 : decode cX7_buys 102 = .ok (.iaload, 1) := by decide +kernel
theorem dX7_buys_103 : decode cX7_buys 103 = .ok (.iload 5, 2) := by decide +kernel
theorem dX7_buys_105 : decode cX7_buys 105 = .ok (.iconst 3, 1) := by decide +kernel
theorem dX7_buys_106 : decode cX7_buys 106 = .ok (.if_icmp .ge 21, 3) := by decide +kernel
theorem dX7_buys_109 : decode cX7_buys 109 = .ok (.aload_n 0, 1) := by decide +kernel
theorem dX7_buys_110 : decode cX7_buys 110 = .ok (.getfield 102, 3) := by decide +kernel
theorem dX7_buys_113 : decode cX7_buys 113 = .ok (.iload 4, 2) := by decide +kernel
theorem dX7_buys_115 : decode cX7_buys 115 = .ok (.iload 5, 2) := by decide +kernel
theorem dX7_buys_117 : decode cX7_buys 117 = .ok (.iconst 1, 1) := by decide +kernel
theorem dX7_buys_118 : decode cX7_buys 118 = .ok (.iadd, 1) := by decide +kernel
theorem dX7_buys_119 : decode cX7_buys 119 = .ok (.iload_n 3, 1) := by decide +kernel
theorem dX7_buys_120 : decode cX7_buys 120 = .ok (.invokestatic 228, 3) := by decide +kernel
theorem dX7_buys_123 : decode cX7_buys 123 = .ok (.iaload, 1) := by decide +kernel
theorem dX7_buys_124 : decode cX7_buys 124 = .ok (.goto 33, 3) := by decide +kernel
theorem dX7_buys_127 : decode cX7_buys 127 = .ok (.iload_n 3, 1) := by decide +kernel
theorem dX7_buys_128 : decode cX7_buys 128 = .ok (.aload_n 0, 1) := by decide +kernel
theorem dX7_buys_129 : decode cX7_buys 129 = .ok (.getfield 87, 3) := by decide +kernel
theorem dX7_buys_132 : decode cX7_buys 132 = .ok (.iload 4, 2) := by decide +kernel
theorem dX7_buys_134 : decode cX7_buys 134 = .ok (.iaload, 1) := by decide +kernel
theorem dX7_buys_135 : decode cX7_buys 135 = .ok (.if_icmp .lt 20, 3) := by decide +kernel
theorem dX7_buys_138 : decode cX7_buys 138 = .ok (.aload_n 0, 1) := by decide +kernel
theorem dX7_buys_139 : decode cX7_buys 139 = .ok (.getfield 102, 3) := by decide +kernel
theorem dX7_buys_142 : decode cX7_buys 142 = .ok (.iload 4, 2) := by decide +kernel
theorem dX7_buys_144 : decode cX7_buys 144 = .ok (.iconst 1, 1) := by decide +kernel
theorem dX7_buys_145 : decode cX7_buys 145 = .ok (.iadd, 1) := by decide +kernel
theorem dX7_buys_146 : decode cX7_buys 146 = .ok (.iconst 0, 1) := by decide +kernel
theorem dX7_buys_147 : decode cX7_buys 147 = .ok (.iload_n 3, 1) := by decide +kernel
theorem dX7_buys_148 : decode cX7_buys 148 = .ok (.invokestatic 228, 3) := by decide +kernel
theorem dX7_buys_151 : decode cX7_buys 151 = .ok (.iaload, 1) := by decide +kernel
theorem dX7_buys_152 : decode cX7_buys 152 = .ok (.goto 5, 3) := by decide +kernel
theorem dX7_buys_155 : decode cX7_buys 155 = .ok (.ldc 231, 2) := by decide +kernel
theorem dX7_buys_157 : decode cX7_buys 157 = .ok (.if_icmp .ge 25, 3) := by decide +kernel
theorem dX7_buys_160 : decode cX7_buys 160 = .ok (.sipush 500, 3) := by decide +kernel
theorem dX7_buys_163 : decode cX7_buys 163 = .ok (.iload_n 3, 1) := by decide +kernel
theorem dX7_buys_164 : decode cX7_buys 164 = .ok (.aload_n 0, 1) := by decide +kernel
theorem dX7_buys_165 : decode cX7_buys 165 = .ok (.getfield 90, 3) := by decide +kernel
theorem dX7_buys_168 : decode cX7_buys 168 = .ok (.iload 5, 2) := by decide +kernel
theorem dX7_buys_170 : decode cX7_buys 170 = .ok (.iaload, 1) := by decide +kernel
theorem dX7_buys_171 : decode cX7_buys 171 = .ok (.iadd, 1) := by decide +kernel
theorem dX7_buys_172 : decode cX7_buys 172 = .ok (.invokestatic 174, 3) := by decide +kernel
theorem dX7_buys_175 : decode cX7_buys 175 = .ok (.istore_n 3, 1) := by decide +kernel
theorem dX7_buys_176 : decode cX7_buys 176 = .ok (.iinc 6 1, 3) := by decide +kernel
theorem dX7_buys_179 : decode cX7_buys 179 = .ok (.goto (-89), 3) := by decide +kernel
theorem dX7_buys_182 : decode cX7_buys 182 = .ok (.iload 4, 2) := by decide +kernel
theorem dX7_buys_184 : decode cX7_buys 184 = .ok (.iload_n 1, 1) := by decide +kernel
theorem dX7_buys_185 : decode cX7_buys 185 = .ok (.if_icmp .ne 12, 3) := by decide +kernel
theorem dX7_buys_188 : decode cX7_buys 188 = .ok (.iload 5, 2) := by decide +kernel
theorem dX7_buys_190 : decode cX7_buys 190 = .ok (.iload_n 2, 1) := by decide +kernel
theorem dX7_buys_191 : decode cX7_buys 191 = .ok (.if_icmp .ne 6, 3) := by decide +kernel
theorem dX7_buys_194 : decode cX7_buys 194 = .ok (.iload 6, 2) := by decide +kernel
theorem dX7_buys_196 : decode cX7_buys 196 = .ok (.ireturn, 1) := by decide +kernel
theorem dX7_buys_197 : decode cX7_buys 197 = .ok (.iinc 5 1, 3) := by decide +kernel
theorem dX7_buys_200 : decode cX7_buys 200 = .ok (.goto (-119), 3) := by decide +kernel
theorem dX7_buys_203 : decode cX7_buys 203 = .ok (.iinc 4 1, 3) := by decide +kernel
theorem dX7_buys_206 : decode cX7_buys 206 = .ok (.goto (-135), 3) := by decide +kernel
theorem dX7_buys_209 : decode cX7_buys 209 = .ok (.iconst (-1), 1) := by decide +kernel
theorem dX7_buys_210 : decode cX7_buys 210 = .ok (.ireturn, 1) := by decide +kernel
