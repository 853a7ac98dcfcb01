theorem dX10_type_65 : decode cX10_type 65 = .ok (.ireturn, 1) := by decide +kernel
theorem dX10_clear_0 : decode cX10_clear 0 = .ok (.aload_n 0, 1) := by decide +kernel
theorem dX10_clear_1 : decode cX10_clear 1 = .ok (.getfield 10, 3) := by decide +kernel
theorem dX10_clear_4 : decode cX10_clear 4 = .ok (.getfield 83, 3) := by decide +kernel
theorem dX10_clear_7 : decode cX10_clear 7 = .ok (.istore_n 1, 1) := by decide +kernel
theorem dX10_clear_8 : decode cX10_clear 8 = .ok (.aload_n 0, 1) := by decide +kernel
theorem dX10_clear_9 : decode cX10_clear 9 = .ok (.getfield 10, 3) := by decide +kernel
theorem dX10_clear_12 : decode cX10_clear 12 = .ok (.iconst 0, 1) := by decide +kernel
theorem dX10_clear_13 : decode cX10_clear 13 = .ok (.putfield 83, 3) := by decide +kernel
theorem dX10_clear_16 : decode cX10_clear 16 = .ok (.iload_n 1, 1) := by decide +kernel
theorem dX10_clear_17 : decode cX10_clear 17 = .ok (.ireturn, 1) := by decide +kernel
set_option maxRecDepth 20000 in
theorem ggX10_port_X5_read : GoodIn wsX10_port wsX5_read := goodIn_r _ [15, 16, 17, 18, 19, 20, 21, 22, 23, 24, 25, 26, 27, 28, 29, 30, 31, 32, 33, 34, 35, 36, 37, 38, 39, 40, 41, 42, 43, 44, 45, 46, 47, 48, 49, 50, 51, 52, 53, 54, 55, 56, 57, 58, 59, 60, 14, 61, 62, 63, 64, 65, 66, 67, 68, 69, 70, 71, 72, 73, 74, 75, 76, 77, 78, 79, 80, 81, 82, 83, 84, 85, 86, 87, 88, 89, 90, 91, 92, 93, 94, 153, 154, 144, 145, 146, 147, 148, 149, 155, 156, 157, 158, 159, 160, 161, 162, 163, 164] (by decide +kernel) (by decide +kernel)
set_option maxRecDepth 20000 in
theorem gX10_port_X5_read : GoodIn wsX10_port (wsV RX10 91 RX5 yX5_read wsX5_read) := goodIn_app (goodIn_of _ (by decide +kernel)) ggX10_port_X5_read
set_option maxRecDepth 20000 in
theorem ggX10_port_X4_copyFrom : GoodIn wsX10_port wsX4_copyFrom := goodIn_r _ [98, 31, 32, 33, 34, 99, 100, 101, 102, 103, 104, 105, 106, 107, 108, 155, 156, 157, 158, 159, 160, 161, 162, 163, 164] (by decide +kernel) (by decide +kernel)
set_option maxRecDepth 20000 in
theorem gX10_port_X4_copyFrom : GoodIn wsX10_port (wsV RX10 95 RX4 yX4_copyFrom wsX4_copyFrom) := goodIn_app (goodIn_of _ (by decide +kernel)) ggX10_port_X4_copyFrom
set_option maxRecDepth 20000 in
theorem ggX10_port_X1_begin : GoodIn wsX10_port wsX1_begin := goodIn_r _ [113, 114, 115, 116, 117, 118, 119, 120, 121, 122, 123, 124, 125, 126, 127, 128, 129, 165, 166, 167, 168, 169, 170, 171, 172, 173, 174, 175, 155, 156, 157, 158, 159, 160, 161, 162, 163, 164] (by decide +kernel) (by decide +kernel)
set_option maxRecDepth 20000 in
theorem gX10_port_X1_begin : GoodIn wsX10_port (wsV RX10 99 RX1 yX1_begin wsX1_begin) := goodIn_app (goodIn_of _ (by decide +kernel)) ggX10_port_X1_begin
theorem dX10_port_0 : decode cX10_port 0 = .ok (.aload_n 0, 1) := by decide +kernel
theorem dX10_port_1 : decode cX10_port 1 = .ok (.getfield 19, 3) := by decide +kernel
theorem dX10_port_4 : decode cX10_port 4 = .ok (.aload_n 0, 1) := by decide +kernel
theorem dX10_port_5 : decode cX10_port 5 = .ok (.getfield 10, 3) := by decide +kernel
theorem dX10_port_8 : decode cX10_port 8 = .ok (.aload_n 0, 1) := by decide +kernel
theorem dX10_port_9 : decode cX10_port 9 = .ok (.getfield 30, 3) := by decide +kernel
theorem dX10_port_12 : decode cX10_port 12 = .ok (.invokevirtual 91, 3) := by decide +kernel
theorem dX10_port_15 : decode cX10_port 15 = .ok (.istore_n 1, 1) := by decide +kernel
theorem dX10_port_16 : decode cX10_port 16 = .ok (.iload_n 1, 1) := by decide +kernel
theorem dX10_port_17 : decode cX10_port 17 = .ok (.ifCond .ge 5, 3) := by decide +kernel
theorem dX10_port_20 : decode cX10_port 20 = .ok (.iload_n 1, 1) := by decide +kernel
theorem dX10_port_21 : decode cX10_port 21 = .ok (.ireturn, 1) := by decide +kernel
theorem dX10_port_22 : decode cX10_port 22 = .ok (.aload_n 0, 1) := by decide +kernel
theorem dX10_port_23 : decode cX10_port 23 = .ok (.getfield 10, 3) := by decide +kernel
theorem dX10_port_26 : decode cX10_port 26 = .ok (.iconst 0, 1) := by decide +kernel
theorem dX10_port_27 : decode cX10_port 27 = .ok (.putfield 83, 3) := by decide +kernel
theorem dX10_port_30 : decode cX10_port 30 = .ok (.aload_n 0, 1) := by decide +kernel
theorem dX10_port_31 : decode cX10_port 31 = .ok (.getfield 26, 3) := by decide +kernel
theorem dX10_port_34 : decode cX10_port 34 = .ok (.aload_n 0, 1) := by decide +kernel
theorem dX10_port_35 : decode cX10_port 35 = .ok (.getfield 30, 3) := by decide +kernel
theorem dX10_port_38 : decode cX10_port 38 = .ok (.invokevirtual 95, 3) := by decide +kernel
theorem dX10_port_41 : decode cX10_port 41 = .ok (.aload_n 0, 1) := by decide +kernel
theorem dX10_port_42 : decode cX10_port 42 = .ok (.getfield 36, 3) := by decide +kernel
theorem dX10_port_45 : decode cX10_port 45 = .ok (.aload_n 0, 1) := by decide +kernel
theorem dX10_port_46 : decode cX10_port 46 = .ok (.getfield 26, 3) := by decide +kernel
theorem dX10_port_49 : decode cX10_port 49 = .ok (.invokevirtual 99, 3) := by decide +kernel
theorem dX10_port_52 : decode cX10_port 52 = .ok (.aload_n 0, 1) := by decide +kernel
theorem dX10_port_53 : decode cX10_port 53 = .ok (.getfield 51, 3) := by decide +kernel
theorem dX10_port_56 : decode cX10_port 56 = .ok (.iconst 0, 1) := by decide +kernel
theorem dX10_port_57 : decode cX10_port 57 = .ok (.putfield 102, 3) := by decide +kernel
theorem dX10_port_60 : decode cX10_port 60 = .ok (.iconst 0, 1) := by decide +kernel
theorem dX10_port_61 : decode cX10_port 61 = .ok (.istore_n 2, 1) := by decide +kernel
theorem dX10_port_62 : decode cX10_port 62 = .ok (.iload_n 2, 1) := by decide +kernel
theorem dX10_port_63 : decode cX10_port 63 = .ok (.iconst 2, 1) := by decide +kernel
theorem dX10_port_64 : decode cX10_port 64 = .ok (.if_icmp .ge 16, 3) := by decide +kernel
theorem dX10_port_67 : decode cX10_port 67 = .ok (.aload_n 0, 1) := by decide +kernel
theorem dX10_port_68 : decode cX10_port 68 = .ok (.getfield 44, 3) := by decide +kernel
theorem dX10_port_71 : decode cX10_port 71 = .ok (.iload_n 2, 1) := by decide +kernel
theorem dX10_port_72 : decode cX10_port 72 = .ok (.iconst 0, 1) := by decide +kernel
theorem dX10_port_73 : decode cX10_port 73 = .ok (.bastore, 1) := by decide +kernel
theorem dX10_port_74 : decode cX10_port 74 = .ok (.iinc 2 1, 3) := by decide +kernel
theorem dX10_port_77 : decode cX10_port 77 = .ok (.goto (-15), 3) := by decide +kernel
theorem dX10_port_80 : decode cX10_port 80 = .ok (.aload_n 0, 1) := by decide +kernel
theorem dX10_port_81 : decode cX10_port 81 = .ok (.iconst 0, 1) := by decide +kernel
theorem dX10_port_82 : decode cX10_port 82 = .ok (.putfield 105, 3) := by decide +kernel
theorem dX10_port_85 : decode cX10_port 85 = .ok (.iload_n 1, 1) := by decide +kernel
theorem dX10_port_86 : decode cX10_port 86 = .ok (.ireturn, 1) := by decide +kernel
set_option maxRecDepth 20000 in
theorem ggX10_one_X4_hasOne : GoodIn wsX10_one wsX4_hasOne := goodIn_r _ [11, 12, 38, 39, 40, 41, 42, 43, 44, 45, 46, 47] (by decide +kernel) (by decide +kernel)
set_option maxRecDepth 20000 in
theorem gX10_one_X4_hasOne : GoodIn wsX10_one (wsV RX10 109 RX4 yX4_hasOne wsX4_hasOne) := goodIn_app (goodIn_of _ (by decide +kernel)) ggX10_one_X4_hasOne
set_option maxRecDepth 20000 in
theorem ggX10_one_X2_careOf : GoodIn wsX10_one wsX2_careOf := goodIn_r _ [17, 18, 19, 20, 48, 49, 50, 51, 52, 53, 54, 55] (by decide +kernel) (by decide +kernel)
set_option maxRecDepth 20000 in
theorem gX10_one_X2_careOf : GoodIn wsX10_one (wsV RX10 128 RX2 yX2_careOf wsX2_careOf) := goodIn_app (goodIn_of _ (by decide +kernel)) ggX10_one_X2_careOf
theorem dX10_one_0 : decode cX10_one 0 = .ok (.aload_n 0, 1) := by decide +kernel
theorem dX10_one_1 : decode cX10_one 1 = .ok (.getfield 26, 3) := by decide +kernel
theorem dX10_one_4 : decode cX10_one 4 = .ok (.iload_n 1, 1) := by decide +kernel
theorem dX10_one_5 : decode cX10_one 5 = .ok (.invokevirtual 109, 3) := by decide +kernel
theorem dX10_one_8 : decode cX10_one 8 = .ok (.ifCond .ne 5, 3) := by decide +kernel
theorem dX10_one_11 : decode cX10_one 11 = .ok (.iconst (-1), 1) := by decide +kernel
theorem dX10_one_12 : decode cX10_one 12 = .ok (.ireturn, 1) := by decide +kernel
theorem dX10_one_13 : decode cX10_one 13 = .ok (.aload_n 0, 1) := by decide +kernel
theorem dX10_one_14 : decode cX10_one 14 = .ok (.getfield 36, 3) := by decide +kernel
theorem dX10_one_17 : decode cX10_one 17 = .ok (.getfield 113, 3) := by decide +kernel
theorem dX10_one_20 : decode cX10_one 20 = .ok (.astore_n 3, 1) := by decide +kernel
theorem dX10_one_21 : decode cX10_one 21 = .ok (.iload_n 2, 1) := by decide +kernel
theorem dX10_one_22 : decode cX10_one 22 = .ok (.tableswitch 60 0 3 #[30, 40, 47, 54], 30) := by decide +kernel
theorem dX10_one_52 : decode cX10_one 52 = .ok (.aload_n 0, 1) := by decide +kernel
theorem dX10_one_53 : decode cX10_one 53 = .ok (.getfield 26, 3) := by decide +kernel
theorem dX10_one_56 : decode cX10_one 56 = .ok (.getfield 117, 3) := by decide +kernel
theorem dX10_one_59 : decode cX10_one 59 = .ok (.iload_n 1, 1) := by decide +kernel
theorem dX10_one_60 : decode cX10_one 60 = .ok (.iaload, 1) := by decide +kernel
theorem dX10_one_61 : decode cX10_one 61 = .ok (.ireturn, 1) := by decide +kernel
theorem dX10_one_62 : decode cX10_one 62 = .ok (.aload_n 3, 1) := by decide +kernel
theorem dX10_one_63 : decode cX10_one 63 = .ok (.getfield 120, 3) := by decide +kernel
theorem dX10_one_66 : decode cX10_one 66 = .ok (.iload_n 1, 1) := by decide +kernel
theorem dX10_one_67 : decode cX10_one 67 = .ok (.iaload, 1) := by decide +kernel
theorem dX10_one_68 : decode cX10_one 68 = .ok (.ireturn, 1) := by decide +kernel
theorem dX10_one_69 : decode cX10_one 69 = .ok (.aload_n 3, 1) := by decide +kernel
theorem dX10_one_70 : decode cX10_one 70 = .ok (.getfield 125, 3) := by decide +kernel
theorem dX10_one_73 : decode cX10_one 73 = .ok (.iload_n 1, 1) := by decide +kernel
theorem dX10_one_74 : decode cX10_one 74 = .ok (.iaload, 1) := by decide +kernel
theorem dX10_one_75 : decode cX10_one 75 = .ok (.ireturn, 1) := by decide +kernel
theorem dX10_one_76 : decode cX10_one 76 = .ok (.aload_n 3, 1) := by decide +kernel
theorem dX10_one_77 : decode cX10_one 77 = .ok (.iload_n 1, 1) := by decide +kernel
theorem dX10_one_78 : decode cX10_one 78 = .ok (.invokevirtual 128, 3) := by decide +kernel
theorem dX10_one_81 : decode cX10_one 81 = .ok (.ireturn, 1) := by decide +kernel
theorem dX10_one_82 : decode cX10_one 82 = .ok (.iconst (-1), 1) := by decide +kernel
theorem dX10_one_83 : decode cX10_one 83 = .ok (.ireturn, 1) := by decide +kernel
set_option maxRecDepth 20000 in
theorem ggX10_deed_X4_hasDeed : GoodIn wsX10_deed wsX4_hasDeed := goodIn_r _ [13, 14, 35, 36, 37, 38, 39, 40, 41, 42, 43, 44] (by decide +kernel) (by decide +kernel)
set_option maxRecDepth 20000 in
theorem gX10_deed_X4_hasDeed : GoodIn wsX10_deed (wsV RX10 132 RX4 yX4_hasDeed wsX4_hasDeed) := goodIn_app (goodIn_of _ (by decide +kernel)) ggX10_deed_X4_hasDeed
set_option maxRecDepth 20000 in
theorem ggX10_deed_X2_isDone : GoodIn wsX10_deed wsX2_isDone := goodIn_r _ [19, 20, 48, 49, 50, 51, 52, 53, 54, 55] (by decide +kernel) (by decide +kernel)
set_option maxRecDepth 20000 in
theorem gX10_deed_X2_isDone : GoodIn wsX10_deed (wsV RX10 150 RX2 yX2_isDone wsX2_isDone) := goodIn_app (goodIn_of _ (by decide +kernel)) ggX10_deed_X2_isDone
theorem dX10_deed_0 : decode cX10_deed 0 = .ok (.aload_n 0, 1) := by decide +kernel
theorem dX10_deed_1 : decode cX10_deed 1 = .ok (.getfield 26, 3) := by decide +kernel
theorem dX10_deed_4 : decode cX10_deed 4 = .ok (.iload_n 1, 1) := by decide +kernel
theorem dX10_deed_5 : decode cX10_deed 5 = .ok (.invokevirtual 132, 3) := by decide +kernel
theorem dX10_deed_8 : decode cX10_deed 8 = .ok (.ifCond .ne 5, 3) := by decide +kernel
theorem dX10_deed_11 : decode cX10_deed 11 = .ok (.iconst (-1), 1) := by decide +kernel
theorem dX10_deed_12 : decode cX10_deed 12 = .ok (.ireturn, 1) := by decide +kernel
theorem dX10_deed_13 : decode cX10_deed 13 = .ok (.iload_n 2, 1) := by decide +kernel
theorem dX10_deed_14 : decode cX10_deed 14 = .ok (.tableswitch 108 0 5 #[38, 48, 58, 68, 78, 88], 38) := by decide +kernel
theorem dX10_deed_52 : decode cX10_deed 52 = .ok (.aload_n 0, 1) := by decide +kernel
theorem dX10_deed_53 : decode cX10_deed 53 = .ok (.getfield 26, 3) := by decide +kernel
theorem dX10_deed_56 : decode cX10_deed 56 = .ok (.getfield 135, 3) := by decide +kernel
theorem dX10_deed_59 : decode cX10_deed 59 = .ok (.iload_n 1, 1) := by decide +kernel
theorem dX10_deed_60 : decode cX10_deed 60 = .ok (.iaload, 1) := by decide +kernel
theorem dX10_deed_61 : decode cX10_deed 61 = .ok (.ireturn, 1) := by decide +kernel
theorem dX10_deed_62 : decode cX10_deed 62 = .ok (.aload_n 0, 1) := by decide +kernel
theorem dX10_deed_63 : decode cX10_deed 63 = .ok (.getfield 26, 3) := by decide +kernel
theorem dX10_deed_66 : decode cX10_deed 66 = .ok (.getfield 138, 3) := by decide +kernel
theorem dX10_deed_69 : decode cX10_deed 69 = .ok (.iload_n 1, 1) := by decide +kernel
theorem dX10_deed_70 : decode cX10_deed 70 = .ok (.iaload, 1) := by decide +kernel
theorem dX10_deed_71 : decode cX10_deed 71 = .ok (.ireturn, 1) := by decide +kernel
theorem dX10_deed_72 : decode cX10_deed 72 = .ok (.aload_n 0, 1) := by decide +kernel
theorem dX10_deed_73 : decode cX10_deed 73 = .ok (.getfield 26, 3) := by decide +kernel
theorem dX10_deed_76 : decode cX10_deed 76 = .ok (.getfield 141, 3) := by decide +kernel
theorem dX10_deed_79 : decode cX10_deed 79 = .ok (.iload_n 1, 1) := by decide +kernel
theorem dX10_deed_80 : decode cX10_deed 80 = .ok (.iaload, 1) := by decide +kernel
theorem dX10_deed_81 : decode cX10_deed 81 = .ok (.ireturn, 1) := by decide +kernel
theorem dX10_deed_82 : decode cX10_deed 82 = .ok (.aload_n 0, 1) := by decide +kernel
theorem dX10_deed_83 : decode cX10_deed 83 = .ok (.getfield 26, 3) := by decide +kernel
theorem dX10_deed_86 : decode cX10_deed 86 = .ok (.getfield 144, 3) := by decide +kernel
theorem dX10_deed_89 : decode cX10_deed 89 = .ok (.iload_n 1, 1) := by decide +kernel
theorem dX10_deed_90 : decode cX10_deed 90 = .ok (.iaload, 1) := by decide +kernel
theorem dX10_deed_91 : decode cX10_deed 91 = .ok (.ireturn, 1) := by decide +kernel
theorem dX10_deed_92 : decode cX10_deed 92 = .ok (.aload_n 0, 1) := by decide +kernel
theorem dX10_deed_93 : decode cX10_deed 93 = .ok (.getfield 26, 3) := by decide +kernel
theorem dX10_deed_96 : decode cX10_deed 96 = .ok (.getfield 147, 3) := by decide +kernel
theorem dX10_deed_99 : decode cX10_deed 99 = .ok (.iload_n 1, 1) := by decide +kernel
theorem dX10_deed_100 : decode cX10_deed 100 = .ok (.iaload, 1) := by decide +kernel
theorem dX10_deed_101 : decode cX10_deed 101 = .ok (.ireturn, 1) := by decide +kernel
theorem dX10_deed_102 : decode cX10_deed 102 = .ok (.aload_n 0, 1) := by decide +kernel
theorem dX10_deed_103 : decode cX10_deed 103 = .ok (.getfield 36, 3) := by decide +kernel
theorem dX10_deed_106 : decode cX10_deed 106 = .ok (.getfield 113, 3) := by decide +kernel
theorem dX10_deed_109 : decode cX10_deed 109 = .ok (.iload_n 1, 1) := by decide +kernel
theorem dX10_deed_110 : decode cX10_deed 110 = .ok (.invokevirtual 150, 3) := by decide +kernel
theorem dX10_deed_113 : decode cX10_deed 113 = .ok (.ifCond .eq 7, 3) := by decide +kernel
theorem dX10_deed_116 : decode cX10_deed 116 = .ok (.iconst 1, 1) := by decide +kernel
theorem dX10_deed_117 : decode cX10_deed 117 = .ok (.goto 4, 3) := by decide +kernel
theorem dX10_deed_120 : decode cX10_deed 120 = .ok (.iconst 0, 1) := by decide +kernel
theorem dX10_deed_121 : decode cX10_deed 121 = .ok (.ireturn, 1) := by decide +kernel
theorem dX10_deed_122 : decode cX10_deed 122 = .ok (.iconst (-1), 1) := by decide +kernel
theorem dX10_deed_123 : decode cX10_deed 123 = .ok (.ireturn, 1) := by decide +kernel
set_option maxRecDepth 20000 in
theorem ggX10_lends_X4_hasOne : GoodIn wsX10_lends wsX4_hasOne := goodIn_r _ [11, 12, 101, 102, 103, 104, 105, 106, 107, 108, 109, 110] (by decide +kernel) (by decide +kernel)
set_option maxRecDepth 20000 in
theorem gX10_lends_X4_hasOne : GoodIn wsX10_lends (wsV RX10 109 RX4 yX4_hasOne wsX4_hasOne) := goodIn_app (goodIn_of _ (by decide +kernel)) ggX10_lends_X4_hasOne
set_option maxRecDepth 20000 in
theorem ggX10_lends_X2_spoonPlace : GoodIn wsX10_lends wsX2_spoonPlace := goodIn_r _ [17, 18, 19, 20, 21, 22, 23, 16, 24, 93, 94, 95, 96, 97, 98, 99, 100, 101, 102, 103, 104, 105, 106, 107, 108, 109, 110] (by decide +kernel) (by decide +kernel)
set_option maxRecDepth 20000 in
theorem gX10_lends_X2_spoonPlace : GoodIn wsX10_lends (wsV RX10 156 RX2 yX2_spoonPlace wsX2_spoonPlace) := goodIn_app (goodIn_of _ (by decide +kernel)) ggX10_lends_X2_spoonPlace
set_option maxRecDepth 20000 in
theorem ggX10_lends_X10_beginStep : GoodIn wsX10_lends wsX10_beginStep := goodIn_r _ [29, 2, 30, 31, 32, 33, 34, 35, 36, 37, 38, 39, 40, 41, 42, 43, 44, 45, 16, 46, 47, 19, 48, 49, 50, 18, 51, 52, 53, 54, 55, 56, 76, 77, 78, 79, 80, 81, 82, 83, 84, 85, 86, 87, 88, 89, 90, 91, 92, 93, 94, 95, 96, 97, 98, 99, 100] (by decide +kernel) (by decide +kernel)
set_option maxRecDepth 20000 in
theorem gX10_lends_X10_beginStep : GoodIn wsX10_lends (wsV RX10 160 RX10 yX10_beginStep wsX10_beginStep) := goodIn_app (goodIn_of _ (by decide +kernel)) ggX10_lends_X10_beginStep
set_option maxRecDepth 20000 in
theorem ggX10_lends_X2_giveAway : GoodIn wsX10_lends wsX2_giveAway := goodIn_r _ [60, 19, 61, 62, 63, 64, 56, 65, 66, 67, 55, 47, 49, 68, 69, 70, 16, 71, 48, 21, 22, 23, 24, 93, 94, 95, 96, 97, 98, 99, 100] (by decide +kernel) (by decide +kernel)
set_option maxRecDepth 20000 in
theorem gX10_lends_X2_giveAway : GoodIn wsX10_lends (wsV RX10 166 RX2 yX2_giveAway wsX2_giveAway) := goodIn_app (goodIn_of _ (by decide +kernel)) ggX10_lends_X2_giveAway
set_option maxRecDepth 20000 in
theorem ggX10_lends_X2_receive : GoodIn wsX10_lends wsX2_receive := goodIn_r _ [75, 19, 47, 48, 49, 93, 94, 95, 96, 97, 98, 99, 100] (by decide +kernel) (by decide +kernel)
set_option maxRecDepth 20000 in
theorem gX10_lends_X2_receive : GoodIn wsX10_lends (wsV RX10 169 RX2 yX2_receive wsX2_receive) := goodIn_app (goodIn_of _ (by decide +kernel)) ggX10_lends_X2_receive
theorem dX10_lends_0 : decode cX10_lends 0 = .ok (.aload_n 0, 1) := by decide +kernel
theorem dX10_lends_1 : decode cX10_lends 1 = .ok (.getfield 26, 3) := by decide +kernel
theorem dX10_lends_4 : decode cX10_lends 4 = .ok (.iload_n 1, 1) := by decide +kernel
theorem dX10_lends_5 : decode cX10_lends 5 = .ok (.invokevirtual 109, 3) := by decide +kernel
theorem dX10_lends_8 : decode cX10_lends 8 = .ok (.ifCond .ne 5, 3) := by decide +kernel
theorem dX10_lends_11 : decode cX10_lends 11 = .ok (.iconst (-1), 1) := by decide +kernel
theorem dX10_lends_12 : decode cX10_lends 12 = .ok (.ireturn, 1) := by decide +kernel
theorem dX10_lends_13 : decode cX10_lends 13 = .ok (.aload_n 0, 1) := by decide +kernel
theorem dX10_lends_14 : decode cX10_lends 14 = .ok (.getfield 36, 3) := by decide +kernel
theorem dX10_lends_17 : decode cX10_lends 17 = .ok (.getfield 113, 3) := by decide +kernel
theorem dX10_lends_20 : decode cX10_lends 20 = .ok (.astore_n 2, 1) := by decide +kernel
theorem dX10_lends_21 : decode cX10_lends 21 = .ok (.aload_n 2, 1) := by decide +kernel
theorem dX10_lends_22 : decode cX10_lends 22 = .ok (.getfield 153, 3) := by decide +kernel
theorem dX10_lends_25 : decode cX10_lends 25 = .ok (.iload_n 1, 1) := by decide +kernel
theorem dX10_lends_26 : decode cX10_lends 26 = .ok (.if_icmp .eq 20, 3) := by decide +kernel
theorem dX10_lends_29 : decode cX10_lends 29 = .ok (.aload_n 2, 1) := by decide +kernel
theorem dX10_lends_30 : decode cX10_lends 30 = .ok (.getfield 120, 3) := by decide +kernel
theorem dX10_lends_33 : decode cX10_lends 33 = .ok (.iload_n 1, 1) := by decide +kernel
theorem dX10_lends_34 : decode cX10_lends 34 = .ok (.iaload, 1) := by decide +kernel
theorem dX10_lends_35 : decode cX10_lends 35 = .ok (.aload_n 2, 1) := by decide +kernel
theorem dX10_lends_36 : decode cX10_lends 36 = .ok (.aload_n 0, 1) := by decide +kernel
theorem dX10_lends_37 : decode cX10_lends 37 = .ok (.getfield 26, 3) := by decide +kernel
theorem dX10_lends_40 : decode cX10_lends 40 = .ok (.invokevirtual 156, 3) := by decide +kernel
theorem dX10_lends_43 : decode cX10_lends 43 = .ok (.if_icmp .eq 6, 3) := by decide +kernel
theorem dX10_lends_46 : decode cX10_lends 46 = .ok (.bipush (-2), 2) := by decide +kernel
theorem dX10_lends_48 : decode cX10_lends 48 = .ok (.ireturn, 1) := by decide +kernel
theorem dX10_lends_49 : decode cX10_lends 49 = .ok (.aload_n 0, 1) := by decide +kernel
theorem dX10_lends_50 : decode cX10_lends 50 = .ok (.invokevirtual 160, 3) := by decide +kernel
theorem dX10_lends_53 : decode cX10_lends 53 = .ok (.aload_n 2, 1) := by decide +kernel
theorem dX10_lends_54 : decode cX10_lends 54 = .ok (.aload_n 0, 1) := by decide +kernel
theorem dX10_lends_55 : decode cX10_lends 55 = .ok (.getfield 26, 3) := by decide +kernel
theorem dX10_lends_58 : decode cX10_lends 58 = .ok (.getfield 163, 3) := by decide +kernel
theorem dX10_lends_61 : decode cX10_lends 61 = .ok (.invokevirtual 166, 3) := by decide +kernel
theorem dX10_lends_64 : decode cX10_lends 64 = .ok (.istore_n 3, 1) := by decide +kernel
theorem dX10_lends_65 : decode cX10_lends 65 = .ok (.aload_n 2, 1) := by decide +kernel
theorem dX10_lends_66 : decode cX10_lends 66 = .ok (.iload_n 1, 1) := by decide +kernel
theorem dX10_lends_67 : decode cX10_lends 67 = .ok (.invokevirtual 169, 3) := by decide +kernel
theorem dX10_lends_70 : decode cX10_lends 70 = .ok (.iload_n 3, 1) := by decide +kernel
theorem dX10_lends_71 : decode cX10_lends 71 = .ok (.ireturn, 1) := by decide +kernel
set_option maxRecDepth 20000 in
theorem ggX10_brings_X2_isHeld : GoodIn wsX10_brings wsX2_isHeld := goodIn_r _ [10, 11, 93, 94, 95, 96, 97, 98, 99, 100] (by decide +kernel) (by decide +kernel)
set_option maxRecDepth 20000 in
theorem gX10_brings_X2_isHeld : GoodIn wsX10_brings (wsV RX10 173 RX2 yX2_isHeld wsX2_isHeld) := goodIn_app (goodIn_of _ (by decide +kernel)) ggX10_brings_X2_isHeld
set_option maxRecDepth 20000 in
theorem ggX10_brings_X2_spoonPlace : GoodIn wsX10_brings wsX2_spoonPlace := goodIn_r _ [15, 16, 11, 17, 18, 7, 8, 9, 10, 93, 94, 95, 96, 97, 98, 99, 100, 83, 84, 85, 86, 87, 88, 89, 90, 91, 92] (by decide +kernel) (by decide +kernel)
set_option maxRecDepth 20000 in
theorem gX10_brings_X2_spoonPlace : GoodIn wsX10_brings (wsV RX10 156 RX2 yX2_spoonPlace wsX2_spoonPlace) := goodIn_app (goodIn_of _ (by decide +kernel)) ggX10_brings_X2_spoonPlace
set_option maxRecDepth 20000 in
theorem ggX10_brings_X10_beginStep : GoodIn wsX10_brings wsX10_beginStep := goodIn_r _ [23, 1, 24, 25, 26, 27, 28, 29, 30, 31, 32, 33, 34, 35, 36, 37, 38, 39, 9, 40, 41, 11, 42, 43, 44, 16, 45, 46, 47, 48, 49, 50, 66, 67, 68, 69, 70, 71, 72, 73, 74, 75, 76, 77, 78, 79, 80, 81, 82, 93, 94, 95, 96, 97, 98, 99, 100] (by decide +kernel) (by decide +kernel)
set_option maxRecDepth 20000 in
theorem gX10_brings_X10_beginStep : GoodIn wsX10_brings (wsV RX10 160 RX10 yX10_beginStep wsX10_beginStep) := goodIn_app (goodIn_of _ (by decide +kernel)) ggX10_brings_X10_beginStep
set_option maxRecDepth 20000 in
theorem ggX10_brings_X2_giveAway : GoodIn wsX10_brings wsX2_giveAway := goodIn_r _ [54, 11, 55, 56, 57, 58, 50, 59, 60, 61, 49, 41, 43, 62, 63, 64, 9, 65, 42, 18, 7, 8, 10, 93, 94, 95, 96, 97, 98, 99, 100] (by decide +kernel) (by decide +kernel)
set_option maxRecDepth 20000 in
theorem gX10_brings_X2_giveAway : GoodIn wsX10_brings (wsV RX10 166 RX2 yX2_giveAway wsX2_giveAway) := goodIn_app (goodIn_of _ (by decide +kernel)) ggX10_brings_X2_giveAway
theorem dX10_brings_0 : decode cX10_brings 0 = .ok (.aload_n 0, 1) := by decide +kernel
theorem dX10_brings_1 : decode cX10_brings 1 = .ok (.getfield 36, 3) := by decide +kernel
theorem dX10_brings_4 : decode cX10_brings 4 = .ok (.getfield 113, 3) := by decide +kernel
theorem dX10_brings_7 : decode cX10_brings 7 = .ok (.astore_n 1, 1) := by decide +kernel
theorem dX10_brings_8 : decode cX10_brings 8 = .ok (.aload_n 1, 1) := by decide +kernel
theorem dX10_brings_9 : decode cX10_brings 9 = .ok (.invokevirtual 173, 3) := by decide +kernel
theorem dX10_brings_12 : decode cX10_brings 12 = .ok (.ifCond .eq 21, 3) := by decide +kernel
theorem dX10_brings_15 : decode cX10_brings 15 = .ok (.aload_n 1, 1) := by decide +kernel
theorem dX10_brings_16 : decode cX10_brings 16 = .ok (.aload_n 0, 1) := by decide +kernel
theorem dX10_brings_17 : decode cX10_brings 17 = .ok (.getfield 26, 3) := by decide +kernel
theorem dX10_brings_20 : decode cX10_brings 20 = .ok (.invokevirtual 156, 3) := by decide +kernel
theorem dX10_brings_23 : decode cX10_brings 23 = .ok (.aload_n 0, 1) := by decide +kernel
theorem dX10_brings_24 : decode cX10_brings 24 = .ok (.getfield 26, 3) := by decide +kernel
theorem dX10_brings_27 : decode cX10_brings 27 = .ok (.getfield 177, 3) := by decide +kernel
theorem dX10_brings_30 : decode cX10_brings 30 = .ok (.if_icmp .eq 6, 3) := by decide +kernel
theorem dX10_brings_33 : decode cX10_brings 33 = .ok (.bipush (-2), 2) := by decide +kernel
theorem dX10_brings_35 : decode cX10_brings 35 = .ok (.ireturn, 1) := by decide +kernel
theorem dX10_brings_36 : decode cX10_brings 36 = .ok (.aload_n 0, 1) := by decide +kernel
theorem dX10_brings_37 : decode cX10_brings 37 = .ok (.invokevirtual 160, 3) := by decide +kernel
theorem dX10_brings_40 : decode cX10_brings 40 = .ok (.aload_n 1, 1) := by decide +kernel
theorem dX10_brings_41 : decode cX10_brings 41 = .ok (.aload_n 0, 1) := by decide +kernel
theorem dX10_brings_42 : decode cX10_brings 42 = .ok (.getfield 26, 3) := by decide +kernel
theorem dX10_brings_45 : decode cX10_brings 45 = .ok (.getfield 163, 3) := by decide +kernel
theorem dX10_brings_48 : decode cX10_brings 48 = .ok (.invokevirtual 166, 3) := by decide +kernel
theorem dX10_brings_51 : decode cX10_brings 51 = .ok (.ireturn, 1) := by decide +kernel
set_option maxRecDepth 20000 in
theorem ggX10_walks_X2_spoonPlace : GoodIn wsX10_walks wsX2_spoonPlace := goodIn_r _ [13, 14, 15, 16, 17, 18, 19, 12, 20, 75, 76, 77, 78, 79, 80, 81, 82, 83, 84, 85, 86, 87, 88, 89, 90, 91, 92] (by decide +kernel) (by decide +kernel)
set_option maxRecDepth 20000 in
theorem gX10_walks_X2_spoonPlace : GoodIn wsX10_walks (wsV RX10 156 RX2 yX2_spoonPlace wsX2_spoonPlace) := goodIn_app (goodIn_of _ (by decide +kernel)) ggX10_walks_X2_spoonPlace
set_option maxRecDepth 20000 in
theorem ggX10_walks_X2_isHeld : GoodIn wsX10_walks wsX2_isHeld := goodIn_r _ [20, 15, 75, 76, 77, 78, 79, 80, 81, 82] (by decide +kernel) (by decide +kernel)
set_option maxRecDepth 20000 in
theorem gX10_walks_X2_isHeld : GoodIn wsX10_walks (wsV RX10 173 RX2 yX2_isHeld wsX2_isHeld) := goodIn_app (goodIn_of _ (by decide +kernel)) ggX10_walks_X2_isHeld
set_option maxRecDepth 20000 in
theorem ggX10_walks_X10_beginStep : GoodIn wsX10_walks wsX10_beginStep := goodIn_r _ [26, 1, 27, 28, 29, 30, 31, 32, 33, 34, 35, 36, 37, 38, 39, 40, 41, 42, 12, 43, 44, 15, 45, 46, 47, 14, 48, 49, 50, 51, 52, 53, 58, 59, 60, 61, 62, 63, 64, 65, 66, 67, 68, 69, 70, 71, 72, 73, 74, 75, 76, 77, 78, 79, 80, 81, 82] (by decide +kernel) (by decide +kernel)
set_option maxRecDepth 20000 in
theorem gX10_walks_X10_beginStep : GoodIn wsX10_walks (wsV RX10 160 RX10 yX10_beginStep wsX10_beginStep) := goodIn_app (goodIn_of _ (by decide +kernel)) ggX10_walks_X10_beginStep
set_option maxRecDepth 20000 in
theorem ggX10_walks_X2_walkTo : GoodIn wsX10_walks wsX2_walkTo := goodIn_r _ [57, 14, 15, 44, 17, 18, 19, 12, 20, 75, 76, 77, 78, 79, 80, 81, 82] (by decide +kernel) (by decide +kernel)
set_option maxRecDepth 20000 in
theorem gX10_walks_X2_walkTo : GoodIn wsX10_walks (wsV RX10 188 RX2 yX2_walkTo wsX2_walkTo) := goodIn_app (goodIn_of _ (by decide +kernel)) ggX10_walks_X2_walkTo
theorem dX10_walks_0 : decode cX10_walks 0 = .ok (.iload_n 1, 1) := by decide +kernel
theorem dX10_walks_1 : decode cX10_walks 1 = .ok (.ifCond .lt 9, 3) := by decide +kernel
theorem dX10_walks_4 : decode cX10_walks 4 = .ok (.iload_n 1, 1) := by decide +kernel
theorem dX10_walks_5 : decode cX10_walks 5 = .ok (.bipush 30, 2) := by decide +kernel
theorem dX10_walks_7 : decode cX10_walks 7 = .ok (.if_icmp .le 5, 3) := by decide +kernel
theorem dX10_walks_10 : decode cX10_walks 10 = .ok (.iconst (-1), 1) := by decide +kernel
theorem dX10_walks_11 : decode cX10_walks 11 = .ok (.ireturn, 1) := by decide +kernel
theorem dX10_walks_12 : decode cX10_walks 12 = .ok (.aload_n 0, 1) := by decide +kernel
theorem dX10_walks_13 : decode cX10_walks 13 = .ok (.getfield 36, 3) := by decide +kernel
theorem dX10_walks_16 : decode cX10_walks 16 = .ok (.getfield 113, 3) := by decide +kernel
theorem dX10_walks_19 : decode cX10_walks 19 = .ok (.astore_n 2, 1) := by decide +kernel
theorem dX10_walks_20 : decode cX10_walks 20 = .ok (.iload_n 1, 1) := by decide +kernel
theorem dX10_walks_21 : decode cX10_walks 21 = .ok (.aload_n 2, 1) := by decide +kernel
theorem dX10_walks_22 : decode cX10_walks 22 = .ok (.aload_n 0, 1) := by decide +kernel
theorem dX10_walks_23 : decode cX10_walks 23 = .ok (.getfield 26, 3) := by decide +kernel
theorem dX10_walks_26 : decode cX10_walks 26 = .ok (.invokevirtual 156, 3) := by decide +kernel
theorem dX10_walks_29 : decode cX10_walks 29 = .ok (.isub, 1) := by decide +kernel
theorem dX10_walks_30 : decode cX10_walks 30 = .ok (.invokestatic 180, 3) := by decide +kernel
theorem dX10_walks_33 : decode cX10_walks 33 = .ok (.istore_n 3, 1) := by decide +kernel
theorem dX10_walks_34 : decode cX10_walks 34 = .ok (.aload_n 2, 1) := by decide +kernel
theorem dX10_walks_35 : decode cX10_walks 35 = .ok (.invokevirtual 173, 3) := by decide +kernel
theorem dX10_walks_38 : decode cX10_walks 38 = .ok (.ifCond .eq 19, 3) := by decide +kernel
theorem dX10_walks_41 : decode cX10_walks 41 = .ok (.iload_n 3, 1) := by decide +kernel
theorem dX10_walks_42 : decode cX10_walks 42 = .ok (.ifCond .eq 15, 3) := by decide +kernel
theorem dX10_walks_45 : decode cX10_walks 45 = .ok (.aload_n 2, 1) := by decide +kernel
theorem dX10_walks_46 : decode cX10_walks 46 = .ok (.getfield 185, 3) := by decide +kernel
theorem dX10_walks_49 : decode cX10_walks 49 = .ok (.iload_n 3, 1) := by decide +kernel
theorem dX10_walks_50 : decode cX10_walks 50 = .ok (.iadd, 1) := by decide +kernel
theorem dX10_walks_51 : decode cX10_walks 51 = .ok (.sipush 200, 3) := by decide +kernel
theorem dX10_walks_54 : decode cX10_walks 54 = .ok (.if_icmp .le 6, 3) := by decide +kernel
theorem dX10_walks_57 : decode cX10_walks 57 = .ok (.bipush (-2), 2) := by decide +kernel
theorem dX10_walks_59 : decode cX10_walks 59 = .ok (.ireturn, 1) := by decide +kernel
theorem dX10_walks_60 : decode cX10_walks 60 = .ok (.aload_n 0, 1) := by decide +kernel
theorem dX10_walks_61 : decode cX10_walks 61 = .ok (.invokevirtual 160, 3) := by decide +kernel
theorem dX10_walks_64 : decode cX10_walks 64 = .ok (.aload_n 2, 1) := by decide +kernel
theorem dX10_walks_65 : decode cX10_walks 65 = .ok (.iload_n 1, 1) := by decide +kernel
theorem dX10_walks_66 : decode cX10_walks 66 = .ok (.iload_n 3, 1) := by decide +kernel
theorem dX10_walks_67 : decode cX10_walks 67 = .ok (.invokevirtual 188, 3) := by decide +kernel
theorem dX10_walks_70 : decode cX10_walks 70 = .ok (.aload_n 2, 1) := by decide +kernel
theorem dX10_walks_71 : decode cX10_walks 71 = .ok (.getfield 185, 3) := by decide +kernel
theorem dX10_walks_74 : decode cX10_walks 74 = .ok (.ireturn, 1) := by decide +kernel
set_option maxRecDepth 20000 in
theorem ggX10_keeps_X2_isHeld : GoodIn wsX10_keeps wsX2_isHeld := goodIn_r _ [8, 9, 60, 61, 62, 63, 64, 65, 66, 67] (by decide +kernel) (by decide +kernel)
set_option maxRecDepth 20000 in
theorem gX10_keeps_X2_isHeld : GoodIn wsX10_keeps (wsV RX10 173 RX2 yX2_isHeld wsX2_isHeld) := goodIn_app (goodIn_of _ (by decide +kernel)) ggX10_keeps_X2_isHeld
set_option maxRecDepth 20000 in
theorem ggX10_keeps_X10_beginStep : GoodIn wsX10_keeps wsX10_beginStep := goodIn_r _ [14, 1, 15, 16, 17, 18, 19, 20, 21, 22, 23, 24, 25, 26, 27, 28, 29, 30, 7, 31, 32, 9, 33, 34, 35, 36, 37, 38, 39, 40, 41, 42, 43, 44, 45, 46, 47, 48, 49, 50, 51, 52, 53, 54, 55, 56, 57, 58, 59, 60, 61, 62, 63, 64, 65, 66, 67] (by decide +kernel) (by decide +kernel)
set_option maxRecDepth 20000 in
theorem gX10_keeps_X10_beginStep : GoodIn wsX10_keeps (wsV RX10 160 RX10 yX10_beginStep wsX10_beginStep) := goodIn_app (goodIn_of _ (by decide +kernel)) ggX10_keeps_X10_beginStep
theorem dX10_keeps_0 : decode cX10_keeps 0 = .ok (.iload_n 1, 1) := by decide +kernel
theorem dX10_keeps_1 : decode cX10_keeps 1 = .ok (.iconst 1, 1) := by decide +kernel
theorem dX10_keeps_2 : decode cX10_keeps 2 = .ok (.if_icmp .lt 9, 3) := by decide +kernel
theorem dX10_keeps_5 : decode cX10_keeps 5 = .ok (.iload_n 1, 1) := by decide +kernel
theorem dX10_keeps_6 : decode cX10_keeps 6 = .ok (.bipush 20, 2) := by decide +kernel
theorem dX10_keeps_8 : decode cX10_keeps 8 = .ok (.if_icmp .le 5, 3) := by decide +kernel
theorem dX10_keeps_11 : decode cX10_keeps 11 = .ok (.iconst (-1), 1) := by decide +kernel
theorem dX10_keeps_12 : decode cX10_keeps 12 = .ok (.ireturn, 1) := by decide +kernel
theorem dX10_keeps_13 : decode cX10_keeps 13 = .ok (.aload_n 0, 1) := by decide +kernel
theorem dX10_keeps_14 : decode cX10_keeps 14 = .ok (.getfield 36, 3) := by decide +kernel
theorem dX10_keeps_17 : decode cX10_keeps 17 = .ok (.getfield 113, 3) := by decide +kernel
theorem dX10_keeps_20 : decode cX10_keeps 20 = .ok (.astore_n 2, 1) := by decide +kernel
theorem dX10_keeps_21 : decode cX10_keeps 21 = .ok (.aload_n 2, 1) := by decide +kernel
theorem dX10_keeps_22 : decode cX10_keeps 22 = .ok (.invokevirtual 173, 3) := by decide +kernel
theorem dX10_keeps_25 : decode cX10_keeps 25 = .ok (.ifCond .eq 15, 3) := by decide +kernel
theorem dX10_keeps_28 : decode cX10_keeps 28 = .ok (.aload_n 2, 1) := by decide +kernel
theorem dX10_keeps_29 : decode cX10_keeps 29 = .ok (.getfield 185, 3) := by decide +kernel
theorem dX10_keeps_32 : decode cX10_keeps 32 = .ok (.iload_n 1, 1) := by decide +kernel
theorem dX10_keeps_33 : decode cX10_keeps 33 = .ok (.iadd, 1) := by decide +kernel
theorem dX10_keeps_34 : decode cX10_keeps 34 = .ok (.sipush 200, 3) := by decide +kernel
theorem dX10_keeps_37 : decode cX10_keeps 37 = .ok (.if_icmp .le 6, 3) := by decide +kernel
theorem dX10_keeps_40 : decode cX10_keeps 40 = .ok (.bipush (-2), 2) := by decide +kernel
theorem dX10_keeps_42 : decode cX10_keeps 42 = .ok (.ireturn, 1) := by decide +kernel
theorem dX10_keeps_43 : decode cX10_keeps 43 = .ok (.aload_n 0, 1) := by decide +kernel
theorem dX10_keeps_44 : decode cX10_keeps 44 = .ok (.invokevirtual 160, 3) := by decide +kernel
theorem dX10_keeps_47 : decode cX10_keeps 47 = .ok (.aload_n 2, 1) := by decide +kernel
theorem dX10_keeps_48 : decode cX10_keeps 48 = .ok (.dup, 1) := by decide +kernel
theorem dX10_keeps_49 : decode cX10_keeps 49 = .ok (.getfield 185, 3) := by decide +kernel
theorem dX10_keeps_52 : decode cX10_keeps 52 = .ok (.iload_n 1, 1) := by decide +kernel
theorem dX10_keeps_53 : decode cX10_keeps 53 = .ok (.iadd, 1) := by decide +kernel
theorem dX10_keeps_54 : decode cX10_keeps 54 = .ok (.putfield 185, 3) := by decide +kernel
theorem dX10_keeps_57 : decode cX10_keeps 57 = .ok (.aload_n 2, 1) := by decide +kernel
theorem dX10_keeps_58 : decode cX10_keeps 58 = .ok (.getfield 185, 3) := by decide +kernel
theorem dX10_keeps_61 : decode cX10_keeps 61 = .ok (.ireturn, 1) := by decide +kernel
set_option maxRecDepth 20000 in
theorem ggX10_does_X4_hasDeed : GoodIn wsX10_does wsX4_hasDeed := goodIn_r _ [10, 11, 94, 95, 96, 97, 98, 99, 100, 101, 102, 103] (by decide +kernel) (by decide +kernel)
set_option maxRecDepth 20000 in
theorem gX10_does_X4_hasDeed : GoodIn wsX10_does (wsV RX10 132 RX4 yX4_hasDeed wsX4_hasDeed) := goodIn_app (goodIn_of _ (by decide +kernel)) ggX10_does_X4_hasDeed
set_option maxRecDepth 20000 in
theorem ggX10_does_X2_canDo : GoodIn wsX10_does wsX2_canDo := goodIn_r _ [16, 17, 18, 19, 20, 21, 22, 23, 24, 25, 26, 27, 15, 28, 29, 30, 31, 32, 33, 86, 87, 88, 89, 90, 91, 92, 93, 94, 95, 96, 97, 98, 99, 100, 101, 102, 103] (by decide +kernel) (by decide +kernel)
set_option maxRecDepth 20000 in
theorem gX10_does_X2_canDo : GoodIn wsX10_does (wsV RX10 192 RX2 yX2_canDo wsX2_canDo) := goodIn_app (goodIn_of _ (by decide +kernel)) ggX10_does_X2_canDo
set_option maxRecDepth 20000 in
theorem ggX10_does_X10_beginStep : GoodIn wsX10_does wsX10_beginStep := goodIn_r _ [38, 2, 39, 40, 41, 42, 43, 44, 45, 46, 47, 48, 49, 50, 51, 52, 53, 54, 15, 55, 22, 19, 56, 17, 33, 20, 57, 58, 59, 60, 61, 62, 69, 70, 71, 72, 73, 74, 75, 76, 77, 78, 79, 80, 81, 82, 83, 84, 85, 86, 87, 88, 89, 90, 91, 92, 93] (by decide +kernel) (by decide +kernel)
set_option maxRecDepth 20000 in
theorem gX10_does_X10_beginStep : GoodIn wsX10_does (wsV RX10 160 RX10 yX10_beginStep wsX10_beginStep) := goodIn_app (goodIn_of _ (by decide +kernel)) ggX10_does_X10_beginStep
set_option maxRecDepth 20000 in
theorem ggX10_does_X2_worthDone : GoodIn wsX10_does wsX2_worthDone := goodIn_r _ [66, 67, 68, 29, 30, 31, 15, 32, 33, 94, 95, 96, 97, 98, 99, 100, 101, 102, 103, 86, 87, 88, 89, 90, 91, 92, 93] (by decide +kernel) (by decide +kernel)
set_option maxRecDepth 20000 in
theorem gX10_does_X2_worthDone : GoodIn wsX10_does (wsV RX10 202 RX2 yX2_worthDone wsX2_worthDone) := goodIn_app (goodIn_of _ (by decide +kernel)) ggX10_does_X2_worthDone
theorem dX10_does_0 : decode cX10_does 0 = .ok (.aload_n 0, 1) := by decide +kernel
theorem dX10_does_1 : decode cX10_does 1 = .ok (.getfield 26, 3) := by decide +kernel
theorem dX10_does_4 : decode cX10_does 4 = .ok (.iload_n 1, 1) := by decide +kernel
theorem dX10_does_5 : decode cX10_does 5 = .ok (.invokevirtual 132, 3) := by decide +kernel
theorem dX10_does_8 : decode cX10_does 8 = .ok (.ifCond .ne 5, 3) := by decide +kernel
theorem dX10_does_11 : decode cX10_does 11 = .ok (.iconst (-1), 1) := by decide +kernel
theorem dX10_does_12 : decode cX10_does 12 = .ok (.ireturn, 1) := by decide +kernel
theorem dX10_does_13 : decode cX10_does 13 = .ok (.aload_n 0, 1) := by decide +kernel
theorem dX10_does_14 : decode cX10_does 14 = .ok (.getfield 36, 3) := by decide +kernel
theorem dX10_does_17 : decode cX10_does 17 = .ok (.getfield 113, 3) := by decide +kernel
theorem dX10_does_20 : decode cX10_does 20 = .ok (.astore_n 2, 1) := by decide +kernel
theorem dX10_does_21 : decode cX10_does 21 = .ok (.aload_n 2, 1) := by decide +kernel
theorem dX10_does_22 : decode cX10_does 22 = .ok (.aload_n 0, 1) := by decide +kernel
theorem dX10_does_23 : decode cX10_does 23 = .ok (.getfield 26, 3) := by decide +kernel
theorem dX10_does_26 : decode cX10_does 26 = .ok (.iload_n 1, 1) := by decide +kernel
theorem dX10_does_27 : decode cX10_does 27 = .ok (.invokevirtual 192, 3) := by decide +kernel
theorem dX10_does_30 : decode cX10_does 30 = .ok (.ifCond .ne 6, 3) := by decide +kernel
theorem dX10_does_33 : decode cX10_does 33 = .ok (.bipush (-2), 2) := by decide +kernel
theorem dX10_does_35 : decode cX10_does 35 = .ok (.ireturn, 1) := by decide +kernel
theorem dX10_does_36 : decode cX10_does 36 = .ok (.aload_n 0, 1) := by decide +kernel
theorem dX10_does_37 : decode cX10_does 37 = .ok (.invokevirtual 160, 3) := by decide +kernel
theorem dX10_does_40 : decode cX10_does 40 = .ok (.aload_n 2, 1) := by decide +kernel
theorem dX10_does_41 : decode cX10_does 41 = .ok (.dup, 1) := by decide +kernel
theorem dX10_does_42 : decode cX10_does 42 = .ok (.getfield 196, 3) := by decide +kernel
theorem dX10_does_45 : decode cX10_does 45 = .ok (.iconst 1, 1) := by decide +kernel
theorem dX10_does_46 : decode cX10_does 46 = .ok (.iload_n 1, 1) := by decide +kernel
theorem dX10_does_47 : decode cX10_does 47 = .ok (.ishl, 1) := by decide +kernel
theorem dX10_does_48 : decode cX10_does 48 = .ok (.ior, 1) := by decide +kernel
theorem dX10_does_49 : decode cX10_does 49 = .ok (.putfield 196, 3) := by decide +kernel
theorem dX10_does_52 : decode cX10_does 52 = .ok (.aload_n 2, 1) := by decide +kernel
theorem dX10_does_53 : decode cX10_does 53 = .ok (.iconst 0, 1) := by decide +kernel
theorem dX10_does_54 : decode cX10_does 54 = .ok (.putfield 199, 3) := by decide +kernel
theorem dX10_does_57 : decode cX10_does 57 = .ok (.aload_n 2, 1) := by decide +kernel
theorem dX10_does_58 : decode cX10_does 58 = .ok (.aload_n 0, 1) := by decide +kernel
theorem dX10_does_59 : decode cX10_does 59 = .ok (.getfield 26, 3) := by decide +kernel
theorem dX10_does_62 : decode cX10_does 62 = .ok (.invokevirtual 202, 3) := by decide +kernel
theorem dX10_does_65 : decode cX10_does 65 = .ok (.ireturn, 1) := by decide +kernel
set_option maxRecDepth 20000 in
theorem ggX10_undo_X1_undoStep : GoodIn wsX10_undo wsX1_undoStep := goodIn_r _ [8, 9, 10, 11, 12, 13, 14, 15, 16, 17, 18, 19, 20, 21, 22, 23, 24, 25, 26, 27, 28, 43, 44, 45, 46, 47, 48, 49, 50, 51, 52, 53] (by decide +kernel) (by decide +kernel)
set_option maxRecDepth 20000 in
theorem gX10_undo_X1_undoStep : GoodIn wsX10_undo (wsV RX10 208 RX1 yX1_undoStep wsX1_undoStep) := goodIn_app (goodIn_of _ (by decide +kernel)) ggX10_undo_X1_undoStep
theorem dX10_undo_0 : decode cX10_undo 0 = .ok (.aload_n 0, 1) := by decide +kernel
theorem dX10_undo_1 : decode cX10_undo 1 = .ok (.getfield 36, 3) := by decide +kernel
theorem dX10_undo_4 : decode cX10_undo 4 = .ok (.getfield 205, 3) := by decide +kernel
theorem dX10_undo_7 : decode cX10_undo 7 = .ok (.ifCond .ne 6, 3) := by decide +kernel
theorem dX10_undo_10 : decode cX10_undo 10 = .ok (.bipush (-2), 2) := by decide +kernel
theorem dX10_undo_12 : decode cX10_undo 12 = .ok (.ireturn, 1) := by decide +kernel
theorem dX10_undo_13 : decode cX10_undo 13 = .ok (.aload_n 0, 1) := by decide +kernel
theorem dX10_undo_14 : decode cX10_undo 14 = .ok (.getfield 36, 3) := by decide +kernel
theorem dX10_undo_17 : decode cX10_undo 17 = .ok (.invokevirtual 208, 3) := by decide +kernel
theorem dX10_undo_20 : decode cX10_undo 20 = .ok (.aload_n 0, 1) := by decide +kernel
theorem dX10_undo_21 : decode cX10_undo 21 = .ok (.iconst 0, 1) := by decide +kernel
theorem dX10_undo_22 : decode cX10_undo 22 = .ok (.putfield 105, 3) := by decide +kernel
theorem dX10_undo_25 : decode cX10_undo 25 = .ok (.aload_n 0, 1) := by decide +kernel
theorem dX10_undo_26 : decode cX10_undo 26 = .ok (.getfield 36, 3) := by decide +kernel
theorem dX10_undo_29 : decode cX10_undo 29 = .ok (.getfield 205, 3) := by decide +kernel
theorem dX10_undo_32 : decode cX10_undo 32 = .ok (.ireturn, 1) := by decide +kernel
set_option maxRecDepth 20000 in
theorem ggX10_now_X2_heldFor : GoodIn wsX10_now wsX2_heldFor := goodIn_r _ [12, 13, 14, 15, 16, 17, 11, 18, 19, 53, 54, 55, 56, 57, 58, 59, 60] (by decide +kernel) (by decide +kernel)
set_option maxRecDepth 20000 in
theorem gX10_now_X2_heldFor : GoodIn wsX10_now (wsV RX10 211 RX2 yX2_heldFor wsX2_heldFor) := goodIn_app (goodIn_of _ (by decide +kernel)) ggX10_now_X2_heldFor
set_option maxRecDepth 20000 in
theorem ggX10_now_X2_worthDone : GoodIn wsX10_now wsX2_worthDone := goodIn_r _ [23, 24, 25, 26, 27, 28, 11, 29, 30, 61, 62, 63, 64, 65, 66, 67, 68, 69, 70, 53, 54, 55, 56, 57, 58, 59, 60] (by decide +kernel) (by decide +kernel)
set_option maxRecDepth 20000 in
theorem gX10_now_X2_worthDone : GoodIn wsX10_now (wsV RX10 202 RX2 yX2_worthDone wsX2_worthDone) := goodIn_app (goodIn_of _ (by decide +kernel)) ggX10_now_X2_worthDone
set_option maxRecDepth 20000 in
theorem ggX10_now_X2_owedByAll : GoodIn wsX10_now wsX2_owedByAll := goodIn_r _ [34, 35, 53, 54, 55, 56, 57, 58, 59, 60] (by decide +kernel) (by decide +kernel)
set_option maxRecDepth 20000 in
theorem gX10_now_X2_owedByAll : GoodIn wsX10_now (wsV RX10 215 RX2 yX2_owedByAll wsX2_owedByAll) := goodIn_app (goodIn_of _ (by decide +kernel)) ggX10_now_X2_owedByAll
theorem dX10_now_0 : decode cX10_now 0 = .ok (.aload_n 0, 1) := by decide +kernel
theorem dX10_now_1 : decode cX10_now 1 = .ok (.getfield 36, 3) := by decide +kernel
theorem dX10_now_4 : decode cX10_now 4 = .ok (.getfield 113, 3) := by decide +kernel
theorem dX10_now_7 : decode cX10_now 7 = .ok (.astore_n 2, 1) := by decide +kernel
theorem dX10_now_8 : decode cX10_now 8 = .ok (.iload_n 1, 1) := by decide +kernel
theorem dX10_now_9 : decode cX10_now 9 = .ok (.tableswitch 90 0 6 #[43, 48, 53, 66, 71, 76, 85], 43) := by decide +kernel
theorem dX10_now_52 : decode cX10_now 52 = .ok (.aload_n 2, 1) := by decide +kernel
theorem dX10_now_53 : decode cX10_now 53 = .ok (.getfield 185, 3) := by decide +kernel
theorem dX10_now_56 : decode cX10_now 56 = .ok (.ireturn, 1) := by decide +kernel
theorem dX10_now_57 : decode cX10_now 57 = .ok (.aload_n 2, 1) := by decide +kernel
theorem dX10_now_58 : decode cX10_now 58 = .ok (.getfield 153, 3) := by decide +kernel
theorem dX10_now_61 : decode cX10_now 61 = .ok (.ireturn, 1) := by decide +kernel
theorem dX10_now_62 : decode cX10_now 62 = .ok (.aload_n 2, 1) := by decide +kernel
theorem dX10_now_63 : decode cX10_now 63 = .ok (.getfield 199, 3) := by decide +kernel
theorem dX10_now_66 : decode cX10_now 66 = .ok (.ifCond .eq 7, 3) := by decide +kernel
theorem dX10_now_69 : decode cX10_now 69 = .ok (.iconst 1, 1) := by decide +kernel
theorem dX10_now_70 : decode cX10_now 70 = .ok (.goto 4, 3) := by decide +kernel
theorem dX10_now_73 : decode cX10_now 73 = .ok (.iconst 0, 1) := by decide +kernel
theorem dX10_now_74 : decode cX10_now 74 = .ok (.ireturn, 1) := by decide +kernel
theorem dX10_now_75 : decode cX10_now 75 = .ok (.aload_n 2, 1) := by decide +kernel
theorem dX10_now_76 : decode cX10_now 76 = .ok (.invokevirtual 211, 3) := by decide +kernel
theorem dX10_now_79 : decode cX10_now 79 = .ok (.ireturn, 1) := by decide +kernel
theorem dX10_now_80 : decode cX10_now 80 = .ok (.aload_n 2, 1) := by decide +kernel
theorem dX10_now_81 : decode cX10_now 81 = .ok (.getfield 196, 3) := by decide +kernel
theorem dX10_now_84 : decode cX10_now 84 = .ok (.ireturn, 1) := by decide +kernel
theorem dX10_now_85 : decode cX10_now 85 = .ok (.aload_n 2, 1) := by decide +kernel
theorem dX10_now_86 : decode cX10_now 86 = .ok (.aload_n 0, 1) := by decide +kernel
theorem dX10_now_87 : decode cX10_now 87 = .ok (.getfield 26, 3) := by decide +kernel
theorem dX10_now_90 : decode cX10_now 90 = .ok (.invokevirtual 202, 3) := by decide +kernel
theorem dX10_now_93 : decode cX10_now 93 = .ok (.ireturn, 1) := by decide +kernel
theorem dX10_now_94 : decode cX10_now 94 = .ok (.aload_n 2, 1) := by decide +kernel
theorem dX10_now_95 : decode cX10_now 95 = .ok (.invokevirtual 215, 3) := by decide +kernel
theorem dX10_now_98 : decode cX10_now 98 = .ok (.ireturn, 1) := by decide +kernel
theorem dX10_now_99 : decode cX10_now 99 = .ok (.iconst (-1), 1) := by decide +kernel
theorem dX10_now_100 : decode cX10_now 100 = .ok (.ireturn, 1) := by decide +kernel
set_option maxRecDepth 20000 in
theorem ggX10_beginStep_X1_rememberStep : GoodIn wsX10_beginStep wsX1_rememberStep := goodIn_r _ [7, 8, 9, 10, 11, 12, 13, 6, 14, 15, 16, 17, 18, 19, 20, 21, 22, 23, 24, 25, 26, 27, 28, 29, 30, 31, 46, 47, 48, 49, 50, 51, 52, 53, 54, 55, 56] (by decide +kernel) (by decide +kernel)
set_option maxRecDepth 20000 in
theorem gX10_beginStep_X1_rememberStep : GoodIn wsX10_beginStep (wsV RX10 218 RX1 yX1_rememberStep wsX1_rememberStep) := goodIn_app (goodIn_of _ (by decide +kernel)) ggX10_beginStep_X1_rememberStep
theorem dX10_beginStep_0 : decode cX10_beginStep 0 = .ok (.aload_n 0, 1) := by decide +kernel
theorem dX10_beginStep_1 : decode cX10_beginStep 1 = .ok (.getfield 36, 3) := by decide +kernel
theorem dX10_beginStep_4 : decode cX10_beginStep 4 = .ok (.invokevirtual 218, 3) := by decide +kernel
theorem dX10_beginStep_7 : decode cX10_beginStep 7 = .ok (.aload_n 0, 1) := by decide +kernel
theorem dX10_beginStep_8 : decode cX10_beginStep 8 = .ok (.iconst 0, 1) := by decide +kernel
theorem dX10_beginStep_9 : decode cX10_beginStep 9 = .ok (.putfield 105, 3) := by decide +kernel
theorem dX10_beginStep_12 : decode cX10_beginStep 12 = .ok (.return_, 1) := by decide +kernel
set_option maxRecDepth 20000 in
theorem ggX10_round_X6_find : GoodIn wsX10_round wsX6_find := goodIn_r _ [15, 16, 17, 18, 19, 20, 21, 22, 23, 24, 25, 26, 27, 28, 29, 30, 31, 32, 33, 34, 35, 36, 37, 38, 39, 40, 41, 42, 43, 44, 45, 46, 47, 48, 49, 50, 51, 52, 53, 54, 55, 56, 57, 14, 58, 59, 60, 61, 62, 63, 64, 65, 66, 67, 68, 69, 70, 71, 72, 73, 74, 75, 76, 77, 78, 79, 80, 81, 82, 83, 84, 85, 86, 87, 88, 89, 90, 91, 92, 93, 94, 95, 96, 97, 98, 99, 100, 118, 119, 120, 121, 122, 123, 124, 125, 126, 127, 128, 129, 130, 131, 132, 133, 134, 135, 136, 137, 138, 139, 140, 141, 142, 143, 144] (by decide +kernel) (by decide +kernel)
set_option maxRecDepth 20000 in
theorem gX10_round_X6_find : GoodIn wsX10_round (wsV RX10 221 RX6 yX6_find wsX6_find) := goodIn_app (goodIn_of _ (by decide +kernel)) ggX10_round_X6_find
theorem dX10_round_0 : decode cX10_round 0 = .ok (.iload_n 1, 1) := by decide +kernel
theorem dX10_round_1 : decode cX10_round 1 = .ok (.bipush (-3), 2) := by decide +kernel
theorem dX10_round_3 : decode cX10_round 3 = .ok (.if_icmp .lt 9, 3) := by decide +kernel
theorem dX10_round_6 : decode cX10_round 6 = .ok (.iload_n 1, 1) := by decide +kernel
theorem dX10_round_7 : decode cX10_round 7 = .ok (.bipush 8, 2) := by decide +kernel
theorem dX10_round_9 : decode cX10_round 9 = .ok (.if_icmp .lt 5, 3) := by decide +kernel
theorem dX10_round_12 : decode cX10_round 12 = .ok (.iconst (-1), 1) := by decide +kernel
theorem dX10_round_13 : decode cX10_round 13 = .ok (.ireturn, 1) := by decide +kernel
theorem dX10_round_14 : decode cX10_round 14 = .ok (.aload_n 0, 1) := by decide +kernel
theorem dX10_round_15 : decode cX10_round 15 = .ok (.getfield 105, 3) := by decide +kernel
theorem dX10_round_18 : decode cX10_round 18 = .ok (.ifCond .ne 30, 3) := by decide +kernel
theorem dX10_round_21 : decode cX10_round 21 = .ok (.aload_n 0, 1) := by decide +kernel
theorem dX10_round_22 : decode cX10_round 22 = .ok (.getfield 65, 3) := by decide +kernel
theorem dX10_round_25 : decode cX10_round 25 = .ok (.aload_n 0, 1) := by decide +kernel
theorem dX10_round_26 : decode cX10_round 26 = .ok (.getfield 26, 3) := by decide +kernel
theorem dX10_round_29 : decode cX10_round 29 = .ok (.aload_n 0, 1) := by decide +kernel
theorem dX10_round_30 : decode cX10_round 30 = .ok (.getfield 36, 3) := by decide +kernel
theorem dX10_round_33 : decode cX10_round 33 = .ok (.getfield 113, 3) := by decide +kernel
theorem dX10_round_36 : decode cX10_round 36 = .ok (.aload_n 0, 1) := by decide +kernel
theorem dX10_round_37 : decode cX10_round 37 = .ok (.getfield 58, 3) := by decide +kernel
theorem dX10_round_40 : decode cX10_round 40 = .ok (.invokevirtual 221, 3) := by decide +kernel
theorem dX10_round_43 : decode cX10_round 43 = .ok (.aload_n 0, 1) := by decide +kernel
theorem dX10_round_44 : decode cX10_round 44 = .ok (.iconst 1, 1) := by decide +kernel
theorem dX10_round_45 : decode cX10_round 45 = .ok (.putfield 105, 3) := by decide +kernel
theorem dX10_round_48 : decode cX10_round 48 = .ok (.iload_n 1, 1) := by decide +kernel
theorem dX10_round_49 : decode cX10_round 49 = .ok (.tableswitch 51 (-3) (-1) #[43, 35, 27], 27) := by decide +kernel
theorem dX10_round_76 : decode cX10_round 76 = .ok (.aload_n 0, 1) := by decide +kernel
theorem dX10_round_77 : decode cX10_round 77 = .ok (.getfield 65, 3) := by decide +kernel
theorem dX10_round_80 : decode cX10_round 80 = .ok (.getfield 225, 3) := by decide +kernel
theorem dX10_round_83 : decode cX10_round 83 = .ok (.ireturn, 1) := by decide +kernel
theorem dX10_round_84 : decode cX10_round 84 = .ok (.aload_n 0, 1) := by decide +kernel
theorem dX10_round_85 : decode cX10_round 85 = .ok (.getfield 65, 3) := by decide +kernel
theorem dX10_round_88 : decode cX10_round 88 = .ok (.getfield 227, 3) := by decide +kernel
theorem dX10_round_91 : decode cX10_round 91 = .ok (.ireturn, 1) := by decide +kernel
theorem dX10_round_92 : decode cX10_round 92 = .ok (.aload_n 0, 1) := by decide +kernel
theorem dX10_round_93 : decode cX10_round 93 = .ok (.getfield 65, 3) := by decide +kernel
theorem dX10_round_96 : decode cX10_round 96 = .ok (.getfield 228, 3) := by decide +kernel
theorem dX10_round_99 : decode cX10_round 99 = .ok (.ireturn, 1) := by decide +kernel
theorem dX10_round_100 : decode cX10_round 100 = .ok (.iload_n 1, 1) := by decide +kernel
theorem dX10_round_101 : decode cX10_round 101 = .ok (.aload_n 0, 1) := by decide +kernel
theorem dX10_round_102 : decode cX10_round 102 = .ok (.getfield 65, 3) := by decide +kernel
theorem dX10_round_105 : decode cX10_round 105 = .ok (.getfield 228, 3) := by decide +kernel
theorem dX10_round_108 : decode cX10_round 108 = .ok (.if_icmp .ge 15, 3) := by decide +kernel
theorem dX10_round_111 : decode cX10_round 111 = .ok (.aload_n 0, 1) := by decide +kernel
theorem dX10_round_112 : decode cX10_round 112 = .ok (.getfield 65, 3) := by decide +kernel
theorem dX10_round_115 : decode cX10_round 115 = .ok (.getfield 229, 3) := by decide +kernel
theorem dX10_round_118 : decode cX10_round 118 = .ok (.iload_n 1, 1) := by decide +kernel
theorem dX10_round_119 : decode cX10_round 119 = .ok (.iaload, 1) := by decide +kernel
theorem dX10_round_120 : decode cX10_round 120 = .ok (.goto 5, 3) := by decide +kernel
theorem dX10_round_123 : decode cX10_round 123 = .ok (.bipush (-9), 2) := by decide +kernel
theorem dX10_round_125 : decode cX10_round 125 = .ok (.ireturn, 1) := by decide +kernel
set_option maxRecDepth 20000 in
theorem ggX10_spoons_X7_fewest : GoodIn wsX10_spoons wsX7_fewest := goodIn_r _ [7, 8, 9, 10, 11, 12, 13, 6, 14, 15, 16, 17, 18, 19, 20, 21, 22, 23, 24, 25, 26, 27, 28, 29, 44, 45, 46, 47, 48, 49, 50, 51, 52, 53, 54, 55] (by decide +kernel) (by decide +kernel)
set_option maxRecDepth 20000 in
theorem gX10_spoons_X7_fewest : GoodIn wsX10_spoons (wsV RX10 232 RX7 yX7_fewest wsX7_fewest) := goodIn_app (goodIn_of _ (by decide +kernel)) ggX10_spoons_X7_fewest
theorem dX10_spoons_0 : decode cX10_spoons 0 = .ok (.aload_n 0, 1) := by decide +kernel
theorem dX10_spoons_1 : decode cX10_spoons 1 = .ok (.getfield 72, 3) := by decide +kernel
theorem dX10_spoons_4 : decode cX10_spoons 4 = .ok (.aload_n 0, 1) := by decide +kernel
theorem dX10_spoons_5 : decode cX10_spoons 5 = .ok (.getfield 26, 3) := by decide +kernel
theorem dX10_spoons_8 : decode cX10_spoons 8 = .ok (.invokevirtual 232, 3) := by decide +kernel
theorem dX10_spoons_11 : decode cX10_spoons 11 = .ok (.ireturn, 1) := by decide +kernel
set_option maxRecDepth 20000 in
theorem ggX10_drawn_X9_begin : GoodIn wsX10_drawn wsX9_begin := goodIn_r _ [13, 14, 15, 16, 17, 18, 19, 20, 21, 22, 23, 24, 25, 26, 27, 28, 29, 30, 31, 32, 33, 34, 35, 36, 37, 90, 91, 92, 93, 94, 95, 96, 97, 98, 99, 100, 101, 77, 78, 79, 80, 81, 82, 83, 84, 85, 86] (by decide +kernel) (by decide +kernel)
set_option maxRecDepth 20000 in
theorem gX10_drawn_X9_begin : GoodIn wsX10_drawn (wsV RX10 239 RX9 yX9_begin wsX9_begin) := goodIn_app (goodIn_of _ (by decide +kernel)) ggX10_drawn_X9_begin
set_option maxRecDepth 20000 in
theorem ggX10_drawn_X2_openDeeds : GoodIn wsX10_drawn wsX2_openDeeds := goodIn_r _ [41, 42, 43, 77, 78, 79, 80, 81, 82, 83, 84, 85, 86, 90, 91, 92, 93, 94, 95, 96, 97] (by decide +kernel) (by decide +kernel)
set_option maxRecDepth 20000 in
theorem gX10_drawn_X2_openDeeds : GoodIn wsX10_drawn (wsV RX10 242 RX2 yX2_openDeeds wsX2_openDeeds) := goodIn_app (goodIn_of _ (by decide +kernel)) ggX10_drawn_X2_openDeeds
set_option maxRecDepth 20000 in
theorem ggX10_drawn_X9_hourOfNext : GoodIn wsX10_drawn wsX9_hourOfNext := goodIn_r _ [47, 48, 25, 22, 20, 15, 49, 50, 51, 52, 53, 54, 55, 56, 57, 58, 77, 78, 79, 80, 81, 82, 83, 84, 85, 86, 98, 99, 100, 101] (by decide +kernel) (by decide +kernel)
set_option maxRecDepth 20000 in
theorem gX10_drawn_X9_hourOfNext : GoodIn wsX10_drawn (wsV RX10 246 RX9 yX9_hourOfNext wsX9_hourOfNext) := goodIn_app (goodIn_of _ (by decide +kernel)) ggX10_drawn_X9_hourOfNext
set_option maxRecDepth 20000 in
theorem ggX10_drawn_X9_add : GoodIn wsX10_drawn wsX9_add := goodIn_r _ [62, 48, 15, 53, 20, 22, 25, 77, 78, 79, 80, 81, 82, 83, 84, 85, 86, 98, 99, 100, 101] (by decide +kernel) (by decide +kernel)
set_option maxRecDepth 20000 in
theorem gX10_drawn_X9_add : GoodIn wsX10_drawn (wsV RX10 250 RX9 yX9_add wsX9_add) := goodIn_app (goodIn_of _ (by decide +kernel)) ggX10_drawn_X9_add
theorem dX10_drawn_0 : decode cX10_drawn 0 = .ok (.iload_n 1, 1) := by decide +kernel
theorem dX10_drawn_1 : decode cX10_drawn 1 = .ok (.ifCond .lt 19, 3) := by decide +kernel
theorem dX10_drawn_4 : decode cX10_drawn 4 = .ok (.iload_n 1, 1) := by decide +kernel
theorem dX10_drawn_5 : decode cX10_drawn 5 = .ok (.ldc 235, 2) := by decide +kernel
theorem dX10_drawn_7 : decode cX10_drawn 7 = .ok (.if_icmp .gt 13, 3) := by decide +kernel
theorem dX10_drawn_10 : decode cX10_drawn 10 = .ok (.iload_n 2, 1) := by decide +kernel
theorem dX10_drawn_11 : decode cX10_drawn 11 = .ok (.ifCond .lt 9, 3) := by decide +kernel
theorem dX10_drawn_14 : decode cX10_drawn 14 = .ok (.iload_n 2, 1) := by decide +kernel
theorem dX10_drawn_15 : decode cX10_drawn 15 = .ok (.bipush 20, 2) := by decide +kernel
theorem dX10_drawn_17 : decode cX10_drawn 17 = .ok (.if_icmp .le 5, 3) := by decide +kernel
theorem dX10_drawn_20 : decode cX10_drawn 20 = .ok (.iconst (-1), 1) := by decide +kernel
theorem dX10_drawn_21 : decode cX10_drawn 21 = .ok (.ireturn, 1) := by decide +kernel
theorem dX10_drawn_22 : decode cX10_drawn 22 = .ok (.aload_n 0, 1) := by decide +kernel
theorem dX10_drawn_23 : decode cX10_drawn 23 = .ok (.getfield 26, 3) := by decide +kernel
theorem dX10_drawn_26 : decode cX10_drawn 26 = .ok (.getfield 236, 3) := by decide +kernel
theorem dX10_drawn_29 : decode cX10_drawn 29 = .ok (.ifCond .ne 5, 3) := by decide +kernel
theorem dX10_drawn_32 : decode cX10_drawn 32 = .ok (.iconst 0, 1) := by decide +kernel
theorem dX10_drawn_33 : decode cX10_drawn 33 = .ok (.ireturn, 1) := by decide +kernel
theorem dX10_drawn_34 : decode cX10_drawn 34 = .ok (.aload_n 0, 1) := by decide +kernel
theorem dX10_drawn_35 : decode cX10_drawn 35 = .ok (.getfield 58, 3) := by decide +kernel
theorem dX10_drawn_38 : decode cX10_drawn 38 = .ok (.aload_n 0, 1) := by decide +kernel
theorem dX10_drawn_39 : decode cX10_drawn 39 = .ok (.getfield 26, 3) := by decide +kernel
theorem dX10_drawn_42 : decode cX10_drawn 42 = .ok (.aload_n 0, 1) := by decide +kernel
theorem dX10_drawn_43 : decode cX10_drawn 43 = .ok (.getfield 36, 3) := by decide +kernel
theorem dX10_drawn_46 : decode cX10_drawn 46 = .ok (.getfield 113, 3) := by decide +kernel
theorem dX10_drawn_49 : decode cX10_drawn 49 = .ok (.invokevirtual 239, 3) := by decide +kernel
theorem dX10_drawn_52 : decode cX10_drawn 52 = .ok (.aload_n 0, 1) := by decide +kernel
theorem dX10_drawn_53 : decode cX10_drawn 53 = .ok (.getfield 36, 3) := by decide +kernel
theorem dX10_drawn_56 : decode cX10_drawn 56 = .ok (.getfield 113, 3) := by decide +kernel
theorem dX10_drawn_59 : decode cX10_drawn 59 = .ok (.aload_n 0, 1) := by decide +kernel
theorem dX10_drawn_60 : decode cX10_drawn 60 = .ok (.getfield 26, 3) := by decide +kernel
theorem dX10_drawn_63 : decode cX10_drawn 63 = .ok (.invokevirtual 242, 3) := by decide +kernel
theorem dX10_drawn_66 : decode cX10_drawn 66 = .ok (.istore_n 3, 1) := by decide +kernel
theorem dX10_drawn_67 : decode cX10_drawn 67 = .ok (.iconst 0, 1) := by decide +kernel
theorem dX10_drawn_68 : decode cX10_drawn 68 = .ok (.istore 4, 2) := by decide +kernel
theorem dX10_drawn_70 : decode cX10_drawn 70 = .ok (.iload_n 1, 1) := by decide +kernel
theorem dX10_drawn_71 : decode cX10_drawn 71 = .ok (.istore 5, 2) := by decide +kernel
theorem dX10_drawn_73 : decode cX10_drawn 73 = .ok (.iconst 0, 1) := by decide +kernel
theorem dX10_drawn_74 : decode cX10_drawn 74 = .ok (.istore 6, 2) := by decide +kernel
theorem dX10_drawn_76 : decode cX10_drawn 76 = .ok (.iload 6, 2) := by decide +kernel
theorem dX10_drawn_78 : decode cX10_drawn 78 = .ok (.iload_n 2, 1) := by decide +kernel
theorem dX10_drawn_79 : decode cX10_drawn 79 = .ok (.if_icmp .ge 110, 3) := by decide +kernel
theorem dX10_drawn_82 : decode cX10_drawn 82 = .ok (.iload 5, 2) := by decide +kernel
theorem dX10_drawn_84 : decode cX10_drawn 84 = .ok (.bipush 75, 2) := by decide +kernel
theorem dX10_drawn_86 : decode cX10_drawn 86 = .ok (.imul, 1) := by decide +kernel
theorem dX10_drawn_87 : decode cX10_drawn 87 = .ok (.bipush 74, 2) := by decide +kernel
theorem dX10_drawn_89 : decode cX10_drawn 89 = .ok (.iadd, 1) := by decide +kernel
theorem dX10_drawn_90 : decode cX10_drawn 90 = .ok (.ldc 245, 2) := by decide +kernel
theorem dX10_drawn_92 : decode cX10_drawn 92 = .ok (.irem, 1) := by decide +kernel
theorem dX10_drawn_93 : decode cX10_drawn 93 = .ok (.istore 5, 2) := by decide +kernel
theorem dX10_drawn_95 : decode cX10_drawn 95 = .ok (.iload 5, 2) := by decide +kernel
theorem dX10_drawn_97 : decode cX10_drawn 97 = .ok (.aload_n 0, 1) := by decide +kernel
theorem dX10_drawn_98 : decode cX10_drawn 98 = .ok (.getfield 26, 3) := by decide +kernel
theorem dX10_drawn_101 : decode cX10_drawn 101 = .ok (.getfield 236, 3) := by decide +kernel
theorem dX10_drawn_104 : decode cX10_drawn 104 = .ok (.irem, 1) := by decide +kernel
theorem dX10_drawn_105 : decode cX10_drawn 105 = .ok (.istore 7, 2) := by decide +kernel
theorem dX10_drawn_107 : decode cX10_drawn 107 = .ok (.iload_n 3, 1) := by decide +kernel
theorem dX10_drawn_108 : decode cX10_drawn 108 = .ok (.iload 7, 2) := by decide +kernel
theorem dX10_drawn_110 : decode cX10_drawn 110 = .ok (.ishr, 1) := by decide +kernel
theorem dX10_drawn_111 : decode cX10_drawn 111 = .ok (.iconst 1, 1) := by decide +kernel
theorem dX10_drawn_112 : decode cX10_drawn 112 = .ok (.iand, 1) := by decide +kernel
theorem dX10_drawn_113 : decode cX10_drawn 113 = .ok (.iconst 1, 1) := by decide +kernel
theorem dX10_drawn_114 : decode cX10_drawn 114 = .ok (.if_icmp .ne 19, 3) := by decide +kernel
theorem dX10_drawn_117 : decode cX10_drawn 117 = .ok (.aload_n 0, 1) := by decide +kernel
theorem dX10_drawn_118 : decode cX10_drawn 118 = .ok (.getfield 58, 3) := by decide +kernel
theorem dX10_drawn_121 : decode cX10_drawn 121 = .ok (.aload_n 0, 1) := by decide +kernel
theorem dX10_drawn_122 : decode cX10_drawn 122 = .ok (.getfield 26, 3) := by decide +kernel
theorem dX10_drawn_125 : decode cX10_drawn 125 = .ok (.iload 7, 2) := by decide +kernel
theorem dX10_drawn_127 : decode cX10_drawn 127 = .ok (.invokevirtual 246, 3) := by decide +kernel
theorem dX10_drawn_130 : decode cX10_drawn 130 = .ok (.goto 5, 3) := by decide +kernel
theorem dX10_drawn_133 : decode cX10_drawn 133 = .ok (.bipush (-9), 2) := by decide +kernel
theorem dX10_drawn_135 : decode cX10_drawn 135 = .ok (.istore 8, 2) := by decide +kernel
theorem dX10_drawn_137 : decode cX10_drawn 137 = .ok (.iload 8, 2) := by decide +kernel
theorem dX10_drawn_139 : decode cX10_drawn 139 = .ok (.bipush (-9), 2) := by decide +kernel
theorem dX10_drawn_141 : decode cX10_drawn 141 = .ok (.if_icmp .eq 42, 3) := by decide +kernel
theorem dX10_drawn_144 : decode cX10_drawn 144 = .ok (.aload_n 0, 1) := by decide +kernel
theorem dX10_drawn_145 : decode cX10_drawn 145 = .ok (.getfield 58, 3) := by decide +kernel
theorem dX10_drawn_148 : decode cX10_drawn 148 = .ok (.aload_n 0, 1) := by decide +kernel
theorem dX10_drawn_149 : decode cX10_drawn 149 = .ok (.getfield 26, 3) := by decide +kernel
theorem dX10_drawn_152 : decode cX10_drawn 152 = .ok (.iload 7, 2) := by decide +kernel
theorem dX10_drawn_154 : decode cX10_drawn 154 = .ok (.iload 8, 2) := by decide +kernel
theorem dX10_drawn_156 : decode cX10_drawn 156 = .ok (.invokevirtual 250, 3) := by decide +kernel
theorem dX10_drawn_159 : decode cX10_drawn 159 = .ok (.iload_n 3, 1) := by decide +kernel
theorem dX10_drawn_160 : decode cX10_drawn 160 = .ok (.iconst 1, 1) := by decide +kernel
theorem dX10_drawn_161 : decode cX10_drawn 161 = .ok (.iload 7, 2) := by decide +kernel
theorem dX10_drawn_163 : decode cX10_drawn 163 = .ok (.ishl, 1) := by decide +kernel
theorem dX10_drawn_164 : decode cX10_drawn 164 = .ok (.iconst (-1), 1) := by decide +kernel
theorem dX10_drawn_165 : decode cX10_drawn 165 = .ok (.ixor, 1) := by decide +kernel
theorem dX10_drawn_166 : decode cX10_drawn 166 = .ok (.iand, 1) := by decide +kernel
theorem dX10_drawn_167 : decode cX10_drawn 167 = .ok (.istore_n 3, 1) := by decide +kernel
theorem dX10_drawn_168 : decode cX10_drawn 168 = .ok (.iload 4, 2) := by decide +kernel
theorem dX10_drawn_170 : decode cX10_drawn 170 = .ok (.aload_n 0, 1) := by decide +kernel
theorem dX10_drawn_171 : decode cX10_drawn 171 = .ok (.getfield 26, 3) := by decide +kernel
theorem dX10_drawn_174 : decode cX10_drawn 174 = .ok (.getfield 147, 3) := by decide +kernel
theorem dX10_drawn_177 : decode cX10_drawn 177 = .ok (.iload 7, 2) := by decide +kernel
theorem dX10_drawn_179 : decode cX10_drawn 179 = .ok (.iaload, 1) := by decide +kernel
theorem dX10_drawn_180 : decode cX10_drawn 180 = .ok (.iadd, 1) := by decide +kernel
theorem dX10_drawn_181 : decode cX10_drawn 181 = .ok (.istore 4, 2) := by decide +kernel
theorem dX10_drawn_183 : decode cX10_drawn 183 = .ok (.iinc 6 1, 3) := by decide +kernel
theorem dX10_drawn_186 : decode cX10_drawn 186 = .ok (.goto (-110), 3) := by decide +kernel
theorem dX10_drawn_189 : decode cX10_drawn 189 = .ok (.iload 4, 2) := by decide +kernel
theorem dX10_drawn_191 : decode cX10_drawn 191 = .ok (.ireturn, 1) := by decide +kernel
set_option maxRecDepth 20000 in
theorem ggX10_odds_X2_openDeeds : GoodIn wsX10_odds wsX2_openDeeds := goodIn_r _ [11, 12, 13, 57, 58, 59, 60, 61, 62, 63, 64, 65, 66, 67, 68, 69, 70, 71, 72, 73, 74] (by decide +kernel) (by decide +kernel)
set_option maxRecDepth 20000 in
theorem gX10_odds_X2_openDeeds : GoodIn wsX10_odds (wsV RX10 242 RX2 yX2_openDeeds wsX2_openDeeds) := goodIn_app (goodIn_of _ (by decide +kernel)) ggX10_odds_X2_openDeeds
set_option maxRecDepth 20000 in
theorem ggX10_odds_J6_bitCount_0f7a4 : GoodIn wsX10_odds wsJ6_bitCount_0f7a4 := goodIn_r _ [17, 18, 19, 20] (by decide +kernel) (by decide +kernel)
set_option maxRecDepth 20000 in
theorem gX10_odds_J6_bitCount_0f7a4 : GoodIn wsX10_odds (va_wsS RX10 254 yJ6_bitCount_0f7a4 wsJ6_bitCount_0f7a4) := goodIn_app (goodIn_of _ (by decide +kernel)) ggX10_odds_J6_bitCount_0f7a4
set_option maxRecDepth 20000 in
theorem ggX10_odds_X3_find : GoodIn wsX10_odds wsX3_find := goodIn_r _ [25, 26, 27, 28, 29, 30, 31, 24, 32, 33, 34, 35, 36, 54, 55, 56] (by decide +kernel) (by decide +kernel)
set_option maxRecDepth 20000 in
theorem gX10_odds_X3_find : GoodIn wsX10_odds (wsV RX10 259 RX3 yX3_find wsX3_find) := goodIn_app (goodIn_of _ (by decide +kernel)) ggX10_odds_X3_find
theorem dX10_odds_0 : decode cX10_odds 0 = .ok (.iload_n 1, 1) := by decide +kernel
theorem dX10_odds_1 : decode cX10_odds 1 = .ok (.ifCond .lt 28, 3) := by decide +kernel
theorem dX10_odds_4 : decode cX10_odds 4 = .ok (.iload_n 1, 1) := by decide +kernel
theorem dX10_odds_5 : decode cX10_odds 5 = .ok (.bipush 10, 2) := by decide +kernel
theorem dX10_odds_7 : decode cX10_odds 7 = .ok (.if_icmp .gt 22, 3) := by decide +kernel
theorem dX10_odds_10 : decode cX10_odds 10 = .ok (.iload_n 2, 1) := by decide +kernel
theorem dX10_odds_11 : decode cX10_odds 11 = .ok (.ifCond .lt 18, 3) := by decide +kernel
theorem dX10_odds_14 : decode cX10_odds 14 = .ok (.iload_n 2, 1) := by decide +kernel
theorem dX10_odds_15 : decode cX10_odds 15 = .ok (.bipush 8, 2) := by decide +kernel
theorem dX10_odds_17 : decode cX10_odds 17 = .ok (.if_icmp .gt 12, 3) := by decide +kernel
theorem dX10_odds_20 : decode cX10_odds 20 = .ok (.iload_n 3, 1) := by decide +kernel
theorem dX10_odds_21 : decode cX10_odds 21 = .ok (.ifCond .lt 8, 3) := by decide +kernel
theorem dX10_odds_24 : decode cX10_odds 24 = .ok (.iload_n 3, 1) := by decide +kernel
theorem dX10_odds_25 : decode cX10_odds 25 = .ok (.iconst 1, 1) := by decide +kernel
theorem dX10_odds_26 : decode cX10_odds 26 = .ok (.if_icmp .le 5, 3) := by decide +kernel
theorem dX10_odds_29 : decode cX10_odds 29 = .ok (.iconst (-1), 1) := by decide +kernel
theorem dX10_odds_30 : decode cX10_odds 30 = .ok (.ireturn, 1) := by decide +kernel
theorem dX10_odds_31 : decode cX10_odds 31 = .ok (.aload_n 0, 1) := by decide +kernel
theorem dX10_odds_32 : decode cX10_odds 32 = .ok (.getfield 36, 3) := by decide +kernel
theorem dX10_odds_35 : decode cX10_odds 35 = .ok (.getfield 113, 3) := by decide +kernel
theorem dX10_odds_38 : decode cX10_odds 38 = .ok (.aload_n 0, 1) := by decide +kernel
theorem dX10_odds_39 : decode cX10_odds 39 = .ok (.getfield 26, 3) := by decide +kernel
theorem dX10_odds_42 : decode cX10_odds 42 = .ok (.invokevirtual 242, 3) := by decide +kernel
theorem dX10_odds_45 : decode cX10_odds 45 = .ok (.invokestatic 254, 3) := by decide +kernel
theorem dX10_odds_48 : decode cX10_odds 48 = .ok (.istore 4, 2) := by decide +kernel
theorem dX10_odds_50 : decode cX10_odds 50 = .ok (.aload_n 0, 1) := by decide +kernel
theorem dX10_odds_51 : decode cX10_odds 51 = .ok (.getfield 79, 3) := by decide +kernel
theorem dX10_odds_54 : decode cX10_odds 54 = .ok (.iload 4, 2) := by decide +kernel
theorem dX10_odds_56 : decode cX10_odds 56 = .ok (.iload_n 1, 1) := by decide +kernel
theorem dX10_odds_57 : decode cX10_odds 57 = .ok (.iload_n 2, 1) := by decide +kernel
theorem dX10_odds_58 : decode cX10_odds 58 = .ok (.invokevirtual 259, 3) := by decide +kernel
theorem dX10_odds_61 : decode cX10_odds 61 = .ok (.iload_n 3, 1) := by decide +kernel
theorem dX10_odds_62 : decode cX10_odds 62 = .ok (.ifCond .ne 13, 3) := by decide +kernel
theorem dX10_odds_65 : decode cX10_odds 65 = .ok (.aload_n 0, 1) := by decide +kernel
theorem dX10_odds_66 : decode cX10_odds 66 = .ok (.getfield 79, 3) := by decide +kernel
theorem dX10_odds_69 : decode cX10_odds 69 = .ok (.getfield 262, 3) := by decide +kernel
theorem dX10_odds_72 : decode cX10_odds 72 = .ok (.goto 10, 3) := by decide +kernel
theorem dX10_odds_75 : decode cX10_odds 75 = .ok (.aload_n 0, 1) := by decide +kernel
theorem dX10_odds_76 : decode cX10_odds 76 = .ok (.getfield 79, 3) := by decide +kernel
theorem dX10_odds_79 : decode cX10_odds 79 = .ok (.getfield 265, 3) := by decide +kernel
theorem dX10_odds_82 : decode cX10_odds 82 = .ok (.ireturn, 1) := by decide +kernel
set_option maxRecDepth 20000 in
theorem ggX10_hears_X4_hasDeed : GoodIn wsX10_hears wsX4_hasDeed := goodIn_r _ [8, 9, 35, 36, 37, 38, 39, 40, 41, 42, 43, 44] (by decide +kernel) (by decide +kernel)
set_option maxRecDepth 20000 in
theorem gX10_hears_X4_hasDeed : GoodIn wsX10_hears (wsV RX10 132 RX4 yX4_hasDeed wsX4_hasDeed) := goodIn_app (goodIn_of _ (by decide +kernel)) ggX10_hears_X4_hasDeed
set_option maxRecDepth 20000 in
theorem ggX10_hears_X0_insert : GoodIn wsX10_hears wsX0_insert := goodIn_r _ [14, 15, 16, 17, 32, 33, 34] (by decide +kernel) (by decide +kernel)
set_option maxRecDepth 20000 in
theorem gX10_hears_X0_insert : GoodIn wsX10_hears (wsV RX10 268 RX0 yX0_insert wsX0_insert) := goodIn_app (goodIn_of _ (by decide +kernel)) ggX10_hears_X0_insert
theorem dX10_hears_0 : decode cX10_hears 0 = .ok (.aload_n 0, 1) := by decide +kernel
theorem dX10_hears_1 : decode cX10_hears 1 = .ok (.getfield 26, 3) := by decide +kernel
theorem dX10_hears_4 : decode cX10_hears 4 = .ok (.iload_n 1, 1) := by decide +kernel
theorem dX10_hears_5 : decode cX10_hears 5 = .ok (.invokevirtual 132, 3) := by decide +kernel
theorem dX10_hears_8 : decode cX10_hears 8 = .ok (.ifCond .eq 13, 3) := by decide +kernel
theorem dX10_hears_11 : decode cX10_hears 11 = .ok (.iload_n 2, 1) := by decide +kernel
theorem dX10_hears_12 : decode cX10_hears 12 = .ok (.ifCond .lt 9, 3) := by decide +kernel
theorem dX10_hears_15 : decode cX10_hears 15 = .ok (.iload_n 2, 1) := by decide +kernel
theorem dX10_hears_16 : decode cX10_hears 16 = .ok (.bipush 99, 2) := by decide +kernel
theorem dX10_hears_18 : decode cX10_hears 18 = .ok (.if_icmp .le 5, 3) := by decide +kernel
theorem dX10_hears_21 : decode cX10_hears 21 = .ok (.iconst (-1), 1) := by decide +kernel
theorem dX10_hears_22 : decode cX10_hears 22 = .ok (.ireturn, 1) := by decide +kernel
theorem dX10_hears_23 : decode cX10_hears 23 = .ok (.aload_n 0, 1) := by decide +kernel
theorem dX10_hears_24 : decode cX10_hears 24 = .ok (.getfield 51, 3) := by decide +kernel
theorem dX10_hears_27 : decode cX10_hears 27 = .ok (.getfield 102, 3) := by decide +kernel
theorem dX10_hears_30 : decode cX10_hears 30 = .ok (.bipush 6, 2) := by decide +kernel
theorem dX10_hears_32 : decode cX10_hears 32 = .ok (.if_icmp .lt 6, 3) := by decide +kernel
theorem dX10_hears_35 : decode cX10_hears 35 = .ok (.bipush (-3), 2) := by decide +kernel
theorem dX10_hears_37 : decode cX10_hears 37 = .ok (.ireturn, 1) := by decide +kernel
theorem dX10_hears_38 : decode cX10_hears 38 = .ok (.aload_n 0, 1) := by decide +kernel
theorem dX10_hears_39 : decode cX10_hears 39 = .ok (.getfield 51, 3) := by decide +kernel
theorem dX10_hears_42 : decode cX10_hears 42 = .ok (.iload_n 1, 1) := by decide +kernel
theorem dX10_hears_43 : decode cX10_hears 43 = .ok (.iload_n 2, 1) := by decide +kernel
theorem dX10_hears_44 : decode cX10_hears 44 = .ok (.invokevirtual 268, 3) := by decide +kernel
theorem dX10_hears_47 : decode cX10_hears 47 = .ok (.aload_n 0, 1) := by decide +kernel
theorem dX10_hears_48 : decode cX10_hears 48 = .ok (.getfield 51, 3) := by decide +kernel
theorem dX10_hears_51 : decode cX10_hears 51 = .ok (.getfield 102, 3) := by decide +kernel
theorem dX10_hears_54 : decode cX10_hears 54 = .ok (.ireturn, 1) := by decide +kernel
theorem dX10_forget_0 : decode cX10_forget 0 = .ok (.aload_n 0, 1) := by decide +kernel
theorem dX10_forget_1 : decode cX10_forget 1 = .ok (.getfield 51, 3) := by decide +kernel
theorem dX10_forget_4 : decode cX10_forget 4 = .ok (.getfield 102, 3) := by decide +kernel
theorem dX10_forget_7 : decode cX10_forget 7 = .ok (.istore_n 1, 1) := by decide +kernel
theorem dX10_forget_8 : decode cX10_forget 8 = .ok (.aload_n 0, 1) := by decide +kernel
theorem dX10_forget_9 : decode cX10_forget 9 = .ok (.getfield 51, 3) := by decide +kernel
theorem dX10_forget_12 : decode cX10_forget 12 = .ok (.iconst 0, 1) := by decide +kernel
theorem dX10_forget_13 : decode cX10_forget 13 = .ok (.putfield 102, 3) := by decide +kernel
theorem dX10_forget_16 : decode cX10_forget 16 = .ok (.iload_n 1, 1) := by decide +kernel
theorem dX10_forget_17 : decode cX10_forget 17 = .ok (.ireturn, 1) := by decide +kernel
set_option maxRecDepth 20000 in
theorem ggX10_lies_X0_tooSoon : GoodIn wsX10_lies wsX0_tooSoon := goodIn_r _ [7, 8, 9, 10, 11, 12, 13, 14, 15, 30, 31, 32, 33, 34, 35, 36, 37, 38, 39, 40, 41, 42] (by decide +kernel) (by decide +kernel)
set_option maxRecDepth 20000 in
theorem gX10_lies_X0_tooSoon : GoodIn wsX10_lies (wsV RX10 271 RX0 yX0_tooSoon wsX0_tooSoon) := goodIn_app (goodIn_of _ (by decide +kernel)) ggX10_lies_X0_tooSoon
theorem dX10_lies_0 : decode cX10_lies 0 = .ok (.aload_n 0, 1) := by decide +kernel
theorem dX10_lies_1 : decode cX10_lies 1 = .ok (.getfield 51, 3) := by decide +kernel
theorem dX10_lies_4 : decode cX10_lies 4 = .ok (.aload_n 0, 1) := by decide +kernel
theorem dX10_lies_5 : decode cX10_lies 5 = .ok (.getfield 26, 3) := by decide +kernel
theorem dX10_lies_8 : decode cX10_lies 8 = .ok (.invokevirtual 271, 3) := by decide +kernel
theorem dX10_lies_11 : decode cX10_lies 11 = .ok (.ireturn, 1) := by decide +kernel
set_option maxRecDepth 20000 in
theorem ggX10_had_X0_possibleHolders : GoodIn wsX10_had wsX0_possibleHolders := goodIn_r _ [7, 8, 9, 10, 11, 12, 6, 13, 14, 15, 16, 17, 18, 19, 20, 21, 22, 23, 24, 25, 26, 27, 28, 29, 30, 31, 32, 33, 34, 49, 50, 51, 52, 53, 54, 55, 56, 57, 58, 59, 60, 61] (by decide +kernel) (by decide +kernel)
set_option maxRecDepth 20000 in
theorem gX10_had_X0_possibleHolders : GoodIn wsX10_had (wsV RX10 274 RX0 yX0_possibleHolders wsX0_possibleHolders) := goodIn_app (goodIn_of _ (by decide +kernel)) ggX10_had_X0_possibleHolders
theorem dX10_had_0 : decode cX10_had 0 = .ok (.iload_n 1, 1) := by decide +kernel
theorem dX10_had_1 : decode cX10_had 1 = .ok (.ifCond .lt 9, 3) := by decide +kernel
theorem dX10_had_4 : decode cX10_had 4 = .ok (.iload_n 1, 1) := by decide +kernel
theorem dX10_had_5 : decode cX10_had 5 = .ok (.bipush 99, 2) := by decide +kernel
theorem dX10_had_7 : decode cX10_had 7 = .ok (.if_icmp .le 5, 3) := by decide +kernel
theorem dX10_had_10 : decode cX10_had 10 = .ok (.iconst (-1), 1) := by decide +kernel
theorem dX10_had_11 : decode cX10_had 11 = .ok (.ireturn, 1) := by decide +kernel
theorem dX10_had_12 : decode cX10_had 12 = .ok (.aload_n 0, 1) := by decide +kernel
theorem dX10_had_13 : decode cX10_had 13 = .ok (.getfield 51, 3) := by decide +kernel
theorem dX10_had_16 : decode cX10_had 16 = .ok (.aload_n 0, 1) := by decide +kernel
theorem dX10_had_17 : decode cX10_had 17 = .ok (.getfield 26, 3) := by decide +kernel
theorem dX10_had_20 : decode cX10_had 20 = .ok (.iload_n 1, 1) := by decide +kernel
theorem dX10_had_21 : decode cX10_had 21 = .ok (.invokevirtual 274, 3) := by decide +kernel
theorem dX10_had_24 : decode cX10_had 24 = .ok (.ireturn, 1) := by decide +kernel
set_option maxRecDepth 20000 in
theorem ggX10_mark_X4_hasOne : GoodIn wsX10_mark wsX4_hasOne := goodIn_r _ [7, 8, 67, 68, 69, 70, 71, 72, 73, 74, 75, 76] (by decide +kernel) (by decide +kernel)
set_option maxRecDepth 20000 in
theorem gX10_mark_X4_hasOne : GoodIn wsX10_mark (wsV RX10 109 RX4 yX4_hasOne wsX4_hasOne) := goodIn_app (goodIn_of _ (by decide +kernel)) ggX10_mark_X4_hasOne
set_option maxRecDepth 20000 in
theorem ggX10_mark_X10_markOfOne : GoodIn wsX10_mark wsX10_markOfOne := goodIn_r _ [13, 14, 15, 16, 17, 18, 19, 20, 21, 22, 23, 24, 53, 54, 55, 56, 57, 58, 59, 60, 61, 62, 63, 64, 65, 66, 77, 78, 79, 80, 81, 82, 83, 84, 85, 86, 87] (by decide +kernel) (by decide +kernel)
set_option maxRecDepth 20000 in
theorem gX10_mark_X10_markOfOne : GoodIn wsX10_mark (wsV RX10 278 RX10 yX10_markOfOne wsX10_markOfOne) := goodIn_app (goodIn_of _ (by decide +kernel)) ggX10_mark_X10_markOfOne
set_option maxRecDepth 20000 in
theorem ggX10_mark_X10_markOfFriend : GoodIn wsX10_mark wsX10_markOfFriend := goodIn_r _ [28, 14, 29, 15, 16, 30, 9, 10, 11, 12, 13, 17, 18, 19, 20, 21, 22, 23, 24, 53, 54, 55, 56, 57, 58, 59, 60, 61, 62, 63, 64, 65, 66, 77, 78, 79, 80, 81, 82, 83, 84, 85, 86, 87] (by decide +kernel) (by decide +kernel)
set_option maxRecDepth 20000 in
theorem gX10_mark_X10_markOfFriend : GoodIn wsX10_mark (wsV RX10 281 RX10 yX10_markOfFriend wsX10_markOfFriend) := goodIn_app (goodIn_of _ (by decide +kernel)) ggX10_mark_X10_markOfFriend
set_option maxRecDepth 20000 in
theorem ggX10_mark_X10_markOfThief : GoodIn wsX10_mark wsX10_markOfThief := goodIn_r _ [34, 14, 35, 15, 16, 36, 9, 10, 11, 12, 13, 17, 18, 19, 20, 21, 22, 23, 24, 53, 54, 55, 56, 57, 58, 59, 60, 61, 62, 63, 64, 65, 66, 77, 78, 79, 80, 81, 82, 83, 84, 85, 86, 87] (by decide +kernel) (by decide +kernel)
set_option maxRecDepth 20000 in
theorem gX10_mark_X10_markOfThief : GoodIn wsX10_mark (wsV RX10 284 RX10 yX10_markOfThief wsX10_markOfThief) := goodIn_app (goodIn_of _ (by decide +kernel)) ggX10_mark_X10_markOfThief
set_option maxRecDepth 20000 in
theorem ggX10_mark_X10_markOfWidow : GoodIn wsX10_mark wsX10_markOfWidow := goodIn_r _ [40, 14, 41, 25, 26, 27, 12, 28, 29, 15, 16, 30, 9, 10, 11, 13, 17, 18, 19, 20, 21, 22, 23, 24, 53, 54, 55, 56, 57, 58, 59, 60, 61, 62, 63, 64, 65, 66, 77, 78, 79, 80, 81, 82, 83, 84, 85, 86, 87] (by decide +kernel) (by decide +kernel)
set_option maxRecDepth 20000 in
theorem gX10_mark_X10_markOfWidow : GoodIn wsX10_mark (wsV RX10 287 RX10 yX10_markOfWidow wsX10_markOfWidow) := goodIn_app (goodIn_of _ (by decide +kernel)) ggX10_mark_X10_markOfWidow
set_option maxRecDepth 20000 in
theorem ggX10_mark_X10_markOfPilot : GoodIn wsX10_mark wsX10_markOfPilot := goodIn_r _ [45, 14, 46, 31, 32, 33, 12, 34, 35, 15, 16, 36, 9, 10, 11, 13, 17, 18, 19, 20, 21, 22, 23, 24, 53, 54, 55, 56, 57, 58, 59, 60, 61, 62, 63, 64, 65, 66, 77, 78, 79, 80, 81, 82, 83, 84, 85, 86, 87] (by decide +kernel) (by decide +kernel)
set_option maxRecDepth 20000 in
theorem gX10_mark_X10_markOfPilot : GoodIn wsX10_mark (wsV RX10 290 RX10 yX10_markOfPilot wsX10_markOfPilot) := goodIn_app (goodIn_of _ (by decide +kernel)) ggX10_mark_X10_markOfPilot
set_option maxRecDepth 20000 in
theorem ggX10_mark_X10_markOfClerk : GoodIn wsX10_mark wsX10_markOfClerk := goodIn_r _ [50, 14, 51, 15, 16, 52, 9, 10, 11, 12, 13, 17, 18, 19, 20, 21, 22, 23, 24, 53, 54, 55, 56, 57, 58, 59, 60, 61, 62, 63, 64, 65, 66, 77, 78, 79, 80, 81, 82, 83, 84, 85, 86, 87] (by decide +kernel) (by decide +kernel)
set_option maxRecDepth 20000 in
theorem gX10_mark_X10_markOfClerk : GoodIn wsX10_mark (wsV RX10 293 RX10 yX10_markOfClerk wsX10_markOfClerk) := goodIn_app (goodIn_of _ (by decide +kernel)) ggX10_mark_X10_markOfClerk
theorem dX10_mark_0 : decode cX10_mark 0 = .ok (.aload_n 0, 1) := by decide +kernel
theorem dX10_mark_1 : decode cX10_mark 1 = .ok (.getfield 26, 3) := by decide +kernel
theorem dX10_mark_4 : decode cX10_mark 4 = .ok (.iload_n 2, 1) := by decide +kernel
theorem dX10_mark_5 : decode cX10_mark 5 = .ok (.invokevirtual 109, 3) := by decide +kernel
theorem dX10_mark_8 : decode cX10_mark 8 = .ok (.ifCond .ne 7, 3) := by decide +kernel
theorem dX10_mark_11 : decode cX10_mark 11 = .ok (.ldc_w 277, 3) := by decide +kernel
theorem dX10_mark_14 : decode cX10_mark 14 = .ok (.ireturn, 1) := by decide +kernel
theorem dX10_mark_15 : decode cX10_mark 15 = .ok (.iload_n 1, 1) := by decide +kernel
theorem dX10_mark_16 : decode cX10_mark 16 = .ok (.tableswitch 76 0 5 #[40, 46, 52, 58, 64, 70], 40) := by decide +kernel
theorem dX10_mark_56 : decode cX10_mark 56 = .ok (.aload_n 0, 1) := by decide +kernel
theorem dX10_mark_57 : decode cX10_mark 57 = .ok (.iload_n 2, 1) := by decide +kernel
theorem dX10_mark_58 : decode cX10_mark 58 = .ok (.invokevirtual 278, 3) := by decide +kernel
theorem dX10_mark_61 : decode cX10_mark 61 = .ok (.ireturn, 1) := by decide +kernel
theorem dX10_mark_62 : decode cX10_mark 62 = .ok (.aload_n 0, 1) := by decide +kernel
theorem dX10_mark_63 : decode cX10_mark 63 = .ok (.iload_n 2, 1) := by decide +kernel
theorem dX10_mark_64 : decode cX10_mark 64 = .ok (.invokevirtual 281, 3) := by decide +kernel
theorem dX10_mark_67 : decode cX10_mark 67 = .ok (.ireturn, 1) := by decide +kernel
theorem dX10_mark_68 : decode cX10_mark 68 = .ok (.aload_n 0, 1) := by decide +kernel
theorem dX10_mark_69 : decode cX10_mark 69 = .ok (.iload_n 2, 1) := by decide +kernel
theorem dX10_mark_70 : decode cX10_mark 70 = .ok (.invokevirtual 284, 3) := by decide +kernel
theorem dX10_mark_73 : decode cX10_mark 73 = .ok (.ireturn, 1) := by decide +kernel
theorem dX10_mark_74 : decode cX10_mark 74 = .ok (.aload_n 0, 1) := by decide +kernel
theorem dX10_mark_75 : decode cX10_mark 75 = .ok (.iload_n 2, 1) := by decide +kernel
theorem dX10_mark_76 : decode cX10_mark 76 = .ok (.invokevirtual 287, 3) := by decide +kernel
theorem dX10_mark_79 : decode cX10_mark 79 = .ok (.ireturn, 1) := by decide +kernel
theorem dX10_mark_80 : decode cX10_mark 80 = .ok (.aload_n 0, 1) := by decide +kernel
theorem dX10_mark_81 : decode cX10_mark 81 = .ok (.iload_n 2, 1) := by decide +kernel
theorem dX10_mark_82 : decode cX10_mark 82 = .ok (.invokevirtual 290, 3) := by decide +kernel
theorem dX10_mark_85 : decode cX10_mark 85 = .ok (.ireturn, 1) := by decide +kernel
theorem dX10_mark_86 : decode cX10_mark 86 = .ok (.aload_n 0, 1) := by decide +kernel
theorem dX10_mark_87 : decode cX10_mark 87 = .ok (.iload_n 2, 1) := by decide +kernel
theorem dX10_mark_88 : decode cX10_mark 88 = .ok (.invokevirtual 293, 3) := by decide +kernel
theorem dX10_mark_91 : decode cX10_mark 91 = .ok (.ireturn, 1) := by decide +kernel
theorem dX10_mark_92 : decode cX10_mark 92 = .ok (.ldc_w 277, 3) := by decide +kernel
theorem dX10_mark_95 : decode cX10_mark 95 = .ok (.ireturn, 1) := by decide +kernel
set_option maxRecDepth 20000 in
theorem ggX10_markOfOne_X2_careOf : GoodIn wsX10_markOfOne wsX2_careOf := goodIn_r _ [8, 9, 10, 11, 29, 30, 31, 32, 33, 34, 35, 36] (by decide +kernel) (by decide +kernel)
set_option maxRecDepth 20000 in
theorem gX10_markOfOne_X2_careOf : GoodIn wsX10_markOfOne (wsV RX10 128 RX2 yX2_careOf wsX2_careOf) := goodIn_app (goodIn_of _ (by decide +kernel)) ggX10_markOfOne_X2_careOf
theorem dX10_markOfOne_0 : decode cX10_markOfOne 0 = .ok (.aload_n 0, 1) := by decide +kernel
theorem dX10_markOfOne_1 : decode cX10_markOfOne 1 = .ok (.dup, 1) := by decide +kernel
theorem dX10_markOfOne_2 : decode cX10_markOfOne 2 = .ok (.getfield 296, 3) := by decide +kernel
theorem dX10_markOfOne_5 : decode cX10_markOfOne 5 = .ok (.lconst 1, 1) := by decide +kernel
theorem dX10_markOfOne_6 : decode cX10_markOfOne 6 = .ok (.ladd, 1) := by decide +kernel
theorem dX10_markOfOne_7 : decode cX10_markOfOne 7 = .ok (.putfield 296, 3) := by decide +kernel
theorem dX10_markOfOne_10 : decode cX10_markOfOne 10 = .ok (.aload_n 0, 1) := by decide +kernel
theorem dX10_markOfOne_11 : decode cX10_markOfOne 11 = .ok (.getfield 36, 3) := by decide +kernel
theorem dX10_markOfOne_14 : decode cX10_markOfOne 14 = .ok (.getfield 113, 3) := by decide +kernel
theorem dX10_markOfOne_17 : decode cX10_markOfOne 17 = .ok (.iload_n 1, 1) := by decide +kernel
theorem dX10_markOfOne_18 : decode cX10_markOfOne 18 = .ok (.invokevirtual 128, 3) := by decide +kernel
theorem dX10_markOfOne_21 : decode cX10_markOfOne 21 = .ok (.ireturn, 1) := by decide +kernel
set_option maxRecDepth 20000 in
theorem ggX10_markOfFriend_X10_markOfOne : GoodIn wsX10_markOfFriend wsX10_markOfOne := goodIn_r _ [10, 1, 3, 4, 11, 12, 13, 14, 15, 16, 17, 18, 19, 20, 21, 22, 23, 24, 25, 26, 27, 28, 29, 30, 31, 32, 33, 34, 35, 36, 37, 38, 39, 40, 41, 42, 43] (by decide +kernel) (by decide +kernel)
set_option maxRecDepth 20000 in
theorem gX10_markOfFriend_X10_markOfOne : GoodIn wsX10_markOfFriend (wsV RX10 278 RX10 yX10_markOfOne wsX10_markOfOne) := goodIn_app (goodIn_of _ (by decide +kernel)) ggX10_markOfFriend_X10_markOfOne
theorem dX10_markOfFriend_0 : decode cX10_markOfFriend 0 = .ok (.aload_n 0, 1) := by decide +kernel
theorem dX10_markOfFriend_1 : decode cX10_markOfFriend 1 = .ok (.dup, 1) := by decide +kernel
theorem dX10_markOfFriend_2 : decode cX10_markOfFriend 2 = .ok (.getfield 296, 3) := by decide +kernel
theorem dX10_markOfFriend_5 : decode cX10_markOfFriend 5 = .ok (.ldc2_w 300, 3) := by decide +kernel
theorem dX10_markOfFriend_8 : decode cX10_markOfFriend 8 = .ok (.ladd, 1) := by decide +kernel
theorem dX10_markOfFriend_9 : decode cX10_markOfFriend 9 = .ok (.putfield 296, 3) := by decide +kernel
theorem dX10_markOfFriend_12 : decode cX10_markOfFriend 12 = .ok (.aload_n 0, 1) := by decide +kernel
theorem dX10_markOfFriend_13 : decode cX10_markOfFriend 13 = .ok (.iload_n 1, 1) := by decide +kernel
theorem dX10_markOfFriend_14 : decode cX10_markOfFriend 14 = .ok (.invokevirtual 278, 3) := by decide +kernel
theorem dX10_markOfFriend_17 : decode cX10_markOfFriend 17 = .ok (.aload_n 0, 1) := by decide +kernel
theorem dX10_markOfFriend_18 : decode cX10_markOfFriend 18 = .ok (.getfield 36, 3) := by decide +kernel
theorem dX10_markOfFriend_21 : decode cX10_markOfFriend 21 = .ok (.getfield 113, 3) := by decide +kernel
theorem dX10_markOfFriend_24 : decode cX10_markOfFriend 24 = .ok (.getfield 125, 3) := by decide +kernel
theorem dX10_markOfFriend_27 : decode cX10_markOfFriend 27 = .ok (.iload_n 1, 1) := by decide +kernel
theorem dX10_markOfFriend_28 : decode cX10_markOfFriend 28 = .ok (.iaload, 1) := by decide +kernel
theorem dX10_markOfFriend_29 : decode cX10_markOfFriend 29 = .ok (.iadd, 1) := by decide +kernel
theorem dX10_markOfFriend_30 : decode cX10_markOfFriend 30 = .ok (.ireturn, 1) := by decide +kernel
set_option maxRecDepth 20000 in
theorem ggX10_markOfThief_X10_markOfOne : GoodIn wsX10_markOfThief wsX10_markOfOne := goodIn_r _ [10, 1, 3, 4, 11, 12, 13, 14, 15, 16, 17, 18, 19, 20, 21, 22, 23, 24, 25, 26, 27, 28, 29, 30, 31, 32, 33, 34, 35, 36, 37, 38, 39, 40, 41, 42, 43] (by decide +kernel) (by decide +kernel)
set_option maxRecDepth 20000 in
theorem gX10_markOfThief_X10_markOfOne : GoodIn wsX10_markOfThief (wsV RX10 278 RX10 yX10_markOfOne wsX10_markOfOne) := goodIn_app (goodIn_of _ (by decide +kernel)) ggX10_markOfThief_X10_markOfOne
theorem dX10_markOfThief_0 : decode cX10_markOfThief 0 = .ok (.aload_n 0, 1) := by decide +kernel
theorem dX10_markOfThief_1 : decode cX10_markOfThief 1 = .ok (.dup, 1) := by decide +kernel
theorem dX10_markOfThief_2 : decode cX10_markOfThief 2 = .ok (.getfield 296, 3) := by decide +kernel
theorem dX10_markOfThief_5 : decode cX10_markOfThief 5 = .ok (.ldc2_w 302, 3) := by decide +kernel
theorem dX10_markOfThief_8 : decode cX10_markOfThief 8 = .ok (.ladd, 1) := by decide +kernel
theorem dX10_markOfThief_9 : decode cX10_markOfThief 9 = .ok (.putfield 296, 3) := by decide +kernel
theorem dX10_markOfThief_12 : decode cX10_markOfThief 12 = .ok (.aload_n 0, 1) := by decide +kernel
theorem dX10_markOfThief_13 : decode cX10_markOfThief 13 = .ok (.iload_n 1, 1) := by decide +kernel
theorem dX10_markOfThief_14 : decode cX10_markOfThief 14 = .ok (.invokevirtual 278, 3) := by decide +kernel
theorem dX10_markOfThief_17 : decode cX10_markOfThief 17 = .ok (.aload_n 0, 1) := by decide +kernel
theorem dX10_markOfThief_18 : decode cX10_markOfThief 18 = .ok (.getfield 36, 3) := by decide +kernel
theorem dX10_markOfThief_21 : decode cX10_markOfThief 21 = .ok (.getfield 113, 3) := by decide +kernel
theorem dX10_markOfThief_24 : decode cX10_markOfThief 24 = .ok (.getfield 120, 3) := by decide +kernel
theorem dX10_markOfThief_27 : decode cX10_markOfThief 27 = .ok (.iload_n 1, 1) := by decide +kernel
theorem dX10_markOfThief_28 : decode cX10_markOfThief 28 = .ok (.iaload, 1) := by decide +kernel
theorem dX10_markOfThief_29 : decode cX10_markOfThief 29 = .ok (.isub, 1) := by decide +kernel
theorem dX10_markOfThief_30 : decode cX10_markOfThief 30 = .ok (.ireturn, 1) := by decide +kernel
set_option maxRecDepth 20000 in
theorem ggX10_markOfWidow_X10_markOfFriend : GoodIn wsX10_markOfWidow wsX10_markOfFriend := goodIn_r _ [7, 1, 8, 9, 10, 11, 12, 13, 14, 6, 15, 16, 17, 18, 19, 20, 21, 22, 23, 24, 25, 26, 27, 28, 29, 30, 31, 32, 33, 34, 35, 36, 37, 38, 39, 40, 41, 42, 43, 44, 45, 46, 47, 48] (by decide +kernel) (by decide +kernel)
set_option maxRecDepth 20000 in
theorem gX10_markOfWidow_X10_markOfFriend : GoodIn wsX10_markOfWidow (wsV RX10 281 RX10 yX10_markOfFriend wsX10_markOfFriend) := goodIn_app (goodIn_of _ (by decide +kernel)) ggX10_markOfWidow_X10_markOfFriend
theorem dX10_markOfWidow_0 : decode cX10_markOfWidow 0 = .ok (.aload_n 0, 1) := by decide +kernel
theorem dX10_markOfWidow_1 : decode cX10_markOfWidow 1 = .ok (.dup, 1) := by decide +kernel
theorem dX10_markOfWidow_2 : decode cX10_markOfWidow 2 = .ok (.getfield 296, 3) := by decide +kernel
theorem dX10_markOfWidow_5 : decode cX10_markOfWidow 5 = .ok (.ldc2_w 304, 3) := by decide +kernel
theorem dX10_markOfWidow_8 : decode cX10_markOfWidow 8 = .ok (.ladd, 1) := by decide +kernel
theorem dX10_markOfWidow_9 : decode cX10_markOfWidow 9 = .ok (.putfield 296, 3) := by decide +kernel
theorem dX10_markOfWidow_12 : decode cX10_markOfWidow 12 = .ok (.aload_n 0, 1) := by decide +kernel
theorem dX10_markOfWidow_13 : decode cX10_markOfWidow 13 = .ok (.iload_n 1, 1) := by decide +kernel
theorem dX10_markOfWidow_14 : decode cX10_markOfWidow 14 = .ok (.invokevirtual 281, 3) := by decide +kernel
theorem dX10_markOfWidow_17 : decode cX10_markOfWidow 17 = .ok (.iconst 2, 1) := by decide +kernel
theorem dX10_markOfWidow_18 : decode cX10_markOfWidow 18 = .ok (.imul, 1) := by decide +kernel
theorem dX10_markOfWidow_19 : decode cX10_markOfWidow 19 = .ok (.ireturn, 1) := by decide +kernel
set_option maxRecDepth 20000 in
theorem ggX10_markOfPilot_X10_markOfThief : GoodIn wsX10_markOfPilot wsX10_markOfThief := goodIn_r _ [7, 1, 8, 9, 10, 11, 12, 13, 14, 6, 15, 16, 17, 18, 19, 20, 21, 22, 23, 24, 25, 26, 27, 28, 29, 30, 31, 32, 33, 34, 35, 36, 37, 38, 39, 40, 41, 42, 43, 44, 45, 46, 47, 48] (by decide +kernel) (by decide +kernel)
set_option maxRecDepth 20000 in
theorem gX10_markOfPilot_X10_markOfThief : GoodIn wsX10_markOfPilot (wsV RX10 284 RX10 yX10_markOfThief wsX10_markOfThief) := goodIn_app (goodIn_of _ (by decide +kernel)) ggX10_markOfPilot_X10_markOfThief
theorem dX10_markOfPilot_0 : decode cX10_markOfPilot 0 = .ok (.aload_n 0, 1) := by decide +kernel
theorem dX10_markOfPilot_1 : decode cX10_markOfPilot 1 = .ok (.dup, 1) := by decide +kernel
theorem dX10_markOfPilot_2 : decode cX10_markOfPilot 2 = .ok (.getfield 296, 3) := by decide +kernel
theorem dX10_markOfPilot_5 : decode cX10_markOfPilot 5 = .ok (.ldc2_w 306, 3) := by decide +kernel
theorem dX10_markOfPilot_8 : decode cX10_markOfPilot 8 = .ok (.ladd, 1) := by decide +kernel
theorem dX10_markOfPilot_9 : decode cX10_markOfPilot 9 = .ok (.putfield 296, 3) := by decide +kernel
theorem dX10_markOfPilot_12 : decode cX10_markOfPilot 12 = .ok (.aload_n 0, 1) := by decide +kernel
theorem dX10_markOfPilot_13 : decode cX10_markOfPilot 13 = .ok (.iload_n 1, 1) := by decide +kernel
theorem dX10_markOfPilot_14 : decode cX10_markOfPilot 14 = .ok (.invokevirtual 284, 3) := by decide +kernel
theorem dX10_markOfPilot_17 : decode cX10_markOfPilot 17 = .ok (.iload_n 1, 1) := by decide +kernel
theorem dX10_markOfPilot_18 : decode cX10_markOfPilot 18 = .ok (.iadd, 1) := by decide +kernel
theorem dX10_markOfPilot_19 : decode cX10_markOfPilot 19 = .ok (.ireturn, 1) := by decide +kernel
set_option maxRecDepth 20000 in
theorem ggX10_markOfClerk_X10_markOfOne : GoodIn wsX10_markOfClerk wsX10_markOfOne := goodIn_r _ [10, 1, 3, 4, 11, 12, 13, 14, 15, 16, 17, 18, 19, 20, 21, 22, 23, 24, 25, 26, 27, 28, 29, 30, 31, 32, 33, 34, 35, 36, 37, 38, 39, 40, 41, 42, 43] (by decide +kernel) (by decide +kernel)
set_option maxRecDepth 20000 in
theorem gX10_markOfClerk_X10_markOfOne : GoodIn wsX10_markOfClerk (wsV RX10 278 RX10 yX10_markOfOne wsX10_markOfOne) := goodIn_app (goodIn_of _ (by decide +kernel)) ggX10_markOfClerk_X10_markOfOne
theorem dX10_markOfClerk_0 : decode cX10_markOfClerk 0 = .ok (.aload_n 0, 1) := by decide +kernel
theorem dX10_markOfClerk_1 : decode cX10_markOfClerk 1 = .ok (.dup, 1) := by decide +kernel
theorem dX10_markOfClerk_2 : decode cX10_markOfClerk 2 = .ok (.getfield 296, 3) := by decide +kernel
theorem dX10_markOfClerk_5 : decode cX10_markOfClerk 5 = .ok (.ldc2_w 308, 3) := by decide +kernel
theorem dX10_markOfClerk_8 : decode cX10_markOfClerk 8 = .ok (.ladd, 1) := by decide +kernel
theorem dX10_markOfClerk_9 : decode cX10_markOfClerk 9 = .ok (.putfield 296, 3) := by decide +kernel
theorem dX10_markOfClerk_12 : decode cX10_markOfClerk 12 = .ok (.aload_n 0, 1) := by decide +kernel
theorem dX10_markOfClerk_13 : decode cX10_markOfClerk 13 = .ok (.iload_n 1, 1) := by decide +kernel
theorem dX10_markOfClerk_14 : decode cX10_markOfClerk 14 = .ok (.invokevirtual 278, 3) := by decide +kernel
theorem dX10_markOfClerk_17 : decode cX10_markOfClerk 17 = .ok (.aload_n 0, 1) := by decide +kernel
theorem dX10_markOfClerk_18 : decode cX10_markOfClerk 18 = .ok (.getfield 36, 3) := by decide +kernel
theorem dX10_markOfClerk_21 : decode cX10_markOfClerk 21 = .ok (.getfield 113, 3) := by decide +kernel
theorem dX10_markOfClerk_24 : decode cX10_markOfClerk 24 = .ok (.getfield 185, 3) := by decide +kernel
theorem dX10_markOfClerk_27 : decode cX10_markOfClerk 27 = .ok (.iadd, 1) := by decide +kernel
theorem dX10_markOfClerk_28 : decode cX10_markOfClerk 28 = .ok (.ireturn, 1) := by decide +kernel
set_option maxRecDepth 20000 in
theorem ggX10_keep_X1_copyFrom : GoodIn wsX10_keep wsX1_copyFrom := goodIn_r _ [10, 11, 12, 13, 14, 15, 16, 17, 18, 19, 20, 21, 22, 23, 24, 25, 26, 27, 28, 29, 30, 45, 46, 47, 48, 49, 50, 51, 52, 53, 54, 55] (by decide +kernel) (by decide +kernel)
set_option maxRecDepth 20000 in
theorem gX10_keep_X1_copyFrom : GoodIn wsX10_keep (wsV RX10 310 RX1 yX1_copyFrom wsX1_copyFrom) := goodIn_app (goodIn_of _ (by decide +kernel)) ggX10_keep_X1_copyFrom
theorem dX10_keep_0 : decode cX10_keep 0 = .ok (.iload_n 1, 1) := by decide +kernel
theorem dX10_keep_1 : decode cX10_keep 1 = .ok (.ifCond .lt 8, 3) := by decide +kernel
theorem dX10_keep_4 : decode cX10_keep 4 = .ok (.iload_n 1, 1) := by decide +kernel
theorem dX10_keep_5 : decode cX10_keep 5 = .ok (.iconst 2, 1) := by decide +kernel
theorem dX10_keep_6 : decode cX10_keep 6 = .ok (.if_icmp .lt 5, 3) := by decide +kernel
theorem dX10_keep_9 : decode cX10_keep 9 = .ok (.iconst (-1), 1) := by decide +kernel
theorem dX10_keep_10 : decode cX10_keep 10 = .ok (.ireturn, 1) := by decide +kernel
theorem dX10_keep_11 : decode cX10_keep 11 = .ok (.aload_n 0, 1) := by decide +kernel
theorem dX10_keep_12 : decode cX10_keep 12 = .ok (.getfield 40, 3) := by decide +kernel
theorem dX10_keep_15 : decode cX10_keep 15 = .ok (.iload_n 1, 1) := by decide +kernel
theorem dX10_keep_16 : decode cX10_keep 16 = .ok (.aaload, 1) := by decide +kernel
theorem dX10_keep_17 : decode cX10_keep 17 = .ok (.aload_n 0, 1) := by decide +kernel
theorem dX10_keep_18 : decode cX10_keep 18 = .ok (.getfield 36, 3) := by decide +kernel
theorem dX10_keep_21 : decode cX10_keep 21 = .ok (.invokevirtual 310, 3) := by decide +kernel
theorem dX10_keep_24 : decode cX10_keep 24 = .ok (.aload_n 0, 1) := by decide +kernel
theorem dX10_keep_25 : decode cX10_keep 25 = .ok (.getfield 44, 3) := by decide +kernel
theorem dX10_keep_28 : decode cX10_keep 28 = .ok (.iload_n 1, 1) := by decide +kernel
theorem dX10_keep_29 : decode cX10_keep 29 = .ok (.iconst 1, 1) := by decide +kernel
theorem dX10_keep_30 : decode cX10_keep 30 = .ok (.bastore, 1) := by decide +kernel
theorem dX10_keep_31 : decode cX10_keep 31 = .ok (.aload_n 0, 1) := by decide +kernel
theorem dX10_keep_32 : decode cX10_keep 32 = .ok (.getfield 36, 3) := by decide +kernel
theorem dX10_keep_35 : decode cX10_keep 35 = .ok (.getfield 113, 3) := by decide +kernel
theorem dX10_keep_38 : decode cX10_keep 38 = .ok (.getfield 185, 3) := by decide +kernel
theorem dX10_keep_41 : decode cX10_keep 41 = .ok (.ireturn, 1) := by decide +kernel
set_option maxRecDepth 20000 in
theorem ggX10_back_X1_copyFrom : GoodIn wsX10_back wsX1_copyFrom := goodIn_r _ [11, 12, 13, 14, 15, 16, 17, 18, 19, 20, 21, 22, 23, 24, 25, 26, 27, 28, 29, 30, 31, 46, 47, 48, 49, 50, 51, 52, 53, 54, 55, 56] (by decide +kernel) (by decide +kernel)
set_option maxRecDepth 20000 in
theorem gX10_back_X1_copyFrom : GoodIn wsX10_back (wsV RX10 310 RX1 yX1_copyFrom wsX1_copyFrom) := goodIn_app (goodIn_of _ (by decide +kernel)) ggX10_back_X1_copyFrom
theorem dX10_back_0 : decode cX10_back 0 = .ok (.iload_n 1, 1) := by decide +kernel
theorem dX10_back_1 : decode cX10_back 1 = .ok (.ifCond .lt 8, 3) := by decide +kernel
theorem dX10_back_4 : decode cX10_back 4 = .ok (.iload_n 1, 1) := by decide +kernel
theorem dX10_back_5 : decode cX10_back 5 = .ok (.iconst 2, 1) := by decide +kernel
theorem dX10_back_6 : decode cX10_back 6 = .ok (.if_icmp .lt 5, 3) := by decide +kernel
theorem dX10_back_9 : decode cX10_back 9 = .ok (.iconst (-1), 1) := by decide +kernel
theorem dX10_back_10 : decode cX10_back 10 = .ok (.ireturn, 1) := by decide +kernel
theorem dX10_back_11 : decode cX10_back 11 = .ok (.aload_n 0, 1) := by decide +kernel
theorem dX10_back_12 : decode cX10_back 12 = .ok (.getfield 44, 3) := by decide +kernel
theorem dX10_back_15 : decode cX10_back 15 = .ok (.iload_n 1, 1) := by decide +kernel
theorem dX10_back_16 : decode cX10_back 16 = .ok (.baload, 1) := by decide +kernel
theorem dX10_back_17 : decode cX10_back 17 = .ok (.ifCond .ne 6, 3) := by decide +kernel
theorem dX10_back_20 : decode cX10_back 20 = .ok (.bipush (-2), 2) := by decide +kernel
theorem dX10_back_22 : decode cX10_back 22 = .ok (.ireturn, 1) := by decide +kernel
theorem dX10_back_23 : decode cX10_back 23 = .ok (.aload_n 0, 1) := by decide +kernel
theorem dX10_back_24 : decode cX10_back 24 = .ok (.getfield 36, 3) := by decide +kernel
theorem dX10_back_27 : decode cX10_back 27 = .ok (.aload_n 0, 1) := by decide +kernel
theorem dX10_back_28 : decode cX10_back 28 = .ok (.getfield 40, 3) := by decide +kernel
theorem dX10_back_31 : decode cX10_back 31 = .ok (.iload_n 1, 1) := by decide +kernel
theorem dX10_back_32 : decode cX10_back 32 = .ok (.aaload, 1) := by decide +kernel
theorem dX10_back_33 : decode cX10_back 33 = .ok (.invokevirtual 310, 3) := by decide +kernel
theorem dX10_back_36 : decode cX10_back 36 = .ok (.aload_n 0, 1) := by decide +kernel
theorem dX10_back_37 : decode cX10_back 37 = .ok (.iconst 0, 1) := by decide +kernel
theorem dX10_back_38 : decode cX10_back 38 = .ok (.putfield 105, 3) := by decide +kernel
theorem dX10_back_41 : decode cX10_back 41 = .ok (.aload_n 0, 1) := by decide +kernel
theorem dX10_back_42 : decode cX10_back 42 = .ok (.getfield 36, 3) := by decide +kernel
theorem dX10_back_45 : decode cX10_back 45 = .ok (.getfield 113, 3) := by decide +kernel
theorem dX10_back_48 : decode cX10_back 48 = .ok (.getfield 185, 3) := by decide +kernel
theorem dX10_back_51 : decode cX10_back 51 = .ok (.ireturn, 1) := by decide +kernel
theorem dX10_count_0 : decode cX10_count 0 = .ok (.iload_n 1, 1) := by decide +kernel
theorem dX10_count_1 : decode cX10_count 1 = .ok (.tableswitch 99 0 6 #[43, 51, 59, 67, 75, 83, 91], 43) := by decide +kernel
theorem dX10_count_44 : decode cX10_count 44 = .ok (.aload_n 0, 1) := by decide +kernel
theorem dX10_count_45 : decode cX10_count 45 = .ok (.getfield 26, 3) := by decide +kernel
theorem dX10_count_48 : decode cX10_count 48 = .ok (.getfield 313, 3) := by decide +kernel
theorem dX10_count_51 : decode cX10_count 51 = .ok (.ireturn, 1) := by decide +kernel
theorem dX10_count_52 : decode cX10_count 52 = .ok (.aload_n 0, 1) := by decide +kernel
theorem dX10_count_53 : decode cX10_count 53 = .ok (.getfield 26, 3) := by decide +kernel
theorem dX10_count_56 : decode cX10_count 56 = .ok (.getfield 236, 3) := by decide +kernel
theorem dX10_count_59 : decode cX10_count 59 = .ok (.ireturn, 1) := by decide +kernel
theorem dX10_count_60 : decode cX10_count 60 = .ok (.aload_n 0, 1) := by decide +kernel
theorem dX10_count_61 : decode cX10_count 61 = .ok (.getfield 26, 3) := by decide +kernel
theorem dX10_count_64 : decode cX10_count 64 = .ok (.getfield 177, 3) := by decide +kernel
theorem dX10_count_67 : decode cX10_count 67 = .ok (.ireturn, 1) := by decide +kernel
theorem dX10_count_68 : decode cX10_count 68 = .ok (.aload_n 0, 1) := by decide +kernel
theorem dX10_count_69 : decode cX10_count 69 = .ok (.getfield 26, 3) := by decide +kernel
theorem dX10_count_72 : decode cX10_count 72 = .ok (.getfield 163, 3) := by decide +kernel
theorem dX10_count_75 : decode cX10_count 75 = .ok (.ireturn, 1) := by decide +kernel
theorem dX10_count_76 : decode cX10_count 76 = .ok (.aload_n 0, 1) := by decide +kernel
theorem dX10_count_77 : decode cX10_count 77 = .ok (.getfield 51, 3) := by decide +kernel
theorem dX10_count_80 : decode cX10_count 80 = .ok (.getfield 102, 3) := by decide +kernel
theorem dX10_count_83 : decode cX10_count 83 = .ok (.ireturn, 1) := by decide +kernel
theorem dX10_count_84 : decode cX10_count 84 = .ok (.aload_n 0, 1) := by decide +kernel
theorem dX10_count_85 : decode cX10_count 85 = .ok (.getfield 36, 3) := by decide +kernel
theorem dX10_count_88 : decode cX10_count 88 = .ok (.getfield 205, 3) := by decide +kernel
theorem dX10_count_91 : decode cX10_count 91 = .ok (.ireturn, 1) := by decide +kernel
theorem dX10_count_92 : decode cX10_count 92 = .ok (.aload_n 0, 1) := by decide +kernel
theorem dX10_count_93 : decode cX10_count 93 = .ok (.getfield 10, 3) := by decide +kernel
theorem dX10_count_96 : decode cX10_count 96 = .ok (.getfield 83, 3) := by decide +kernel
theorem dX10_count_99 : decode cX10_count 99 = .ok (.ireturn, 1) := by decide +kernel
theorem dX10_count_100 : decode cX10_count 100 = .ok (.iconst (-1), 1) := by decide +kernel
theorem dX10_count_101 : decode cX10_count 101 = .ok (.ireturn, 1) := by decide +kernel
theorem dX10_trace_0 : decode cX10_trace 0 = .ok (.aload_n 0, 1) := by decide +kernel
theorem dX10_trace_1 : decode cX10_trace 1 = .ok (.getfield 296, 3) := by decide +kernel
theorem dX10_trace_4 : decode cX10_trace 4 = .ok (.lreturn, 1) := by decide +kernel
set_option maxRecDepth 20000 in
theorem ggX11_init_X11_reads : GoodIn wsX11_init wsX11_reads := goodIn_r _ [22, 7, 23, 24, 25, 26, 27, 21, 28, 29, 30, 5, 31, 32, 33, 34, 35, 36, 37, 38, 39, 40, 41, 42, 43, 44, 45, 46, 47, 48, 49, 50, 51, 52, 53, 54, 55, 56, 62, 63, 64, 65, 66, 67, 68, 69, 70, 71, 72, 73, 74, 75, 76, 77, 78, 79, 80, 81, 82, 83] (by decide +kernel) (by decide +kernel)
set_option maxRecDepth 20000 in
theorem gX11_init_X11_reads : GoodIn wsX11_init (wsV RX11 47 RX11 yX11_reads wsX11_reads) := goodIn_app (goodIn_of _ (by decide +kernel)) ggX11_init_X11_reads
set_option maxRecDepth 20000 in
theorem ggX11_init_X11_begins : GoodIn wsX11_init wsX11_begins := goodIn_r _ [60, 6, 7, 8, 61, 11, 39, 40, 21, 41, 62, 63, 64, 65, 66, 67, 68, 69, 70, 71, 72, 73, 74, 75, 76, 77, 78, 79, 80, 81, 82, 83] (by decide +kernel) (by decide +kernel)
set_option maxRecDepth 20000 in
theorem gX11_init_X11_begins : GoodIn wsX11_init (wsV RX11 51 RX11 yX11_begins wsX11_begins) := goodIn_app (goodIn_of _ (by decide +kernel)) ggX11_init_X11_begins
theorem dX11_init_0 : decode cX11_init 0 = .ok (.aload_n 0, 1) := by decide +kernel
theorem dX11_init_1 : decode cX11_init 1 = .ok (.invokespecial 1, 3) := by decide +kernel
theorem dX11_init_4 : decode cX11_init 4 = .ok (.aload_n 0, 1) := by decide +kernel
theorem dX11_init_5 : decode cX11_init 5 = .ok (.sipush 180, 3) := by decide +kernel
theorem dX11_init_8 : decode cX11_init 8 = .ok (.newarray .int, 2) := by decide +kernel
theorem dX11_init_10 : decode cX11_init 10 = .ok (.putfield 7, 3) := by decide +kernel
theorem dX11_init_13 : decode cX11_init 13 = .ok (.aload_n 0, 1) := by decide +kernel
theorem dX11_init_14 : decode cX11_init 14 = .ok (.bipush 52, 2) := by decide +kernel
theorem dX11_init_16 : decode cX11_init 16 = .ok (.newarray .int, 2) := by decide +kernel
theorem dX11_init_18 : decode cX11_init 18 = .ok (.putfield 13, 3) := by decide +kernel
theorem dX11_init_21 : decode cX11_init 21 = .ok (.aload_n 0, 1) := by decide +kernel
theorem dX11_init_22 : decode cX11_init 22 = .ok (.bipush 52, 2) := by decide +kernel
