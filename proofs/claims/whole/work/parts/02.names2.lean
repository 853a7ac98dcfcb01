theorem dX5_readDeed_119 : decode cX5_readDeed 119 = .ok (.ireturn, 1) := by decide +kernel
theorem dX5_readDeed_120 : decode cX5_readDeed 120 = .ok (.aload_n 2, 1) := by decide +kernel
theorem dX5_readDeed_121 : decode cX5_readDeed 121 = .ok (.getfield 87, 3) := by decide +kernel
theorem dX5_readDeed_124 : decode cX5_readDeed 124 = .ok (.iload_n 3, 1) := by decide +kernel
theorem dX5_readDeed_125 : decode cX5_readDeed 125 = .ok (.aload_n 1, 1) := by decide +kernel
theorem dX5_readDeed_126 : decode cX5_readDeed 126 = .ok (.getfield 42, 3) := by decide +kernel
theorem dX5_readDeed_129 : decode cX5_readDeed 129 = .ok (.iastore, 1) := by decide +kernel
theorem dX5_readDeed_130 : decode cX5_readDeed 130 = .ok (.aload_n 2, 1) := by decide +kernel
theorem dX5_readDeed_131 : decode cX5_readDeed 131 = .ok (.dup, 1) := by decide +kernel
theorem dX5_readDeed_132 : decode cX5_readDeed 132 = .ok (.getfield 72, 3) := by decide +kernel
theorem dX5_readDeed_135 : decode cX5_readDeed 135 = .ok (.iconst 1, 1) := by decide +kernel
theorem dX5_readDeed_136 : decode cX5_readDeed 136 = .ok (.iadd, 1) := by decide +kernel
theorem dX5_readDeed_137 : decode cX5_readDeed 137 = .ok (.putfield 72, 3) := by decide +kernel
theorem dX5_readDeed_140 : decode cX5_readDeed 140 = .ok (.aload_n 1, 1) := by decide +kernel
theorem dX5_readDeed_141 : decode cX5_readDeed 141 = .ok (.invokestatic 68, 3) := by decide +kernel
theorem dX5_readDeed_144 : decode cX5_readDeed 144 = .ok (.ireturn, 1) := by decide +kernel
set_option maxRecDepth 20000 in
theorem ggX5_readOffice_X5_readNumber : GoodIn wsX5_readOffice wsX5_readNumber := goodIn_r _ [7, 8, 2, 9, 10, 11, 12, 13, 14, 15, 16, 17, 18, 19, 20, 21, 22, 23, 24, 25, 26, 27, 28, 29, 30, 31, 32, 33, 39, 40, 41, 42, 43, 44] (by decide +kernel) (by decide +kernel)
set_option maxRecDepth 20000 in
theorem gX5_readOffice_X5_readNumber : GoodIn wsX5_readOffice (va_wsS RX5 60 yX5_readNumber wsX5_readNumber) := goodIn_app (goodIn_of _ (by decide +kernel)) ggX5_readOffice_X5_readNumber
set_option maxRecDepth 20000 in
theorem ggX5_readOffice_X5_readStop : GoodIn wsX5_readOffice wsX5_readStop := goodIn_r _ [36, 8, 9, 10, 11, 12, 13, 14, 15, 16, 17, 18, 19, 20, 21, 22, 23, 24, 25, 26, 27, 28, 29, 30, 31, 32, 33, 39, 40, 41, 42, 43, 44] (by decide +kernel) (by decide +kernel)
set_option maxRecDepth 20000 in
theorem gX5_readOffice_X5_readStop : GoodIn wsX5_readOffice (va_wsS RX5 68 yX5_readStop wsX5_readStop) := goodIn_app (goodIn_of _ (by decide +kernel)) ggX5_readOffice_X5_readStop
theorem dX5_readOffice_0 : decode cX5_readOffice 0 = .ok (.aload_n 0, 1) := by decide +kernel
theorem dX5_readOffice_1 : decode cX5_readOffice 1 = .ok (.getfield 19, 3) := by decide +kernel
theorem dX5_readOffice_4 : decode cX5_readOffice 4 = .ok (.ifCond .ne 13, 3) := by decide +kernel
theorem dX5_readOffice_7 : decode cX5_readOffice 7 = .ok (.aload_n 1, 1) := by decide +kernel
theorem dX5_readOffice_8 : decode cX5_readOffice 8 = .ok (.iconst 0, 1) := by decide +kernel
theorem dX5_readOffice_9 : decode cX5_readOffice 9 = .ok (.bipush 30, 2) := by decide +kernel
theorem dX5_readOffice_11 : decode cX5_readOffice 11 = .ok (.invokestatic 60, 3) := by decide +kernel
theorem dX5_readOffice_14 : decode cX5_readOffice 14 = .ok (.ifCond .ne 5, 3) := by decide +kernel
theorem dX5_readOffice_17 : decode cX5_readOffice 17 = .ok (.iconst 0, 1) := by decide +kernel
theorem dX5_readOffice_18 : decode cX5_readOffice 18 = .ok (.ireturn, 1) := by decide +kernel
theorem dX5_readOffice_19 : decode cX5_readOffice 19 = .ok (.aload_n 0, 1) := by decide +kernel
theorem dX5_readOffice_20 : decode cX5_readOffice 20 = .ok (.iconst 1, 1) := by decide +kernel
theorem dX5_readOffice_21 : decode cX5_readOffice 21 = .ok (.putfield 19, 3) := by decide +kernel
theorem dX5_readOffice_24 : decode cX5_readOffice 24 = .ok (.aload_n 2, 1) := by decide +kernel
theorem dX5_readOffice_25 : decode cX5_readOffice 25 = .ok (.aload_n 1, 1) := by decide +kernel
theorem dX5_readOffice_26 : decode cX5_readOffice 26 = .ok (.getfield 42, 3) := by decide +kernel
theorem dX5_readOffice_29 : decode cX5_readOffice 29 = .ok (.putfield 90, 3) := by decide +kernel
theorem dX5_readOffice_32 : decode cX5_readOffice 32 = .ok (.aload_n 1, 1) := by decide +kernel
theorem dX5_readOffice_33 : decode cX5_readOffice 33 = .ok (.invokestatic 68, 3) := by decide +kernel
theorem dX5_readOffice_36 : decode cX5_readOffice 36 = .ok (.ireturn, 1) := by decide +kernel
set_option maxRecDepth 20000 in
theorem ggX5_readFree_X5_readNumber : GoodIn wsX5_readFree wsX5_readNumber := goodIn_r _ [7, 8, 2, 9, 10, 11, 12, 13, 14, 15, 16, 17, 18, 19, 20, 21, 22, 23, 24, 25, 26, 27, 28, 29, 30, 31, 32, 33, 39, 40, 41, 42, 43, 44] (by decide +kernel) (by decide +kernel)
set_option maxRecDepth 20000 in
theorem gX5_readFree_X5_readNumber : GoodIn wsX5_readFree (va_wsS RX5 60 yX5_readNumber wsX5_readNumber) := goodIn_app (goodIn_of _ (by decide +kernel)) ggX5_readFree_X5_readNumber
set_option maxRecDepth 20000 in
theorem ggX5_readFree_X5_readStop : GoodIn wsX5_readFree wsX5_readStop := goodIn_r _ [36, 8, 9, 10, 11, 12, 13, 14, 15, 16, 17, 18, 19, 20, 21, 22, 23, 24, 25, 26, 27, 28, 29, 30, 31, 32, 33, 39, 40, 41, 42, 43, 44] (by decide +kernel) (by decide +kernel)
set_option maxRecDepth 20000 in
theorem gX5_readFree_X5_readStop : GoodIn wsX5_readFree (va_wsS RX5 68 yX5_readStop wsX5_readStop) := goodIn_app (goodIn_of _ (by decide +kernel)) ggX5_readFree_X5_readStop
theorem dX5_readFree_0 : decode cX5_readFree 0 = .ok (.aload_n 0, 1) := by decide +kernel
theorem dX5_readFree_1 : decode cX5_readFree 1 = .ok (.getfield 25, 3) := by decide +kernel
theorem dX5_readFree_4 : decode cX5_readFree 4 = .ok (.ifCond .ne 13, 3) := by decide +kernel
theorem dX5_readFree_7 : decode cX5_readFree 7 = .ok (.aload_n 1, 1) := by decide +kernel
theorem dX5_readFree_8 : decode cX5_readFree 8 = .ok (.iconst 0, 1) := by decide +kernel
theorem dX5_readFree_9 : decode cX5_readFree 9 = .ok (.bipush 9, 2) := by decide +kernel
theorem dX5_readFree_11 : decode cX5_readFree 11 = .ok (.invokestatic 60, 3) := by decide +kernel
theorem dX5_readFree_14 : decode cX5_readFree 14 = .ok (.ifCond .ne 5, 3) := by decide +kernel
theorem dX5_readFree_17 : decode cX5_readFree 17 = .ok (.iconst 0, 1) := by decide +kernel
theorem dX5_readFree_18 : decode cX5_readFree 18 = .ok (.ireturn, 1) := by decide +kernel
theorem dX5_readFree_19 : decode cX5_readFree 19 = .ok (.aload_n 0, 1) := by decide +kernel
theorem dX5_readFree_20 : decode cX5_readFree 20 = .ok (.iconst 1, 1) := by decide +kernel
theorem dX5_readFree_21 : decode cX5_readFree 21 = .ok (.putfield 25, 3) := by decide +kernel
theorem dX5_readFree_24 : decode cX5_readFree 24 = .ok (.aload_n 2, 1) := by decide +kernel
theorem dX5_readFree_25 : decode cX5_readFree 25 = .ok (.aload_n 1, 1) := by decide +kernel
theorem dX5_readFree_26 : decode cX5_readFree 26 = .ok (.getfield 42, 3) := by decide +kernel
theorem dX5_readFree_29 : decode cX5_readFree 29 = .ok (.putfield 93, 3) := by decide +kernel
theorem dX5_readFree_32 : decode cX5_readFree 32 = .ok (.aload_n 1, 1) := by decide +kernel
theorem dX5_readFree_33 : decode cX5_readFree 33 = .ok (.invokestatic 68, 3) := by decide +kernel
theorem dX5_readFree_36 : decode cX5_readFree 36 = .ok (.ireturn, 1) := by decide +kernel
set_option maxRecDepth 20000 in
theorem ggX5_readNumber_X8_readToken : GoodIn wsX5_readNumber wsX8_readToken := goodIn_r _ [7, 8, 9, 10, 11, 12, 13, 14, 15, 6, 16, 17, 18, 19, 20, 21, 22, 23, 24, 25, 26, 27, 28, 29, 30, 31, 32, 33] (by decide +kernel) (by decide +kernel)
set_option maxRecDepth 20000 in
theorem gX5_readNumber_X8_readToken : GoodIn wsX5_readNumber (wsV RX5 28 RX8 yX8_readToken wsX8_readToken) := goodIn_app (goodIn_of _ (by decide +kernel)) ggX5_readNumber_X8_readToken
theorem dX5_readNumber_0 : decode cX5_readNumber 0 = .ok (.aload_n 0, 1) := by decide +kernel
theorem dX5_readNumber_1 : decode cX5_readNumber 1 = .ok (.invokevirtual 28, 3) := by decide +kernel
theorem dX5_readNumber_4 : decode cX5_readNumber 4 = .ok (.aload_n 0, 1) := by decide +kernel
theorem dX5_readNumber_5 : decode cX5_readNumber 5 = .ok (.getfield 31, 3) := by decide +kernel
theorem dX5_readNumber_8 : decode cX5_readNumber 8 = .ok (.iconst 2, 1) := by decide +kernel
theorem dX5_readNumber_9 : decode cX5_readNumber 9 = .ok (.if_icmp .ne 23, 3) := by decide +kernel
theorem dX5_readNumber_12 : decode cX5_readNumber 12 = .ok (.aload_n 0, 1) := by decide +kernel
theorem dX5_readNumber_13 : decode cX5_readNumber 13 = .ok (.getfield 42, 3) := by decide +kernel
theorem dX5_readNumber_16 : decode cX5_readNumber 16 = .ok (.iload_n 1, 1) := by decide +kernel
theorem dX5_readNumber_17 : decode cX5_readNumber 17 = .ok (.if_icmp .lt 15, 3) := by decide +kernel
theorem dX5_readNumber_20 : decode cX5_readNumber 20 = .ok (.aload_n 0, 1) := by decide +kernel
theorem dX5_readNumber_21 : decode cX5_readNumber 21 = .ok (.getfield 42, 3) := by decide +kernel
theorem dX5_readNumber_24 : decode cX5_readNumber 24 = .ok (.iload_n 2, 1) := by decide +kernel
theorem dX5_readNumber_25 : decode cX5_readNumber 25 = .ok (.if_icmp .gt 7, 3) := by decide +kernel
theorem dX5_readNumber_28 : decode cX5_readNumber 28 = .ok (.iconst 1, 1) := by decide +kernel
theorem dX5_readNumber_29 : decode cX5_readNumber 29 = .ok (.goto 4, 3) := by decide +kernel
theorem dX5_readNumber_32 : decode cX5_readNumber 32 = .ok (.iconst 0, 1) := by decide +kernel
theorem dX5_readNumber_33 : decode cX5_readNumber 33 = .ok (.ireturn, 1) := by decide +kernel
set_option maxRecDepth 20000 in
theorem ggX5_readStop_X8_readToken : GoodIn wsX5_readStop wsX8_readToken := goodIn_r _ [6, 7, 8, 9, 10, 11, 12, 13, 14, 5, 15, 16, 17, 18, 19, 20, 21, 22, 23, 24, 25, 26, 27, 28, 29, 30, 31, 32] (by decide +kernel) (by decide +kernel)
set_option maxRecDepth 20000 in
theorem gX5_readStop_X8_readToken : GoodIn wsX5_readStop (wsV RX5 28 RX8 yX8_readToken wsX8_readToken) := goodIn_app (goodIn_of _ (by decide +kernel)) ggX5_readStop_X8_readToken
theorem dX5_readStop_0 : decode cX5_readStop 0 = .ok (.aload_n 0, 1) := by decide +kernel
theorem dX5_readStop_1 : decode cX5_readStop 1 = .ok (.invokevirtual 28, 3) := by decide +kernel
theorem dX5_readStop_4 : decode cX5_readStop 4 = .ok (.aload_n 0, 1) := by decide +kernel
theorem dX5_readStop_5 : decode cX5_readStop 5 = .ok (.getfield 31, 3) := by decide +kernel
theorem dX5_readStop_8 : decode cX5_readStop 8 = .ok (.iconst 3, 1) := by decide +kernel
theorem dX5_readStop_9 : decode cX5_readStop 9 = .ok (.if_icmp .ne 7, 3) := by decide +kernel
theorem dX5_readStop_12 : decode cX5_readStop 12 = .ok (.iconst 1, 1) := by decide +kernel
theorem dX5_readStop_13 : decode cX5_readStop 13 = .ok (.goto 4, 3) := by decide +kernel
theorem dX5_readStop_16 : decode cX5_readStop 16 = .ok (.iconst 0, 1) := by decide +kernel
theorem dX5_readStop_17 : decode cX5_readStop 17 = .ok (.ireturn, 1) := by decide +kernel
theorem dX6_init_0 : decode cX6_init 0 = .ok (.aload_n 0, 1) := by decide +kernel
theorem dX6_init_1 : decode cX6_init 1 = .ok (.invokespecial 3, 3) := by decide +kernel
theorem dX6_init_4 : decode cX6_init 4 = .ok (.aload_n 0, 1) := by decide +kernel
theorem dX6_init_5 : decode cX6_init 5 = .ok (.bipush 8, 2) := by decide +kernel
theorem dX6_init_7 : decode cX6_init 7 = .ok (.newarray .int, 2) := by decide +kernel
theorem dX6_init_9 : decode cX6_init 9 = .ok (.putfield 9, 3) := by decide +kernel
theorem dX6_init_12 : decode cX6_init 12 = .ok (.aload_n 0, 1) := by decide +kernel
theorem dX6_init_13 : decode cX6_init 13 = .ok (.bipush 8, 2) := by decide +kernel
theorem dX6_init_15 : decode cX6_init 15 = .ok (.newarray .int, 2) := by decide +kernel
theorem dX6_init_17 : decode cX6_init 17 = .ok (.putfield 15, 3) := by decide +kernel
theorem dX6_init_20 : decode cX6_init 20 = .ok (.return_, 1) := by decide +kernel
set_option maxRecDepth 20000 in
theorem ggX6_find_X9_begin : GoodIn wsX6_find wsX9_begin := goodIn_r _ [9, 10, 11, 12, 13, 14, 15, 16, 17, 18, 19, 20, 21, 22, 23, 24, 25, 26, 27, 28, 29, 30, 31, 32, 33, 92, 93, 94, 95, 96, 97, 98, 99, 100, 101, 102, 103, 104, 105, 106, 107, 108, 109, 110, 111, 112, 113] (by decide +kernel) (by decide +kernel)
set_option maxRecDepth 20000 in
theorem gX6_find_X9_begin : GoodIn wsX6_find (wsV RX6 31 RX9 yX9_begin wsX9_begin) := goodIn_app (goodIn_of _ (by decide +kernel)) ggX6_find_X9_begin
set_option maxRecDepth 20000 in
theorem ggX6_find_X2_openDeeds : GoodIn wsX6_find wsX2_openDeeds := goodIn_r _ [37, 38, 39, 104, 105, 106, 107, 108, 109, 110, 111, 112, 113, 92, 93, 94, 95, 96, 97, 98, 99] (by decide +kernel) (by decide +kernel)
set_option maxRecDepth 20000 in
theorem gX6_find_X2_openDeeds : GoodIn wsX6_find (wsV RX6 37 RX2 yX2_openDeeds wsX2_openDeeds) := goodIn_app (goodIn_of _ (by decide +kernel)) ggX6_find_X2_openDeeds
set_option maxRecDepth 20000 in
theorem ggX6_find_X6_tryRows : GoodIn wsX6_find wsX6_tryRows := goodIn_r _ [44, 2, 45, 4, 46, 47, 48, 49, 50, 51, 52, 53, 54, 55, 43, 56, 57, 58, 13, 14, 15, 1, 59, 60, 61, 62, 63, 64, 65, 66, 67, 68, 69, 70, 71, 72, 73, 74, 75, 8, 76, 77, 21, 18, 16, 11, 78, 79, 80, 81, 82, 83, 84, 85, 86, 40, 41, 42, 87, 88, 89, 90, 91, 100, 101, 102, 103, 104, 105, 106, 107, 108, 109, 110, 111, 112, 113] (by decide +kernel) (by decide +kernel)
set_option maxRecDepth 20000 in
theorem gX6_find_X6_tryRows : GoodIn wsX6_find (wsV RX6 41 RX6 yX6_tryRows wsX6_tryRows) := goodIn_app (goodIn_of _ (by decide +kernel)) ggX6_find_X6_tryRows
theorem dX6_find_0 : decode cX6_find 0 = .ok (.aload_n 0, 1) := by decide +kernel
theorem dX6_find_1 : decode cX6_find 1 = .ok (.iconst 0, 1) := by decide +kernel
theorem dX6_find_2 : decode cX6_find 2 = .ok (.putfield 18, 3) := by decide +kernel
theorem dX6_find_5 : decode cX6_find 5 = .ok (.aload_n 0, 1) := by decide +kernel
theorem dX6_find_6 : decode cX6_find 6 = .ok (.iconst 0, 1) := by decide +kernel
theorem dX6_find_7 : decode cX6_find 7 = .ok (.putfield 22, 3) := by decide +kernel
theorem dX6_find_10 : decode cX6_find 10 = .ok (.aload_n 0, 1) := by decide +kernel
theorem dX6_find_11 : decode cX6_find 11 = .ok (.aload_n 2, 1) := by decide +kernel
theorem dX6_find_12 : decode cX6_find 12 = .ok (.getfield 25, 3) := by decide +kernel
theorem dX6_find_15 : decode cX6_find 15 = .ok (.putfield 30, 3) := by decide +kernel
theorem dX6_find_18 : decode cX6_find 18 = .ok (.aload_n 3, 1) := by decide +kernel
theorem dX6_find_19 : decode cX6_find 19 = .ok (.aload_n 1, 1) := by decide +kernel
theorem dX6_find_20 : decode cX6_find 20 = .ok (.aload_n 2, 1) := by decide +kernel
theorem dX6_find_21 : decode cX6_find 21 = .ok (.invokevirtual 31, 3) := by decide +kernel
theorem dX6_find_24 : decode cX6_find 24 = .ok (.aload_n 0, 1) := by decide +kernel
theorem dX6_find_25 : decode cX6_find 25 = .ok (.aload_n 1, 1) := by decide +kernel
theorem dX6_find_26 : decode cX6_find 26 = .ok (.aload_n 3, 1) := by decide +kernel
theorem dX6_find_27 : decode cX6_find 27 = .ok (.iconst 0, 1) := by decide +kernel
theorem dX6_find_28 : decode cX6_find 28 = .ok (.aload_n 2, 1) := by decide +kernel
theorem dX6_find_29 : decode cX6_find 29 = .ok (.aload_n 1, 1) := by decide +kernel
theorem dX6_find_30 : decode cX6_find 30 = .ok (.invokevirtual 37, 3) := by decide +kernel
theorem dX6_find_33 : decode cX6_find 33 = .ok (.iconst 0, 1) := by decide +kernel
theorem dX6_find_34 : decode cX6_find 34 = .ok (.invokevirtual 41, 3) := by decide +kernel
theorem dX6_find_37 : decode cX6_find 37 = .ok (.return_, 1) := by decide +kernel
set_option maxRecDepth 20000 in
theorem ggX6_tryRows_X6_rememberRow : GoodIn wsX6_tryRows wsX6_rememberRow := goodIn_r _ [15, 9, 16, 17, 18, 19, 20, 21, 1, 3, 58, 59, 60, 61, 62] (by decide +kernel) (by decide +kernel)
set_option maxRecDepth 20000 in
theorem gX6_tryRows_X6_rememberRow : GoodIn wsX6_tryRows (wsV RX6 46 RX6 yX6_rememberRow wsX6_rememberRow) := goodIn_app (goodIn_of _ (by decide +kernel)) ggX6_tryRows_X6_rememberRow
set_option maxRecDepth 20000 in
theorem ggX6_tryRows_X6_canBecomeBetter : GoodIn wsX6_tryRows wsX6_canBecomeBetter := goodIn_r _ [25, 2, 6, 4, 26, 27, 28, 29, 30, 31, 32, 33, 34, 35, 10, 1, 3, 63, 64, 65, 66, 67, 68, 69, 70, 71, 72, 73, 74, 75, 76, 58, 59, 60, 61, 62] (by decide +kernel) (by decide +kernel)
set_option maxRecDepth 20000 in
theorem gX6_tryRows_X6_canBecomeBetter : GoodIn wsX6_tryRows (wsV RX6 50 RX6 yX6_canBecomeBetter wsX6_canBecomeBetter) := goodIn_app (goodIn_of _ (by decide +kernel)) ggX6_tryRows_X6_canBecomeBetter
set_option maxRecDepth 20000 in
theorem ggX6_tryRows_X9_hourOfNext : GoodIn wsX6_tryRows wsX9_hourOfNext := goodIn_r _ [40, 41, 42, 43, 44, 45, 46, 28, 29, 30, 47, 48, 49, 33, 34, 50, 67, 68, 69, 70, 71, 72, 73, 74, 75, 76, 63, 64, 65, 66] (by decide +kernel) (by decide +kernel)
set_option maxRecDepth 20000 in
theorem gX6_tryRows_X9_hourOfNext : GoodIn wsX6_tryRows (wsV RX6 65 RX9 yX9_hourOfNext wsX9_hourOfNext) := goodIn_app (goodIn_of _ (by decide +kernel)) ggX6_tryRows_X9_hourOfNext
set_option maxRecDepth 20000 in
theorem ggX6_tryRows_X9_add : GoodIn wsX6_tryRows wsX9_add := goodIn_r _ [54, 41, 45, 47, 44, 43, 42, 67, 68, 69, 70, 71, 72, 73, 74, 75, 76, 63, 64, 65, 66] (by decide +kernel) (by decide +kernel)
set_option maxRecDepth 20000 in
theorem gX6_tryRows_X9_add : GoodIn wsX6_tryRows (wsV RX6 75 RX9 yX9_add wsX9_add) := goodIn_app (goodIn_of _ (by decide +kernel)) ggX6_tryRows_X9_add
set_option maxRecDepth 20000 in
theorem ggX6_tryRows_X6_tryRows : GoodIn wsX6_tryRows wsX6_tryRows := goodIn_r _ [0, 1, 2, 3, 4, 5, 6, 7, 8, 9, 10, 11, 12, 13, 14, 15, 16, 17, 18, 19, 20, 21, 22, 23, 24, 25, 26, 27, 28, 29, 30, 31, 32, 33, 34, 35, 36, 37, 38, 39, 40, 41, 42, 43, 44, 45, 46, 47, 48, 49, 50, 51, 52, 53, 54, 55, 56, 57, 58, 59, 60, 61, 62, 63, 64, 65, 66, 67, 68, 69, 70, 71, 72, 73, 74, 75, 76] (by decide +kernel) (by decide +kernel)
set_option maxRecDepth 20000 in
theorem gX6_tryRows_X6_tryRows : GoodIn wsX6_tryRows (wsV RX6 41 RX6 yX6_tryRows wsX6_tryRows) := goodIn_app (goodIn_of _ (by decide +kernel)) ggX6_tryRows_X6_tryRows
theorem dX6_tryRows_0 : decode cX6_tryRows 0 = .ok (.iload 5, 2) := by decide +kernel
theorem dX6_tryRows_2 : decode cX6_tryRows 2 = .ok (.aload_n 0, 1) := by decide +kernel
theorem dX6_tryRows_3 : decode cX6_tryRows 3 = .ok (.getfield 22, 3) := by decide +kernel
theorem dX6_tryRows_6 : decode cX6_tryRows 6 = .ok (.if_icmp .gt 23, 3) := by decide +kernel
theorem dX6_tryRows_9 : decode cX6_tryRows 9 = .ok (.iload 5, 2) := by decide +kernel
theorem dX6_tryRows_11 : decode cX6_tryRows 11 = .ok (.aload_n 0, 1) := by decide +kernel
theorem dX6_tryRows_12 : decode cX6_tryRows 12 = .ok (.getfield 22, 3) := by decide +kernel
theorem dX6_tryRows_15 : decode cX6_tryRows 15 = .ok (.if_icmp .ne 25, 3) := by decide +kernel
theorem dX6_tryRows_18 : decode cX6_tryRows 18 = .ok (.aload_n 2, 1) := by decide +kernel
theorem dX6_tryRows_19 : decode cX6_tryRows 19 = .ok (.getfield 45, 3) := by decide +kernel
theorem dX6_tryRows_22 : decode cX6_tryRows 22 = .ok (.aload_n 0, 1) := by decide +kernel
theorem dX6_tryRows_23 : decode cX6_tryRows 23 = .ok (.getfield 30, 3) := by decide +kernel
theorem dX6_tryRows_26 : decode cX6_tryRows 26 = .ok (.if_icmp .ge 14, 3) := by decide +kernel
theorem dX6_tryRows_29 : decode cX6_tryRows 29 = .ok (.aload_n 0, 1) := by decide +kernel
theorem dX6_tryRows_30 : decode cX6_tryRows 30 = .ok (.iload_n 3, 1) := by decide +kernel
theorem dX6_tryRows_31 : decode cX6_tryRows 31 = .ok (.iload 5, 2) := by decide +kernel
theorem dX6_tryRows_33 : decode cX6_tryRows 33 = .ok (.aload_n 2, 1) := by decide +kernel
theorem dX6_tryRows_34 : decode cX6_tryRows 34 = .ok (.getfield 45, 3) := by decide +kernel
theorem dX6_tryRows_37 : decode cX6_tryRows 37 = .ok (.invokevirtual 46, 3) := by decide +kernel
theorem dX6_tryRows_40 : decode cX6_tryRows 40 = .ok (.iload_n 3, 1) := by decide +kernel
theorem dX6_tryRows_41 : decode cX6_tryRows 41 = .ok (.bipush 8, 2) := by decide +kernel
theorem dX6_tryRows_43 : decode cX6_tryRows 43 = .ok (.if_icmp .ge 16, 3) := by decide +kernel
theorem dX6_tryRows_46 : decode cX6_tryRows 46 = .ok (.aload_n 0, 1) := by decide +kernel
theorem dX6_tryRows_47 : decode cX6_tryRows 47 = .ok (.aload_n 1, 1) := by decide +kernel
theorem dX6_tryRows_48 : decode cX6_tryRows 48 = .ok (.aload_n 2, 1) := by decide +kernel
theorem dX6_tryRows_49 : decode cX6_tryRows 49 = .ok (.iload 4, 2) := by decide +kernel
theorem dX6_tryRows_51 : decode cX6_tryRows 51 = .ok (.iload 5, 2) := by decide +kernel
theorem dX6_tryRows_53 : decode cX6_tryRows 53 = .ok (.invokevirtual 50, 3) := by decide +kernel
theorem dX6_tryRows_56 : decode cX6_tryRows 56 = .ok (.ifCond .ne 4, 3) := by decide +kernel
theorem dX6_tryRows_59 : decode cX6_tryRows 59 = .ok (.return_, 1) := by decide +kernel
theorem dX6_tryRows_60 : decode cX6_tryRows 60 = .ok (.aload_n 2, 1) := by decide +kernel
theorem dX6_tryRows_61 : decode cX6_tryRows 61 = .ok (.getfield 54, 3) := by decide +kernel
theorem dX6_tryRows_64 : decode cX6_tryRows 64 = .ok (.istore 6, 2) := by decide +kernel
theorem dX6_tryRows_66 : decode cX6_tryRows 66 = .ok (.aload_n 2, 1) := by decide +kernel
theorem dX6_tryRows_67 : decode cX6_tryRows 67 = .ok (.getfield 45, 3) := by decide +kernel
theorem dX6_tryRows_70 : decode cX6_tryRows 70 = .ok (.istore 7, 2) := by decide +kernel
theorem dX6_tryRows_72 : decode cX6_tryRows 72 = .ok (.aload_n 2, 1) := by decide +kernel
theorem dX6_tryRows_73 : decode cX6_tryRows 73 = .ok (.getfield 57, 3) := by decide +kernel
theorem dX6_tryRows_76 : decode cX6_tryRows 76 = .ok (.istore 8, 2) := by decide +kernel
theorem dX6_tryRows_78 : decode cX6_tryRows 78 = .ok (.iconst 0, 1) := by decide +kernel
theorem dX6_tryRows_79 : decode cX6_tryRows 79 = .ok (.istore 9, 2) := by decide +kernel
theorem dX6_tryRows_81 : decode cX6_tryRows 81 = .ok (.iload 9, 2) := by decide +kernel
theorem dX6_tryRows_83 : decode cX6_tryRows 83 = .ok (.aload_n 1, 1) := by decide +kernel
theorem dX6_tryRows_84 : decode cX6_tryRows 84 = .ok (.getfield 60, 3) := by decide +kernel
theorem dX6_tryRows_87 : decode cX6_tryRows 87 = .ok (.if_icmp .ge 134, 3) := by decide +kernel
theorem dX6_tryRows_90 : decode cX6_tryRows 90 = .ok (.iload 4, 2) := by decide +kernel
theorem dX6_tryRows_92 : decode cX6_tryRows 92 = .ok (.iload 9, 2) := by decide +kernel
theorem dX6_tryRows_94 : decode cX6_tryRows 94 = .ok (.ishr, 1) := by decide +kernel
theorem dX6_tryRows_95 : decode cX6_tryRows 95 = .ok (.iconst 1, 1) := by decide +kernel
theorem dX6_tryRows_96 : decode cX6_tryRows 96 = .ok (.iand, 1) := by decide +kernel
theorem dX6_tryRows_97 : decode cX6_tryRows 97 = .ok (.iconst 1, 1) := by decide +kernel
theorem dX6_tryRows_98 : decode cX6_tryRows 98 = .ok (.if_icmp .ne 13, 3) := by decide +kernel
theorem dX6_tryRows_101 : decode cX6_tryRows 101 = .ok (.aload_n 2, 1) := by decide +kernel
theorem dX6_tryRows_102 : decode cX6_tryRows 102 = .ok (.aload_n 1, 1) := by decide +kernel
theorem dX6_tryRows_103 : decode cX6_tryRows 103 = .ok (.iload 9, 2) := by decide +kernel
theorem dX6_tryRows_105 : decode cX6_tryRows 105 = .ok (.invokevirtual 65, 3) := by decide +kernel
theorem dX6_tryRows_108 : decode cX6_tryRows 108 = .ok (.goto 5, 3) := by decide +kernel
theorem dX6_tryRows_111 : decode cX6_tryRows 111 = .ok (.bipush (-9), 2) := by decide +kernel
theorem dX6_tryRows_113 : decode cX6_tryRows 113 = .ok (.istore 10, 2) := by decide +kernel
theorem dX6_tryRows_115 : decode cX6_tryRows 115 = .ok (.iload 10, 2) := by decide +kernel
theorem dX6_tryRows_117 : decode cX6_tryRows 117 = .ok (.bipush (-9), 2) := by decide +kernel
theorem dX6_tryRows_119 : decode cX6_tryRows 119 = .ok (.if_icmp .ne 6, 3) := by decide +kernel
theorem dX6_tryRows_122 : decode cX6_tryRows 122 = .ok (.goto 93, 3) := by decide +kernel
theorem dX6_tryRows_125 : decode cX6_tryRows 125 = .ok (.aload_n 1, 1) := by decide +kernel
theorem dX6_tryRows_126 : decode cX6_tryRows 126 = .ok (.getfield 69, 3) := by decide +kernel
theorem dX6_tryRows_129 : decode cX6_tryRows 129 = .ok (.iload 9, 2) := by decide +kernel
theorem dX6_tryRows_131 : decode cX6_tryRows 131 = .ok (.iaload, 1) := by decide +kernel
theorem dX6_tryRows_132 : decode cX6_tryRows 132 = .ok (.istore 11, 2) := by decide +kernel
theorem dX6_tryRows_134 : decode cX6_tryRows 134 = .ok (.aload_n 2, 1) := by decide +kernel
theorem dX6_tryRows_135 : decode cX6_tryRows 135 = .ok (.getfield 72, 3) := by decide +kernel
theorem dX6_tryRows_138 : decode cX6_tryRows 138 = .ok (.iload 11, 2) := by decide +kernel
theorem dX6_tryRows_140 : decode cX6_tryRows 140 = .ok (.iaload, 1) := by decide +kernel
theorem dX6_tryRows_141 : decode cX6_tryRows 141 = .ok (.istore 12, 2) := by decide +kernel
theorem dX6_tryRows_143 : decode cX6_tryRows 143 = .ok (.aload_n 0, 1) := by decide +kernel
theorem dX6_tryRows_144 : decode cX6_tryRows 144 = .ok (.getfield 15, 3) := by decide +kernel
theorem dX6_tryRows_147 : decode cX6_tryRows 147 = .ok (.iload_n 3, 1) := by decide +kernel
theorem dX6_tryRows_148 : decode cX6_tryRows 148 = .ok (.iload 9, 2) := by decide +kernel
theorem dX6_tryRows_150 : decode cX6_tryRows 150 = .ok (.iastore, 1) := by decide +kernel
theorem dX6_tryRows_151 : decode cX6_tryRows 151 = .ok (.aload_n 2, 1) := by decide +kernel
theorem dX6_tryRows_152 : decode cX6_tryRows 152 = .ok (.aload_n 1, 1) := by decide +kernel
theorem dX6_tryRows_153 : decode cX6_tryRows 153 = .ok (.iload 9, 2) := by decide +kernel
theorem dX6_tryRows_155 : decode cX6_tryRows 155 = .ok (.iload 10, 2) := by decide +kernel
theorem dX6_tryRows_157 : decode cX6_tryRows 157 = .ok (.invokevirtual 75, 3) := by decide +kernel
theorem dX6_tryRows_160 : decode cX6_tryRows 160 = .ok (.aload_n 0, 1) := by decide +kernel
theorem dX6_tryRows_161 : decode cX6_tryRows 161 = .ok (.aload_n 1, 1) := by decide +kernel
theorem dX6_tryRows_162 : decode cX6_tryRows 162 = .ok (.aload_n 2, 1) := by decide +kernel
theorem dX6_tryRows_163 : decode cX6_tryRows 163 = .ok (.iload_n 3, 1) := by decide +kernel
theorem dX6_tryRows_164 : decode cX6_tryRows 164 = .ok (.iconst 1, 1) := by decide +kernel
theorem dX6_tryRows_165 : decode cX6_tryRows 165 = .ok (.iadd, 1) := by decide +kernel
theorem dX6_tryRows_166 : decode cX6_tryRows 166 = .ok (.iload 4, 2) := by decide +kernel
theorem dX6_tryRows_168 : decode cX6_tryRows 168 = .ok (.iconst 1, 1) := by decide +kernel
theorem dX6_tryRows_169 : decode cX6_tryRows 169 = .ok (.iload 9, 2) := by decide +kernel
theorem dX6_tryRows_171 : decode cX6_tryRows 171 = .ok (.ishl, 1) := by decide +kernel
theorem dX6_tryRows_172 : decode cX6_tryRows 172 = .ok (.iconst (-1), 1) := by decide +kernel
theorem dX6_tryRows_173 : decode cX6_tryRows 173 = .ok (.ixor, 1) := by decide +kernel
theorem dX6_tryRows_174 : decode cX6_tryRows 174 = .ok (.iand, 1) := by decide +kernel
theorem dX6_tryRows_175 : decode cX6_tryRows 175 = .ok (.iload 5, 2) := by decide +kernel
theorem dX6_tryRows_177 : decode cX6_tryRows 177 = .ok (.aload_n 1, 1) := by decide +kernel
theorem dX6_tryRows_178 : decode cX6_tryRows 178 = .ok (.getfield 79, 3) := by decide +kernel
theorem dX6_tryRows_181 : decode cX6_tryRows 181 = .ok (.iload 9, 2) := by decide +kernel
theorem dX6_tryRows_183 : decode cX6_tryRows 183 = .ok (.iaload, 1) := by decide +kernel
theorem dX6_tryRows_184 : decode cX6_tryRows 184 = .ok (.iadd, 1) := by decide +kernel
theorem dX6_tryRows_185 : decode cX6_tryRows 185 = .ok (.invokevirtual 41, 3) := by decide +kernel
theorem dX6_tryRows_188 : decode cX6_tryRows 188 = .ok (.aload_n 2, 1) := by decide +kernel
theorem dX6_tryRows_189 : decode cX6_tryRows 189 = .ok (.getfield 72, 3) := by decide +kernel
theorem dX6_tryRows_192 : decode cX6_tryRows 192 = .ok (.iload 11, 2) := by decide +kernel
theorem dX6_tryRows_194 : decode cX6_tryRows 194 = .ok (.iload 12, 2) := by decide +kernel
theorem dX6_tryRows_196 : decode cX6_tryRows 196 = .ok (.iastore, 1) := by decide +kernel
theorem dX6_tryRows_197 : decode cX6_tryRows 197 = .ok (.aload_n 2, 1) := by decide +kernel
theorem dX6_tryRows_198 : decode cX6_tryRows 198 = .ok (.iload 6, 2) := by decide +kernel
theorem dX6_tryRows_200 : decode cX6_tryRows 200 = .ok (.putfield 54, 3) := by decide +kernel
theorem dX6_tryRows_203 : decode cX6_tryRows 203 = .ok (.aload_n 2, 1) := by decide +kernel
theorem dX6_tryRows_204 : decode cX6_tryRows 204 = .ok (.iload 7, 2) := by decide +kernel
theorem dX6_tryRows_206 : decode cX6_tryRows 206 = .ok (.putfield 45, 3) := by decide +kernel
theorem dX6_tryRows_209 : decode cX6_tryRows 209 = .ok (.aload_n 2, 1) := by decide +kernel
theorem dX6_tryRows_210 : decode cX6_tryRows 210 = .ok (.iload 8, 2) := by decide +kernel
theorem dX6_tryRows_212 : decode cX6_tryRows 212 = .ok (.putfield 57, 3) := by decide +kernel
theorem dX6_tryRows_215 : decode cX6_tryRows 215 = .ok (.iinc 9 1, 3) := by decide +kernel
theorem dX6_tryRows_218 : decode cX6_tryRows 218 = .ok (.goto (-137), 3) := by decide +kernel
theorem dX6_tryRows_221 : decode cX6_tryRows 221 = .ok (.return_, 1) := by decide +kernel
theorem dX6_rememberRow_0 : decode cX6_rememberRow 0 = .ok (.aload_n 0, 1) := by decide +kernel
theorem dX6_rememberRow_1 : decode cX6_rememberRow 1 = .ok (.getfield 15, 3) := by decide +kernel
theorem dX6_rememberRow_4 : decode cX6_rememberRow 4 = .ok (.iconst 0, 1) := by decide +kernel
theorem dX6_rememberRow_5 : decode cX6_rememberRow 5 = .ok (.aload_n 0, 1) := by decide +kernel
theorem dX6_rememberRow_6 : decode cX6_rememberRow 6 = .ok (.getfield 9, 3) := by decide +kernel
theorem dX6_rememberRow_9 : decode cX6_rememberRow 9 = .ok (.iconst 0, 1) := by decide +kernel
theorem dX6_rememberRow_10 : decode cX6_rememberRow 10 = .ok (.iload_n 1, 1) := by decide +kernel
theorem dX6_rememberRow_11 : decode cX6_rememberRow 11 = .ok (.invokestatic 81, 3) := by decide +kernel
theorem dX6_rememberRow_14 : decode cX6_rememberRow 14 = .ok (.aload_n 0, 1) := by decide +kernel
theorem dX6_rememberRow_15 : decode cX6_rememberRow 15 = .ok (.iload_n 1, 1) := by decide +kernel
theorem dX6_rememberRow_16 : decode cX6_rememberRow 16 = .ok (.putfield 18, 3) := by decide +kernel
theorem dX6_rememberRow_19 : decode cX6_rememberRow 19 = .ok (.aload_n 0, 1) := by decide +kernel
theorem dX6_rememberRow_20 : decode cX6_rememberRow 20 = .ok (.iload_n 2, 1) := by decide +kernel
theorem dX6_rememberRow_21 : decode cX6_rememberRow 21 = .ok (.putfield 22, 3) := by decide +kernel
theorem dX6_rememberRow_24 : decode cX6_rememberRow 24 = .ok (.aload_n 0, 1) := by decide +kernel
theorem dX6_rememberRow_25 : decode cX6_rememberRow 25 = .ok (.iload_n 3, 1) := by decide +kernel
theorem dX6_rememberRow_26 : decode cX6_rememberRow 26 = .ok (.putfield 30, 3) := by decide +kernel
theorem dX6_rememberRow_29 : decode cX6_rememberRow 29 = .ok (.return_, 1) := by decide +kernel
theorem dX6_canBecomeBetter_0 : decode cX6_canBecomeBetter 0 = .ok (.iload 4, 2) := by decide +kernel
theorem dX6_canBecomeBetter_2 : decode cX6_canBecomeBetter 2 = .ok (.istore 5, 2) := by decide +kernel
theorem dX6_canBecomeBetter_4 : decode cX6_canBecomeBetter 4 = .ok (.aload_n 2, 1) := by decide +kernel
theorem dX6_canBecomeBetter_5 : decode cX6_canBecomeBetter 5 = .ok (.getfield 45, 3) := by decide +kernel
theorem dX6_canBecomeBetter_8 : decode cX6_canBecomeBetter 8 = .ok (.istore 6, 2) := by decide +kernel
theorem dX6_canBecomeBetter_10 : decode cX6_canBecomeBetter 10 = .ok (.iconst 0, 1) := by decide +kernel
theorem dX6_canBecomeBetter_11 : decode cX6_canBecomeBetter 11 = .ok (.istore 7, 2) := by decide +kernel
theorem dX6_canBecomeBetter_13 : decode cX6_canBecomeBetter 13 = .ok (.iload 7, 2) := by decide +kernel
theorem dX6_canBecomeBetter_15 : decode cX6_canBecomeBetter 15 = .ok (.aload_n 1, 1) := by decide +kernel
theorem dX6_canBecomeBetter_16 : decode cX6_canBecomeBetter 16 = .ok (.getfield 60, 3) := by decide +kernel
theorem dX6_canBecomeBetter_19 : decode cX6_canBecomeBetter 19 = .ok (.if_icmp .ge 90, 3) := by decide +kernel
theorem dX6_canBecomeBetter_22 : decode cX6_canBecomeBetter 22 = .ok (.iload_n 3, 1) := by decide +kernel
theorem dX6_canBecomeBetter_23 : decode cX6_canBecomeBetter 23 = .ok (.iload 7, 2) := by decide +kernel
theorem dX6_canBecomeBetter_25 : decode cX6_canBecomeBetter 25 = .ok (.ishr, 1) := by decide +kernel
theorem dX6_canBecomeBetter_26 : decode cX6_canBecomeBetter 26 = .ok (.iconst 1, 1) := by decide +kernel
theorem dX6_canBecomeBetter_27 : decode cX6_canBecomeBetter 27 = .ok (.iand, 1) := by decide +kernel
theorem dX6_canBecomeBetter_28 : decode cX6_canBecomeBetter 28 = .ok (.ifCond .ne 6, 3) := by decide +kernel
theorem dX6_canBecomeBetter_31 : decode cX6_canBecomeBetter 31 = .ok (.goto 72, 3) := by decide +kernel
theorem dX6_canBecomeBetter_34 : decode cX6_canBecomeBetter 34 = .ok (.aload_n 2, 1) := by decide +kernel
theorem dX6_canBecomeBetter_35 : decode cX6_canBecomeBetter 35 = .ok (.getfield 45, 3) := by decide +kernel
theorem dX6_canBecomeBetter_38 : decode cX6_canBecomeBetter 38 = .ok (.aload_n 2, 1) := by decide +kernel
theorem dX6_canBecomeBetter_39 : decode cX6_canBecomeBetter 39 = .ok (.getfield 54, 3) := by decide +kernel
theorem dX6_canBecomeBetter_42 : decode cX6_canBecomeBetter 42 = .ok (.aload_n 1, 1) := by decide +kernel
theorem dX6_canBecomeBetter_43 : decode cX6_canBecomeBetter 43 = .ok (.getfield 87, 3) := by decide +kernel
theorem dX6_canBecomeBetter_46 : decode cX6_canBecomeBetter 46 = .ok (.iload 7, 2) := by decide +kernel
theorem dX6_canBecomeBetter_48 : decode cX6_canBecomeBetter 48 = .ok (.iaload, 1) := by decide +kernel
theorem dX6_canBecomeBetter_49 : decode cX6_canBecomeBetter 49 = .ok (.isub, 1) := by decide +kernel
theorem dX6_canBecomeBetter_50 : decode cX6_canBecomeBetter 50 = .ok (.invokestatic 90, 3) := by decide +kernel
theorem dX6_canBecomeBetter_53 : decode cX6_canBecomeBetter 53 = .ok (.iadd, 1) := by decide +kernel
theorem dX6_canBecomeBetter_54 : decode cX6_canBecomeBetter 54 = .ok (.istore 8, 2) := by decide +kernel
theorem dX6_canBecomeBetter_56 : decode cX6_canBecomeBetter 56 = .ok (.iload 8, 2) := by decide +kernel
theorem dX6_canBecomeBetter_58 : decode cX6_canBecomeBetter 58 = .ok (.aload_n 1, 1) := by decide +kernel
theorem dX6_canBecomeBetter_59 : decode cX6_canBecomeBetter 59 = .ok (.getfield 96, 3) := by decide +kernel
theorem dX6_canBecomeBetter_62 : decode cX6_canBecomeBetter 62 = .ok (.iload 7, 2) := by decide +kernel
theorem dX6_canBecomeBetter_64 : decode cX6_canBecomeBetter 64 = .ok (.iaload, 1) := by decide +kernel
theorem dX6_canBecomeBetter_65 : decode cX6_canBecomeBetter 65 = .ok (.invokestatic 99, 3) := by decide +kernel
theorem dX6_canBecomeBetter_68 : decode cX6_canBecomeBetter 68 = .ok (.istore 9, 2) := by decide +kernel
theorem dX6_canBecomeBetter_70 : decode cX6_canBecomeBetter 70 = .ok (.iload 9, 2) := by decide +kernel
theorem dX6_canBecomeBetter_72 : decode cX6_canBecomeBetter 72 = .ok (.aload_n 1, 1) := by decide +kernel
theorem dX6_canBecomeBetter_73 : decode cX6_canBecomeBetter 73 = .ok (.getfield 103, 3) := by decide +kernel
theorem dX6_canBecomeBetter_76 : decode cX6_canBecomeBetter 76 = .ok (.iload 7, 2) := by decide +kernel
theorem dX6_canBecomeBetter_78 : decode cX6_canBecomeBetter 78 = .ok (.iaload, 1) := by decide +kernel
theorem dX6_canBecomeBetter_79 : decode cX6_canBecomeBetter 79 = .ok (.if_icmp .gt 24, 3) := by decide +kernel
theorem dX6_canBecomeBetter_82 : decode cX6_canBecomeBetter 82 = .ok (.iload 5, 2) := by decide +kernel
theorem dX6_canBecomeBetter_84 : decode cX6_canBecomeBetter 84 = .ok (.aload_n 1, 1) := by decide +kernel
theorem dX6_canBecomeBetter_85 : decode cX6_canBecomeBetter 85 = .ok (.getfield 79, 3) := by decide +kernel
theorem dX6_canBecomeBetter_88 : decode cX6_canBecomeBetter 88 = .ok (.iload 7, 2) := by decide +kernel
theorem dX6_canBecomeBetter_90 : decode cX6_canBecomeBetter 90 = .ok (.iaload, 1) := by decide +kernel
theorem dX6_canBecomeBetter_91 : decode cX6_canBecomeBetter 91 = .ok (.iadd, 1) := by decide +kernel
theorem dX6_canBecomeBetter_92 : decode cX6_canBecomeBetter 92 = .ok (.istore 5, 2) := by decide +kernel
theorem dX6_canBecomeBetter_94 : decode cX6_canBecomeBetter 94 = .ok (.iload 6, 2) := by decide +kernel
theorem dX6_canBecomeBetter_96 : decode cX6_canBecomeBetter 96 = .ok (.iload 9, 2) := by decide +kernel
theorem dX6_canBecomeBetter_98 : decode cX6_canBecomeBetter 98 = .ok (.invokestatic 99, 3) := by decide +kernel
theorem dX6_canBecomeBetter_101 : decode cX6_canBecomeBetter 101 = .ok (.istore 6, 2) := by decide +kernel
theorem dX6_canBecomeBetter_103 : decode cX6_canBecomeBetter 103 = .ok (.iinc 7 1, 3) := by decide +kernel
theorem dX6_canBecomeBetter_106 : decode cX6_canBecomeBetter 106 = .ok (.goto (-93), 3) := by decide +kernel
theorem dX6_canBecomeBetter_109 : decode cX6_canBecomeBetter 109 = .ok (.iload 5, 2) := by decide +kernel
theorem dX6_canBecomeBetter_111 : decode cX6_canBecomeBetter 111 = .ok (.aload_n 0, 1) := by decide +kernel
theorem dX6_canBecomeBetter_112 : decode cX6_canBecomeBetter 112 = .ok (.getfield 22, 3) := by decide +kernel
theorem dX6_canBecomeBetter_115 : decode cX6_canBecomeBetter 115 = .ok (.if_icmp .gt 21, 3) := by decide +kernel
theorem dX6_canBecomeBetter_118 : decode cX6_canBecomeBetter 118 = .ok (.iload 5, 2) := by decide +kernel
theorem dX6_canBecomeBetter_120 : decode cX6_canBecomeBetter 120 = .ok (.aload_n 0, 1) := by decide +kernel
theorem dX6_canBecomeBetter_121 : decode cX6_canBecomeBetter 121 = .ok (.getfield 22, 3) := by decide +kernel
theorem dX6_canBecomeBetter_124 : decode cX6_canBecomeBetter 124 = .ok (.if_icmp .ne 16, 3) := by decide +kernel
theorem dX6_canBecomeBetter_127 : decode cX6_canBecomeBetter 127 = .ok (.iload 6, 2) := by decide +kernel
theorem dX6_canBecomeBetter_129 : decode cX6_canBecomeBetter 129 = .ok (.aload_n 0, 1) := by decide +kernel
theorem dX6_canBecomeBetter_130 : decode cX6_canBecomeBetter 130 = .ok (.getfield 30, 3) := by decide +kernel
theorem dX6_canBecomeBetter_133 : decode cX6_canBecomeBetter 133 = .ok (.if_icmp .ge 7, 3) := by decide +kernel
theorem dX6_canBecomeBetter_136 : decode cX6_canBecomeBetter 136 = .ok (.iconst 1, 1) := by decide +kernel
theorem dX6_canBecomeBetter_137 : decode cX6_canBecomeBetter 137 = .ok (.goto 4, 3) := by decide +kernel
theorem dX6_canBecomeBetter_140 : decode cX6_canBecomeBetter 140 = .ok (.iconst 0, 1) := by decide +kernel
theorem dX6_canBecomeBetter_141 : decode cX6_canBecomeBetter 141 = .ok (.ireturn, 1) := by decide +kernel
theorem dX7_init_0 : decode cX7_init 0 = .ok (.aload_n 0, 1) := by decide +kernel
theorem dX7_init_1 : decode cX7_init 1 = .ok (.invokespecial 3, 3) := by decide +kernel
theorem dX7_init_4 : decode cX7_init 4 = .ok (.aload_n 0, 1) := by decide +kernel
theorem dX7_init_5 : decode cX7_init 5 = .ok (.bipush 8, 2) := by decide +kernel
theorem dX7_init_7 : decode cX7_init 7 = .ok (.newarray .int, 2) := by decide +kernel
theorem dX7_init_9 : decode cX7_init 9 = .ok (.putfield 9, 3) := by decide +kernel
theorem dX7_init_12 : decode cX7_init 12 = .ok (.return_, 1) := by decide +kernel
set_option maxRecDepth 20000 in
theorem ggX7_fewest_X7_canGo : GoodIn wsX7_fewest wsX7_canGo := goodIn_r _ [8, 9, 10, 11, 12, 13, 14, 15, 16, 24, 25, 26, 27, 28, 29, 30, 31, 32, 33] (by decide +kernel) (by decide +kernel)
set_option maxRecDepth 20000 in
theorem gX7_fewest_X7_canGo : GoodIn wsX7_fewest (va_wsS RX7 24 yX7_canGo wsX7_canGo) := goodIn_app (goodIn_of _ (by decide +kernel)) ggX7_fewest_X7_canGo
set_option maxRecDepth 20000 in
theorem ggX7_fewest_X7_findFollower : GoodIn wsX7_fewest wsX7_findFollower := goodIn_r _ [20, 1, 4, 3, 21, 22, 7, 23, 16, 10, 15, 5, 6, 8, 9, 11, 12, 13, 14, 17, 18, 19, 24, 25, 26, 27, 28, 29, 30, 31, 32, 33, 34, 35] (by decide +kernel) (by decide +kernel)
set_option maxRecDepth 20000 in
theorem gX7_fewest_X7_findFollower : GoodIn wsX7_fewest (wsV RX7 31 RX7 yX7_findFollower wsX7_findFollower) := goodIn_app (goodIn_of _ (by decide +kernel)) ggX7_fewest_X7_findFollower
theorem dX7_fewest_0 : decode cX7_fewest 0 = .ok (.iconst 0, 1) := by decide +kernel
theorem dX7_fewest_1 : decode cX7_fewest 1 = .ok (.istore_n 2, 1) := by decide +kernel
theorem dX7_fewest_2 : decode cX7_fewest 2 = .ok (.iload_n 2, 1) := by decide +kernel
theorem dX7_fewest_3 : decode cX7_fewest 3 = .ok (.aload_n 1, 1) := by decide +kernel
theorem dX7_fewest_4 : decode cX7_fewest 4 = .ok (.getfield 15, 3) := by decide +kernel
theorem dX7_fewest_7 : decode cX7_fewest 7 = .ok (.if_icmp .ge 33, 3) := by decide +kernel
theorem dX7_fewest_10 : decode cX7_fewest 10 = .ok (.aload_n 1, 1) := by decide +kernel
theorem dX7_fewest_11 : decode cX7_fewest 11 = .ok (.iconst 0, 1) := by decide +kernel
theorem dX7_fewest_12 : decode cX7_fewest 12 = .ok (.aload_n 1, 1) := by decide +kernel
theorem dX7_fewest_13 : decode cX7_fewest 13 = .ok (.getfield 21, 3) := by decide +kernel
theorem dX7_fewest_16 : decode cX7_fewest 16 = .ok (.iload_n 2, 1) := by decide +kernel
theorem dX7_fewest_17 : decode cX7_fewest 17 = .ok (.invokestatic 24, 3) := by decide +kernel
theorem dX7_fewest_20 : decode cX7_fewest 20 = .ok (.ifCond .ne 6, 3) := by decide +kernel
theorem dX7_fewest_23 : decode cX7_fewest 23 = .ok (.bipush (-9), 2) := by decide +kernel
theorem dX7_fewest_25 : decode cX7_fewest 25 = .ok (.ireturn, 1) := by decide +kernel
theorem dX7_fewest_26 : decode cX7_fewest 26 = .ok (.aload_n 0, 1) := by decide +kernel
theorem dX7_fewest_27 : decode cX7_fewest 27 = .ok (.getfield 9, 3) := by decide +kernel
theorem dX7_fewest_30 : decode cX7_fewest 30 = .ok (.iload_n 2, 1) := by decide +kernel
theorem dX7_fewest_31 : decode cX7_fewest 31 = .ok (.bipush (-9), 2) := by decide +kernel
theorem dX7_fewest_33 : decode cX7_fewest 33 = .ok (.iastore, 1) := by decide +kernel
theorem dX7_fewest_34 : decode cX7_fewest 34 = .ok (.iinc 2 1, 3) := by decide +kernel
theorem dX7_fewest_37 : decode cX7_fewest 37 = .ok (.goto (-35), 3) := by decide +kernel
theorem dX7_fewest_40 : decode cX7_fewest 40 = .ok (.aload_n 1, 1) := by decide +kernel
theorem dX7_fewest_41 : decode cX7_fewest 41 = .ok (.getfield 15, 3) := by decide +kernel
theorem dX7_fewest_44 : decode cX7_fewest 44 = .ok (.istore_n 2, 1) := by decide +kernel
theorem dX7_fewest_45 : decode cX7_fewest 45 = .ok (.iconst 0, 1) := by decide +kernel
theorem dX7_fewest_46 : decode cX7_fewest 46 = .ok (.istore_n 3, 1) := by decide +kernel
theorem dX7_fewest_47 : decode cX7_fewest 47 = .ok (.iload_n 3, 1) := by decide +kernel
theorem dX7_fewest_48 : decode cX7_fewest 48 = .ok (.aload_n 1, 1) := by decide +kernel
theorem dX7_fewest_49 : decode cX7_fewest 49 = .ok (.getfield 15, 3) := by decide +kernel
theorem dX7_fewest_52 : decode cX7_fewest 52 = .ok (.if_icmp .ge 27, 3) := by decide +kernel
theorem dX7_fewest_55 : decode cX7_fewest 55 = .ok (.aload_n 0, 1) := by decide +kernel
theorem dX7_fewest_56 : decode cX7_fewest 56 = .ok (.iconst 0, 1) := by decide +kernel
theorem dX7_fewest_57 : decode cX7_fewest 57 = .ok (.putfield 28, 3) := by decide +kernel
theorem dX7_fewest_60 : decode cX7_fewest 60 = .ok (.aload_n 0, 1) := by decide +kernel
theorem dX7_fewest_61 : decode cX7_fewest 61 = .ok (.aload_n 1, 1) := by decide +kernel
theorem dX7_fewest_62 : decode cX7_fewest 62 = .ok (.iload_n 3, 1) := by decide +kernel
theorem dX7_fewest_63 : decode cX7_fewest 63 = .ok (.iconst 0, 1) := by decide +kernel
theorem dX7_fewest_64 : decode cX7_fewest 64 = .ok (.invokevirtual 31, 3) := by decide +kernel
theorem dX7_fewest_67 : decode cX7_fewest 67 = .ok (.ifCond .eq 6, 3) := by decide +kernel
theorem dX7_fewest_70 : decode cX7_fewest 70 = .ok (.iinc 2 (-1), 3) := by decide +kernel
theorem dX7_fewest_73 : decode cX7_fewest 73 = .ok (.iinc 3 1, 3) := by decide +kernel
theorem dX7_fewest_76 : decode cX7_fewest 76 = .ok (.goto (-29), 3) := by decide +kernel
theorem dX7_fewest_79 : decode cX7_fewest 79 = .ok (.iload_n 2, 1) := by decide +kernel
theorem dX7_fewest_80 : decode cX7_fewest 80 = .ok (.ireturn, 1) := by decide +kernel
set_option maxRecDepth 20000 in
theorem ggX7_findFollower_X7_canFollow : GoodIn wsX7_findFollower wsX7_canFollow := goodIn_r _ [7, 8, 9, 10, 11, 12, 6, 13, 14, 15, 16, 17, 18, 22, 23, 24, 25, 26, 27, 28, 29, 30, 31] (by decide +kernel) (by decide +kernel)
set_option maxRecDepth 20000 in
theorem gX7_findFollower_X7_canFollow : GoodIn wsX7_findFollower (va_wsS RX7 35 yX7_canFollow wsX7_canFollow) := goodIn_app (goodIn_of _ (by decide +kernel)) ggX7_findFollower_X7_canFollow
set_option maxRecDepth 20000 in
theorem ggX7_findFollower_X7_findFollower : GoodIn wsX7_findFollower wsX7_findFollower := goodIn_r _ [0, 1, 2, 3, 4, 5, 6, 7, 8, 9, 10, 11, 12, 13, 14, 15, 16, 17, 18, 19, 20, 21, 22, 23, 24, 25, 26, 27, 28, 29, 30, 31, 32, 33] (by decide +kernel) (by decide +kernel)
set_option maxRecDepth 20000 in
theorem gX7_findFollower_X7_findFollower : GoodIn wsX7_findFollower (wsV RX7 31 RX7 yX7_findFollower wsX7_findFollower) := goodIn_app (goodIn_of _ (by decide +kernel)) ggX7_findFollower_X7_findFollower
theorem dX7_findFollower_0 : decode cX7_findFollower 0 = .ok (.iload_n 2, 1) := by decide +kernel
theorem dX7_findFollower_1 : decode cX7_findFollower 1 = .ok (.ifCond .lt 9, 3) := by decide +kernel
theorem dX7_findFollower_4 : decode cX7_findFollower 4 = .ok (.iload_n 3, 1) := by decide +kernel
theorem dX7_findFollower_5 : decode cX7_findFollower 5 = .ok (.bipush 8, 2) := by decide +kernel
theorem dX7_findFollower_7 : decode cX7_findFollower 7 = .ok (.if_icmp .le 5, 3) := by decide +kernel
theorem dX7_findFollower_10 : decode cX7_findFollower 10 = .ok (.iconst 0, 1) := by decide +kernel
theorem dX7_findFollower_11 : decode cX7_findFollower 11 = .ok (.ireturn, 1) := by decide +kernel
theorem dX7_findFollower_12 : decode cX7_findFollower 12 = .ok (.iconst 0, 1) := by decide +kernel
theorem dX7_findFollower_13 : decode cX7_findFollower 13 = .ok (.istore 4, 2) := by decide +kernel
theorem dX7_findFollower_15 : decode cX7_findFollower 15 = .ok (.iload 4, 2) := by decide +kernel
theorem dX7_findFollower_17 : decode cX7_findFollower 17 = .ok (.aload_n 1, 1) := by decide +kernel
theorem dX7_findFollower_18 : decode cX7_findFollower 18 = .ok (.getfield 15, 3) := by decide +kernel
theorem dX7_findFollower_21 : decode cX7_findFollower 21 = .ok (.if_icmp .ge 88, 3) := by decide +kernel
theorem dX7_findFollower_24 : decode cX7_findFollower 24 = .ok (.aload_n 0, 1) := by decide +kernel
theorem dX7_findFollower_25 : decode cX7_findFollower 25 = .ok (.getfield 28, 3) := by decide +kernel
theorem dX7_findFollower_28 : decode cX7_findFollower 28 = .ok (.iload 4, 2) := by decide +kernel
theorem dX7_findFollower_30 : decode cX7_findFollower 30 = .ok (.ishr, 1) := by decide +kernel
theorem dX7_findFollower_31 : decode cX7_findFollower 31 = .ok (.iconst 1, 1) := by decide +kernel
theorem dX7_findFollower_32 : decode cX7_findFollower 32 = .ok (.iand, 1) := by decide +kernel
theorem dX7_findFollower_33 : decode cX7_findFollower 33 = .ok (.iconst 1, 1) := by decide +kernel
theorem dX7_findFollower_34 : decode cX7_findFollower 34 = .ok (.if_icmp .eq 69, 3) := by decide +kernel
theorem dX7_findFollower_37 : decode cX7_findFollower 37 = .ok (.aload_n 1, 1) := by decide +kernel
theorem dX7_findFollower_38 : decode cX7_findFollower 38 = .ok (.iload_n 2, 1) := by decide +kernel
theorem dX7_findFollower_39 : decode cX7_findFollower 39 = .ok (.iload 4, 2) := by decide +kernel
theorem dX7_findFollower_41 : decode cX7_findFollower 41 = .ok (.invokestatic 35, 3) := by decide +kernel
theorem dX7_findFollower_44 : decode cX7_findFollower 44 = .ok (.ifCond .ne 6, 3) := by decide +kernel
theorem dX7_findFollower_47 : decode cX7_findFollower 47 = .ok (.goto 56, 3) := by decide +kernel
theorem dX7_findFollower_50 : decode cX7_findFollower 50 = .ok (.aload_n 0, 1) := by decide +kernel
theorem dX7_findFollower_51 : decode cX7_findFollower 51 = .ok (.dup, 1) := by decide +kernel
theorem dX7_findFollower_52 : decode cX7_findFollower 52 = .ok (.getfield 28, 3) := by decide +kernel
theorem dX7_findFollower_55 : decode cX7_findFollower 55 = .ok (.iconst 1, 1) := by decide +kernel
theorem dX7_findFollower_56 : decode cX7_findFollower 56 = .ok (.iload 4, 2) := by decide +kernel
theorem dX7_findFollower_58 : decode cX7_findFollower 58 = .ok (.ishl, 1) := by decide +kernel
theorem dX7_findFollower_59 : decode cX7_findFollower 59 = .ok (.ior, 1) := by decide +kernel
theorem dX7_findFollower_60 : decode cX7_findFollower 60 = .ok (.putfield 28, 3) := by decide +kernel
theorem dX7_findFollower_63 : decode cX7_findFollower 63 = .ok (.aload_n 0, 1) := by decide +kernel
theorem dX7_findFollower_64 : decode cX7_findFollower 64 = .ok (.getfield 9, 3) := by decide +kernel
theorem dX7_findFollower_67 : decode cX7_findFollower 67 = .ok (.iload 4, 2) := by decide +kernel
theorem dX7_findFollower_69 : decode cX7_findFollower 69 = .ok (.iaload, 1) := by decide +kernel
theorem dX7_findFollower_70 : decode cX7_findFollower 70 = .ok (.bipush (-9), 2) := by decide +kernel
theorem dX7_findFollower_72 : decode cX7_findFollower 72 = .ok (.if_icmp .eq 21, 3) := by decide +kernel
theorem dX7_findFollower_75 : decode cX7_findFollower 75 = .ok (.aload_n 0, 1) := by decide +kernel
theorem dX7_findFollower_76 : decode cX7_findFollower 76 = .ok (.aload_n 1, 1) := by decide +kernel
theorem dX7_findFollower_77 : decode cX7_findFollower 77 = .ok (.aload_n 0, 1) := by decide +kernel
theorem dX7_findFollower_78 : decode cX7_findFollower 78 = .ok (.getfield 9, 3) := by decide +kernel
theorem dX7_findFollower_81 : decode cX7_findFollower 81 = .ok (.iload 4, 2) := by decide +kernel
theorem dX7_findFollower_83 : decode cX7_findFollower 83 = .ok (.iaload, 1) := by decide +kernel
theorem dX7_findFollower_84 : decode cX7_findFollower 84 = .ok (.iload_n 3, 1) := by decide +kernel
theorem dX7_findFollower_85 : decode cX7_findFollower 85 = .ok (.iconst 1, 1) := by decide +kernel
theorem dX7_findFollower_86 : decode cX7_findFollower 86 = .ok (.iadd, 1) := by decide +kernel
theorem dX7_findFollower_87 : decode cX7_findFollower 87 = .ok (.invokevirtual 31, 3) := by decide +kernel
theorem dX7_findFollower_90 : decode cX7_findFollower 90 = .ok (.ifCond .eq 13, 3) := by decide +kernel
theorem dX7_findFollower_93 : decode cX7_findFollower 93 = .ok (.aload_n 0, 1) := by decide +kernel
theorem dX7_findFollower_94 : decode cX7_findFollower 94 = .ok (.getfield 9, 3) := by decide +kernel
theorem dX7_findFollower_97 : decode cX7_findFollower 97 = .ok (.iload 4, 2) := by decide +kernel
theorem dX7_findFollower_99 : decode cX7_findFollower 99 = .ok (.iload_n 2, 1) := by decide +kernel
theorem dX7_findFollower_100 : decode cX7_findFollower 100 = .ok (.iastore, 1) := by decide +kernel
theorem dX7_findFollower_101 : decode cX7_findFollower 101 = .ok (.iconst 1, 1) := by decide +kernel
theorem dX7_findFollower_102 : decode cX7_findFollower 102 = .ok (.ireturn, 1) := by decide +kernel
theorem dX7_findFollower_103 : decode cX7_findFollower 103 = .ok (.iinc 4 1, 3) := by decide +kernel
theorem dX7_findFollower_106 : decode cX7_findFollower 106 = .ok (.goto (-91), 3) := by decide +kernel
theorem dX7_findFollower_109 : decode cX7_findFollower 109 = .ok (.iconst 0, 1) := by decide +kernel
theorem dX7_findFollower_110 : decode cX7_findFollower 110 = .ok (.ireturn, 1) := by decide +kernel
set_option maxRecDepth 20000 in
theorem ggX7_canFollow_X7_canGo : GoodIn wsX7_canFollow wsX7_canGo := goodIn_r _ [7, 8, 2, 9, 10, 11, 12, 3, 1, 13, 14, 15, 16, 17, 18, 19, 20, 21, 22] (by decide +kernel) (by decide +kernel)
set_option maxRecDepth 20000 in
theorem gX7_canFollow_X7_canGo : GoodIn wsX7_canFollow (va_wsS RX7 24 yX7_canGo wsX7_canGo) := goodIn_app (goodIn_of _ (by decide +kernel)) ggX7_canFollow_X7_canGo
theorem dX7_canFollow_0 : decode cX7_canFollow 0 = .ok (.aload_n 0, 1) := by decide +kernel
theorem dX7_canFollow_1 : decode cX7_canFollow 1 = .ok (.getfield 38, 3) := by decide +kernel
theorem dX7_canFollow_4 : decode cX7_canFollow 4 = .ok (.iload_n 2, 1) := by decide +kernel
theorem dX7_canFollow_5 : decode cX7_canFollow 5 = .ok (.iaload, 1) := by decide +kernel
theorem dX7_canFollow_6 : decode cX7_canFollow 6 = .ok (.aload_n 0, 1) := by decide +kernel
theorem dX7_canFollow_7 : decode cX7_canFollow 7 = .ok (.getfield 38, 3) := by decide +kernel
theorem dX7_canFollow_10 : decode cX7_canFollow 10 = .ok (.iload_n 1, 1) := by decide +kernel
theorem dX7_canFollow_11 : decode cX7_canFollow 11 = .ok (.iaload, 1) := by decide +kernel
theorem dX7_canFollow_12 : decode cX7_canFollow 12 = .ok (.isub, 1) := by decide +kernel
theorem dX7_canFollow_13 : decode cX7_canFollow 13 = .ok (.istore_n 3, 1) := by decide +kernel
theorem dX7_canFollow_14 : decode cX7_canFollow 14 = .ok (.iload_n 3, 1) := by decide +kernel
theorem dX7_canFollow_15 : decode cX7_canFollow 15 = .ok (.ifCond .gt 12, 3) := by decide +kernel
theorem dX7_canFollow_18 : decode cX7_canFollow 18 = .ok (.iload_n 3, 1) := by decide +kernel
theorem dX7_canFollow_19 : decode cX7_canFollow 19 = .ok (.ifCond .ne 12, 3) := by decide +kernel
theorem dX7_canFollow_22 : decode cX7_canFollow 22 = .ok (.iload_n 2, 1) := by decide +kernel
theorem dX7_canFollow_23 : decode cX7_canFollow 23 = .ok (.iload_n 1, 1) := by decide +kernel
theorem dX7_canFollow_24 : decode cX7_canFollow 24 = .ok (.if_icmp .le 7, 3) := by decide +kernel
theorem dX7_canFollow_27 : decode cX7_canFollow 27 = .ok (.iconst 1, 1) := by decide +kernel
theorem dX7_canFollow_28 : decode cX7_canFollow 28 = .ok (.goto 4, 3) := by decide +kernel
theorem dX7_canFollow_31 : decode cX7_canFollow 31 = .ok (.iconst 0, 1) := by decide +kernel
theorem dX7_canFollow_32 : decode cX7_canFollow 32 = .ok (.istore 4, 2) := by decide +kernel
theorem dX7_canFollow_34 : decode cX7_canFollow 34 = .ok (.iload 4, 2) := by decide +kernel
theorem dX7_canFollow_36 : decode cX7_canFollow 36 = .ok (.ifCond .eq 42, 3) := by decide +kernel
theorem dX7_canFollow_39 : decode cX7_canFollow 39 = .ok (.aload_n 0, 1) := by decide +kernel
theorem dX7_canFollow_40 : decode cX7_canFollow 40 = .ok (.getfield 41, 3) := by decide +kernel
theorem dX7_canFollow_43 : decode cX7_canFollow 43 = .ok (.iload_n 2, 1) := by decide +kernel
theorem dX7_canFollow_44 : decode cX7_canFollow 44 = .ok (.iaload, 1) := by decide +kernel
theorem dX7_canFollow_45 : decode cX7_canFollow 45 = .ok (.aload_n 0, 1) := by decide +kernel
theorem dX7_canFollow_46 : decode cX7_canFollow 46 = .ok (.getfield 41, 3) := by decide +kernel
theorem dX7_canFollow_49 : decode cX7_canFollow 49 = .ok (.iload_n 1, 1) := by decide +kernel
theorem dX7_canFollow_50 : decode cX7_canFollow 50 = .ok (.iaload, 1) := by decide +kernel
theorem dX7_canFollow_51 : decode cX7_canFollow 51 = .ok (.if_icmp .eq 27, 3) := by decide +kernel
theorem dX7_canFollow_54 : decode cX7_canFollow 54 = .ok (.aload_n 0, 1) := by decide +kernel
theorem dX7_canFollow_55 : decode cX7_canFollow 55 = .ok (.aload_n 0, 1) := by decide +kernel
theorem dX7_canFollow_56 : decode cX7_canFollow 56 = .ok (.getfield 38, 3) := by decide +kernel
theorem dX7_canFollow_59 : decode cX7_canFollow 59 = .ok (.iload_n 1, 1) := by decide +kernel
theorem dX7_canFollow_60 : decode cX7_canFollow 60 = .ok (.iaload, 1) := by decide +kernel
theorem dX7_canFollow_61 : decode cX7_canFollow 61 = .ok (.aload_n 0, 1) := by decide +kernel
theorem dX7_canFollow_62 : decode cX7_canFollow 62 = .ok (.getfield 44, 3) := by decide +kernel
theorem dX7_canFollow_65 : decode cX7_canFollow 65 = .ok (.iload_n 1, 1) := by decide +kernel
theorem dX7_canFollow_66 : decode cX7_canFollow 66 = .ok (.iaload, 1) := by decide +kernel
theorem dX7_canFollow_67 : decode cX7_canFollow 67 = .ok (.iload_n 2, 1) := by decide +kernel
theorem dX7_canFollow_68 : decode cX7_canFollow 68 = .ok (.invokestatic 24, 3) := by decide +kernel
theorem dX7_canFollow_71 : decode cX7_canFollow 71 = .ok (.ifCond .eq 7, 3) := by decide +kernel
theorem dX7_canFollow_74 : decode cX7_canFollow 74 = .ok (.iconst 1, 1) := by decide +kernel
theorem dX7_canFollow_75 : decode cX7_canFollow 75 = .ok (.goto 4, 3) := by decide +kernel
theorem dX7_canFollow_78 : decode cX7_canFollow 78 = .ok (.iconst 0, 1) := by decide +kernel
theorem dX7_canFollow_79 : decode cX7_canFollow 79 = .ok (.ireturn, 1) := by decide +kernel
theorem dX7_canGo_0 : decode cX7_canGo 0 = .ok (.aload_n 0, 1) := by decide +kernel
theorem dX7_canGo_1 : decode cX7_canGo 1 = .ok (.getfield 47, 3) := by decide +kernel
theorem dX7_canGo_4 : decode cX7_canGo 4 = .ok (.aload_n 0, 1) := by decide +kernel
theorem dX7_canGo_5 : decode cX7_canGo 5 = .ok (.getfield 41, 3) := by decide +kernel
theorem dX7_canGo_8 : decode cX7_canGo 8 = .ok (.iload_n 3, 1) := by decide +kernel
theorem dX7_canGo_9 : decode cX7_canGo 9 = .ok (.iaload, 1) := by decide +kernel
theorem dX7_canGo_10 : decode cX7_canGo 10 = .ok (.iaload, 1) := by decide +kernel
theorem dX7_canGo_11 : decode cX7_canGo 11 = .ok (.istore 4, 2) := by decide +kernel
theorem dX7_canGo_13 : decode cX7_canGo 13 = .ok (.iload_n 1, 1) := by decide +kernel
theorem dX7_canGo_14 : decode cX7_canGo 14 = .ok (.iload_n 2, 1) := by decide +kernel
theorem dX7_canGo_15 : decode cX7_canGo 15 = .ok (.iload 4, 2) := by decide +kernel
theorem dX7_canGo_17 : decode cX7_canGo 17 = .ok (.isub, 1) := by decide +kernel
theorem dX7_canGo_18 : decode cX7_canGo 18 = .ok (.invokestatic 50, 3) := by decide +kernel
theorem dX7_canGo_21 : decode cX7_canGo 21 = .ok (.iadd, 1) := by decide +kernel
theorem dX7_canGo_22 : decode cX7_canGo 22 = .ok (.iload 4, 2) := by decide +kernel
theorem dX7_canGo_24 : decode cX7_canGo 24 = .ok (.aload_n 0, 1) := by decide +kernel
theorem dX7_canGo_25 : decode cX7_canGo 25 = .ok (.getfield 44, 3) := by decide +kernel
theorem dX7_canGo_28 : decode cX7_canGo 28 = .ok (.iload_n 3, 1) := by decide +kernel
theorem dX7_canGo_29 : decode cX7_canGo 29 = .ok (.iaload, 1) := by decide +kernel
theorem dX7_canGo_30 : decode cX7_canGo 30 = .ok (.isub, 1) := by decide +kernel
theorem dX7_canGo_31 : decode cX7_canGo 31 = .ok (.invokestatic 50, 3) := by decide +kernel
theorem dX7_canGo_34 : decode cX7_canGo 34 = .ok (.iadd, 1) := by decide +kernel
theorem dX7_canGo_35 : decode cX7_canGo 35 = .ok (.aload_n 0, 1) := by decide +kernel
theorem dX7_canGo_36 : decode cX7_canGo 36 = .ok (.getfield 38, 3) := by decide +kernel
theorem dX7_canGo_39 : decode cX7_canGo 39 = .ok (.iload_n 3, 1) := by decide +kernel
theorem dX7_canGo_40 : decode cX7_canGo 40 = .ok (.iaload, 1) := by decide +kernel
theorem dX7_canGo_41 : decode cX7_canGo 41 = .ok (.if_icmp .gt 7, 3) := by decide +kernel
theorem dX7_canGo_44 : decode cX7_canGo 44 = .ok (.iconst 1, 1) := by decide +kernel
theorem dX7_canGo_45 : decode cX7_canGo 45 = .ok (.goto 4, 3) := by decide +kernel
theorem dX7_canGo_48 : decode cX7_canGo 48 = .ok (.iconst 0, 1) := by decide +kernel
theorem dX7_canGo_49 : decode cX7_canGo 49 = .ok (.ireturn, 1) := by decide +kernel
theorem dX8_init_0 : decode cX8_init 0 = .ok (.aload_n 0, 1) := by decide +kernel
theorem dX8_init_1 : decode cX8_init 1 = .ok (.invokespecial 3, 3) := by decide +kernel
theorem dX8_init_4 : decode cX8_init 4 = .ok (.aload_n 0, 1) := by decide +kernel
theorem dX8_init_5 : decode cX8_init 5 = .ok (.sipush 180, 3) := by decide +kernel
theorem dX8_init_8 : decode cX8_init 8 = .ok (.newarray .int, 2) := by decide +kernel
theorem dX8_init_10 : decode cX8_init 10 = .ok (.putfield 9, 3) := by decide +kernel
theorem dX8_init_13 : decode cX8_init 13 = .ok (.return_, 1) := by decide +kernel
theorem dX8_goToStart_0 : decode cX8_goToStart 0 = .ok (.aload_n 0, 1) := by decide +kernel
theorem dX8_goToStart_1 : decode cX8_goToStart 1 = .ok (.iconst 0, 1) := by decide +kernel
theorem dX8_goToStart_2 : decode cX8_goToStart 2 = .ok (.putfield 15, 3) := by decide +kernel
theorem dX8_goToStart_5 : decode cX8_goToStart 5 = .ok (.return_, 1) := by decide +kernel
set_option maxRecDepth 20000 in
theorem ggX8_readToken_X8_isLetter : GoodIn wsX8_readToken wsX8_isLetter := goodIn_r _ [10] (by decide +kernel) (by decide +kernel)
set_option maxRecDepth 20000 in
theorem gX8_readToken_X8_isLetter : GoodIn wsX8_readToken (va_wsS RX8 31 yX8_isLetter wsX8_isLetter) := goodIn_app (goodIn_of _ (by decide +kernel)) ggX8_readToken_X8_isLetter
set_option maxRecDepth 20000 in
theorem ggX8_readToken_X8_readLetters : GoodIn wsX8_readToken wsX8_readLetters := goodIn_r _ [14, 3, 1, 2, 6, 4, 5, 7, 8, 9, 10, 22, 23, 24, 25, 26, 27] (by decide +kernel) (by decide +kernel)
set_option maxRecDepth 20000 in
theorem gX8_readToken_X8_readLetters : GoodIn wsX8_readToken (wsV RX8 35 RX8 yX8_readLetters wsX8_readLetters) := goodIn_app (goodIn_of _ (by decide +kernel)) ggX8_readToken_X8_readLetters
set_option maxRecDepth 20000 in
theorem ggX8_readToken_X8_isDigit : GoodIn wsX8_readToken wsX8_isDigit := goodIn_r _ [17] (by decide +kernel) (by decide +kernel)
set_option maxRecDepth 20000 in
theorem gX8_readToken_X8_isDigit : GoodIn wsX8_readToken (va_wsS RX8 38 yX8_isDigit wsX8_isDigit) := goodIn_app (goodIn_of _ (by decide +kernel)) ggX8_readToken_X8_isDigit
set_option maxRecDepth 20000 in
theorem ggX8_readToken_X8_readNumber : GoodIn wsX8_readToken wsX8_readNumber := goodIn_r _ [21, 3, 1, 2, 5, 4, 6, 15, 16, 9, 17, 22, 23, 24, 25, 26, 27] (by decide +kernel) (by decide +kernel)
set_option maxRecDepth 20000 in
theorem gX8_readToken_X8_readNumber : GoodIn wsX8_readToken (wsV RX8 41 RX8 yX8_readNumber wsX8_readNumber) := goodIn_app (goodIn_of _ (by decide +kernel)) ggX8_readToken_X8_readNumber
theorem dX8_readToken_0 : decode cX8_readToken 0 = .ok (.aload_n 0, 1) := by decide +kernel
theorem dX8_readToken_1 : decode cX8_readToken 1 = .ok (.getfield 15, 3) := by decide +kernel
theorem dX8_readToken_4 : decode cX8_readToken 4 = .ok (.aload_n 0, 1) := by decide +kernel
theorem dX8_readToken_5 : decode cX8_readToken 5 = .ok (.getfield 19, 3) := by decide +kernel
theorem dX8_readToken_8 : decode cX8_readToken 8 = .ok (.if_icmp .ge 30, 3) := by decide +kernel
theorem dX8_readToken_11 : decode cX8_readToken 11 = .ok (.aload_n 0, 1) := by decide +kernel
theorem dX8_readToken_12 : decode cX8_readToken 12 = .ok (.getfield 9, 3) := by decide +kernel
theorem dX8_readToken_15 : decode cX8_readToken 15 = .ok (.aload_n 0, 1) := by decide +kernel
theorem dX8_readToken_16 : decode cX8_readToken 16 = .ok (.getfield 15, 3) := by decide +kernel
theorem dX8_readToken_19 : decode cX8_readToken 19 = .ok (.iaload, 1) := by decide +kernel
theorem dX8_readToken_20 : decode cX8_readToken 20 = .ok (.bipush 32, 2) := by decide +kernel
theorem dX8_readToken_22 : decode cX8_readToken 22 = .ok (.if_icmp .ne 16, 3) := by decide +kernel
theorem dX8_readToken_25 : decode cX8_readToken 25 = .ok (.aload_n 0, 1) := by decide +kernel
theorem dX8_readToken_26 : decode cX8_readToken 26 = .ok (.dup, 1) := by decide +kernel
theorem dX8_readToken_27 : decode cX8_readToken 27 = .ok (.getfield 15, 3) := by decide +kernel
theorem dX8_readToken_30 : decode cX8_readToken 30 = .ok (.iconst 1, 1) := by decide +kernel
theorem dX8_readToken_31 : decode cX8_readToken 31 = .ok (.iadd, 1) := by decide +kernel
theorem dX8_readToken_32 : decode cX8_readToken 32 = .ok (.putfield 15, 3) := by decide +kernel
theorem dX8_readToken_35 : decode cX8_readToken 35 = .ok (.goto (-35), 3) := by decide +kernel
theorem dX8_readToken_38 : decode cX8_readToken 38 = .ok (.aload_n 0, 1) := by decide +kernel
theorem dX8_readToken_39 : decode cX8_readToken 39 = .ok (.aload_n 0, 1) := by decide +kernel
theorem dX8_readToken_40 : decode cX8_readToken 40 = .ok (.getfield 15, 3) := by decide +kernel
theorem dX8_readToken_43 : decode cX8_readToken 43 = .ok (.putfield 22, 3) := by decide +kernel
theorem dX8_readToken_46 : decode cX8_readToken 46 = .ok (.aload_n 0, 1) := by decide +kernel
theorem dX8_readToken_47 : decode cX8_readToken 47 = .ok (.iconst 0, 1) := by decide +kernel
theorem dX8_readToken_48 : decode cX8_readToken 48 = .ok (.putfield 25, 3) := by decide +kernel
theorem dX8_readToken_51 : decode cX8_readToken 51 = .ok (.aload_n 0, 1) := by decide +kernel
theorem dX8_readToken_52 : decode cX8_readToken 52 = .ok (.getfield 15, 3) := by decide +kernel
theorem dX8_readToken_55 : decode cX8_readToken 55 = .ok (.aload_n 0, 1) := by decide +kernel
theorem dX8_readToken_56 : decode cX8_readToken 56 = .ok (.getfield 19, 3) := by decide +kernel
theorem dX8_readToken_59 : decode cX8_readToken 59 = .ok (.if_icmp .lt 11, 3) := by decide +kernel
theorem dX8_readToken_62 : decode cX8_readToken 62 = .ok (.aload_n 0, 1) := by decide +kernel
theorem dX8_readToken_63 : decode cX8_readToken 63 = .ok (.iconst 0, 1) := by decide +kernel
theorem dX8_readToken_64 : decode cX8_readToken 64 = .ok (.putfield 28, 3) := by decide +kernel
theorem dX8_readToken_67 : decode cX8_readToken 67 = .ok (.goto 80, 3) := by decide +kernel
theorem dX8_readToken_70 : decode cX8_readToken 70 = .ok (.aload_n 0, 1) := by decide +kernel
theorem dX8_readToken_71 : decode cX8_readToken 71 = .ok (.getfield 9, 3) := by decide +kernel
theorem dX8_readToken_74 : decode cX8_readToken 74 = .ok (.aload_n 0, 1) := by decide +kernel
theorem dX8_readToken_75 : decode cX8_readToken 75 = .ok (.getfield 15, 3) := by decide +kernel
theorem dX8_readToken_78 : decode cX8_readToken 78 = .ok (.iaload, 1) := by decide +kernel
theorem dX8_readToken_79 : decode cX8_readToken 79 = .ok (.invokestatic 31, 3) := by decide +kernel
theorem dX8_readToken_82 : decode cX8_readToken 82 = .ok (.ifCond .eq 10, 3) := by decide +kernel
theorem dX8_readToken_85 : decode cX8_readToken 85 = .ok (.aload_n 0, 1) := by decide +kernel
theorem dX8_readToken_86 : decode cX8_readToken 86 = .ok (.invokevirtual 35, 3) := by decide +kernel
theorem dX8_readToken_89 : decode cX8_readToken 89 = .ok (.goto 58, 3) := by decide +kernel
theorem dX8_readToken_92 : decode cX8_readToken 92 = .ok (.aload_n 0, 1) := by decide +kernel
theorem dX8_readToken_93 : decode cX8_readToken 93 = .ok (.getfield 9, 3) := by decide +kernel
theorem dX8_readToken_96 : decode cX8_readToken 96 = .ok (.aload_n 0, 1) := by decide +kernel
theorem dX8_readToken_97 : decode cX8_readToken 97 = .ok (.getfield 15, 3) := by decide +kernel
theorem dX8_readToken_100 : decode cX8_readToken 100 = .ok (.iaload, 1) := by decide +kernel
theorem dX8_readToken_101 : decode cX8_readToken 101 = .ok (.invokestatic 38, 3) := by decide +kernel
theorem dX8_readToken_104 : decode cX8_readToken 104 = .ok (.ifCond .eq 10, 3) := by decide +kernel
theorem dX8_readToken_107 : decode cX8_readToken 107 = .ok (.aload_n 0, 1) := by decide +kernel
theorem dX8_readToken_108 : decode cX8_readToken 108 = .ok (.invokevirtual 41, 3) := by decide +kernel
theorem dX8_readToken_111 : decode cX8_readToken 111 = .ok (.goto 36, 3) := by decide +kernel
theorem dX8_readToken_114 : decode cX8_readToken 114 = .ok (.aload_n 0, 1) := by decide +kernel
theorem dX8_readToken_115 : decode cX8_readToken 115 = .ok (.aload_n 0, 1) := by decide +kernel
theorem dX8_readToken_116 : decode cX8_readToken 116 = .ok (.getfield 9, 3) := by decide +kernel
theorem dX8_readToken_119 : decode cX8_readToken 119 = .ok (.aload_n 0, 1) := by decide +kernel
theorem dX8_readToken_120 : decode cX8_readToken 120 = .ok (.getfield 15, 3) := by decide +kernel
theorem dX8_readToken_123 : decode cX8_readToken 123 = .ok (.iaload, 1) := by decide +kernel
theorem dX8_readToken_124 : decode cX8_readToken 124 = .ok (.bipush 59, 2) := by decide +kernel
theorem dX8_readToken_126 : decode cX8_readToken 126 = .ok (.if_icmp .ne 7, 3) := by decide +kernel
theorem dX8_readToken_129 : decode cX8_readToken 129 = .ok (.iconst 3, 1) := by decide +kernel
theorem dX8_readToken_130 : decode cX8_readToken 130 = .ok (.goto 4, 3) := by decide +kernel
theorem dX8_readToken_133 : decode cX8_readToken 133 = .ok (.iconst 4, 1) := by decide +kernel
theorem dX8_readToken_134 : decode cX8_readToken 134 = .ok (.putfield 28, 3) := by decide +kernel
theorem dX8_readToken_137 : decode cX8_readToken 137 = .ok (.aload_n 0, 1) := by decide +kernel
theorem dX8_readToken_138 : decode cX8_readToken 138 = .ok (.dup, 1) := by decide +kernel
theorem dX8_readToken_139 : decode cX8_readToken 139 = .ok (.getfield 15, 3) := by decide +kernel
theorem dX8_readToken_142 : decode cX8_readToken 142 = .ok (.iconst 1, 1) := by decide +kernel
theorem dX8_readToken_143 : decode cX8_readToken 143 = .ok (.iadd, 1) := by decide +kernel
theorem dX8_readToken_144 : decode cX8_readToken 144 = .ok (.putfield 15, 3) := by decide +kernel
theorem dX8_readToken_147 : decode cX8_readToken 147 = .ok (.return_, 1) := by decide +kernel
set_option maxRecDepth 20000 in
theorem ggX8_readLetters_X8_isLetter : GoodIn wsX8_readLetters wsX8_isLetter := goodIn_r _ [10] (by decide +kernel) (by decide +kernel)
set_option maxRecDepth 20000 in
theorem gX8_readLetters_X8_isLetter : GoodIn wsX8_readLetters (va_wsS RX8 31 yX8_isLetter wsX8_isLetter) := goodIn_app (goodIn_of _ (by decide +kernel)) ggX8_readLetters_X8_isLetter
theorem dX8_readLetters_0 : decode cX8_readLetters 0 = .ok (.aload_n 0, 1) := by decide +kernel
theorem dX8_readLetters_1 : decode cX8_readLetters 1 = .ok (.getfield 9, 3) := by decide +kernel
theorem dX8_readLetters_4 : decode cX8_readLetters 4 = .ok (.aload_n 0, 1) := by decide +kernel
theorem dX8_readLetters_5 : decode cX8_readLetters 5 = .ok (.getfield 15, 3) := by decide +kernel
theorem dX8_readLetters_8 : decode cX8_readLetters 8 = .ok (.iaload, 1) := by decide +kernel
theorem dX8_readLetters_9 : decode cX8_readLetters 9 = .ok (.istore_n 1, 1) := by decide +kernel
theorem dX8_readLetters_10 : decode cX8_readLetters 10 = .ok (.aload_n 0, 1) := by decide +kernel
theorem dX8_readLetters_11 : decode cX8_readLetters 11 = .ok (.getfield 15, 3) := by decide +kernel
theorem dX8_readLetters_14 : decode cX8_readLetters 14 = .ok (.aload_n 0, 1) := by decide +kernel
theorem dX8_readLetters_15 : decode cX8_readLetters 15 = .ok (.getfield 19, 3) := by decide +kernel
theorem dX8_readLetters_18 : decode cX8_readLetters 18 = .ok (.if_icmp .ge 31, 3) := by decide +kernel
theorem dX8_readLetters_21 : decode cX8_readLetters 21 = .ok (.aload_n 0, 1) := by decide +kernel
theorem dX8_readLetters_22 : decode cX8_readLetters 22 = .ok (.getfield 9, 3) := by decide +kernel
theorem dX8_readLetters_25 : decode cX8_readLetters 25 = .ok (.aload_n 0, 1) := by decide +kernel
theorem dX8_readLetters_26 : decode cX8_readLetters 26 = .ok (.getfield 15, 3) := by decide +kernel
theorem dX8_readLetters_29 : decode cX8_readLetters 29 = .ok (.iaload, 1) := by decide +kernel
theorem dX8_readLetters_30 : decode cX8_readLetters 30 = .ok (.invokestatic 31, 3) := by decide +kernel
theorem dX8_readLetters_33 : decode cX8_readLetters 33 = .ok (.ifCond .eq 16, 3) := by decide +kernel
theorem dX8_readLetters_36 : decode cX8_readLetters 36 = .ok (.aload_n 0, 1) := by decide +kernel
theorem dX8_readLetters_37 : decode cX8_readLetters 37 = .ok (.dup, 1) := by decide +kernel
theorem dX8_readLetters_38 : decode cX8_readLetters 38 = .ok (.getfield 15, 3) := by decide +kernel
theorem dX8_readLetters_41 : decode cX8_readLetters 41 = .ok (.iconst 1, 1) := by decide +kernel
theorem dX8_readLetters_42 : decode cX8_readLetters 42 = .ok (.iadd, 1) := by decide +kernel
theorem dX8_readLetters_43 : decode cX8_readLetters 43 = .ok (.putfield 15, 3) := by decide +kernel
theorem dX8_readLetters_46 : decode cX8_readLetters 46 = .ok (.goto (-36), 3) := by decide +kernel
theorem dX8_readLetters_49 : decode cX8_readLetters 49 = .ok (.aload_n 0, 1) := by decide +kernel
theorem dX8_readLetters_50 : decode cX8_readLetters 50 = .ok (.iconst 1, 1) := by decide +kernel
theorem dX8_readLetters_51 : decode cX8_readLetters 51 = .ok (.putfield 28, 3) := by decide +kernel
theorem dX8_readLetters_54 : decode cX8_readLetters 54 = .ok (.aload_n 0, 1) := by decide +kernel
theorem dX8_readLetters_55 : decode cX8_readLetters 55 = .ok (.aload_n 0, 1) := by decide +kernel
theorem dX8_readLetters_56 : decode cX8_readLetters 56 = .ok (.getfield 15, 3) := by decide +kernel
theorem dX8_readLetters_59 : decode cX8_readLetters 59 = .ok (.aload_n 0, 1) := by decide +kernel
theorem dX8_readLetters_60 : decode cX8_readLetters 60 = .ok (.getfield 22, 3) := by decide +kernel
theorem dX8_readLetters_63 : decode cX8_readLetters 63 = .ok (.isub, 1) := by decide +kernel
theorem dX8_readLetters_64 : decode cX8_readLetters 64 = .ok (.iconst 1, 1) := by decide +kernel
theorem dX8_readLetters_65 : decode cX8_readLetters 65 = .ok (.if_icmp .ne 7, 3) := by decide +kernel
theorem dX8_readLetters_68 : decode cX8_readLetters 68 = .ok (.iload_n 1, 1) := by decide +kernel
theorem dX8_readLetters_69 : decode cX8_readLetters 69 = .ok (.goto 4, 3) := by decide +kernel
theorem dX8_readLetters_72 : decode cX8_readLetters 72 = .ok (.iconst 0, 1) := by decide +kernel
theorem dX8_readLetters_73 : decode cX8_readLetters 73 = .ok (.putfield 25, 3) := by decide +kernel
theorem dX8_readLetters_76 : decode cX8_readLetters 76 = .ok (.return_, 1) := by decide +kernel
set_option maxRecDepth 20000 in
theorem ggX8_readNumber_X8_isDigit : GoodIn wsX8_readNumber wsX8_isDigit := goodIn_r _ [10] (by decide +kernel) (by decide +kernel)
set_option maxRecDepth 20000 in
theorem gX8_readNumber_X8_isDigit : GoodIn wsX8_readNumber (va_wsS RX8 38 yX8_isDigit wsX8_isDigit) := goodIn_app (goodIn_of _ (by decide +kernel)) ggX8_readNumber_X8_isDigit
theorem dX8_readNumber_0 : decode cX8_readNumber 0 = .ok (.aload_n 0, 1) := by decide +kernel
theorem dX8_readNumber_1 : decode cX8_readNumber 1 = .ok (.getfield 9, 3) := by decide +kernel
theorem dX8_readNumber_4 : decode cX8_readNumber 4 = .ok (.aload_n 0, 1) := by decide +kernel
theorem dX8_readNumber_5 : decode cX8_readNumber 5 = .ok (.getfield 15, 3) := by decide +kernel
theorem dX8_readNumber_8 : decode cX8_readNumber 8 = .ok (.iaload, 1) := by decide +kernel
theorem dX8_readNumber_9 : decode cX8_readNumber 9 = .ok (.bipush 48, 2) := by decide +kernel
theorem dX8_readNumber_11 : decode cX8_readNumber 11 = .ok (.if_icmp .ne 7, 3) := by decide +kernel
theorem dX8_readNumber_14 : decode cX8_readNumber 14 = .ok (.iconst 1, 1) := by decide +kernel
theorem dX8_readNumber_15 : decode cX8_readNumber 15 = .ok (.goto 4, 3) := by decide +kernel
theorem dX8_readNumber_18 : decode cX8_readNumber 18 = .ok (.iconst 0, 1) := by decide +kernel
theorem dX8_readNumber_19 : decode cX8_readNumber 19 = .ok (.istore_n 1, 1) := by decide +kernel
theorem dX8_readNumber_20 : decode cX8_readNumber 20 = .ok (.aload_n 0, 1) := by decide +kernel
theorem dX8_readNumber_21 : decode cX8_readNumber 21 = .ok (.getfield 15, 3) := by decide +kernel
theorem dX8_readNumber_24 : decode cX8_readNumber 24 = .ok (.aload_n 0, 1) := by decide +kernel
theorem dX8_readNumber_25 : decode cX8_readNumber 25 = .ok (.getfield 19, 3) := by decide +kernel
theorem dX8_readNumber_28 : decode cX8_readNumber 28 = .ok (.if_icmp .ge 64, 3) := by decide +kernel
theorem dX8_readNumber_31 : decode cX8_readNumber 31 = .ok (.aload_n 0, 1) := by decide +kernel
theorem dX8_readNumber_32 : decode cX8_readNumber 32 = .ok (.getfield 9, 3) := by decide +kernel
theorem dX8_readNumber_35 : decode cX8_readNumber 35 = .ok (.aload_n 0, 1) := by decide +kernel
theorem dX8_readNumber_36 : decode cX8_readNumber 36 = .ok (.getfield 15, 3) := by decide +kernel
theorem dX8_readNumber_39 : decode cX8_readNumber 39 = .ok (.iaload, 1) := by decide +kernel
theorem dX8_readNumber_40 : decode cX8_readNumber 40 = .ok (.invokestatic 38, 3) := by decide +kernel
theorem dX8_readNumber_43 : decode cX8_readNumber 43 = .ok (.ifCond .eq 49, 3) := by decide +kernel
theorem dX8_readNumber_46 : decode cX8_readNumber 46 = .ok (.aload_n 0, 1) := by decide +kernel
theorem dX8_readNumber_47 : decode cX8_readNumber 47 = .ok (.getfield 25, 3) := by decide +kernel
theorem dX8_readNumber_50 : decode cX8_readNumber 50 = .ok (.bipush 99, 2) := by decide +kernel
theorem dX8_readNumber_52 : decode cX8_readNumber 52 = .ok (.if_icmp .gt 27, 3) := by decide +kernel
theorem dX8_readNumber_55 : decode cX8_readNumber 55 = .ok (.aload_n 0, 1) := by decide +kernel
theorem dX8_readNumber_56 : decode cX8_readNumber 56 = .ok (.aload_n 0, 1) := by decide +kernel
theorem dX8_readNumber_57 : decode cX8_readNumber 57 = .ok (.getfield 25, 3) := by decide +kernel
theorem dX8_readNumber_60 : decode cX8_readNumber 60 = .ok (.bipush 10, 2) := by decide +kernel
theorem dX8_readNumber_62 : decode cX8_readNumber 62 = .ok (.imul, 1) := by decide +kernel
theorem dX8_readNumber_63 : decode cX8_readNumber 63 = .ok (.aload_n 0, 1) := by decide +kernel
theorem dX8_readNumber_64 : decode cX8_readNumber 64 = .ok (.getfield 9, 3) := by decide +kernel
theorem dX8_readNumber_67 : decode cX8_readNumber 67 = .ok (.aload_n 0, 1) := by decide +kernel
theorem dX8_readNumber_68 : decode cX8_readNumber 68 = .ok (.getfield 15, 3) := by decide +kernel
theorem dX8_readNumber_71 : decode cX8_readNumber 71 = .ok (.iaload, 1) := by decide +kernel
theorem dX8_readNumber_72 : decode cX8_readNumber 72 = .ok (.iadd, 1) := by decide +kernel
theorem dX8_readNumber_73 : decode cX8_readNumber 73 = .ok (.bipush 48, 2) := by decide +kernel
theorem dX8_readNumber_75 : decode cX8_readNumber 75 = .ok (.isub, 1) := by decide +kernel
theorem dX8_readNumber_76 : decode cX8_readNumber 76 = .ok (.putfield 25, 3) := by decide +kernel
theorem dX8_readNumber_79 : decode cX8_readNumber 79 = .ok (.aload_n 0, 1) := by decide +kernel
theorem dX8_readNumber_80 : decode cX8_readNumber 80 = .ok (.dup, 1) := by decide +kernel
theorem dX8_readNumber_81 : decode cX8_readNumber 81 = .ok (.getfield 15, 3) := by decide +kernel
theorem dX8_readNumber_84 : decode cX8_readNumber 84 = .ok (.iconst 1, 1) := by decide +kernel
theorem dX8_readNumber_85 : decode cX8_readNumber 85 = .ok (.iadd, 1) := by decide +kernel
theorem dX8_readNumber_86 : decode cX8_readNumber 86 = .ok (.putfield 15, 3) := by decide +kernel
theorem dX8_readNumber_89 : decode cX8_readNumber 89 = .ok (.goto (-69), 3) := by decide +kernel
theorem dX8_readNumber_92 : decode cX8_readNumber 92 = .ok (.iload_n 1, 1) := by decide +kernel
theorem dX8_readNumber_93 : decode cX8_readNumber 93 = .ok (.ifCond .eq 20, 3) := by decide +kernel
theorem dX8_readNumber_96 : decode cX8_readNumber 96 = .ok (.aload_n 0, 1) := by decide +kernel
theorem dX8_readNumber_97 : decode cX8_readNumber 97 = .ok (.getfield 15, 3) := by decide +kernel
theorem dX8_readNumber_100 : decode cX8_readNumber 100 = .ok (.aload_n 0, 1) := by decide +kernel
theorem dX8_readNumber_101 : decode cX8_readNumber 101 = .ok (.getfield 22, 3) := by decide +kernel
theorem dX8_readNumber_104 : decode cX8_readNumber 104 = .ok (.isub, 1) := by decide +kernel
theorem dX8_readNumber_105 : decode cX8_readNumber 105 = .ok (.iconst 1, 1) := by decide +kernel
theorem dX8_readNumber_106 : decode cX8_readNumber 106 = .ok (.if_icmp .le 7, 3) := by decide +kernel
theorem dX8_readNumber_109 : decode cX8_readNumber 109 = .ok (.iconst 1, 1) := by decide +kernel
theorem dX8_readNumber_110 : decode cX8_readNumber 110 = .ok (.goto 4, 3) := by decide +kernel
theorem dX8_readNumber_113 : decode cX8_readNumber 113 = .ok (.iconst 0, 1) := by decide +kernel
theorem dX8_readNumber_114 : decode cX8_readNumber 114 = .ok (.istore_n 2, 1) := by decide +kernel
theorem dX8_readNumber_115 : decode cX8_readNumber 115 = .ok (.aload_n 0, 1) := by decide +kernel
theorem dX8_readNumber_116 : decode cX8_readNumber 116 = .ok (.aload_n 0, 1) := by decide +kernel
theorem dX8_readNumber_117 : decode cX8_readNumber 117 = .ok (.getfield 25, 3) := by decide +kernel
theorem dX8_readNumber_120 : decode cX8_readNumber 120 = .ok (.bipush 99, 2) := by decide +kernel
theorem dX8_readNumber_122 : decode cX8_readNumber 122 = .ok (.if_icmp .gt 7, 3) := by decide +kernel
theorem dX8_readNumber_125 : decode cX8_readNumber 125 = .ok (.iload_n 2, 1) := by decide +kernel
theorem dX8_readNumber_126 : decode cX8_readNumber 126 = .ok (.ifCond .eq 7, 3) := by decide +kernel
theorem dX8_readNumber_129 : decode cX8_readNumber 129 = .ok (.iconst 4, 1) := by decide +kernel
theorem dX8_readNumber_130 : decode cX8_readNumber 130 = .ok (.goto 4, 3) := by decide +kernel
theorem dX8_readNumber_133 : decode cX8_readNumber 133 = .ok (.iconst 2, 1) := by decide +kernel
theorem dX8_readNumber_134 : decode cX8_readNumber 134 = .ok (.putfield 28, 3) := by decide +kernel
theorem dX8_readNumber_137 : decode cX8_readNumber 137 = .ok (.return_, 1) := by decide +kernel
theorem dX8_isLetter_0 : decode cX8_isLetter 0 = .ok (.iload_n 0, 1) := by decide +kernel
theorem dX8_isLetter_1 : decode cX8_isLetter 1 = .ok (.bipush 97, 2) := by decide +kernel
theorem dX8_isLetter_3 : decode cX8_isLetter 3 = .ok (.if_icmp .lt 13, 3) := by decide +kernel
theorem dX8_isLetter_6 : decode cX8_isLetter 6 = .ok (.iload_n 0, 1) := by decide +kernel
theorem dX8_isLetter_7 : decode cX8_isLetter 7 = .ok (.bipush 122, 2) := by decide +kernel
theorem dX8_isLetter_9 : decode cX8_isLetter 9 = .ok (.if_icmp .gt 7, 3) := by decide +kernel
theorem dX8_isLetter_12 : decode cX8_isLetter 12 = .ok (.iconst 1, 1) := by decide +kernel
theorem dX8_isLetter_13 : decode cX8_isLetter 13 = .ok (.goto 4, 3) := by decide +kernel
theorem dX8_isLetter_16 : decode cX8_isLetter 16 = .ok (.iconst 0, 1) := by decide +kernel
theorem dX8_isLetter_17 : decode cX8_isLetter 17 = .ok (.ireturn, 1) := by decide +kernel
theorem dX8_isDigit_0 : decode cX8_isDigit 0 = .ok (.iload_n 0, 1) := by decide +kernel
theorem dX8_isDigit_1 : decode cX8_isDigit 1 = .ok (.bipush 48, 2) := by decide +kernel
theorem dX8_isDigit_3 : decode cX8_isDigit 3 = .ok (.if_icmp .lt 13, 3) := by decide +kernel
theorem dX8_isDigit_6 : decode cX8_isDigit 6 = .ok (.iload_n 0, 1) := by decide +kernel
theorem dX8_isDigit_7 : decode cX8_isDigit 7 = .ok (.bipush 57, 2) := by decide +kernel
theorem dX8_isDigit_9 : decode cX8_isDigit 9 = .ok (.if_icmp .gt 7, 3) := by decide +kernel
theorem dX8_isDigit_12 : decode cX8_isDigit 12 = .ok (.iconst 1, 1) := by decide +kernel
theorem dX8_isDigit_13 : decode cX8_isDigit 13 = .ok (.goto 4, 3) := by decide +kernel
theorem dX8_isDigit_16 : decode cX8_isDigit 16 = .ok (.iconst 0, 1) := by decide +kernel
theorem dX8_isDigit_17 : decode cX8_isDigit 17 = .ok (.ireturn, 1) := by decide +kernel
theorem dX9_init_0 : decode cX9_init 0 = .ok (.aload_n 0, 1) := by decide +kernel
theorem dX9_init_1 : decode cX9_init 1 = .ok (.invokespecial 3, 3) := by decide +kernel
theorem dX9_init_4 : decode cX9_init 4 = .ok (.aload_n 0, 1) := by decide +kernel
theorem dX9_init_5 : decode cX9_init 5 = .ok (.bipush 6, 2) := by decide +kernel
theorem dX9_init_7 : decode cX9_init 7 = .ok (.newarray .int, 2) := by decide +kernel
theorem dX9_init_9 : decode cX9_init 9 = .ok (.putfield 9, 3) := by decide +kernel
theorem dX9_init_12 : decode cX9_init 12 = .ok (.return_, 1) := by decide +kernel
set_option maxRecDepth 20000 in
theorem ggX9_begin_X2_spoonPlace : GoodIn wsX9_begin wsX2_spoonPlace := goodIn_r _ [17, 18, 19, 20, 21, 22, 23, 16, 24, 25, 26, 27, 28, 29, 30, 31, 32, 37, 38, 39, 40, 41, 42, 43, 44, 45, 46] (by decide +kernel) (by decide +kernel)
set_option maxRecDepth 20000 in
theorem gX9_begin_X2_spoonPlace : GoodIn wsX9_begin (wsV RX9 24 RX2 yX2_spoonPlace wsX2_spoonPlace) := goodIn_app (goodIn_of _ (by decide +kernel)) ggX9_begin_X2_spoonPlace
theorem dX9_begin_0 : decode cX9_begin 0 = .ok (.aload_n 2, 1) := by decide +kernel
theorem dX9_begin_1 : decode cX9_begin 1 = .ok (.getfield 15, 3) := by decide +kernel
theorem dX9_begin_4 : decode cX9_begin 4 = .ok (.iconst 0, 1) := by decide +kernel
theorem dX9_begin_5 : decode cX9_begin 5 = .ok (.aload_n 0, 1) := by decide +kernel
theorem dX9_begin_6 : decode cX9_begin 6 = .ok (.getfield 9, 3) := by decide +kernel
theorem dX9_begin_9 : decode cX9_begin 9 = .ok (.iconst 0, 1) := by decide +kernel
theorem dX9_begin_10 : decode cX9_begin 10 = .ok (.bipush 6, 2) := by decide +kernel
theorem dX9_begin_12 : decode cX9_begin 12 = .ok (.invokestatic 18, 3) := by decide +kernel
theorem dX9_begin_15 : decode cX9_begin 15 = .ok (.aload_n 0, 1) := by decide +kernel
theorem dX9_begin_16 : decode cX9_begin 16 = .ok (.aload_n 2, 1) := by decide +kernel
theorem dX9_begin_17 : decode cX9_begin 17 = .ok (.aload_n 1, 1) := by decide +kernel
theorem dX9_begin_18 : decode cX9_begin 18 = .ok (.invokevirtual 24, 3) := by decide +kernel
theorem dX9_begin_21 : decode cX9_begin 21 = .ok (.putfield 28, 3) := by decide +kernel
theorem dX9_begin_24 : decode cX9_begin 24 = .ok (.aload_n 0, 1) := by decide +kernel
theorem dX9_begin_25 : decode cX9_begin 25 = .ok (.aload_n 2, 1) := by decide +kernel
theorem dX9_begin_26 : decode cX9_begin 26 = .ok (.getfield 32, 3) := by decide +kernel
theorem dX9_begin_29 : decode cX9_begin 29 = .ok (.putfield 35, 3) := by decide +kernel
theorem dX9_begin_32 : decode cX9_begin 32 = .ok (.aload_n 0, 1) := by decide +kernel
theorem dX9_begin_33 : decode cX9_begin 33 = .ok (.aload_n 2, 1) := by decide +kernel
theorem dX9_begin_34 : decode cX9_begin 34 = .ok (.getfield 36, 3) := by decide +kernel
theorem dX9_begin_37 : decode cX9_begin 37 = .ok (.ifCond .eq 8, 3) := by decide +kernel
theorem dX9_begin_40 : decode cX9_begin 40 = .ok (.bipush (-9), 2) := by decide +kernel
theorem dX9_begin_42 : decode cX9_begin 42 = .ok (.goto 7, 3) := by decide +kernel
theorem dX9_begin_45 : decode cX9_begin 45 = .ok (.aload_n 2, 1) := by decide +kernel
theorem dX9_begin_46 : decode cX9_begin 46 = .ok (.getfield 40, 3) := by decide +kernel
theorem dX9_begin_49 : decode cX9_begin 49 = .ok (.putfield 43, 3) := by decide +kernel
theorem dX9_begin_52 : decode cX9_begin 52 = .ok (.return_, 1) := by decide +kernel
theorem dX9_hourOfNext_0 : decode cX9_hourOfNext 0 = .ok (.aload_n 1, 1) := by decide +kernel
theorem dX9_hourOfNext_1 : decode cX9_hourOfNext 1 = .ok (.getfield 46, 3) := by decide +kernel
theorem dX9_hourOfNext_4 : decode cX9_hourOfNext 4 = .ok (.iload_n 2, 1) := by decide +kernel
theorem dX9_hourOfNext_5 : decode cX9_hourOfNext 5 = .ok (.iaload, 1) := by decide +kernel
theorem dX9_hourOfNext_6 : decode cX9_hourOfNext 6 = .ok (.istore_n 3, 1) := by decide +kernel
theorem dX9_hourOfNext_7 : decode cX9_hourOfNext 7 = .ok (.iload_n 3, 1) := by decide +kernel
theorem dX9_hourOfNext_8 : decode cX9_hourOfNext 8 = .ok (.aload_n 0, 1) := by decide +kernel
theorem dX9_hourOfNext_9 : decode cX9_hourOfNext 9 = .ok (.getfield 43, 3) := by decide +kernel
theorem dX9_hourOfNext_12 : decode cX9_hourOfNext 12 = .ok (.if_icmp .ne 6, 3) := by decide +kernel
theorem dX9_hourOfNext_15 : decode cX9_hourOfNext 15 = .ok (.bipush (-9), 2) := by decide +kernel
theorem dX9_hourOfNext_17 : decode cX9_hourOfNext 17 = .ok (.ireturn, 1) := by decide +kernel
theorem dX9_hourOfNext_18 : decode cX9_hourOfNext 18 = .ok (.aload_n 0, 1) := by decide +kernel
theorem dX9_hourOfNext_19 : decode cX9_hourOfNext 19 = .ok (.getfield 35, 3) := by decide +kernel
theorem dX9_hourOfNext_22 : decode cX9_hourOfNext 22 = .ok (.aload_n 0, 1) := by decide +kernel
theorem dX9_hourOfNext_23 : decode cX9_hourOfNext 23 = .ok (.getfield 28, 3) := by decide +kernel
theorem dX9_hourOfNext_26 : decode cX9_hourOfNext 26 = .ok (.aload_n 0, 1) := by decide +kernel
theorem dX9_hourOfNext_27 : decode cX9_hourOfNext 27 = .ok (.getfield 9, 3) := by decide +kernel
theorem dX9_hourOfNext_30 : decode cX9_hourOfNext 30 = .ok (.iload_n 3, 1) := by decide +kernel
theorem dX9_hourOfNext_31 : decode cX9_hourOfNext 31 = .ok (.iaload, 1) := by decide +kernel
theorem dX9_hourOfNext_32 : decode cX9_hourOfNext 32 = .ok (.isub, 1) := by decide +kernel
theorem dX9_hourOfNext_33 : decode cX9_hourOfNext 33 = .ok (.invokestatic 51, 3) := by decide +kernel
theorem dX9_hourOfNext_36 : decode cX9_hourOfNext 36 = .ok (.iadd, 1) := by decide +kernel
theorem dX9_hourOfNext_37 : decode cX9_hourOfNext 37 = .ok (.aload_n 0, 1) := by decide +kernel
theorem dX9_hourOfNext_38 : decode cX9_hourOfNext 38 = .ok (.getfield 9, 3) := by decide +kernel
theorem dX9_hourOfNext_41 : decode cX9_hourOfNext 41 = .ok (.iload_n 3, 1) := by decide +kernel
theorem dX9_hourOfNext_42 : decode cX9_hourOfNext 42 = .ok (.iaload, 1) := by decide +kernel
theorem dX9_hourOfNext_43 : decode cX9_hourOfNext 43 = .ok (.aload_n 1, 1) := by decide +kernel
theorem dX9_hourOfNext_44 : decode cX9_hourOfNext 44 = .ok (.getfield 57, 3) := by decide +kernel
theorem dX9_hourOfNext_47 : decode cX9_hourOfNext 47 = .ok (.iload_n 2, 1) := by decide +kernel
theorem dX9_hourOfNext_48 : decode cX9_hourOfNext 48 = .ok (.iaload, 1) := by decide +kernel
theorem dX9_hourOfNext_49 : decode cX9_hourOfNext 49 = .ok (.isub, 1) := by decide +kernel
theorem dX9_hourOfNext_50 : decode cX9_hourOfNext 50 = .ok (.invokestatic 51, 3) := by decide +kernel
theorem dX9_hourOfNext_53 : decode cX9_hourOfNext 53 = .ok (.iadd, 1) := by decide +kernel
theorem dX9_hourOfNext_54 : decode cX9_hourOfNext 54 = .ok (.istore 4, 2) := by decide +kernel
theorem dX9_hourOfNext_56 : decode cX9_hourOfNext 56 = .ok (.iload 4, 2) := by decide +kernel
theorem dX9_hourOfNext_58 : decode cX9_hourOfNext 58 = .ok (.aload_n 1, 1) := by decide +kernel
theorem dX9_hourOfNext_59 : decode cX9_hourOfNext 59 = .ok (.getfield 60, 3) := by decide +kernel
theorem dX9_hourOfNext_62 : decode cX9_hourOfNext 62 = .ok (.iload_n 2, 1) := by decide +kernel
theorem dX9_hourOfNext_63 : decode cX9_hourOfNext 63 = .ok (.iaload, 1) := by decide +kernel
theorem dX9_hourOfNext_64 : decode cX9_hourOfNext 64 = .ok (.invokestatic 63, 3) := by decide +kernel
theorem dX9_hourOfNext_67 : decode cX9_hourOfNext 67 = .ok (.istore 5, 2) := by decide +kernel
theorem dX9_hourOfNext_69 : decode cX9_hourOfNext 69 = .ok (.iload 5, 2) := by decide +kernel
theorem dX9_hourOfNext_71 : decode cX9_hourOfNext 71 = .ok (.aload_n 1, 1) := by decide +kernel
theorem dX9_hourOfNext_72 : decode cX9_hourOfNext 72 = .ok (.getfield 67, 3) := by decide +kernel
theorem dX9_hourOfNext_75 : decode cX9_hourOfNext 75 = .ok (.iload_n 2, 1) := by decide +kernel
theorem dX9_hourOfNext_76 : decode cX9_hourOfNext 76 = .ok (.iaload, 1) := by decide +kernel
theorem dX9_hourOfNext_77 : decode cX9_hourOfNext 77 = .ok (.if_icmp .gt 8, 3) := by decide +kernel
theorem dX9_hourOfNext_80 : decode cX9_hourOfNext 80 = .ok (.iload 5, 2) := by decide +kernel
theorem dX9_hourOfNext_82 : decode cX9_hourOfNext 82 = .ok (.goto 5, 3) := by decide +kernel
theorem dX9_hourOfNext_85 : decode cX9_hourOfNext 85 = .ok (.bipush (-9), 2) := by decide +kernel
theorem dX9_hourOfNext_87 : decode cX9_hourOfNext 87 = .ok (.ireturn, 1) := by decide +kernel
theorem dX9_add_0 : decode cX9_add 0 = .ok (.aload_n 1, 1) := by decide +kernel
theorem dX9_add_1 : decode cX9_add 1 = .ok (.getfield 46, 3) := by decide +kernel
theorem dX9_add_4 : decode cX9_add 4 = .ok (.iload_n 2, 1) := by decide +kernel
theorem dX9_add_5 : decode cX9_add 5 = .ok (.iaload, 1) := by decide +kernel
theorem dX9_add_6 : decode cX9_add 6 = .ok (.istore 4, 2) := by decide +kernel
theorem dX9_add_8 : decode cX9_add 8 = .ok (.aload_n 0, 1) := by decide +kernel
theorem dX9_add_9 : decode cX9_add 9 = .ok (.getfield 9, 3) := by decide +kernel
theorem dX9_add_12 : decode cX9_add 12 = .ok (.iload 4, 2) := by decide +kernel
theorem dX9_add_14 : decode cX9_add 14 = .ok (.aload_n 1, 1) := by decide +kernel
theorem dX9_add_15 : decode cX9_add 15 = .ok (.getfield 57, 3) := by decide +kernel
theorem dX9_add_18 : decode cX9_add 18 = .ok (.iload_n 2, 1) := by decide +kernel
theorem dX9_add_19 : decode cX9_add 19 = .ok (.iaload, 1) := by decide +kernel
theorem dX9_add_20 : decode cX9_add 20 = .ok (.iastore, 1) := by decide +kernel
theorem dX9_add_21 : decode cX9_add 21 = .ok (.aload_n 0, 1) := by decide +kernel
theorem dX9_add_22 : decode cX9_add 22 = .ok (.aload_n 1, 1) := by decide +kernel
theorem dX9_add_23 : decode cX9_add 23 = .ok (.getfield 57, 3) := by decide +kernel
theorem dX9_add_26 : decode cX9_add 26 = .ok (.iload_n 2, 1) := by decide +kernel
theorem dX9_add_27 : decode cX9_add 27 = .ok (.iaload, 1) := by decide +kernel
theorem dX9_add_28 : decode cX9_add 28 = .ok (.putfield 28, 3) := by decide +kernel
theorem dX9_add_31 : decode cX9_add 31 = .ok (.aload_n 0, 1) := by decide +kernel
theorem dX9_add_32 : decode cX9_add 32 = .ok (.iload_n 3, 1) := by decide +kernel
theorem dX9_add_33 : decode cX9_add 33 = .ok (.putfield 35, 3) := by decide +kernel
theorem dX9_add_36 : decode cX9_add 36 = .ok (.aload_n 0, 1) := by decide +kernel
theorem dX9_add_37 : decode cX9_add 37 = .ok (.iload 4, 2) := by decide +kernel
theorem dX9_add_39 : decode cX9_add 39 = .ok (.putfield 43, 3) := by decide +kernel
theorem dX9_add_42 : decode cX9_add 42 = .ok (.return_, 1) := by decide +kernel
set_option maxRecDepth 20000 in
theorem ggX10_init_X8_init : GoodIn wsX10_init wsX8_init := goodIn_r _ [45, 46, 2, 3, 47, 48, 101, 102, 103, 104, 105, 106] (by decide +kernel) (by decide +kernel)
set_option maxRecDepth 20000 in
theorem gX10_init_X8_init_n9 : GoodIn wsX10_init (wsX8_init) := ggX10_init_X8_init
set_option maxRecDepth 20000 in
theorem ggX10_init_X5_init : GoodIn wsX10_init wsX5_init := goodIn_r _ [50, 51, 2, 3] (by decide +kernel) (by decide +kernel)
set_option maxRecDepth 20000 in
theorem gX10_init_X5_init_n18 : GoodIn wsX10_init (wsX5_init) := ggX10_init_X5_init
set_option maxRecDepth 20000 in
theorem ggX10_init_X4_init : GoodIn wsX10_init wsX4_init := goodIn_r _ [53, 54, 2, 3, 55, 56, 47, 57, 58, 59, 60, 61, 62, 123, 124, 125, 126, 127, 128, 129, 130, 131, 132] (by decide +kernel) (by decide +kernel)
set_option maxRecDepth 20000 in
theorem gX10_init_X4_init_n25 : GoodIn wsX10_init (wsX4_init) := ggX10_init_X4_init
set_option maxRecDepth 20000 in
theorem ggX10_init_X1_init : GoodIn wsX10_init wsX1_init := goodIn_r _ [65, 66, 2, 3, 67, 68, 69, 70, 71, 72, 73, 74, 75, 47, 76, 77, 78, 153, 154, 155, 156, 157, 158, 159, 160, 133, 134, 135] (by decide +kernel) (by decide +kernel)
set_option maxRecDepth 20000 in
theorem gX10_init_X1_init : GoodIn wsX10_init (wsX1_init) := ggX10_init_X1_init
set_option maxRecDepth 20000 in
theorem ggX10_init_X0_init : GoodIn wsX10_init wsX0_init := goodIn_r _ [80, 81, 2, 3, 47, 82, 83, 136, 137, 138] (by decide +kernel) (by decide +kernel)
set_option maxRecDepth 20000 in
theorem gX10_init_X0_init_n50 : GoodIn wsX10_init (wsX0_init) := ggX10_init_X0_init
set_option maxRecDepth 20000 in
theorem ggX10_init_X9_init : GoodIn wsX10_init wsX9_init := goodIn_r _ [85, 86, 2, 3, 47, 87, 139, 140, 141, 142] (by decide +kernel) (by decide +kernel)
set_option maxRecDepth 20000 in
theorem gX10_init_X9_init_n57 : GoodIn wsX10_init (wsX9_init) := ggX10_init_X9_init
set_option maxRecDepth 20000 in
theorem ggX10_init_X6_init : GoodIn wsX10_init wsX6_init := goodIn_r _ [89, 90, 2, 3, 47, 91, 92, 143, 144, 145, 146, 147] (by decide +kernel) (by decide +kernel)
set_option maxRecDepth 20000 in
theorem gX10_init_X6_init_n64 : GoodIn wsX10_init (wsX6_init) := ggX10_init_X6_init
set_option maxRecDepth 20000 in
theorem ggX10_init_X7_init : GoodIn wsX10_init wsX7_init := goodIn_r _ [94, 95, 2, 3, 47, 96, 148, 149] (by decide +kernel) (by decide +kernel)
set_option maxRecDepth 20000 in
theorem gX10_init_X7_init_n71 : GoodIn wsX10_init (wsX7_init) := ggX10_init_X7_init
set_option maxRecDepth 20000 in
theorem ggX10_init_X3_init : GoodIn wsX10_init wsX3_init := goodIn_r _ [98, 99, 2, 3, 47, 100, 150, 151, 152] (by decide +kernel) (by decide +kernel)
set_option maxRecDepth 20000 in
theorem gX10_init_X3_init_n78 : GoodIn wsX10_init (wsX3_init) := ggX10_init_X3_init
theorem dX10_init_0 : decode cX10_init 0 = .ok (.aload_n 0, 1) := by decide +kernel
theorem dX10_init_1 : decode cX10_init 1 = .ok (.invokespecial 1, 3) := by decide +kernel
theorem dX10_init_4 : decode cX10_init 4 = .ok (.aload_n 0, 1) := by decide +kernel
theorem dX10_init_5 : decode cX10_init 5 = .ok (.new 7, 3) := by decide +kernel
theorem dX10_init_8 : decode cX10_init 8 = .ok (.dup, 1) := by decide +kernel
theorem dX10_init_9 : decode cX10_init 9 = .ok (.invokespecial 9, 3) := by decide +kernel
theorem dX10_init_12 : decode cX10_init 12 = .ok (.putfield 10, 3) := by decide +kernel
theorem dX10_init_15 : decode cX10_init 15 = .ok (.aload_n 0, 1) := by decide +kernel
theorem dX10_init_16 : decode cX10_init 16 = .ok (.new 16, 3) := by decide +kernel
theorem dX10_init_19 : decode cX10_init 19 = .ok (.dup, 1) := by decide +kernel
theorem dX10_init_20 : decode cX10_init 20 = .ok (.invokespecial 18, 3) := by decide +kernel
theorem dX10_init_23 : decode cX10_init 23 = .ok (.putfield 19, 3) := by decide +kernel
theorem dX10_init_26 : decode cX10_init 26 = .ok (.aload_n 0, 1) := by decide +kernel
theorem dX10_init_27 : decode cX10_init 27 = .ok (.new 23, 3) := by decide +kernel
theorem dX10_init_30 : decode cX10_init 30 = .ok (.dup, 1) := by decide +kernel
theorem dX10_init_31 : decode cX10_init 31 = .ok (.invokespecial 25, 3) := by decide +kernel
theorem dX10_init_34 : decode cX10_init 34 = .ok (.putfield 26, 3) := by decide +kernel
theorem dX10_init_37 : decode cX10_init 37 = .ok (.aload_n 0, 1) := by decide +kernel
theorem dX10_init_38 : decode cX10_init 38 = .ok (.new 23, 3) := by decide +kernel
theorem dX10_init_41 : decode cX10_init 41 = .ok (.dup, 1) := by decide +kernel
theorem dX10_init_42 : decode cX10_init 42 = .ok (.invokespecial 25, 3) := by decide +kernel
theorem dX10_init_45 : decode cX10_init 45 = .ok (.putfield 30, 3) := by decide +kernel
theorem dX10_init_48 : decode cX10_init 48 = .ok (.aload_n 0, 1) := by decide +kernel
theorem dX10_init_49 : decode cX10_init 49 = .ok (.new 33, 3) := by decide +kernel
theorem dX10_init_52 : decode cX10_init 52 = .ok (.dup, 1) := by decide +kernel
theorem dX10_init_53 : decode cX10_init 53 = .ok (.invokespecial 35, 3) := by decide +kernel
theorem dX10_init_56 : decode cX10_init 56 = .ok (.putfield 36, 3) := by decide +kernel
theorem dX10_init_59 : decode cX10_init 59 = .ok (.aload_n 0, 1) := by decide +kernel
theorem dX10_init_60 : decode cX10_init 60 = .ok (.iconst 2, 1) := by decide +kernel
theorem dX10_init_61 : decode cX10_init 61 = .ok (.anewarray 33, 3) := by decide +kernel
theorem dX10_init_64 : decode cX10_init 64 = .ok (.putfield 40, 3) := by decide +kernel
theorem dX10_init_67 : decode cX10_init 67 = .ok (.aload_n 0, 1) := by decide +kernel
theorem dX10_init_68 : decode cX10_init 68 = .ok (.iconst 2, 1) := by decide +kernel
theorem dX10_init_69 : decode cX10_init 69 = .ok (.newarray .boolean, 2) := by decide +kernel
theorem dX10_init_71 : decode cX10_init 71 = .ok (.putfield 44, 3) := by decide +kernel
theorem dX10_init_74 : decode cX10_init 74 = .ok (.aload_n 0, 1) := by decide +kernel
theorem dX10_init_75 : decode cX10_init 75 = .ok (.new 48, 3) := by decide +kernel
theorem dX10_init_78 : decode cX10_init 78 = .ok (.dup, 1) := by decide +kernel
theorem dX10_init_79 : decode cX10_init 79 = .ok (.invokespecial 50, 3) := by decide +kernel
theorem dX10_init_82 : decode cX10_init 82 = .ok (.putfield 51, 3) := by decide +kernel
theorem dX10_init_85 : decode cX10_init 85 = .ok (.aload_n 0, 1) := by decide +kernel
theorem dX10_init_86 : decode cX10_init 86 = .ok (.new 55, 3) := by decide +kernel
theorem dX10_init_89 : decode cX10_init 89 = .ok (.dup, 1) := by decide +kernel
theorem dX10_init_90 : decode cX10_init 90 = .ok (.invokespecial 57, 3) := by decide +kernel
theorem dX10_init_93 : decode cX10_init 93 = .ok (.putfield 58, 3) := by decide +kernel
theorem dX10_init_96 : decode cX10_init 96 = .ok (.aload_n 0, 1) := by decide +kernel
theorem dX10_init_97 : decode cX10_init 97 = .ok (.new 62, 3) := by decide +kernel
theorem dX10_init_100 : decode cX10_init 100 = .ok (.dup, 1) := by decide +kernel
theorem dX10_init_101 : decode cX10_init 101 = .ok (.invokespecial 64, 3) := by decide +kernel
theorem dX10_init_104 : decode cX10_init 104 = .ok (.putfield 65, 3) := by decide +kernel
theorem dX10_init_107 : decode cX10_init 107 = .ok (.aload_n 0, 1) := by decide +kernel
theorem dX10_init_108 : decode cX10_init 108 = .ok (.new 69, 3) := by decide +kernel
theorem dX10_init_111 : decode cX10_init 111 = .ok (.dup, 1) := by decide +kernel
theorem dX10_init_112 : decode cX10_init 112 = .ok (.invokespecial 71, 3) := by decide +kernel
theorem dX10_init_115 : decode cX10_init 115 = .ok (.putfield 72, 3) := by decide +kernel
theorem dX10_init_118 : decode cX10_init 118 = .ok (.aload_n 0, 1) := by decide +kernel
theorem dX10_init_119 : decode cX10_init 119 = .ok (.new 76, 3) := by decide +kernel
theorem dX10_init_122 : decode cX10_init 122 = .ok (.dup, 1) := by decide +kernel
theorem dX10_init_123 : decode cX10_init 123 = .ok (.invokespecial 78, 3) := by decide +kernel
theorem dX10_init_126 : decode cX10_init 126 = .ok (.putfield 79, 3) := by decide +kernel
theorem dX10_init_129 : decode cX10_init 129 = .ok (.iconst 0, 1) := by decide +kernel
theorem dX10_init_130 : decode cX10_init 130 = .ok (.istore_n 1, 1) := by decide +kernel
theorem dX10_init_131 : decode cX10_init 131 = .ok (.iload_n 1, 1) := by decide +kernel
theorem dX10_init_132 : decode cX10_init 132 = .ok (.iconst 2, 1) := by decide +kernel
theorem dX10_init_133 : decode cX10_init 133 = .ok (.if_icmp .ge 22, 3) := by decide +kernel
theorem dX10_init_136 : decode cX10_init 136 = .ok (.aload_n 0, 1) := by decide +kernel
theorem dX10_init_137 : decode cX10_init 137 = .ok (.getfield 40, 3) := by decide +kernel
theorem dX10_init_140 : decode cX10_init 140 = .ok (.iload_n 1, 1) := by decide +kernel
theorem dX10_init_141 : decode cX10_init 141 = .ok (.new 33, 3) := by decide +kernel
theorem dX10_init_144 : decode cX10_init 144 = .ok (.dup, 1) := by decide +kernel
theorem dX10_init_145 : decode cX10_init 145 = .ok (.invokespecial 35, 3) := by decide +kernel
theorem dX10_init_148 : decode cX10_init 148 = .ok (.aastore, 1) := by decide +kernel
theorem dX10_init_149 : decode cX10_init 149 = .ok (.iinc 1 1, 3) := by decide +kernel
theorem dX10_init_152 : decode cX10_init 152 = .ok (.goto (-21), 3) := by decide +kernel
theorem dX10_init_155 : decode cX10_init 155 = .ok (.return_, 1) := by decide +kernel
theorem dX10_type_0 : decode cX10_type 0 = .ok (.iload_n 1, 1) := by decide +kernel
theorem dX10_type_1 : decode cX10_type 1 = .ok (.ifCond .lt 10, 3) := by decide +kernel
theorem dX10_type_4 : decode cX10_type 4 = .ok (.iload_n 1, 1) := by decide +kernel
theorem dX10_type_5 : decode cX10_type 5 = .ok (.sipush 255, 3) := by decide +kernel
theorem dX10_type_8 : decode cX10_type 8 = .ok (.if_icmp .le 5, 3) := by decide +kernel
theorem dX10_type_11 : decode cX10_type 11 = .ok (.iconst (-1), 1) := by decide +kernel
theorem dX10_type_12 : decode cX10_type 12 = .ok (.ireturn, 1) := by decide +kernel
theorem dX10_type_13 : decode cX10_type 13 = .ok (.aload_n 0, 1) := by decide +kernel
theorem dX10_type_14 : decode cX10_type 14 = .ok (.getfield 10, 3) := by decide +kernel
theorem dX10_type_17 : decode cX10_type 17 = .ok (.getfield 83, 3) := by decide +kernel
theorem dX10_type_20 : decode cX10_type 20 = .ok (.sipush 180, 3) := by decide +kernel
theorem dX10_type_23 : decode cX10_type 23 = .ok (.if_icmp .lt 6, 3) := by decide +kernel
theorem dX10_type_26 : decode cX10_type 26 = .ok (.bipush (-3), 2) := by decide +kernel
theorem dX10_type_28 : decode cX10_type 28 = .ok (.ireturn, 1) := by decide +kernel
theorem dX10_type_29 : decode cX10_type 29 = .ok (.aload_n 0, 1) := by decide +kernel
theorem dX10_type_30 : decode cX10_type 30 = .ok (.getfield 10, 3) := by decide +kernel
theorem dX10_type_33 : decode cX10_type 33 = .ok (.getfield 87, 3) := by decide +kernel
theorem dX10_type_36 : decode cX10_type 36 = .ok (.aload_n 0, 1) := by decide +kernel
theorem dX10_type_37 : decode cX10_type 37 = .ok (.getfield 10, 3) := by decide +kernel
theorem dX10_type_40 : decode cX10_type 40 = .ok (.getfield 83, 3) := by decide +kernel
theorem dX10_type_43 : decode cX10_type 43 = .ok (.iload_n 1, 1) := by decide +kernel
theorem dX10_type_44 : decode cX10_type 44 = .ok (.iastore, 1) := by decide +kernel
theorem dX10_type_45 : decode cX10_type 45 = .ok (.aload_n 0, 1) := by decide +kernel
theorem dX10_type_46 : decode cX10_type 46 = .ok (.getfield 10, 3) := by decide +kernel
theorem dX10_type_49 : decode cX10_type 49 = .ok (.dup, 1) := by decide +kernel
theorem dX10_type_50 : decode cX10_type 50 = .ok (.getfield 83, 3) := by decide +kernel
theorem dX10_type_53 : decode cX10_type 53 = .ok (.iconst 1, 1) := by decide +kernel
theorem dX10_type_54 : decode cX10_type 54 = .ok (.iadd, 1) := by decide +kernel
theorem dX10_type_55 : decode cX10_type 55 = .ok (.putfield 83, 3) := by decide +kernel
theorem dX10_type_58 : decode cX10_type 58 = .ok (.aload_n 0, 1) := by decide +kernel
theorem dX10_type_59 : decode cX10_type 59 = .ok (.getfield 10, 3) := by decide +kernel
theorem dX10_type_62 : decode cX10_type 62 = .ok (.getfield 83, 3) := by decide +kernel
