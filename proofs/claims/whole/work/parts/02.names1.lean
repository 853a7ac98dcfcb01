theorem dX0_possibleHolders_82 : decode cX0_possibleHolders 82 = .ok (.istore 5, 2) := by decide +kernel
theorem dX0_possibleHolders_84 : decode cX0_possibleHolders 84 = .ok (.iinc 6 1, 3) := by decide +kernel
theorem dX0_possibleHolders_87 : decode cX0_possibleHolders 87 = .ok (.goto (-55), 3) := by decide +kernel
theorem dX0_possibleHolders_90 : decode cX0_possibleHolders 90 = .ok (.iload 5, 2) := by decide +kernel
theorem dX0_possibleHolders_92 : decode cX0_possibleHolders 92 = .ok (.ireturn, 1) := by decide +kernel
theorem dX0_latestBy_0 : decode cX0_latestBy 0 = .ok (.bipush (-9), 2) := by decide +kernel
theorem dX0_latestBy_2 : decode cX0_latestBy 2 = .ok (.istore_n 2, 1) := by decide +kernel
theorem dX0_latestBy_3 : decode cX0_latestBy 3 = .ok (.iconst 0, 1) := by decide +kernel
theorem dX0_latestBy_4 : decode cX0_latestBy 4 = .ok (.istore_n 3, 1) := by decide +kernel
theorem dX0_latestBy_5 : decode cX0_latestBy 5 = .ok (.iload_n 3, 1) := by decide +kernel
theorem dX0_latestBy_6 : decode cX0_latestBy 6 = .ok (.aload_n 0, 1) := by decide +kernel
theorem dX0_latestBy_7 : decode cX0_latestBy 7 = .ok (.getfield 18, 3) := by decide +kernel
theorem dX0_latestBy_10 : decode cX0_latestBy 10 = .ok (.if_icmp .ge 21, 3) := by decide +kernel
theorem dX0_latestBy_13 : decode cX0_latestBy 13 = .ok (.aload_n 0, 1) := by decide +kernel
theorem dX0_latestBy_14 : decode cX0_latestBy 14 = .ok (.getfield 15, 3) := by decide +kernel
theorem dX0_latestBy_17 : decode cX0_latestBy 17 = .ok (.iload_n 3, 1) := by decide +kernel
theorem dX0_latestBy_18 : decode cX0_latestBy 18 = .ok (.iaload, 1) := by decide +kernel
theorem dX0_latestBy_19 : decode cX0_latestBy 19 = .ok (.iload_n 1, 1) := by decide +kernel
theorem dX0_latestBy_20 : decode cX0_latestBy 20 = .ok (.if_icmp .gt 11, 3) := by decide +kernel
theorem dX0_latestBy_23 : decode cX0_latestBy 23 = .ok (.iload_n 3, 1) := by decide +kernel
theorem dX0_latestBy_24 : decode cX0_latestBy 24 = .ok (.istore_n 2, 1) := by decide +kernel
theorem dX0_latestBy_25 : decode cX0_latestBy 25 = .ok (.iinc 3 1, 3) := by decide +kernel
theorem dX0_latestBy_28 : decode cX0_latestBy 28 = .ok (.goto (-23), 3) := by decide +kernel
theorem dX0_latestBy_31 : decode cX0_latestBy 31 = .ok (.iload_n 2, 1) := by decide +kernel
theorem dX0_latestBy_32 : decode cX0_latestBy 32 = .ok (.ireturn, 1) := by decide +kernel
theorem dX0_earliestFrom_0 : decode cX0_earliestFrom 0 = .ok (.bipush (-9), 2) := by decide +kernel
theorem dX0_earliestFrom_2 : decode cX0_earliestFrom 2 = .ok (.istore_n 2, 1) := by decide +kernel
theorem dX0_earliestFrom_3 : decode cX0_earliestFrom 3 = .ok (.aload_n 0, 1) := by decide +kernel
theorem dX0_earliestFrom_4 : decode cX0_earliestFrom 4 = .ok (.getfield 18, 3) := by decide +kernel
theorem dX0_earliestFrom_7 : decode cX0_earliestFrom 7 = .ok (.iconst 1, 1) := by decide +kernel
theorem dX0_earliestFrom_8 : decode cX0_earliestFrom 8 = .ok (.isub, 1) := by decide +kernel
theorem dX0_earliestFrom_9 : decode cX0_earliestFrom 9 = .ok (.istore_n 3, 1) := by decide +kernel
theorem dX0_earliestFrom_10 : decode cX0_earliestFrom 10 = .ok (.iload_n 3, 1) := by decide +kernel
theorem dX0_earliestFrom_11 : decode cX0_earliestFrom 11 = .ok (.ifCond .lt 21, 3) := by decide +kernel
theorem dX0_earliestFrom_14 : decode cX0_earliestFrom 14 = .ok (.aload_n 0, 1) := by decide +kernel
theorem dX0_earliestFrom_15 : decode cX0_earliestFrom 15 = .ok (.getfield 15, 3) := by decide +kernel
theorem dX0_earliestFrom_18 : decode cX0_earliestFrom 18 = .ok (.iload_n 3, 1) := by decide +kernel
theorem dX0_earliestFrom_19 : decode cX0_earliestFrom 19 = .ok (.iaload, 1) := by decide +kernel
theorem dX0_earliestFrom_20 : decode cX0_earliestFrom 20 = .ok (.iload_n 1, 1) := by decide +kernel
theorem dX0_earliestFrom_21 : decode cX0_earliestFrom 21 = .ok (.if_icmp .lt 11, 3) := by decide +kernel
theorem dX0_earliestFrom_24 : decode cX0_earliestFrom 24 = .ok (.iload_n 3, 1) := by decide +kernel
theorem dX0_earliestFrom_25 : decode cX0_earliestFrom 25 = .ok (.istore_n 2, 1) := by decide +kernel
theorem dX0_earliestFrom_26 : decode cX0_earliestFrom 26 = .ok (.iinc 3 (-1), 3) := by decide +kernel
theorem dX0_earliestFrom_29 : decode cX0_earliestFrom 29 = .ok (.goto (-19), 3) := by decide +kernel
theorem dX0_earliestFrom_32 : decode cX0_earliestFrom 32 = .ok (.iload_n 2, 1) := by decide +kernel
theorem dX0_earliestFrom_33 : decode cX0_earliestFrom 33 = .ok (.ireturn, 1) := by decide +kernel
theorem dX0_whoDid_0 : decode cX0_whoDid 0 = .ok (.iload_n 2, 1) := by decide +kernel
theorem dX0_whoDid_1 : decode cX0_whoDid 1 = .ok (.ifCond .ge 7, 3) := by decide +kernel
theorem dX0_whoDid_4 : decode cX0_whoDid 4 = .ok (.iconst 0, 1) := by decide +kernel
theorem dX0_whoDid_5 : decode cX0_whoDid 5 = .ok (.goto 16, 3) := by decide +kernel
theorem dX0_whoDid_8 : decode cX0_whoDid 8 = .ok (.iconst 1, 1) := by decide +kernel
theorem dX0_whoDid_9 : decode cX0_whoDid 9 = .ok (.aload_n 1, 1) := by decide +kernel
theorem dX0_whoDid_10 : decode cX0_whoDid 10 = .ok (.getfield 53, 3) := by decide +kernel
theorem dX0_whoDid_13 : decode cX0_whoDid 13 = .ok (.aload_n 0, 1) := by decide +kernel
theorem dX0_whoDid_14 : decode cX0_whoDid 14 = .ok (.getfield 9, 3) := by decide +kernel
theorem dX0_whoDid_17 : decode cX0_whoDid 17 = .ok (.iload_n 2, 1) := by decide +kernel
theorem dX0_whoDid_18 : decode cX0_whoDid 18 = .ok (.iaload, 1) := by decide +kernel
theorem dX0_whoDid_19 : decode cX0_whoDid 19 = .ok (.iaload, 1) := by decide +kernel
theorem dX0_whoDid_20 : decode cX0_whoDid 20 = .ok (.ishl, 1) := by decide +kernel
theorem dX0_whoDid_21 : decode cX0_whoDid 21 = .ok (.ireturn, 1) := by decide +kernel
theorem dX0_isNear_0 : decode cX0_isNear 0 = .ok (.iload_n 2, 1) := by decide +kernel
theorem dX0_isNear_1 : decode cX0_isNear 1 = .ok (.ifCond .lt 34, 3) := by decide +kernel
theorem dX0_isNear_4 : decode cX0_isNear 4 = .ok (.aload_n 1, 1) := by decide +kernel
theorem dX0_isNear_5 : decode cX0_isNear 5 = .ok (.getfield 22, 3) := by decide +kernel
theorem dX0_isNear_8 : decode cX0_isNear 8 = .ok (.aload_n 0, 1) := by decide +kernel
theorem dX0_isNear_9 : decode cX0_isNear 9 = .ok (.getfield 9, 3) := by decide +kernel
theorem dX0_isNear_12 : decode cX0_isNear 12 = .ok (.iload_n 2, 1) := by decide +kernel
theorem dX0_isNear_13 : decode cX0_isNear 13 = .ok (.iaload, 1) := by decide +kernel
theorem dX0_isNear_14 : decode cX0_isNear 14 = .ok (.iaload, 1) := by decide +kernel
theorem dX0_isNear_15 : decode cX0_isNear 15 = .ok (.iload_n 3, 1) := by decide +kernel
theorem dX0_isNear_16 : decode cX0_isNear 16 = .ok (.isub, 1) := by decide +kernel
theorem dX0_isNear_17 : decode cX0_isNear 17 = .ok (.invokestatic 27, 3) := by decide +kernel
theorem dX0_isNear_20 : decode cX0_isNear 20 = .ok (.aload_n 0, 1) := by decide +kernel
theorem dX0_isNear_21 : decode cX0_isNear 21 = .ok (.getfield 15, 3) := by decide +kernel
theorem dX0_isNear_24 : decode cX0_isNear 24 = .ok (.iload_n 2, 1) := by decide +kernel
theorem dX0_isNear_25 : decode cX0_isNear 25 = .ok (.iaload, 1) := by decide +kernel
theorem dX0_isNear_26 : decode cX0_isNear 26 = .ok (.iload 4, 2) := by decide +kernel
theorem dX0_isNear_28 : decode cX0_isNear 28 = .ok (.isub, 1) := by decide +kernel
theorem dX0_isNear_29 : decode cX0_isNear 29 = .ok (.invokestatic 27, 3) := by decide +kernel
theorem dX0_isNear_32 : decode cX0_isNear 32 = .ok (.if_icmp .gt 7, 3) := by decide +kernel
theorem dX0_isNear_35 : decode cX0_isNear 35 = .ok (.iconst 1, 1) := by decide +kernel
theorem dX0_isNear_36 : decode cX0_isNear 36 = .ok (.goto 4, 3) := by decide +kernel
theorem dX0_isNear_39 : decode cX0_isNear 39 = .ok (.iconst 0, 1) := by decide +kernel
theorem dX0_isNear_40 : decode cX0_isNear 40 = .ok (.ireturn, 1) := by decide +kernel
set_option maxRecDepth 20000 in
theorem ggX1_init_X2_init : GoodIn wsX1_init wsX2_init := goodIn_r _ [10, 11, 2, 3, 12, 13, 14, 15, 16, 17, 18, 19, 20, 21, 22, 23, 24] (by decide +kernel) (by decide +kernel)
set_option maxRecDepth 20000 in
theorem gX1_init_X2_init_n11 : GoodIn wsX1_init (wsX2_init) := ggX1_init_X2_init
theorem dX1_init_0 : decode cX1_init 0 = .ok (.aload_n 0, 1) := by decide +kernel
theorem dX1_init_1 : decode cX1_init 1 = .ok (.invokespecial 3, 3) := by decide +kernel
theorem dX1_init_4 : decode cX1_init 4 = .ok (.aload_n 0, 1) := by decide +kernel
theorem dX1_init_5 : decode cX1_init 5 = .ok (.new 9, 3) := by decide +kernel
theorem dX1_init_8 : decode cX1_init 8 = .ok (.dup, 1) := by decide +kernel
theorem dX1_init_9 : decode cX1_init 9 = .ok (.invokespecial 11, 3) := by decide +kernel
theorem dX1_init_12 : decode cX1_init 12 = .ok (.putfield 12, 3) := by decide +kernel
theorem dX1_init_15 : decode cX1_init 15 = .ok (.aload_n 0, 1) := by decide +kernel
theorem dX1_init_16 : decode cX1_init 16 = .ok (.bipush 10, 2) := by decide +kernel
theorem dX1_init_18 : decode cX1_init 18 = .ok (.anewarray 9, 3) := by decide +kernel
theorem dX1_init_21 : decode cX1_init 21 = .ok (.putfield 18, 3) := by decide +kernel
theorem dX1_init_24 : decode cX1_init 24 = .ok (.iconst 0, 1) := by decide +kernel
theorem dX1_init_25 : decode cX1_init 25 = .ok (.istore_n 1, 1) := by decide +kernel
theorem dX1_init_26 : decode cX1_init 26 = .ok (.iload_n 1, 1) := by decide +kernel
theorem dX1_init_27 : decode cX1_init 27 = .ok (.bipush 10, 2) := by decide +kernel
theorem dX1_init_29 : decode cX1_init 29 = .ok (.if_icmp .ge 22, 3) := by decide +kernel
theorem dX1_init_32 : decode cX1_init 32 = .ok (.aload_n 0, 1) := by decide +kernel
theorem dX1_init_33 : decode cX1_init 33 = .ok (.getfield 18, 3) := by decide +kernel
theorem dX1_init_36 : decode cX1_init 36 = .ok (.iload_n 1, 1) := by decide +kernel
theorem dX1_init_37 : decode cX1_init 37 = .ok (.new 9, 3) := by decide +kernel
theorem dX1_init_40 : decode cX1_init 40 = .ok (.dup, 1) := by decide +kernel
theorem dX1_init_41 : decode cX1_init 41 = .ok (.invokespecial 11, 3) := by decide +kernel
theorem dX1_init_44 : decode cX1_init 44 = .ok (.aastore, 1) := by decide +kernel
theorem dX1_init_45 : decode cX1_init 45 = .ok (.iinc 1 1, 3) := by decide +kernel
theorem dX1_init_48 : decode cX1_init 48 = .ok (.goto (-22), 3) := by decide +kernel
theorem dX1_init_51 : decode cX1_init 51 = .ok (.return_, 1) := by decide +kernel
set_option maxRecDepth 20000 in
theorem ggX1_begin_X2_begin : GoodIn wsX1_begin wsX2_begin := goodIn_r _ [7, 8, 9, 10, 11, 12, 13, 14, 15, 16, 20, 21, 22, 23, 24, 25, 26, 27, 28, 29, 30, 31, 32, 33, 34, 35, 36, 37] (by decide +kernel) (by decide +kernel)
set_option maxRecDepth 20000 in
theorem gX1_begin_X2_begin : GoodIn wsX1_begin (wsV RX1 22 RX2 yX2_begin wsX2_begin) := goodIn_app (goodIn_of _ (by decide +kernel)) ggX1_begin_X2_begin
theorem dX1_begin_0 : decode cX1_begin 0 = .ok (.aload_n 0, 1) := by decide +kernel
theorem dX1_begin_1 : decode cX1_begin 1 = .ok (.getfield 12, 3) := by decide +kernel
theorem dX1_begin_4 : decode cX1_begin 4 = .ok (.aload_n 1, 1) := by decide +kernel
theorem dX1_begin_5 : decode cX1_begin 5 = .ok (.invokevirtual 22, 3) := by decide +kernel
theorem dX1_begin_8 : decode cX1_begin 8 = .ok (.aload_n 0, 1) := by decide +kernel
theorem dX1_begin_9 : decode cX1_begin 9 = .ok (.iconst 0, 1) := by decide +kernel
theorem dX1_begin_10 : decode cX1_begin 10 = .ok (.putfield 26, 3) := by decide +kernel
theorem dX1_begin_13 : decode cX1_begin 13 = .ok (.return_, 1) := by decide +kernel
set_option maxRecDepth 20000 in
theorem ggX1_rememberStep_X1_loseOldest : GoodIn wsX1_rememberStep wsX1_loseOldest := goodIn_r _ [8, 2, 1, 26, 27, 28] (by decide +kernel) (by decide +kernel)
set_option maxRecDepth 20000 in
theorem gX1_rememberStep_X1_loseOldest : GoodIn wsX1_rememberStep (wsV RX1 30 RX1 yX1_loseOldest wsX1_loseOldest) := goodIn_app (goodIn_of _ (by decide +kernel)) ggX1_rememberStep_X1_loseOldest
set_option maxRecDepth 20000 in
theorem ggX1_rememberStep_X2_copyFrom : GoodIn wsX1_rememberStep wsX2_copyFrom := goodIn_r _ [13, 14, 15, 16, 17, 18, 19, 20, 21, 22, 23, 24, 25, 29, 30, 31, 32, 33, 34, 35, 36] (by decide +kernel) (by decide +kernel)
set_option maxRecDepth 20000 in
theorem gX1_rememberStep_X2_copyFrom : GoodIn wsX1_rememberStep (wsV RX1 33 RX2 yX2_copyFrom wsX2_copyFrom) := goodIn_app (goodIn_of _ (by decide +kernel)) ggX1_rememberStep_X2_copyFrom
theorem dX1_rememberStep_0 : decode cX1_rememberStep 0 = .ok (.aload_n 0, 1) := by decide +kernel
theorem dX1_rememberStep_1 : decode cX1_rememberStep 1 = .ok (.getfield 26, 3) := by decide +kernel
theorem dX1_rememberStep_4 : decode cX1_rememberStep 4 = .ok (.bipush 10, 2) := by decide +kernel
theorem dX1_rememberStep_6 : decode cX1_rememberStep 6 = .ok (.if_icmp .lt 7, 3) := by decide +kernel
theorem dX1_rememberStep_9 : decode cX1_rememberStep 9 = .ok (.aload_n 0, 1) := by decide +kernel
theorem dX1_rememberStep_10 : decode cX1_rememberStep 10 = .ok (.invokevirtual 30, 3) := by decide +kernel
theorem dX1_rememberStep_13 : decode cX1_rememberStep 13 = .ok (.aload_n 0, 1) := by decide +kernel
theorem dX1_rememberStep_14 : decode cX1_rememberStep 14 = .ok (.getfield 18, 3) := by decide +kernel
theorem dX1_rememberStep_17 : decode cX1_rememberStep 17 = .ok (.aload_n 0, 1) := by decide +kernel
theorem dX1_rememberStep_18 : decode cX1_rememberStep 18 = .ok (.getfield 26, 3) := by decide +kernel
theorem dX1_rememberStep_21 : decode cX1_rememberStep 21 = .ok (.aaload, 1) := by decide +kernel
theorem dX1_rememberStep_22 : decode cX1_rememberStep 22 = .ok (.aload_n 0, 1) := by decide +kernel
theorem dX1_rememberStep_23 : decode cX1_rememberStep 23 = .ok (.getfield 12, 3) := by decide +kernel
theorem dX1_rememberStep_26 : decode cX1_rememberStep 26 = .ok (.invokevirtual 33, 3) := by decide +kernel
theorem dX1_rememberStep_29 : decode cX1_rememberStep 29 = .ok (.aload_n 0, 1) := by decide +kernel
theorem dX1_rememberStep_30 : decode cX1_rememberStep 30 = .ok (.dup, 1) := by decide +kernel
theorem dX1_rememberStep_31 : decode cX1_rememberStep 31 = .ok (.getfield 26, 3) := by decide +kernel
theorem dX1_rememberStep_34 : decode cX1_rememberStep 34 = .ok (.iconst 1, 1) := by decide +kernel
theorem dX1_rememberStep_35 : decode cX1_rememberStep 35 = .ok (.iadd, 1) := by decide +kernel
theorem dX1_rememberStep_36 : decode cX1_rememberStep 36 = .ok (.putfield 26, 3) := by decide +kernel
theorem dX1_rememberStep_39 : decode cX1_rememberStep 39 = .ok (.return_, 1) := by decide +kernel
theorem dX1_loseOldest_0 : decode cX1_loseOldest 0 = .ok (.aload_n 0, 1) := by decide +kernel
theorem dX1_loseOldest_1 : decode cX1_loseOldest 1 = .ok (.getfield 18, 3) := by decide +kernel
theorem dX1_loseOldest_4 : decode cX1_loseOldest 4 = .ok (.iconst 0, 1) := by decide +kernel
theorem dX1_loseOldest_5 : decode cX1_loseOldest 5 = .ok (.aaload, 1) := by decide +kernel
theorem dX1_loseOldest_6 : decode cX1_loseOldest 6 = .ok (.astore_n 1, 1) := by decide +kernel
theorem dX1_loseOldest_7 : decode cX1_loseOldest 7 = .ok (.iconst 1, 1) := by decide +kernel
theorem dX1_loseOldest_8 : decode cX1_loseOldest 8 = .ok (.istore_n 2, 1) := by decide +kernel
theorem dX1_loseOldest_9 : decode cX1_loseOldest 9 = .ok (.iload_n 2, 1) := by decide +kernel
theorem dX1_loseOldest_10 : decode cX1_loseOldest 10 = .ok (.bipush 10, 2) := by decide +kernel
theorem dX1_loseOldest_12 : decode cX1_loseOldest 12 = .ok (.if_icmp .ge 23, 3) := by decide +kernel
theorem dX1_loseOldest_15 : decode cX1_loseOldest 15 = .ok (.aload_n 0, 1) := by decide +kernel
theorem dX1_loseOldest_16 : decode cX1_loseOldest 16 = .ok (.getfield 18, 3) := by decide +kernel
theorem dX1_loseOldest_19 : decode cX1_loseOldest 19 = .ok (.iload_n 2, 1) := by decide +kernel
theorem dX1_loseOldest_20 : decode cX1_loseOldest 20 = .ok (.iconst 1, 1) := by decide +kernel
theorem dX1_loseOldest_21 : decode cX1_loseOldest 21 = .ok (.isub, 1) := by decide +kernel
theorem dX1_loseOldest_22 : decode cX1_loseOldest 22 = .ok (.aload_n 0, 1) := by decide +kernel
theorem dX1_loseOldest_23 : decode cX1_loseOldest 23 = .ok (.getfield 18, 3) := by decide +kernel
theorem dX1_loseOldest_26 : decode cX1_loseOldest 26 = .ok (.iload_n 2, 1) := by decide +kernel
theorem dX1_loseOldest_27 : decode cX1_loseOldest 27 = .ok (.aaload, 1) := by decide +kernel
theorem dX1_loseOldest_28 : decode cX1_loseOldest 28 = .ok (.aastore, 1) := by decide +kernel
theorem dX1_loseOldest_29 : decode cX1_loseOldest 29 = .ok (.iinc 2 1, 3) := by decide +kernel
theorem dX1_loseOldest_32 : decode cX1_loseOldest 32 = .ok (.goto (-23), 3) := by decide +kernel
theorem dX1_loseOldest_35 : decode cX1_loseOldest 35 = .ok (.aload_n 0, 1) := by decide +kernel
theorem dX1_loseOldest_36 : decode cX1_loseOldest 36 = .ok (.getfield 18, 3) := by decide +kernel
theorem dX1_loseOldest_39 : decode cX1_loseOldest 39 = .ok (.bipush 9, 2) := by decide +kernel
theorem dX1_loseOldest_41 : decode cX1_loseOldest 41 = .ok (.aload_n 1, 1) := by decide +kernel
theorem dX1_loseOldest_42 : decode cX1_loseOldest 42 = .ok (.aastore, 1) := by decide +kernel
theorem dX1_loseOldest_43 : decode cX1_loseOldest 43 = .ok (.aload_n 0, 1) := by decide +kernel
theorem dX1_loseOldest_44 : decode cX1_loseOldest 44 = .ok (.bipush 9, 2) := by decide +kernel
theorem dX1_loseOldest_46 : decode cX1_loseOldest 46 = .ok (.putfield 26, 3) := by decide +kernel
theorem dX1_loseOldest_49 : decode cX1_loseOldest 49 = .ok (.return_, 1) := by decide +kernel
set_option maxRecDepth 20000 in
theorem ggX1_undoStep_X2_copyFrom : GoodIn wsX1_undoStep wsX2_copyFrom := goodIn_r _ [8, 9, 10, 11, 12, 13, 14, 15, 16, 17, 18, 19, 20, 24, 25, 26, 27, 28, 29, 30, 31] (by decide +kernel) (by decide +kernel)
set_option maxRecDepth 20000 in
theorem gX1_undoStep_X2_copyFrom : GoodIn wsX1_undoStep (wsV RX1 33 RX2 yX2_copyFrom wsX2_copyFrom) := goodIn_app (goodIn_of _ (by decide +kernel)) ggX1_undoStep_X2_copyFrom
theorem dX1_undoStep_0 : decode cX1_undoStep 0 = .ok (.aload_n 0, 1) := by decide +kernel
theorem dX1_undoStep_1 : decode cX1_undoStep 1 = .ok (.getfield 26, 3) := by decide +kernel
theorem dX1_undoStep_4 : decode cX1_undoStep 4 = .ok (.ifCond .le 29, 3) := by decide +kernel
theorem dX1_undoStep_7 : decode cX1_undoStep 7 = .ok (.aload_n 0, 1) := by decide +kernel
theorem dX1_undoStep_8 : decode cX1_undoStep 8 = .ok (.dup, 1) := by decide +kernel
theorem dX1_undoStep_9 : decode cX1_undoStep 9 = .ok (.getfield 26, 3) := by decide +kernel
theorem dX1_undoStep_12 : decode cX1_undoStep 12 = .ok (.iconst 1, 1) := by decide +kernel
theorem dX1_undoStep_13 : decode cX1_undoStep 13 = .ok (.isub, 1) := by decide +kernel
theorem dX1_undoStep_14 : decode cX1_undoStep 14 = .ok (.putfield 26, 3) := by decide +kernel
theorem dX1_undoStep_17 : decode cX1_undoStep 17 = .ok (.aload_n 0, 1) := by decide +kernel
theorem dX1_undoStep_18 : decode cX1_undoStep 18 = .ok (.getfield 12, 3) := by decide +kernel
theorem dX1_undoStep_21 : decode cX1_undoStep 21 = .ok (.aload_n 0, 1) := by decide +kernel
theorem dX1_undoStep_22 : decode cX1_undoStep 22 = .ok (.getfield 18, 3) := by decide +kernel
theorem dX1_undoStep_25 : decode cX1_undoStep 25 = .ok (.aload_n 0, 1) := by decide +kernel
theorem dX1_undoStep_26 : decode cX1_undoStep 26 = .ok (.getfield 26, 3) := by decide +kernel
theorem dX1_undoStep_29 : decode cX1_undoStep 29 = .ok (.aaload, 1) := by decide +kernel
theorem dX1_undoStep_30 : decode cX1_undoStep 30 = .ok (.invokevirtual 33, 3) := by decide +kernel
theorem dX1_undoStep_33 : decode cX1_undoStep 33 = .ok (.return_, 1) := by decide +kernel
set_option maxRecDepth 20000 in
theorem ggX1_copyFrom_X2_copyFrom : GoodIn wsX1_copyFrom wsX2_copyFrom := goodIn_r _ [8, 9, 10, 11, 12, 13, 14, 15, 16, 17, 18, 19, 20, 24, 25, 26, 27, 28, 29, 30, 31] (by decide +kernel) (by decide +kernel)
set_option maxRecDepth 20000 in
theorem gX1_copyFrom_X2_copyFrom : GoodIn wsX1_copyFrom (wsV RX1 33 RX2 yX2_copyFrom wsX2_copyFrom) := goodIn_app (goodIn_of _ (by decide +kernel)) ggX1_copyFrom_X2_copyFrom
theorem dX1_copyFrom_0 : decode cX1_copyFrom 0 = .ok (.aload_n 0, 1) := by decide +kernel
theorem dX1_copyFrom_1 : decode cX1_copyFrom 1 = .ok (.getfield 12, 3) := by decide +kernel
theorem dX1_copyFrom_4 : decode cX1_copyFrom 4 = .ok (.aload_n 1, 1) := by decide +kernel
theorem dX1_copyFrom_5 : decode cX1_copyFrom 5 = .ok (.getfield 12, 3) := by decide +kernel
theorem dX1_copyFrom_8 : decode cX1_copyFrom 8 = .ok (.invokevirtual 33, 3) := by decide +kernel
theorem dX1_copyFrom_11 : decode cX1_copyFrom 11 = .ok (.aload_n 0, 1) := by decide +kernel
theorem dX1_copyFrom_12 : decode cX1_copyFrom 12 = .ok (.aload_n 1, 1) := by decide +kernel
theorem dX1_copyFrom_13 : decode cX1_copyFrom 13 = .ok (.getfield 26, 3) := by decide +kernel
theorem dX1_copyFrom_16 : decode cX1_copyFrom 16 = .ok (.putfield 26, 3) := by decide +kernel
theorem dX1_copyFrom_19 : decode cX1_copyFrom 19 = .ok (.iconst 0, 1) := by decide +kernel
theorem dX1_copyFrom_20 : decode cX1_copyFrom 20 = .ok (.istore_n 2, 1) := by decide +kernel
theorem dX1_copyFrom_21 : decode cX1_copyFrom 21 = .ok (.iload_n 2, 1) := by decide +kernel
theorem dX1_copyFrom_22 : decode cX1_copyFrom 22 = .ok (.aload_n 0, 1) := by decide +kernel
theorem dX1_copyFrom_23 : decode cX1_copyFrom 23 = .ok (.getfield 26, 3) := by decide +kernel
theorem dX1_copyFrom_26 : decode cX1_copyFrom 26 = .ok (.if_icmp .ge 24, 3) := by decide +kernel
theorem dX1_copyFrom_29 : decode cX1_copyFrom 29 = .ok (.aload_n 0, 1) := by decide +kernel
theorem dX1_copyFrom_30 : decode cX1_copyFrom 30 = .ok (.getfield 18, 3) := by decide +kernel
theorem dX1_copyFrom_33 : decode cX1_copyFrom 33 = .ok (.iload_n 2, 1) := by decide +kernel
theorem dX1_copyFrom_34 : decode cX1_copyFrom 34 = .ok (.aaload, 1) := by decide +kernel
theorem dX1_copyFrom_35 : decode cX1_copyFrom 35 = .ok (.aload_n 1, 1) := by decide +kernel
theorem dX1_copyFrom_36 : decode cX1_copyFrom 36 = .ok (.getfield 18, 3) := by decide +kernel
theorem dX1_copyFrom_39 : decode cX1_copyFrom 39 = .ok (.iload_n 2, 1) := by decide +kernel
theorem dX1_copyFrom_40 : decode cX1_copyFrom 40 = .ok (.aaload, 1) := by decide +kernel
theorem dX1_copyFrom_41 : decode cX1_copyFrom 41 = .ok (.invokevirtual 33, 3) := by decide +kernel
theorem dX1_copyFrom_44 : decode cX1_copyFrom 44 = .ok (.iinc 2 1, 3) := by decide +kernel
theorem dX1_copyFrom_47 : decode cX1_copyFrom 47 = .ok (.goto (-26), 3) := by decide +kernel
theorem dX1_copyFrom_50 : decode cX1_copyFrom 50 = .ok (.return_, 1) := by decide +kernel
theorem dX2_init_0 : decode cX2_init 0 = .ok (.aload_n 0, 1) := by decide +kernel
theorem dX2_init_1 : decode cX2_init 1 = .ok (.invokespecial 3, 3) := by decide +kernel
theorem dX2_init_4 : decode cX2_init 4 = .ok (.aload_n 0, 1) := by decide +kernel
theorem dX2_init_5 : decode cX2_init 5 = .ok (.bipush (-9), 2) := by decide +kernel
theorem dX2_init_7 : decode cX2_init 7 = .ok (.putfield 9, 3) := by decide +kernel
theorem dX2_init_10 : decode cX2_init 10 = .ok (.aload_n 0, 1) := by decide +kernel
theorem dX2_init_11 : decode cX2_init 11 = .ok (.bipush 6, 2) := by decide +kernel
theorem dX2_init_13 : decode cX2_init 13 = .ok (.newarray .int, 2) := by decide +kernel
theorem dX2_init_15 : decode cX2_init 15 = .ok (.putfield 15, 3) := by decide +kernel
theorem dX2_init_18 : decode cX2_init 18 = .ok (.aload_n 0, 1) := by decide +kernel
theorem dX2_init_19 : decode cX2_init 19 = .ok (.bipush 6, 2) := by decide +kernel
theorem dX2_init_21 : decode cX2_init 21 = .ok (.newarray .int, 2) := by decide +kernel
theorem dX2_init_23 : decode cX2_init 23 = .ok (.putfield 19, 3) := by decide +kernel
theorem dX2_init_26 : decode cX2_init 26 = .ok (.aload_n 0, 1) := by decide +kernel
theorem dX2_init_27 : decode cX2_init 27 = .ok (.bipush 6, 2) := by decide +kernel
theorem dX2_init_29 : decode cX2_init 29 = .ok (.newarray .int, 2) := by decide +kernel
theorem dX2_init_31 : decode cX2_init 31 = .ok (.putfield 22, 3) := by decide +kernel
theorem dX2_init_34 : decode cX2_init 34 = .ok (.return_, 1) := by decide +kernel
theorem dX2_begin_0 : decode cX2_begin 0 = .ok (.aload_n 0, 1) := by decide +kernel
theorem dX2_begin_1 : decode cX2_begin 1 = .ok (.iconst 0, 1) := by decide +kernel
theorem dX2_begin_2 : decode cX2_begin 2 = .ok (.putfield 25, 3) := by decide +kernel
theorem dX2_begin_5 : decode cX2_begin 5 = .ok (.aload_n 0, 1) := by decide +kernel
theorem dX2_begin_6 : decode cX2_begin 6 = .ok (.bipush (-9), 2) := by decide +kernel
theorem dX2_begin_8 : decode cX2_begin 8 = .ok (.putfield 9, 3) := by decide +kernel
theorem dX2_begin_11 : decode cX2_begin 11 = .ok (.aload_n 0, 1) := by decide +kernel
theorem dX2_begin_12 : decode cX2_begin 12 = .ok (.iconst 0, 1) := by decide +kernel
theorem dX2_begin_13 : decode cX2_begin 13 = .ok (.putfield 28, 3) := by decide +kernel
theorem dX2_begin_16 : decode cX2_begin 16 = .ok (.aload_n 0, 1) := by decide +kernel
theorem dX2_begin_17 : decode cX2_begin 17 = .ok (.iconst 0, 1) := by decide +kernel
theorem dX2_begin_18 : decode cX2_begin 18 = .ok (.putfield 31, 3) := by decide +kernel
theorem dX2_begin_21 : decode cX2_begin 21 = .ok (.aload_n 0, 1) := by decide +kernel
theorem dX2_begin_22 : decode cX2_begin 22 = .ok (.iconst 0, 1) := by decide +kernel
theorem dX2_begin_23 : decode cX2_begin 23 = .ok (.putfield 35, 3) := by decide +kernel
theorem dX2_begin_26 : decode cX2_begin 26 = .ok (.iconst 0, 1) := by decide +kernel
theorem dX2_begin_27 : decode cX2_begin 27 = .ok (.istore_n 2, 1) := by decide +kernel
theorem dX2_begin_28 : decode cX2_begin 28 = .ok (.iload_n 2, 1) := by decide +kernel
theorem dX2_begin_29 : decode cX2_begin 29 = .ok (.bipush 6, 2) := by decide +kernel
theorem dX2_begin_31 : decode cX2_begin 31 = .ok (.if_icmp .ge 35, 3) := by decide +kernel
theorem dX2_begin_34 : decode cX2_begin 34 = .ok (.aload_n 0, 1) := by decide +kernel
theorem dX2_begin_35 : decode cX2_begin 35 = .ok (.getfield 15, 3) := by decide +kernel
theorem dX2_begin_38 : decode cX2_begin 38 = .ok (.iload_n 2, 1) := by decide +kernel
theorem dX2_begin_39 : decode cX2_begin 39 = .ok (.aload_n 1, 1) := by decide +kernel
theorem dX2_begin_40 : decode cX2_begin 40 = .ok (.getfield 38, 3) := by decide +kernel
theorem dX2_begin_43 : decode cX2_begin 43 = .ok (.iload_n 2, 1) := by decide +kernel
theorem dX2_begin_44 : decode cX2_begin 44 = .ok (.iaload, 1) := by decide +kernel
theorem dX2_begin_45 : decode cX2_begin 45 = .ok (.iastore, 1) := by decide +kernel
theorem dX2_begin_46 : decode cX2_begin 46 = .ok (.aload_n 0, 1) := by decide +kernel
theorem dX2_begin_47 : decode cX2_begin 47 = .ok (.getfield 19, 3) := by decide +kernel
theorem dX2_begin_50 : decode cX2_begin 50 = .ok (.iload_n 2, 1) := by decide +kernel
theorem dX2_begin_51 : decode cX2_begin 51 = .ok (.iconst 0, 1) := by decide +kernel
theorem dX2_begin_52 : decode cX2_begin 52 = .ok (.iastore, 1) := by decide +kernel
theorem dX2_begin_53 : decode cX2_begin 53 = .ok (.aload_n 0, 1) := by decide +kernel
theorem dX2_begin_54 : decode cX2_begin 54 = .ok (.getfield 22, 3) := by decide +kernel
theorem dX2_begin_57 : decode cX2_begin 57 = .ok (.iload_n 2, 1) := by decide +kernel
theorem dX2_begin_58 : decode cX2_begin 58 = .ok (.iconst 0, 1) := by decide +kernel
theorem dX2_begin_59 : decode cX2_begin 59 = .ok (.iastore, 1) := by decide +kernel
theorem dX2_begin_60 : decode cX2_begin 60 = .ok (.iinc 2 1, 3) := by decide +kernel
theorem dX2_begin_63 : decode cX2_begin 63 = .ok (.goto (-35), 3) := by decide +kernel
theorem dX2_begin_66 : decode cX2_begin 66 = .ok (.return_, 1) := by decide +kernel
theorem dX2_copyFrom_0 : decode cX2_copyFrom 0 = .ok (.aload_n 0, 1) := by decide +kernel
theorem dX2_copyFrom_1 : decode cX2_copyFrom 1 = .ok (.aload_n 1, 1) := by decide +kernel
theorem dX2_copyFrom_2 : decode cX2_copyFrom 2 = .ok (.getfield 25, 3) := by decide +kernel
theorem dX2_copyFrom_5 : decode cX2_copyFrom 5 = .ok (.putfield 25, 3) := by decide +kernel
theorem dX2_copyFrom_8 : decode cX2_copyFrom 8 = .ok (.aload_n 0, 1) := by decide +kernel
theorem dX2_copyFrom_9 : decode cX2_copyFrom 9 = .ok (.aload_n 1, 1) := by decide +kernel
theorem dX2_copyFrom_10 : decode cX2_copyFrom 10 = .ok (.getfield 9, 3) := by decide +kernel
theorem dX2_copyFrom_13 : decode cX2_copyFrom 13 = .ok (.putfield 9, 3) := by decide +kernel
theorem dX2_copyFrom_16 : decode cX2_copyFrom 16 = .ok (.aload_n 0, 1) := by decide +kernel
theorem dX2_copyFrom_17 : decode cX2_copyFrom 17 = .ok (.aload_n 1, 1) := by decide +kernel
theorem dX2_copyFrom_18 : decode cX2_copyFrom 18 = .ok (.getfield 28, 3) := by decide +kernel
theorem dX2_copyFrom_21 : decode cX2_copyFrom 21 = .ok (.putfield 28, 3) := by decide +kernel
theorem dX2_copyFrom_24 : decode cX2_copyFrom 24 = .ok (.aload_n 0, 1) := by decide +kernel
theorem dX2_copyFrom_25 : decode cX2_copyFrom 25 = .ok (.aload_n 1, 1) := by decide +kernel
theorem dX2_copyFrom_26 : decode cX2_copyFrom 26 = .ok (.getfield 31, 3) := by decide +kernel
theorem dX2_copyFrom_29 : decode cX2_copyFrom 29 = .ok (.putfield 31, 3) := by decide +kernel
theorem dX2_copyFrom_32 : decode cX2_copyFrom 32 = .ok (.aload_n 0, 1) := by decide +kernel
theorem dX2_copyFrom_33 : decode cX2_copyFrom 33 = .ok (.aload_n 1, 1) := by decide +kernel
theorem dX2_copyFrom_34 : decode cX2_copyFrom 34 = .ok (.getfield 35, 3) := by decide +kernel
theorem dX2_copyFrom_37 : decode cX2_copyFrom 37 = .ok (.putfield 35, 3) := by decide +kernel
theorem dX2_copyFrom_40 : decode cX2_copyFrom 40 = .ok (.aload_n 1, 1) := by decide +kernel
theorem dX2_copyFrom_41 : decode cX2_copyFrom 41 = .ok (.getfield 15, 3) := by decide +kernel
theorem dX2_copyFrom_44 : decode cX2_copyFrom 44 = .ok (.iconst 0, 1) := by decide +kernel
theorem dX2_copyFrom_45 : decode cX2_copyFrom 45 = .ok (.aload_n 0, 1) := by decide +kernel
theorem dX2_copyFrom_46 : decode cX2_copyFrom 46 = .ok (.getfield 15, 3) := by decide +kernel
theorem dX2_copyFrom_49 : decode cX2_copyFrom 49 = .ok (.iconst 0, 1) := by decide +kernel
theorem dX2_copyFrom_50 : decode cX2_copyFrom 50 = .ok (.bipush 6, 2) := by decide +kernel
theorem dX2_copyFrom_52 : decode cX2_copyFrom 52 = .ok (.invokestatic 43, 3) := by decide +kernel
theorem dX2_copyFrom_55 : decode cX2_copyFrom 55 = .ok (.aload_n 1, 1) := by decide +kernel
theorem dX2_copyFrom_56 : decode cX2_copyFrom 56 = .ok (.getfield 19, 3) := by decide +kernel
theorem dX2_copyFrom_59 : decode cX2_copyFrom 59 = .ok (.iconst 0, 1) := by decide +kernel
theorem dX2_copyFrom_60 : decode cX2_copyFrom 60 = .ok (.aload_n 0, 1) := by decide +kernel
theorem dX2_copyFrom_61 : decode cX2_copyFrom 61 = .ok (.getfield 19, 3) := by decide +kernel
theorem dX2_copyFrom_64 : decode cX2_copyFrom 64 = .ok (.iconst 0, 1) := by decide +kernel
theorem dX2_copyFrom_65 : decode cX2_copyFrom 65 = .ok (.bipush 6, 2) := by decide +kernel
theorem dX2_copyFrom_67 : decode cX2_copyFrom 67 = .ok (.invokestatic 43, 3) := by decide +kernel
theorem dX2_copyFrom_70 : decode cX2_copyFrom 70 = .ok (.aload_n 1, 1) := by decide +kernel
theorem dX2_copyFrom_71 : decode cX2_copyFrom 71 = .ok (.getfield 22, 3) := by decide +kernel
theorem dX2_copyFrom_74 : decode cX2_copyFrom 74 = .ok (.iconst 0, 1) := by decide +kernel
theorem dX2_copyFrom_75 : decode cX2_copyFrom 75 = .ok (.aload_n 0, 1) := by decide +kernel
theorem dX2_copyFrom_76 : decode cX2_copyFrom 76 = .ok (.getfield 22, 3) := by decide +kernel
theorem dX2_copyFrom_79 : decode cX2_copyFrom 79 = .ok (.iconst 0, 1) := by decide +kernel
theorem dX2_copyFrom_80 : decode cX2_copyFrom 80 = .ok (.bipush 6, 2) := by decide +kernel
theorem dX2_copyFrom_82 : decode cX2_copyFrom 82 = .ok (.invokestatic 43, 3) := by decide +kernel
theorem dX2_copyFrom_85 : decode cX2_copyFrom 85 = .ok (.return_, 1) := by decide +kernel
theorem dX2_isHeld_0 : decode cX2_isHeld 0 = .ok (.aload_n 0, 1) := by decide +kernel
theorem dX2_isHeld_1 : decode cX2_isHeld 1 = .ok (.getfield 9, 3) := by decide +kernel
theorem dX2_isHeld_4 : decode cX2_isHeld 4 = .ok (.ifCond .lt 7, 3) := by decide +kernel
theorem dX2_isHeld_7 : decode cX2_isHeld 7 = .ok (.iconst 1, 1) := by decide +kernel
theorem dX2_isHeld_8 : decode cX2_isHeld 8 = .ok (.goto 4, 3) := by decide +kernel
theorem dX2_isHeld_11 : decode cX2_isHeld 11 = .ok (.iconst 0, 1) := by decide +kernel
theorem dX2_isHeld_12 : decode cX2_isHeld 12 = .ok (.ireturn, 1) := by decide +kernel
theorem dX2_isDone_0 : decode cX2_isDone 0 = .ok (.aload_n 0, 1) := by decide +kernel
theorem dX2_isDone_1 : decode cX2_isDone 1 = .ok (.getfield 35, 3) := by decide +kernel
theorem dX2_isDone_4 : decode cX2_isDone 4 = .ok (.iload_n 1, 1) := by decide +kernel
theorem dX2_isDone_5 : decode cX2_isDone 5 = .ok (.ishr, 1) := by decide +kernel
theorem dX2_isDone_6 : decode cX2_isDone 6 = .ok (.iconst 1, 1) := by decide +kernel
theorem dX2_isDone_7 : decode cX2_isDone 7 = .ok (.iand, 1) := by decide +kernel
theorem dX2_isDone_8 : decode cX2_isDone 8 = .ok (.iconst 1, 1) := by decide +kernel
theorem dX2_isDone_9 : decode cX2_isDone 9 = .ok (.if_icmp .ne 7, 3) := by decide +kernel
theorem dX2_isDone_12 : decode cX2_isDone 12 = .ok (.iconst 1, 1) := by decide +kernel
theorem dX2_isDone_13 : decode cX2_isDone 13 = .ok (.goto 4, 3) := by decide +kernel
theorem dX2_isDone_16 : decode cX2_isDone 16 = .ok (.iconst 0, 1) := by decide +kernel
theorem dX2_isDone_17 : decode cX2_isDone 17 = .ok (.ireturn, 1) := by decide +kernel
set_option maxRecDepth 20000 in
theorem ggX2_spoonPlace_X2_isHeld : GoodIn wsX2_spoonPlace wsX2_isHeld := goodIn_r _ [8, 2, 9, 10, 11, 12, 13, 14, 15, 16] (by decide +kernel) (by decide +kernel)
set_option maxRecDepth 20000 in
theorem gX2_spoonPlace_X2_isHeld : GoodIn wsX2_spoonPlace (wsV RX2 49 RX2 yX2_isHeld wsX2_isHeld) := goodIn_app (goodIn_of _ (by decide +kernel)) ggX2_spoonPlace_X2_isHeld
theorem dX2_spoonPlace_0 : decode cX2_spoonPlace 0 = .ok (.aload_n 0, 1) := by decide +kernel
theorem dX2_spoonPlace_1 : decode cX2_spoonPlace 1 = .ok (.invokevirtual 49, 3) := by decide +kernel
theorem dX2_spoonPlace_4 : decode cX2_spoonPlace 4 = .ok (.ifCond .eq 15, 3) := by decide +kernel
theorem dX2_spoonPlace_7 : decode cX2_spoonPlace 7 = .ok (.aload_n 0, 1) := by decide +kernel
theorem dX2_spoonPlace_8 : decode cX2_spoonPlace 8 = .ok (.getfield 15, 3) := by decide +kernel
theorem dX2_spoonPlace_11 : decode cX2_spoonPlace 11 = .ok (.aload_n 0, 1) := by decide +kernel
theorem dX2_spoonPlace_12 : decode cX2_spoonPlace 12 = .ok (.getfield 9, 3) := by decide +kernel
theorem dX2_spoonPlace_15 : decode cX2_spoonPlace 15 = .ok (.iaload, 1) := by decide +kernel
theorem dX2_spoonPlace_16 : decode cX2_spoonPlace 16 = .ok (.goto 7, 3) := by decide +kernel
theorem dX2_spoonPlace_19 : decode cX2_spoonPlace 19 = .ok (.aload_n 1, 1) := by decide +kernel
theorem dX2_spoonPlace_20 : decode cX2_spoonPlace 20 = .ok (.getfield 53, 3) := by decide +kernel
theorem dX2_spoonPlace_23 : decode cX2_spoonPlace 23 = .ok (.ireturn, 1) := by decide +kernel
theorem dX2_careOf_0 : decode cX2_careOf 0 = .ok (.iload_n 1, 1) := by decide +kernel
theorem dX2_careOf_1 : decode cX2_careOf 1 = .ok (.aload_n 0, 1) := by decide +kernel
theorem dX2_careOf_2 : decode cX2_careOf 2 = .ok (.getfield 9, 3) := by decide +kernel
theorem dX2_careOf_5 : decode cX2_careOf 5 = .ok (.if_icmp .ne 7, 3) := by decide +kernel
theorem dX2_careOf_8 : decode cX2_careOf 8 = .ok (.iconst 0, 1) := by decide +kernel
theorem dX2_careOf_9 : decode cX2_careOf 9 = .ok (.goto 14, 3) := by decide +kernel
theorem dX2_careOf_12 : decode cX2_careOf 12 = .ok (.aload_n 0, 1) := by decide +kernel
theorem dX2_careOf_13 : decode cX2_careOf 13 = .ok (.getfield 25, 3) := by decide +kernel
theorem dX2_careOf_16 : decode cX2_careOf 16 = .ok (.aload_n 0, 1) := by decide +kernel
theorem dX2_careOf_17 : decode cX2_careOf 17 = .ok (.getfield 19, 3) := by decide +kernel
theorem dX2_careOf_20 : decode cX2_careOf 20 = .ok (.iload_n 1, 1) := by decide +kernel
theorem dX2_careOf_21 : decode cX2_careOf 21 = .ok (.iaload, 1) := by decide +kernel
theorem dX2_careOf_22 : decode cX2_careOf 22 = .ok (.isub, 1) := by decide +kernel
theorem dX2_careOf_23 : decode cX2_careOf 23 = .ok (.ireturn, 1) := by decide +kernel
set_option maxRecDepth 20000 in
theorem ggX2_heldFor_X2_isHeld : GoodIn wsX2_heldFor wsX2_isHeld := goodIn_r _ [7, 8, 9, 10, 11, 12, 13, 14, 15, 16] (by decide +kernel) (by decide +kernel)
set_option maxRecDepth 20000 in
theorem gX2_heldFor_X2_isHeld : GoodIn wsX2_heldFor (wsV RX2 49 RX2 yX2_isHeld wsX2_isHeld) := goodIn_app (goodIn_of _ (by decide +kernel)) ggX2_heldFor_X2_isHeld
theorem dX2_heldFor_0 : decode cX2_heldFor 0 = .ok (.aload_n 0, 1) := by decide +kernel
theorem dX2_heldFor_1 : decode cX2_heldFor 1 = .ok (.invokevirtual 49, 3) := by decide +kernel
theorem dX2_heldFor_4 : decode cX2_heldFor 4 = .ok (.ifCond .eq 15, 3) := by decide +kernel
theorem dX2_heldFor_7 : decode cX2_heldFor 7 = .ok (.aload_n 0, 1) := by decide +kernel
theorem dX2_heldFor_8 : decode cX2_heldFor 8 = .ok (.getfield 25, 3) := by decide +kernel
theorem dX2_heldFor_11 : decode cX2_heldFor 11 = .ok (.aload_n 0, 1) := by decide +kernel
theorem dX2_heldFor_12 : decode cX2_heldFor 12 = .ok (.getfield 28, 3) := by decide +kernel
theorem dX2_heldFor_15 : decode cX2_heldFor 15 = .ok (.isub, 1) := by decide +kernel
theorem dX2_heldFor_16 : decode cX2_heldFor 16 = .ok (.goto 4, 3) := by decide +kernel
theorem dX2_heldFor_19 : decode cX2_heldFor 19 = .ok (.iconst 0, 1) := by decide +kernel
theorem dX2_heldFor_20 : decode cX2_heldFor 20 = .ok (.ireturn, 1) := by decide +kernel
set_option maxRecDepth 20000 in
theorem ggX2_giveAway_X2_heldFor : GoodIn wsX2_giveAway wsX2_heldFor := goodIn_r _ [17, 11, 18, 19, 20, 21, 16, 22, 1, 23, 24, 25, 26, 27, 28, 29, 30] (by decide +kernel) (by decide +kernel)
set_option maxRecDepth 20000 in
theorem gX2_giveAway_X2_heldFor : GoodIn wsX2_giveAway (wsV RX2 56 RX2 yX2_heldFor wsX2_heldFor) := goodIn_app (goodIn_of _ (by decide +kernel)) ggX2_giveAway_X2_heldFor
theorem dX2_giveAway_0 : decode cX2_giveAway 0 = .ok (.aload_n 0, 1) := by decide +kernel
theorem dX2_giveAway_1 : decode cX2_giveAway 1 = .ok (.getfield 9, 3) := by decide +kernel
theorem dX2_giveAway_4 : decode cX2_giveAway 4 = .ok (.istore_n 2, 1) := by decide +kernel
theorem dX2_giveAway_5 : decode cX2_giveAway 5 = .ok (.iload_n 2, 1) := by decide +kernel
theorem dX2_giveAway_6 : decode cX2_giveAway 6 = .ok (.ifCond .ge 5, 3) := by decide +kernel
theorem dX2_giveAway_9 : decode cX2_giveAway 9 = .ok (.iconst 0, 1) := by decide +kernel
theorem dX2_giveAway_10 : decode cX2_giveAway 10 = .ok (.ireturn, 1) := by decide +kernel
theorem dX2_giveAway_11 : decode cX2_giveAway 11 = .ok (.iconst 0, 1) := by decide +kernel
theorem dX2_giveAway_12 : decode cX2_giveAway 12 = .ok (.aload_n 0, 1) := by decide +kernel
theorem dX2_giveAway_13 : decode cX2_giveAway 13 = .ok (.invokevirtual 56, 3) := by decide +kernel
theorem dX2_giveAway_16 : decode cX2_giveAway 16 = .ok (.iload_n 1, 1) := by decide +kernel
theorem dX2_giveAway_17 : decode cX2_giveAway 17 = .ok (.isub, 1) := by decide +kernel
theorem dX2_giveAway_18 : decode cX2_giveAway 18 = .ok (.invokestatic 60, 3) := by decide +kernel
theorem dX2_giveAway_21 : decode cX2_giveAway 21 = .ok (.istore_n 3, 1) := by decide +kernel
theorem dX2_giveAway_22 : decode cX2_giveAway 22 = .ok (.aload_n 0, 1) := by decide +kernel
theorem dX2_giveAway_23 : decode cX2_giveAway 23 = .ok (.getfield 22, 3) := by decide +kernel
theorem dX2_giveAway_26 : decode cX2_giveAway 26 = .ok (.iload_n 2, 1) := by decide +kernel
theorem dX2_giveAway_27 : decode cX2_giveAway 27 = .ok (.sipush 999, 3) := by decide +kernel
theorem dX2_giveAway_30 : decode cX2_giveAway 30 = .ok (.aload_n 0, 1) := by decide +kernel
theorem dX2_giveAway_31 : decode cX2_giveAway 31 = .ok (.getfield 22, 3) := by decide +kernel
theorem dX2_giveAway_34 : decode cX2_giveAway 34 = .ok (.iload_n 2, 1) := by decide +kernel
theorem dX2_giveAway_35 : decode cX2_giveAway 35 = .ok (.iaload, 1) := by decide +kernel
theorem dX2_giveAway_36 : decode cX2_giveAway 36 = .ok (.iload_n 3, 1) := by decide +kernel
theorem dX2_giveAway_37 : decode cX2_giveAway 37 = .ok (.iadd, 1) := by decide +kernel
theorem dX2_giveAway_38 : decode cX2_giveAway 38 = .ok (.invokestatic 66, 3) := by decide +kernel
theorem dX2_giveAway_41 : decode cX2_giveAway 41 = .ok (.iastore, 1) := by decide +kernel
theorem dX2_giveAway_42 : decode cX2_giveAway 42 = .ok (.aload_n 0, 1) := by decide +kernel
theorem dX2_giveAway_43 : decode cX2_giveAway 43 = .ok (.getfield 19, 3) := by decide +kernel
theorem dX2_giveAway_46 : decode cX2_giveAway 46 = .ok (.iload_n 2, 1) := by decide +kernel
theorem dX2_giveAway_47 : decode cX2_giveAway 47 = .ok (.aload_n 0, 1) := by decide +kernel
theorem dX2_giveAway_48 : decode cX2_giveAway 48 = .ok (.getfield 25, 3) := by decide +kernel
theorem dX2_giveAway_51 : decode cX2_giveAway 51 = .ok (.iastore, 1) := by decide +kernel
theorem dX2_giveAway_52 : decode cX2_giveAway 52 = .ok (.aload_n 0, 1) := by decide +kernel
theorem dX2_giveAway_53 : decode cX2_giveAway 53 = .ok (.bipush (-9), 2) := by decide +kernel
theorem dX2_giveAway_55 : decode cX2_giveAway 55 = .ok (.putfield 9, 3) := by decide +kernel
theorem dX2_giveAway_58 : decode cX2_giveAway 58 = .ok (.aload_n 0, 1) := by decide +kernel
theorem dX2_giveAway_59 : decode cX2_giveAway 59 = .ok (.iconst 0, 1) := by decide +kernel
theorem dX2_giveAway_60 : decode cX2_giveAway 60 = .ok (.putfield 31, 3) := by decide +kernel
theorem dX2_giveAway_63 : decode cX2_giveAway 63 = .ok (.aload_n 0, 1) := by decide +kernel
theorem dX2_giveAway_64 : decode cX2_giveAway 64 = .ok (.getfield 22, 3) := by decide +kernel
theorem dX2_giveAway_67 : decode cX2_giveAway 67 = .ok (.iload_n 2, 1) := by decide +kernel
theorem dX2_giveAway_68 : decode cX2_giveAway 68 = .ok (.iaload, 1) := by decide +kernel
theorem dX2_giveAway_69 : decode cX2_giveAway 69 = .ok (.ireturn, 1) := by decide +kernel
theorem dX2_receive_0 : decode cX2_receive 0 = .ok (.aload_n 0, 1) := by decide +kernel
theorem dX2_receive_1 : decode cX2_receive 1 = .ok (.iload_n 1, 1) := by decide +kernel
theorem dX2_receive_2 : decode cX2_receive 2 = .ok (.putfield 9, 3) := by decide +kernel
theorem dX2_receive_5 : decode cX2_receive 5 = .ok (.aload_n 0, 1) := by decide +kernel
theorem dX2_receive_6 : decode cX2_receive 6 = .ok (.aload_n 0, 1) := by decide +kernel
theorem dX2_receive_7 : decode cX2_receive 7 = .ok (.getfield 25, 3) := by decide +kernel
theorem dX2_receive_10 : decode cX2_receive 10 = .ok (.putfield 28, 3) := by decide +kernel
theorem dX2_receive_13 : decode cX2_receive 13 = .ok (.aload_n 0, 1) := by decide +kernel
theorem dX2_receive_14 : decode cX2_receive 14 = .ok (.iconst 1, 1) := by decide +kernel
theorem dX2_receive_15 : decode cX2_receive 15 = .ok (.putfield 31, 3) := by decide +kernel
theorem dX2_receive_18 : decode cX2_receive 18 = .ok (.return_, 1) := by decide +kernel
set_option maxRecDepth 20000 in
theorem ggX2_walkTo_X2_isHeld : GoodIn wsX2_walkTo wsX2_isHeld := goodIn_r _ [8, 2, 9, 10, 11, 12, 13, 14, 15, 16] (by decide +kernel) (by decide +kernel)
set_option maxRecDepth 20000 in
theorem gX2_walkTo_X2_isHeld : GoodIn wsX2_walkTo (wsV RX2 49 RX2 yX2_isHeld wsX2_isHeld) := goodIn_app (goodIn_of _ (by decide +kernel)) ggX2_walkTo_X2_isHeld
theorem dX2_walkTo_0 : decode cX2_walkTo 0 = .ok (.aload_n 0, 1) := by decide +kernel
theorem dX2_walkTo_1 : decode cX2_walkTo 1 = .ok (.invokevirtual 49, 3) := by decide +kernel
theorem dX2_walkTo_4 : decode cX2_walkTo 4 = .ok (.ifCond .eq 23, 3) := by decide +kernel
theorem dX2_walkTo_7 : decode cX2_walkTo 7 = .ok (.aload_n 0, 1) := by decide +kernel
theorem dX2_walkTo_8 : decode cX2_walkTo 8 = .ok (.getfield 15, 3) := by decide +kernel
theorem dX2_walkTo_11 : decode cX2_walkTo 11 = .ok (.aload_n 0, 1) := by decide +kernel
theorem dX2_walkTo_12 : decode cX2_walkTo 12 = .ok (.getfield 9, 3) := by decide +kernel
theorem dX2_walkTo_15 : decode cX2_walkTo 15 = .ok (.iload_n 1, 1) := by decide +kernel
theorem dX2_walkTo_16 : decode cX2_walkTo 16 = .ok (.iastore, 1) := by decide +kernel
theorem dX2_walkTo_17 : decode cX2_walkTo 17 = .ok (.aload_n 0, 1) := by decide +kernel
theorem dX2_walkTo_18 : decode cX2_walkTo 18 = .ok (.dup, 1) := by decide +kernel
theorem dX2_walkTo_19 : decode cX2_walkTo 19 = .ok (.getfield 25, 3) := by decide +kernel
theorem dX2_walkTo_22 : decode cX2_walkTo 22 = .ok (.iload_n 2, 1) := by decide +kernel
theorem dX2_walkTo_23 : decode cX2_walkTo 23 = .ok (.iadd, 1) := by decide +kernel
theorem dX2_walkTo_24 : decode cX2_walkTo 24 = .ok (.putfield 25, 3) := by decide +kernel
theorem dX2_walkTo_27 : decode cX2_walkTo 27 = .ok (.return_, 1) := by decide +kernel
set_option maxRecDepth 20000 in
theorem ggX2_canDo_X2_isHeld : GoodIn wsX2_canDo wsX2_isHeld := goodIn_r _ [13, 3, 19, 20, 21, 22, 23, 24, 25, 26] (by decide +kernel) (by decide +kernel)
set_option maxRecDepth 20000 in
theorem gX2_canDo_X2_isHeld : GoodIn wsX2_canDo (wsV RX2 49 RX2 yX2_isHeld wsX2_isHeld) := goodIn_app (goodIn_of _ (by decide +kernel)) ggX2_canDo_X2_isHeld
set_option maxRecDepth 20000 in
theorem ggX2_canDo_X2_isDone : GoodIn wsX2_canDo wsX2_isDone := goodIn_r _ [17, 18, 19, 20, 21, 22, 23, 24, 25, 26] (by decide +kernel) (by decide +kernel)
set_option maxRecDepth 20000 in
theorem gX2_canDo_X2_isDone : GoodIn wsX2_canDo (wsV RX2 75 RX2 yX2_isDone wsX2_isDone) := goodIn_app (goodIn_of _ (by decide +kernel)) ggX2_canDo_X2_isDone
theorem dX2_canDo_0 : decode cX2_canDo 0 = .ok (.aload_n 0, 1) := by decide +kernel
theorem dX2_canDo_1 : decode cX2_canDo 1 = .ok (.invokevirtual 49, 3) := by decide +kernel
theorem dX2_canDo_4 : decode cX2_canDo 4 = .ok (.ifCond .eq 79, 3) := by decide +kernel
theorem dX2_canDo_7 : decode cX2_canDo 7 = .ok (.aload_n 0, 1) := by decide +kernel
theorem dX2_canDo_8 : decode cX2_canDo 8 = .ok (.getfield 31, 3) := by decide +kernel
theorem dX2_canDo_11 : decode cX2_canDo 11 = .ok (.ifCond .eq 72, 3) := by decide +kernel
theorem dX2_canDo_14 : decode cX2_canDo 14 = .ok (.aload_n 1, 1) := by decide +kernel
theorem dX2_canDo_15 : decode cX2_canDo 15 = .ok (.getfield 69, 3) := by decide +kernel
theorem dX2_canDo_18 : decode cX2_canDo 18 = .ok (.iload_n 2, 1) := by decide +kernel
theorem dX2_canDo_19 : decode cX2_canDo 19 = .ok (.iaload, 1) := by decide +kernel
theorem dX2_canDo_20 : decode cX2_canDo 20 = .ok (.aload_n 0, 1) := by decide +kernel
theorem dX2_canDo_21 : decode cX2_canDo 21 = .ok (.getfield 9, 3) := by decide +kernel
theorem dX2_canDo_24 : decode cX2_canDo 24 = .ok (.if_icmp .ne 59, 3) := by decide +kernel
theorem dX2_canDo_27 : decode cX2_canDo 27 = .ok (.aload_n 0, 1) := by decide +kernel
theorem dX2_canDo_28 : decode cX2_canDo 28 = .ok (.getfield 15, 3) := by decide +kernel
theorem dX2_canDo_31 : decode cX2_canDo 31 = .ok (.aload_n 0, 1) := by decide +kernel
theorem dX2_canDo_32 : decode cX2_canDo 32 = .ok (.getfield 9, 3) := by decide +kernel
theorem dX2_canDo_35 : decode cX2_canDo 35 = .ok (.iaload, 1) := by decide +kernel
theorem dX2_canDo_36 : decode cX2_canDo 36 = .ok (.aload_n 1, 1) := by decide +kernel
theorem dX2_canDo_37 : decode cX2_canDo 37 = .ok (.getfield 72, 3) := by decide +kernel
theorem dX2_canDo_40 : decode cX2_canDo 40 = .ok (.iload_n 2, 1) := by decide +kernel
theorem dX2_canDo_41 : decode cX2_canDo 41 = .ok (.iaload, 1) := by decide +kernel
theorem dX2_canDo_42 : decode cX2_canDo 42 = .ok (.if_icmp .ne 41, 3) := by decide +kernel
theorem dX2_canDo_45 : decode cX2_canDo 45 = .ok (.aload_n 0, 1) := by decide +kernel
theorem dX2_canDo_46 : decode cX2_canDo 46 = .ok (.iload_n 2, 1) := by decide +kernel
theorem dX2_canDo_47 : decode cX2_canDo 47 = .ok (.invokevirtual 75, 3) := by decide +kernel
theorem dX2_canDo_50 : decode cX2_canDo 50 = .ok (.ifCond .ne 33, 3) := by decide +kernel
theorem dX2_canDo_53 : decode cX2_canDo 53 = .ok (.aload_n 0, 1) := by decide +kernel
theorem dX2_canDo_54 : decode cX2_canDo 54 = .ok (.getfield 25, 3) := by decide +kernel
theorem dX2_canDo_57 : decode cX2_canDo 57 = .ok (.aload_n 1, 1) := by decide +kernel
theorem dX2_canDo_58 : decode cX2_canDo 58 = .ok (.getfield 79, 3) := by decide +kernel
theorem dX2_canDo_61 : decode cX2_canDo 61 = .ok (.iload_n 2, 1) := by decide +kernel
theorem dX2_canDo_62 : decode cX2_canDo 62 = .ok (.iaload, 1) := by decide +kernel
theorem dX2_canDo_63 : decode cX2_canDo 63 = .ok (.if_icmp .lt 20, 3) := by decide +kernel
theorem dX2_canDo_66 : decode cX2_canDo 66 = .ok (.aload_n 0, 1) := by decide +kernel
theorem dX2_canDo_67 : decode cX2_canDo 67 = .ok (.getfield 25, 3) := by decide +kernel
theorem dX2_canDo_70 : decode cX2_canDo 70 = .ok (.aload_n 1, 1) := by decide +kernel
theorem dX2_canDo_71 : decode cX2_canDo 71 = .ok (.getfield 82, 3) := by decide +kernel
theorem dX2_canDo_74 : decode cX2_canDo 74 = .ok (.iload_n 2, 1) := by decide +kernel
theorem dX2_canDo_75 : decode cX2_canDo 75 = .ok (.iaload, 1) := by decide +kernel
theorem dX2_canDo_76 : decode cX2_canDo 76 = .ok (.if_icmp .gt 7, 3) := by decide +kernel
theorem dX2_canDo_79 : decode cX2_canDo 79 = .ok (.iconst 1, 1) := by decide +kernel
theorem dX2_canDo_80 : decode cX2_canDo 80 = .ok (.goto 4, 3) := by decide +kernel
theorem dX2_canDo_83 : decode cX2_canDo 83 = .ok (.iconst 0, 1) := by decide +kernel
theorem dX2_canDo_84 : decode cX2_canDo 84 = .ok (.ireturn, 1) := by decide +kernel
set_option maxRecDepth 20000 in
theorem ggX2_worthDone_X2_isDone : GoodIn wsX2_worthDone wsX2_isDone := goodIn_r _ [7, 8, 19, 20, 21, 22, 23, 24, 25, 26] (by decide +kernel) (by decide +kernel)
set_option maxRecDepth 20000 in
theorem gX2_worthDone_X2_isDone : GoodIn wsX2_worthDone (wsV RX2 75 RX2 yX2_isDone wsX2_isDone) := goodIn_app (goodIn_of _ (by decide +kernel)) ggX2_worthDone_X2_isDone
theorem dX2_worthDone_0 : decode cX2_worthDone 0 = .ok (.iconst 0, 1) := by decide +kernel
theorem dX2_worthDone_1 : decode cX2_worthDone 1 = .ok (.istore_n 2, 1) := by decide +kernel
theorem dX2_worthDone_2 : decode cX2_worthDone 2 = .ok (.iconst 0, 1) := by decide +kernel
theorem dX2_worthDone_3 : decode cX2_worthDone 3 = .ok (.istore_n 3, 1) := by decide +kernel
theorem dX2_worthDone_4 : decode cX2_worthDone 4 = .ok (.iload_n 3, 1) := by decide +kernel
theorem dX2_worthDone_5 : decode cX2_worthDone 5 = .ok (.aload_n 1, 1) := by decide +kernel
theorem dX2_worthDone_6 : decode cX2_worthDone 6 = .ok (.getfield 85, 3) := by decide +kernel
theorem dX2_worthDone_9 : decode cX2_worthDone 9 = .ok (.if_icmp .ge 26, 3) := by decide +kernel
theorem dX2_worthDone_12 : decode cX2_worthDone 12 = .ok (.aload_n 0, 1) := by decide +kernel
theorem dX2_worthDone_13 : decode cX2_worthDone 13 = .ok (.iload_n 3, 1) := by decide +kernel
theorem dX2_worthDone_14 : decode cX2_worthDone 14 = .ok (.invokevirtual 75, 3) := by decide +kernel
theorem dX2_worthDone_17 : decode cX2_worthDone 17 = .ok (.ifCond .eq 12, 3) := by decide +kernel
theorem dX2_worthDone_20 : decode cX2_worthDone 20 = .ok (.iload_n 2, 1) := by decide +kernel
theorem dX2_worthDone_21 : decode cX2_worthDone 21 = .ok (.aload_n 1, 1) := by decide +kernel
theorem dX2_worthDone_22 : decode cX2_worthDone 22 = .ok (.getfield 88, 3) := by decide +kernel
theorem dX2_worthDone_25 : decode cX2_worthDone 25 = .ok (.iload_n 3, 1) := by decide +kernel
theorem dX2_worthDone_26 : decode cX2_worthDone 26 = .ok (.iaload, 1) := by decide +kernel
theorem dX2_worthDone_27 : decode cX2_worthDone 27 = .ok (.iadd, 1) := by decide +kernel
theorem dX2_worthDone_28 : decode cX2_worthDone 28 = .ok (.istore_n 2, 1) := by decide +kernel
theorem dX2_worthDone_29 : decode cX2_worthDone 29 = .ok (.iinc 3 1, 3) := by decide +kernel
theorem dX2_worthDone_32 : decode cX2_worthDone 32 = .ok (.goto (-28), 3) := by decide +kernel
theorem dX2_worthDone_35 : decode cX2_worthDone 35 = .ok (.iload_n 2, 1) := by decide +kernel
theorem dX2_worthDone_36 : decode cX2_worthDone 36 = .ok (.ireturn, 1) := by decide +kernel
theorem dX2_owedByAll_0 : decode cX2_owedByAll 0 = .ok (.iconst 0, 1) := by decide +kernel
theorem dX2_owedByAll_1 : decode cX2_owedByAll 1 = .ok (.istore_n 1, 1) := by decide +kernel
theorem dX2_owedByAll_2 : decode cX2_owedByAll 2 = .ok (.iconst 0, 1) := by decide +kernel
theorem dX2_owedByAll_3 : decode cX2_owedByAll 3 = .ok (.istore_n 2, 1) := by decide +kernel
theorem dX2_owedByAll_4 : decode cX2_owedByAll 4 = .ok (.iload_n 2, 1) := by decide +kernel
theorem dX2_owedByAll_5 : decode cX2_owedByAll 5 = .ok (.bipush 6, 2) := by decide +kernel
theorem dX2_owedByAll_7 : decode cX2_owedByAll 7 = .ok (.if_icmp .ge 18, 3) := by decide +kernel
theorem dX2_owedByAll_10 : decode cX2_owedByAll 10 = .ok (.iload_n 1, 1) := by decide +kernel
theorem dX2_owedByAll_11 : decode cX2_owedByAll 11 = .ok (.aload_n 0, 1) := by decide +kernel
theorem dX2_owedByAll_12 : decode cX2_owedByAll 12 = .ok (.getfield 22, 3) := by decide +kernel
theorem dX2_owedByAll_15 : decode cX2_owedByAll 15 = .ok (.iload_n 2, 1) := by decide +kernel
theorem dX2_owedByAll_16 : decode cX2_owedByAll 16 = .ok (.iaload, 1) := by decide +kernel
theorem dX2_owedByAll_17 : decode cX2_owedByAll 17 = .ok (.iadd, 1) := by decide +kernel
theorem dX2_owedByAll_18 : decode cX2_owedByAll 18 = .ok (.istore_n 1, 1) := by decide +kernel
theorem dX2_owedByAll_19 : decode cX2_owedByAll 19 = .ok (.iinc 2 1, 3) := by decide +kernel
theorem dX2_owedByAll_22 : decode cX2_owedByAll 22 = .ok (.goto (-18), 3) := by decide +kernel
theorem dX2_owedByAll_25 : decode cX2_owedByAll 25 = .ok (.iload_n 1, 1) := by decide +kernel
theorem dX2_owedByAll_26 : decode cX2_owedByAll 26 = .ok (.ireturn, 1) := by decide +kernel
theorem dX2_openDeeds_0 : decode cX2_openDeeds 0 = .ok (.iconst 1, 1) := by decide +kernel
theorem dX2_openDeeds_1 : decode cX2_openDeeds 1 = .ok (.aload_n 1, 1) := by decide +kernel
theorem dX2_openDeeds_2 : decode cX2_openDeeds 2 = .ok (.getfield 85, 3) := by decide +kernel
theorem dX2_openDeeds_5 : decode cX2_openDeeds 5 = .ok (.ishl, 1) := by decide +kernel
theorem dX2_openDeeds_6 : decode cX2_openDeeds 6 = .ok (.iconst 1, 1) := by decide +kernel
theorem dX2_openDeeds_7 : decode cX2_openDeeds 7 = .ok (.isub, 1) := by decide +kernel
theorem dX2_openDeeds_8 : decode cX2_openDeeds 8 = .ok (.aload_n 0, 1) := by decide +kernel
theorem dX2_openDeeds_9 : decode cX2_openDeeds 9 = .ok (.getfield 35, 3) := by decide +kernel
theorem dX2_openDeeds_12 : decode cX2_openDeeds 12 = .ok (.iconst (-1), 1) := by decide +kernel
theorem dX2_openDeeds_13 : decode cX2_openDeeds 13 = .ok (.ixor, 1) := by decide +kernel
theorem dX2_openDeeds_14 : decode cX2_openDeeds 14 = .ok (.iand, 1) := by decide +kernel
theorem dX2_openDeeds_15 : decode cX2_openDeeds 15 = .ok (.ireturn, 1) := by decide +kernel
theorem dX3_init_0 : decode cX3_init 0 = .ok (.aload_n 0, 1) := by decide +kernel
theorem dX3_init_1 : decode cX3_init 1 = .ok (.invokespecial 3, 3) := by decide +kernel
theorem dX3_init_4 : decode cX3_init 4 = .ok (.aload_n 0, 1) := by decide +kernel
theorem dX3_init_5 : decode cX3_init 5 = .ok (.bipush 9, 2) := by decide +kernel
theorem dX3_init_7 : decode cX3_init 7 = .ok (.newarray .int, 2) := by decide +kernel
theorem dX3_init_9 : decode cX3_init 9 = .ok (.putfield 9, 3) := by decide +kernel
theorem dX3_init_12 : decode cX3_init 12 = .ok (.return_, 1) := by decide +kernel
set_option maxRecDepth 20000 in
theorem ggX3_find_X3_countWays : GoodIn wsX3_find wsX3_countWays := goodIn_r _ [8, 2, 13, 14, 15] (by decide +kernel) (by decide +kernel)
set_option maxRecDepth 20000 in
theorem gX3_find_X3_countWays : GoodIn wsX3_find (wsV RX3 15 RX3 yX3_countWays wsX3_countWays) := goodIn_app (goodIn_of _ (by decide +kernel)) ggX3_find_X3_countWays
set_option maxRecDepth 20000 in
theorem ggX3_find_X3_takeOut : GoodIn wsX3_find wsX3_takeOut := goodIn_r _ [12, 1, 3, 13, 14, 15] (by decide +kernel) (by decide +kernel)
set_option maxRecDepth 20000 in
theorem gX3_find_X3_takeOut : GoodIn wsX3_find (wsV RX3 26 RX3 yX3_takeOut wsX3_takeOut) := goodIn_app (goodIn_of _ (by decide +kernel)) ggX3_find_X3_takeOut
theorem dX3_find_0 : decode cX3_find 0 = .ok (.aload_n 0, 1) := by decide +kernel
theorem dX3_find_1 : decode cX3_find 1 = .ok (.iload_n 1, 1) := by decide +kernel
theorem dX3_find_2 : decode cX3_find 2 = .ok (.iload_n 2, 1) := by decide +kernel
theorem dX3_find_3 : decode cX3_find 3 = .ok (.invokevirtual 15, 3) := by decide +kernel
theorem dX3_find_6 : decode cX3_find 6 = .ok (.aload_n 0, 1) := by decide +kernel
theorem dX3_find_7 : decode cX3_find 7 = .ok (.iconst 0, 1) := by decide +kernel
theorem dX3_find_8 : decode cX3_find 8 = .ok (.putfield 19, 3) := by decide +kernel
theorem dX3_find_11 : decode cX3_find 11 = .ok (.iconst 0, 1) := by decide +kernel
theorem dX3_find_12 : decode cX3_find 12 = .ok (.istore 4, 2) := by decide +kernel
theorem dX3_find_14 : decode cX3_find 14 = .ok (.iload 4, 2) := by decide +kernel
theorem dX3_find_16 : decode cX3_find 16 = .ok (.iload_n 3, 1) := by decide +kernel
theorem dX3_find_17 : decode cX3_find 17 = .ok (.if_icmp .gt 31, 3) := by decide +kernel
theorem dX3_find_20 : decode cX3_find 20 = .ok (.iload 4, 2) := by decide +kernel
theorem dX3_find_22 : decode cX3_find 22 = .ok (.iload_n 1, 1) := by decide +kernel
theorem dX3_find_23 : decode cX3_find 23 = .ok (.if_icmp .gt 25, 3) := by decide +kernel
theorem dX3_find_26 : decode cX3_find 26 = .ok (.aload_n 0, 1) := by decide +kernel
theorem dX3_find_27 : decode cX3_find 27 = .ok (.dup, 1) := by decide +kernel
theorem dX3_find_28 : decode cX3_find 28 = .ok (.getfield 19, 3) := by decide +kernel
theorem dX3_find_31 : decode cX3_find 31 = .ok (.aload_n 0, 1) := by decide +kernel
theorem dX3_find_32 : decode cX3_find 32 = .ok (.getfield 9, 3) := by decide +kernel
theorem dX3_find_35 : decode cX3_find 35 = .ok (.iload 4, 2) := by decide +kernel
theorem dX3_find_37 : decode cX3_find 37 = .ok (.iaload, 1) := by decide +kernel
theorem dX3_find_38 : decode cX3_find 38 = .ok (.iadd, 1) := by decide +kernel
theorem dX3_find_39 : decode cX3_find 39 = .ok (.putfield 19, 3) := by decide +kernel
theorem dX3_find_42 : decode cX3_find 42 = .ok (.iinc 4 1, 3) := by decide +kernel
theorem dX3_find_45 : decode cX3_find 45 = .ok (.goto (-31), 3) := by decide +kernel
theorem dX3_find_48 : decode cX3_find 48 = .ok (.aload_n 0, 1) := by decide +kernel
theorem dX3_find_49 : decode cX3_find 49 = .ok (.iconst 1, 1) := by decide +kernel
theorem dX3_find_50 : decode cX3_find 50 = .ok (.putfield 23, 3) := by decide +kernel
theorem dX3_find_53 : decode cX3_find 53 = .ok (.iconst 0, 1) := by decide +kernel
theorem dX3_find_54 : decode cX3_find 54 = .ok (.istore 4, 2) := by decide +kernel
theorem dX3_find_56 : decode cX3_find 56 = .ok (.iload 4, 2) := by decide +kernel
theorem dX3_find_58 : decode cX3_find 58 = .ok (.iload_n 1, 1) := by decide +kernel
theorem dX3_find_59 : decode cX3_find 59 = .ok (.if_icmp .ge 20, 3) := by decide +kernel
theorem dX3_find_62 : decode cX3_find 62 = .ok (.aload_n 0, 1) := by decide +kernel
theorem dX3_find_63 : decode cX3_find 63 = .ok (.dup, 1) := by decide +kernel
theorem dX3_find_64 : decode cX3_find 64 = .ok (.getfield 23, 3) := by decide +kernel
theorem dX3_find_67 : decode cX3_find 67 = .ok (.bipush 10, 2) := by decide +kernel
theorem dX3_find_69 : decode cX3_find 69 = .ok (.imul, 1) := by decide +kernel
theorem dX3_find_70 : decode cX3_find 70 = .ok (.putfield 23, 3) := by decide +kernel
theorem dX3_find_73 : decode cX3_find 73 = .ok (.iinc 4 1, 3) := by decide +kernel
theorem dX3_find_76 : decode cX3_find 76 = .ok (.goto (-20), 3) := by decide +kernel
theorem dX3_find_79 : decode cX3_find 79 = .ok (.aload_n 0, 1) := by decide +kernel
theorem dX3_find_80 : decode cX3_find 80 = .ok (.iconst 2, 1) := by decide +kernel
theorem dX3_find_81 : decode cX3_find 81 = .ok (.iload_n 1, 1) := by decide +kernel
theorem dX3_find_82 : decode cX3_find 82 = .ok (.invokevirtual 26, 3) := by decide +kernel
theorem dX3_find_85 : decode cX3_find 85 = .ok (.aload_n 0, 1) := by decide +kernel
theorem dX3_find_86 : decode cX3_find 86 = .ok (.iconst 5, 1) := by decide +kernel
theorem dX3_find_87 : decode cX3_find 87 = .ok (.iload_n 1, 1) := by decide +kernel
theorem dX3_find_88 : decode cX3_find 88 = .ok (.invokevirtual 26, 3) := by decide +kernel
theorem dX3_find_91 : decode cX3_find 91 = .ok (.return_, 1) := by decide +kernel
theorem dX3_countWays_0 : decode cX3_countWays 0 = .ok (.aload_n 0, 1) := by decide +kernel
theorem dX3_countWays_1 : decode cX3_countWays 1 = .ok (.getfield 9, 3) := by decide +kernel
theorem dX3_countWays_4 : decode cX3_countWays 4 = .ok (.iconst 0, 1) := by decide +kernel
theorem dX3_countWays_5 : decode cX3_countWays 5 = .ok (.iconst 1, 1) := by decide +kernel
theorem dX3_countWays_6 : decode cX3_countWays 6 = .ok (.iastore, 1) := by decide +kernel
theorem dX3_countWays_7 : decode cX3_countWays 7 = .ok (.iconst 1, 1) := by decide +kernel
theorem dX3_countWays_8 : decode cX3_countWays 8 = .ok (.istore_n 3, 1) := by decide +kernel
theorem dX3_countWays_9 : decode cX3_countWays 9 = .ok (.iload_n 3, 1) := by decide +kernel
theorem dX3_countWays_10 : decode cX3_countWays 10 = .ok (.iload_n 1, 1) := by decide +kernel
theorem dX3_countWays_11 : decode cX3_countWays 11 = .ok (.if_icmp .gt 85, 3) := by decide +kernel
theorem dX3_countWays_14 : decode cX3_countWays 14 = .ok (.aload_n 0, 1) := by decide +kernel
theorem dX3_countWays_15 : decode cX3_countWays 15 = .ok (.getfield 9, 3) := by decide +kernel
theorem dX3_countWays_18 : decode cX3_countWays 18 = .ok (.iload_n 3, 1) := by decide +kernel
theorem dX3_countWays_19 : decode cX3_countWays 19 = .ok (.aload_n 0, 1) := by decide +kernel
theorem dX3_countWays_20 : decode cX3_countWays 20 = .ok (.getfield 9, 3) := by decide +kernel
theorem dX3_countWays_23 : decode cX3_countWays 23 = .ok (.iload_n 3, 1) := by decide +kernel
theorem dX3_countWays_24 : decode cX3_countWays 24 = .ok (.iconst 1, 1) := by decide +kernel
theorem dX3_countWays_25 : decode cX3_countWays 25 = .ok (.isub, 1) := by decide +kernel
theorem dX3_countWays_26 : decode cX3_countWays 26 = .ok (.iaload, 1) := by decide +kernel
theorem dX3_countWays_27 : decode cX3_countWays 27 = .ok (.iload_n 2, 1) := by decide +kernel
theorem dX3_countWays_28 : decode cX3_countWays 28 = .ok (.imul, 1) := by decide +kernel
theorem dX3_countWays_29 : decode cX3_countWays 29 = .ok (.iastore, 1) := by decide +kernel
theorem dX3_countWays_30 : decode cX3_countWays 30 = .ok (.iload_n 3, 1) := by decide +kernel
theorem dX3_countWays_31 : decode cX3_countWays 31 = .ok (.iconst 1, 1) := by decide +kernel
theorem dX3_countWays_32 : decode cX3_countWays 32 = .ok (.isub, 1) := by decide +kernel
theorem dX3_countWays_33 : decode cX3_countWays 33 = .ok (.istore 4, 2) := by decide +kernel
theorem dX3_countWays_35 : decode cX3_countWays 35 = .ok (.iload 4, 2) := by decide +kernel
theorem dX3_countWays_37 : decode cX3_countWays 37 = .ok (.ifCond .le 40, 3) := by decide +kernel
theorem dX3_countWays_40 : decode cX3_countWays 40 = .ok (.aload_n 0, 1) := by decide +kernel
theorem dX3_countWays_41 : decode cX3_countWays 41 = .ok (.getfield 9, 3) := by decide +kernel
theorem dX3_countWays_44 : decode cX3_countWays 44 = .ok (.iload 4, 2) := by decide +kernel
theorem dX3_countWays_46 : decode cX3_countWays 46 = .ok (.aload_n 0, 1) := by decide +kernel
theorem dX3_countWays_47 : decode cX3_countWays 47 = .ok (.getfield 9, 3) := by decide +kernel
theorem dX3_countWays_50 : decode cX3_countWays 50 = .ok (.iload 4, 2) := by decide +kernel
theorem dX3_countWays_52 : decode cX3_countWays 52 = .ok (.iaload, 1) := by decide +kernel
theorem dX3_countWays_53 : decode cX3_countWays 53 = .ok (.bipush 10, 2) := by decide +kernel
theorem dX3_countWays_55 : decode cX3_countWays 55 = .ok (.iload_n 2, 1) := by decide +kernel
theorem dX3_countWays_56 : decode cX3_countWays 56 = .ok (.isub, 1) := by decide +kernel
theorem dX3_countWays_57 : decode cX3_countWays 57 = .ok (.imul, 1) := by decide +kernel
theorem dX3_countWays_58 : decode cX3_countWays 58 = .ok (.aload_n 0, 1) := by decide +kernel
theorem dX3_countWays_59 : decode cX3_countWays 59 = .ok (.getfield 9, 3) := by decide +kernel
theorem dX3_countWays_62 : decode cX3_countWays 62 = .ok (.iload 4, 2) := by decide +kernel
theorem dX3_countWays_64 : decode cX3_countWays 64 = .ok (.iconst 1, 1) := by decide +kernel
theorem dX3_countWays_65 : decode cX3_countWays 65 = .ok (.isub, 1) := by decide +kernel
theorem dX3_countWays_66 : decode cX3_countWays 66 = .ok (.iaload, 1) := by decide +kernel
theorem dX3_countWays_67 : decode cX3_countWays 67 = .ok (.iload_n 2, 1) := by decide +kernel
theorem dX3_countWays_68 : decode cX3_countWays 68 = .ok (.imul, 1) := by decide +kernel
theorem dX3_countWays_69 : decode cX3_countWays 69 = .ok (.iadd, 1) := by decide +kernel
theorem dX3_countWays_70 : decode cX3_countWays 70 = .ok (.iastore, 1) := by decide +kernel
theorem dX3_countWays_71 : decode cX3_countWays 71 = .ok (.iinc 4 (-1), 3) := by decide +kernel
theorem dX3_countWays_74 : decode cX3_countWays 74 = .ok (.goto (-39), 3) := by decide +kernel
theorem dX3_countWays_77 : decode cX3_countWays 77 = .ok (.aload_n 0, 1) := by decide +kernel
theorem dX3_countWays_78 : decode cX3_countWays 78 = .ok (.getfield 9, 3) := by decide +kernel
theorem dX3_countWays_81 : decode cX3_countWays 81 = .ok (.iconst 0, 1) := by decide +kernel
theorem dX3_countWays_82 : decode cX3_countWays 82 = .ok (.dup2, 1) := by decide +kernel
theorem dX3_countWays_83 : decode cX3_countWays 83 = .ok (.iaload, 1) := by decide +kernel
theorem dX3_countWays_84 : decode cX3_countWays 84 = .ok (.bipush 10, 2) := by decide +kernel
theorem dX3_countWays_86 : decode cX3_countWays 86 = .ok (.iload_n 2, 1) := by decide +kernel
theorem dX3_countWays_87 : decode cX3_countWays 87 = .ok (.isub, 1) := by decide +kernel
theorem dX3_countWays_88 : decode cX3_countWays 88 = .ok (.imul, 1) := by decide +kernel
theorem dX3_countWays_89 : decode cX3_countWays 89 = .ok (.iastore, 1) := by decide +kernel
theorem dX3_countWays_90 : decode cX3_countWays 90 = .ok (.iinc 3 1, 3) := by decide +kernel
theorem dX3_countWays_93 : decode cX3_countWays 93 = .ok (.goto (-84), 3) := by decide +kernel
theorem dX3_countWays_96 : decode cX3_countWays 96 = .ok (.return_, 1) := by decide +kernel
theorem dX3_takeOut_0 : decode cX3_takeOut 0 = .ok (.iconst 0, 1) := by decide +kernel
theorem dX3_takeOut_1 : decode cX3_takeOut 1 = .ok (.istore_n 3, 1) := by decide +kernel
theorem dX3_takeOut_2 : decode cX3_takeOut 2 = .ok (.iload_n 3, 1) := by decide +kernel
theorem dX3_takeOut_3 : decode cX3_takeOut 3 = .ok (.iload_n 2, 1) := by decide +kernel
theorem dX3_takeOut_4 : decode cX3_takeOut 4 = .ok (.if_icmp .ge 42, 3) := by decide +kernel
theorem dX3_takeOut_7 : decode cX3_takeOut 7 = .ok (.iload_n 1, 1) := by decide +kernel
theorem dX3_takeOut_8 : decode cX3_takeOut 8 = .ok (.ifCond .le 38, 3) := by decide +kernel
theorem dX3_takeOut_11 : decode cX3_takeOut 11 = .ok (.aload_n 0, 1) := by decide +kernel
theorem dX3_takeOut_12 : decode cX3_takeOut 12 = .ok (.getfield 19, 3) := by decide +kernel
theorem dX3_takeOut_15 : decode cX3_takeOut 15 = .ok (.iload_n 1, 1) := by decide +kernel
theorem dX3_takeOut_16 : decode cX3_takeOut 16 = .ok (.irem, 1) := by decide +kernel
theorem dX3_takeOut_17 : decode cX3_takeOut 17 = .ok (.ifCond .ne 29, 3) := by decide +kernel
theorem dX3_takeOut_20 : decode cX3_takeOut 20 = .ok (.aload_n 0, 1) := by decide +kernel
theorem dX3_takeOut_21 : decode cX3_takeOut 21 = .ok (.dup, 1) := by decide +kernel
theorem dX3_takeOut_22 : decode cX3_takeOut 22 = .ok (.getfield 19, 3) := by decide +kernel
theorem dX3_takeOut_25 : decode cX3_takeOut 25 = .ok (.iload_n 1, 1) := by decide +kernel
theorem dX3_takeOut_26 : decode cX3_takeOut 26 = .ok (.idiv, 1) := by decide +kernel
theorem dX3_takeOut_27 : decode cX3_takeOut 27 = .ok (.putfield 19, 3) := by decide +kernel
theorem dX3_takeOut_30 : decode cX3_takeOut 30 = .ok (.aload_n 0, 1) := by decide +kernel
theorem dX3_takeOut_31 : decode cX3_takeOut 31 = .ok (.dup, 1) := by decide +kernel
theorem dX3_takeOut_32 : decode cX3_takeOut 32 = .ok (.getfield 23, 3) := by decide +kernel
theorem dX3_takeOut_35 : decode cX3_takeOut 35 = .ok (.iload_n 1, 1) := by decide +kernel
theorem dX3_takeOut_36 : decode cX3_takeOut 36 = .ok (.idiv, 1) := by decide +kernel
theorem dX3_takeOut_37 : decode cX3_takeOut 37 = .ok (.putfield 23, 3) := by decide +kernel
theorem dX3_takeOut_40 : decode cX3_takeOut 40 = .ok (.iinc 3 1, 3) := by decide +kernel
theorem dX3_takeOut_43 : decode cX3_takeOut 43 = .ok (.goto (-41), 3) := by decide +kernel
theorem dX3_takeOut_46 : decode cX3_takeOut 46 = .ok (.return_, 1) := by decide +kernel
theorem dX4_init_0 : decode cX4_init 0 = .ok (.aload_n 0, 1) := by decide +kernel
theorem dX4_init_1 : decode cX4_init 1 = .ok (.invokespecial 3, 3) := by decide +kernel
theorem dX4_init_4 : decode cX4_init 4 = .ok (.aload_n 0, 1) := by decide +kernel
theorem dX4_init_5 : decode cX4_init 5 = .ok (.bipush 15, 2) := by decide +kernel
theorem dX4_init_7 : decode cX4_init 7 = .ok (.putfield 11, 3) := by decide +kernel
theorem dX4_init_10 : decode cX4_init 10 = .ok (.aload_n 0, 1) := by decide +kernel
theorem dX4_init_11 : decode cX4_init 11 = .ok (.iconst 3, 1) := by decide +kernel
theorem dX4_init_12 : decode cX4_init 12 = .ok (.putfield 15, 3) := by decide +kernel
theorem dX4_init_15 : decode cX4_init 15 = .ok (.aload_n 0, 1) := by decide +kernel
theorem dX4_init_16 : decode cX4_init 16 = .ok (.bipush 6, 2) := by decide +kernel
theorem dX4_init_18 : decode cX4_init 18 = .ok (.newarray .int, 2) := by decide +kernel
theorem dX4_init_20 : decode cX4_init 20 = .ok (.putfield 18, 3) := by decide +kernel
theorem dX4_init_23 : decode cX4_init 23 = .ok (.aload_n 0, 1) := by decide +kernel
theorem dX4_init_24 : decode cX4_init 24 = .ok (.bipush 8, 2) := by decide +kernel
theorem dX4_init_26 : decode cX4_init 26 = .ok (.newarray .int, 2) := by decide +kernel
theorem dX4_init_28 : decode cX4_init 28 = .ok (.putfield 22, 3) := by decide +kernel
theorem dX4_init_31 : decode cX4_init 31 = .ok (.aload_n 0, 1) := by decide +kernel
theorem dX4_init_32 : decode cX4_init 32 = .ok (.bipush 8, 2) := by decide +kernel
theorem dX4_init_34 : decode cX4_init 34 = .ok (.newarray .int, 2) := by decide +kernel
theorem dX4_init_36 : decode cX4_init 36 = .ok (.putfield 25, 3) := by decide +kernel
theorem dX4_init_39 : decode cX4_init 39 = .ok (.aload_n 0, 1) := by decide +kernel
theorem dX4_init_40 : decode cX4_init 40 = .ok (.bipush 8, 2) := by decide +kernel
theorem dX4_init_42 : decode cX4_init 42 = .ok (.newarray .int, 2) := by decide +kernel
theorem dX4_init_44 : decode cX4_init 44 = .ok (.putfield 28, 3) := by decide +kernel
theorem dX4_init_47 : decode cX4_init 47 = .ok (.aload_n 0, 1) := by decide +kernel
theorem dX4_init_48 : decode cX4_init 48 = .ok (.bipush 8, 2) := by decide +kernel
theorem dX4_init_50 : decode cX4_init 50 = .ok (.newarray .int, 2) := by decide +kernel
theorem dX4_init_52 : decode cX4_init 52 = .ok (.putfield 31, 3) := by decide +kernel
theorem dX4_init_55 : decode cX4_init 55 = .ok (.aload_n 0, 1) := by decide +kernel
theorem dX4_init_56 : decode cX4_init 56 = .ok (.bipush 8, 2) := by decide +kernel
theorem dX4_init_58 : decode cX4_init 58 = .ok (.newarray .int, 2) := by decide +kernel
theorem dX4_init_60 : decode cX4_init 60 = .ok (.putfield 34, 3) := by decide +kernel
theorem dX4_init_63 : decode cX4_init 63 = .ok (.return_, 1) := by decide +kernel
theorem dX4_empty_0 : decode cX4_empty 0 = .ok (.aload_n 0, 1) := by decide +kernel
theorem dX4_empty_1 : decode cX4_empty 1 = .ok (.bipush 15, 2) := by decide +kernel
theorem dX4_empty_3 : decode cX4_empty 3 = .ok (.putfield 11, 3) := by decide +kernel
theorem dX4_empty_6 : decode cX4_empty 6 = .ok (.aload_n 0, 1) := by decide +kernel
theorem dX4_empty_7 : decode cX4_empty 7 = .ok (.iconst 3, 1) := by decide +kernel
theorem dX4_empty_8 : decode cX4_empty 8 = .ok (.putfield 15, 3) := by decide +kernel
theorem dX4_empty_11 : decode cX4_empty 11 = .ok (.aload_n 0, 1) := by decide +kernel
theorem dX4_empty_12 : decode cX4_empty 12 = .ok (.iconst 0, 1) := by decide +kernel
theorem dX4_empty_13 : decode cX4_empty 13 = .ok (.putfield 37, 3) := by decide +kernel
theorem dX4_empty_16 : decode cX4_empty 16 = .ok (.aload_n 0, 1) := by decide +kernel
theorem dX4_empty_17 : decode cX4_empty 17 = .ok (.iconst 0, 1) := by decide +kernel
theorem dX4_empty_18 : decode cX4_empty 18 = .ok (.putfield 40, 3) := by decide +kernel
theorem dX4_empty_21 : decode cX4_empty 21 = .ok (.return_, 1) := by decide +kernel
theorem dX4_hasOne_0 : decode cX4_hasOne 0 = .ok (.iload_n 1, 1) := by decide +kernel
theorem dX4_hasOne_1 : decode cX4_hasOne 1 = .ok (.ifCond .lt 15, 3) := by decide +kernel
theorem dX4_hasOne_4 : decode cX4_hasOne 4 = .ok (.iload_n 1, 1) := by decide +kernel
theorem dX4_hasOne_5 : decode cX4_hasOne 5 = .ok (.aload_n 0, 1) := by decide +kernel
theorem dX4_hasOne_6 : decode cX4_hasOne 6 = .ok (.getfield 37, 3) := by decide +kernel
theorem dX4_hasOne_9 : decode cX4_hasOne 9 = .ok (.if_icmp .ge 7, 3) := by decide +kernel
theorem dX4_hasOne_12 : decode cX4_hasOne 12 = .ok (.iconst 1, 1) := by decide +kernel
theorem dX4_hasOne_13 : decode cX4_hasOne 13 = .ok (.goto 4, 3) := by decide +kernel
theorem dX4_hasOne_16 : decode cX4_hasOne 16 = .ok (.iconst 0, 1) := by decide +kernel
theorem dX4_hasOne_17 : decode cX4_hasOne 17 = .ok (.ireturn, 1) := by decide +kernel
theorem dX4_hasDeed_0 : decode cX4_hasDeed 0 = .ok (.iload_n 1, 1) := by decide +kernel
theorem dX4_hasDeed_1 : decode cX4_hasDeed 1 = .ok (.ifCond .lt 15, 3) := by decide +kernel
theorem dX4_hasDeed_4 : decode cX4_hasDeed 4 = .ok (.iload_n 1, 1) := by decide +kernel
theorem dX4_hasDeed_5 : decode cX4_hasDeed 5 = .ok (.aload_n 0, 1) := by decide +kernel
theorem dX4_hasDeed_6 : decode cX4_hasDeed 6 = .ok (.getfield 40, 3) := by decide +kernel
theorem dX4_hasDeed_9 : decode cX4_hasDeed 9 = .ok (.if_icmp .ge 7, 3) := by decide +kernel
theorem dX4_hasDeed_12 : decode cX4_hasDeed 12 = .ok (.iconst 1, 1) := by decide +kernel
theorem dX4_hasDeed_13 : decode cX4_hasDeed 13 = .ok (.goto 4, 3) := by decide +kernel
theorem dX4_hasDeed_16 : decode cX4_hasDeed 16 = .ok (.iconst 0, 1) := by decide +kernel
theorem dX4_hasDeed_17 : decode cX4_hasDeed 17 = .ok (.ireturn, 1) := by decide +kernel
theorem dX4_copyFrom_0 : decode cX4_copyFrom 0 = .ok (.aload_n 0, 1) := by decide +kernel
theorem dX4_copyFrom_1 : decode cX4_copyFrom 1 = .ok (.aload_n 1, 1) := by decide +kernel
theorem dX4_copyFrom_2 : decode cX4_copyFrom 2 = .ok (.getfield 11, 3) := by decide +kernel
theorem dX4_copyFrom_5 : decode cX4_copyFrom 5 = .ok (.putfield 11, 3) := by decide +kernel
theorem dX4_copyFrom_8 : decode cX4_copyFrom 8 = .ok (.aload_n 0, 1) := by decide +kernel
theorem dX4_copyFrom_9 : decode cX4_copyFrom 9 = .ok (.aload_n 1, 1) := by decide +kernel
theorem dX4_copyFrom_10 : decode cX4_copyFrom 10 = .ok (.getfield 15, 3) := by decide +kernel
theorem dX4_copyFrom_13 : decode cX4_copyFrom 13 = .ok (.putfield 15, 3) := by decide +kernel
theorem dX4_copyFrom_16 : decode cX4_copyFrom 16 = .ok (.aload_n 0, 1) := by decide +kernel
theorem dX4_copyFrom_17 : decode cX4_copyFrom 17 = .ok (.aload_n 1, 1) := by decide +kernel
theorem dX4_copyFrom_18 : decode cX4_copyFrom 18 = .ok (.getfield 37, 3) := by decide +kernel
theorem dX4_copyFrom_21 : decode cX4_copyFrom 21 = .ok (.putfield 37, 3) := by decide +kernel
theorem dX4_copyFrom_24 : decode cX4_copyFrom 24 = .ok (.aload_n 0, 1) := by decide +kernel
theorem dX4_copyFrom_25 : decode cX4_copyFrom 25 = .ok (.aload_n 1, 1) := by decide +kernel
theorem dX4_copyFrom_26 : decode cX4_copyFrom 26 = .ok (.getfield 40, 3) := by decide +kernel
theorem dX4_copyFrom_29 : decode cX4_copyFrom 29 = .ok (.putfield 40, 3) := by decide +kernel
theorem dX4_copyFrom_32 : decode cX4_copyFrom 32 = .ok (.aload_n 1, 1) := by decide +kernel
theorem dX4_copyFrom_33 : decode cX4_copyFrom 33 = .ok (.getfield 18, 3) := by decide +kernel
theorem dX4_copyFrom_36 : decode cX4_copyFrom 36 = .ok (.iconst 0, 1) := by decide +kernel
theorem dX4_copyFrom_37 : decode cX4_copyFrom 37 = .ok (.aload_n 0, 1) := by decide +kernel
theorem dX4_copyFrom_38 : decode cX4_copyFrom 38 = .ok (.getfield 18, 3) := by decide +kernel
theorem dX4_copyFrom_41 : decode cX4_copyFrom 41 = .ok (.iconst 0, 1) := by decide +kernel
theorem dX4_copyFrom_42 : decode cX4_copyFrom 42 = .ok (.bipush 6, 2) := by decide +kernel
theorem dX4_copyFrom_44 : decode cX4_copyFrom 44 = .ok (.invokestatic 43, 3) := by decide +kernel
theorem dX4_copyFrom_47 : decode cX4_copyFrom 47 = .ok (.aload_n 1, 1) := by decide +kernel
theorem dX4_copyFrom_48 : decode cX4_copyFrom 48 = .ok (.getfield 22, 3) := by decide +kernel
theorem dX4_copyFrom_51 : decode cX4_copyFrom 51 = .ok (.iconst 0, 1) := by decide +kernel
theorem dX4_copyFrom_52 : decode cX4_copyFrom 52 = .ok (.aload_n 0, 1) := by decide +kernel
theorem dX4_copyFrom_53 : decode cX4_copyFrom 53 = .ok (.getfield 22, 3) := by decide +kernel
theorem dX4_copyFrom_56 : decode cX4_copyFrom 56 = .ok (.iconst 0, 1) := by decide +kernel
theorem dX4_copyFrom_57 : decode cX4_copyFrom 57 = .ok (.bipush 8, 2) := by decide +kernel
theorem dX4_copyFrom_59 : decode cX4_copyFrom 59 = .ok (.invokestatic 43, 3) := by decide +kernel
theorem dX4_copyFrom_62 : decode cX4_copyFrom 62 = .ok (.aload_n 1, 1) := by decide +kernel
theorem dX4_copyFrom_63 : decode cX4_copyFrom 63 = .ok (.getfield 25, 3) := by decide +kernel
theorem dX4_copyFrom_66 : decode cX4_copyFrom 66 = .ok (.iconst 0, 1) := by decide +kernel
theorem dX4_copyFrom_67 : decode cX4_copyFrom 67 = .ok (.aload_n 0, 1) := by decide +kernel
theorem dX4_copyFrom_68 : decode cX4_copyFrom 68 = .ok (.getfield 25, 3) := by decide +kernel
theorem dX4_copyFrom_71 : decode cX4_copyFrom 71 = .ok (.iconst 0, 1) := by decide +kernel
theorem dX4_copyFrom_72 : decode cX4_copyFrom 72 = .ok (.bipush 8, 2) := by decide +kernel
theorem dX4_copyFrom_74 : decode cX4_copyFrom 74 = .ok (.invokestatic 43, 3) := by decide +kernel
theorem dX4_copyFrom_77 : decode cX4_copyFrom 77 = .ok (.aload_n 1, 1) := by decide +kernel
theorem dX4_copyFrom_78 : decode cX4_copyFrom 78 = .ok (.getfield 28, 3) := by decide +kernel
theorem dX4_copyFrom_81 : decode cX4_copyFrom 81 = .ok (.iconst 0, 1) := by decide +kernel
theorem dX4_copyFrom_82 : decode cX4_copyFrom 82 = .ok (.aload_n 0, 1) := by decide +kernel
theorem dX4_copyFrom_83 : decode cX4_copyFrom 83 = .ok (.getfield 28, 3) := by decide +kernel
theorem dX4_copyFrom_86 : decode cX4_copyFrom 86 = .ok (.iconst 0, 1) := by decide +kernel
theorem dX4_copyFrom_87 : decode cX4_copyFrom 87 = .ok (.bipush 8, 2) := by decide +kernel
theorem dX4_copyFrom_89 : decode cX4_copyFrom 89 = .ok (.invokestatic 43, 3) := by decide +kernel
theorem dX4_copyFrom_92 : decode cX4_copyFrom 92 = .ok (.aload_n 1, 1) := by decide +kernel
theorem dX4_copyFrom_93 : decode cX4_copyFrom 93 = .ok (.getfield 31, 3) := by decide +kernel
theorem dX4_copyFrom_96 : decode cX4_copyFrom 96 = .ok (.iconst 0, 1) := by decide +kernel
theorem dX4_copyFrom_97 : decode cX4_copyFrom 97 = .ok (.aload_n 0, 1) := by decide +kernel
theorem dX4_copyFrom_98 : decode cX4_copyFrom 98 = .ok (.getfield 31, 3) := by decide +kernel
theorem dX4_copyFrom_101 : decode cX4_copyFrom 101 = .ok (.iconst 0, 1) := by decide +kernel
theorem dX4_copyFrom_102 : decode cX4_copyFrom 102 = .ok (.bipush 8, 2) := by decide +kernel
theorem dX4_copyFrom_104 : decode cX4_copyFrom 104 = .ok (.invokestatic 43, 3) := by decide +kernel
theorem dX4_copyFrom_107 : decode cX4_copyFrom 107 = .ok (.aload_n 1, 1) := by decide +kernel
theorem dX4_copyFrom_108 : decode cX4_copyFrom 108 = .ok (.getfield 34, 3) := by decide +kernel
theorem dX4_copyFrom_111 : decode cX4_copyFrom 111 = .ok (.iconst 0, 1) := by decide +kernel
theorem dX4_copyFrom_112 : decode cX4_copyFrom 112 = .ok (.aload_n 0, 1) := by decide +kernel
theorem dX4_copyFrom_113 : decode cX4_copyFrom 113 = .ok (.getfield 34, 3) := by decide +kernel
theorem dX4_copyFrom_116 : decode cX4_copyFrom 116 = .ok (.iconst 0, 1) := by decide +kernel
theorem dX4_copyFrom_117 : decode cX4_copyFrom 117 = .ok (.bipush 8, 2) := by decide +kernel
theorem dX4_copyFrom_119 : decode cX4_copyFrom 119 = .ok (.invokestatic 43, 3) := by decide +kernel
theorem dX4_copyFrom_122 : decode cX4_copyFrom 122 = .ok (.return_, 1) := by decide +kernel
theorem dX5_init_0 : decode cX5_init 0 = .ok (.aload_n 0, 1) := by decide +kernel
theorem dX5_init_1 : decode cX5_init 1 = .ok (.invokespecial 3, 3) := by decide +kernel
theorem dX5_init_4 : decode cX5_init 4 = .ok (.return_, 1) := by decide +kernel
set_option maxRecDepth 20000 in
theorem ggX5_read_X8_goToStart : GoodIn wsX5_read wsX8_goToStart := goodIn_r _ [9, 10, 83, 84, 85, 86, 87, 88] (by decide +kernel) (by decide +kernel)
set_option maxRecDepth 20000 in
theorem gX5_read_X8_goToStart : GoodIn wsX5_read (wsV RX5 9 RX8 yX8_goToStart wsX8_goToStart) := goodIn_app (goodIn_of _ (by decide +kernel)) ggX5_read_X8_goToStart
set_option maxRecDepth 20000 in
theorem ggX5_read_X4_empty : GoodIn wsX5_read wsX4_empty := goodIn_r _ [15, 16, 17, 18, 19, 89, 90, 91, 92, 93, 94, 95, 96, 97, 98] (by decide +kernel) (by decide +kernel)
set_option maxRecDepth 20000 in
theorem gX5_read_X4_empty : GoodIn wsX5_read (wsV RX5 14 RX4 yX4_empty wsX4_empty) := goodIn_app (goodIn_of _ (by decide +kernel)) ggX5_read_X4_empty
set_option maxRecDepth 20000 in
theorem ggX5_read_X8_readToken : GoodIn wsX5_read wsX8_readToken := goodIn_r _ [23, 10, 24, 25, 26, 27, 28, 29, 30, 8, 31, 32, 33, 34, 35, 36, 37, 38, 39, 40, 41, 42, 83, 84, 85, 86, 87, 88] (by decide +kernel) (by decide +kernel)
set_option maxRecDepth 20000 in
theorem gX5_read_X8_readToken : GoodIn wsX5_read (wsV RX5 28 RX8 yX8_readToken wsX8_readToken) := goodIn_app (goodIn_of _ (by decide +kernel)) ggX5_read_X8_readToken
set_option maxRecDepth 20000 in
theorem ggX5_read_X5_readItem : GoodIn wsX5_read wsX5_readItem := goodIn_r _ [47, 3, 48, 49, 50, 51, 46, 52, 53, 54, 55, 56, 57, 20, 21, 22, 8, 23, 10, 24, 25, 26, 27, 28, 29, 30, 31, 32, 33, 34, 35, 36, 37, 38, 39, 40, 41, 42, 58, 59, 60, 61, 62, 63, 64, 65, 66, 67, 68, 69, 70, 71, 72, 73, 74, 1, 75, 76, 77, 78, 79, 2, 80, 83, 84, 85, 86, 87, 88, 89, 90, 91, 92, 93, 94, 95, 96, 97, 98, 81, 82] (by decide +kernel) (by decide +kernel)
set_option maxRecDepth 20000 in
theorem gX5_read_X5_readItem : GoodIn wsX5_read (wsV RX5 35 RX5 yX5_readItem wsX5_readItem) := goodIn_app (goodIn_of _ (by decide +kernel)) ggX5_read_X5_readItem
theorem dX5_read_0 : decode cX5_read 0 = .ok (.aload_n 1, 1) := by decide +kernel
theorem dX5_read_1 : decode cX5_read 1 = .ok (.invokevirtual 9, 3) := by decide +kernel
theorem dX5_read_4 : decode cX5_read 4 = .ok (.aload_n 2, 1) := by decide +kernel
theorem dX5_read_5 : decode cX5_read 5 = .ok (.invokevirtual 14, 3) := by decide +kernel
theorem dX5_read_8 : decode cX5_read 8 = .ok (.aload_n 0, 1) := by decide +kernel
theorem dX5_read_9 : decode cX5_read 9 = .ok (.iconst 0, 1) := by decide +kernel
theorem dX5_read_10 : decode cX5_read 10 = .ok (.putfield 19, 3) := by decide +kernel
theorem dX5_read_13 : decode cX5_read 13 = .ok (.aload_n 0, 1) := by decide +kernel
theorem dX5_read_14 : decode cX5_read 14 = .ok (.iconst 0, 1) := by decide +kernel
theorem dX5_read_15 : decode cX5_read 15 = .ok (.putfield 25, 3) := by decide +kernel
theorem dX5_read_18 : decode cX5_read 18 = .ok (.iconst 0, 1) := by decide +kernel
theorem dX5_read_19 : decode cX5_read 19 = .ok (.istore_n 3, 1) := by decide +kernel
theorem dX5_read_20 : decode cX5_read 20 = .ok (.iconst 0, 1) := by decide +kernel
theorem dX5_read_21 : decode cX5_read 21 = .ok (.istore 4, 2) := by decide +kernel
theorem dX5_read_23 : decode cX5_read 23 = .ok (.iload 4, 2) := by decide +kernel
theorem dX5_read_25 : decode cX5_read 25 = .ok (.sipush 180, 3) := by decide +kernel
theorem dX5_read_28 : decode cX5_read 28 = .ok (.if_icmp .gt 43, 3) := by decide +kernel
theorem dX5_read_31 : decode cX5_read 31 = .ok (.aload_n 1, 1) := by decide +kernel
theorem dX5_read_32 : decode cX5_read 32 = .ok (.invokevirtual 28, 3) := by decide +kernel
theorem dX5_read_35 : decode cX5_read 35 = .ok (.aload_n 1, 1) := by decide +kernel
theorem dX5_read_36 : decode cX5_read 36 = .ok (.getfield 31, 3) := by decide +kernel
theorem dX5_read_39 : decode cX5_read 39 = .ok (.ifCond .ne 6, 3) := by decide +kernel
theorem dX5_read_42 : decode cX5_read 42 = .ok (.goto 29, 3) := by decide +kernel
theorem dX5_read_45 : decode cX5_read 45 = .ok (.aload_n 0, 1) := by decide +kernel
theorem dX5_read_46 : decode cX5_read 46 = .ok (.aload_n 1, 1) := by decide +kernel
theorem dX5_read_47 : decode cX5_read 47 = .ok (.aload_n 2, 1) := by decide +kernel
theorem dX5_read_48 : decode cX5_read 48 = .ok (.invokevirtual 35, 3) := by decide +kernel
theorem dX5_read_51 : decode cX5_read 51 = .ok (.ifCond .ne 11, 3) := by decide +kernel
theorem dX5_read_54 : decode cX5_read 54 = .ok (.bipush (-10), 2) := by decide +kernel
theorem dX5_read_56 : decode cX5_read 56 = .ok (.aload_n 1, 1) := by decide +kernel
theorem dX5_read_57 : decode cX5_read 57 = .ok (.getfield 39, 3) := by decide +kernel
theorem dX5_read_60 : decode cX5_read 60 = .ok (.isub, 1) := by decide +kernel
theorem dX5_read_61 : decode cX5_read 61 = .ok (.ireturn, 1) := by decide +kernel
theorem dX5_read_62 : decode cX5_read 62 = .ok (.iinc 3 1, 3) := by decide +kernel
theorem dX5_read_65 : decode cX5_read 65 = .ok (.iinc 4 1, 3) := by decide +kernel
theorem dX5_read_68 : decode cX5_read 68 = .ok (.goto (-45), 3) := by decide +kernel
theorem dX5_read_71 : decode cX5_read 71 = .ok (.iload_n 3, 1) := by decide +kernel
theorem dX5_read_72 : decode cX5_read 72 = .ok (.ireturn, 1) := by decide +kernel
set_option maxRecDepth 20000 in
theorem ggX5_readItem_X5_readOne : GoodIn wsX5_readItem wsX5_readOne := goodIn_r _ [7, 8, 9, 2, 10, 11, 6, 12, 1, 13, 14, 15, 16, 17, 18, 19, 20, 21, 22, 23, 24, 25, 26, 27, 28, 29, 30, 31, 32, 33, 34, 35, 36, 37, 38, 39, 40, 69, 70, 71, 72, 73, 74, 75, 76, 77, 78, 63, 64, 65, 66, 67, 68] (by decide +kernel) (by decide +kernel)
set_option maxRecDepth 20000 in
theorem gX5_readItem_X5_readOne : GoodIn wsX5_readItem (wsV RX5 45 RX5 yX5_readOne wsX5_readOne) := goodIn_app (goodIn_of _ (by decide +kernel)) ggX5_readItem_X5_readOne
set_option maxRecDepth 20000 in
theorem ggX5_readItem_X5_readDeed : GoodIn wsX5_readItem wsX5_readDeed := goodIn_r _ [44, 45, 8, 46, 2, 47, 48, 49, 50, 10, 11, 6, 12, 1, 13, 14, 15, 16, 17, 18, 19, 20, 21, 22, 23, 24, 25, 26, 27, 28, 29, 30, 31, 32, 33, 34, 35, 36, 37, 38, 39, 40, 69, 70, 71, 72, 73, 74, 75, 76, 77, 78, 63, 64, 65, 66, 67, 68] (by decide +kernel) (by decide +kernel)
set_option maxRecDepth 20000 in
theorem gX5_readItem_X5_readDeed : GoodIn wsX5_readItem (wsV RX5 48 RX5 yX5_readDeed wsX5_readDeed) := goodIn_app (goodIn_of _ (by decide +kernel)) ggX5_readItem_X5_readDeed
set_option maxRecDepth 20000 in
theorem ggX5_readItem_X5_readOffice : GoodIn wsX5_readItem wsX5_readOffice := goodIn_r _ [54, 55, 2, 56, 10, 11, 6, 12, 1, 13, 14, 15, 16, 17, 18, 19, 20, 21, 22, 23, 24, 25, 26, 27, 28, 29, 30, 31, 32, 33, 34, 35, 36, 37, 38, 39, 40, 79, 80, 63, 64, 65, 66, 67, 68, 69, 70, 71, 72, 73, 74, 75, 76, 77, 78] (by decide +kernel) (by decide +kernel)
set_option maxRecDepth 20000 in
theorem gX5_readItem_X5_readOffice : GoodIn wsX5_readItem (wsV RX5 51 RX5 yX5_readOffice wsX5_readOffice) := goodIn_app (goodIn_of _ (by decide +kernel)) ggX5_readItem_X5_readOffice
set_option maxRecDepth 20000 in
theorem ggX5_readItem_X5_readFree : GoodIn wsX5_readItem wsX5_readFree := goodIn_r _ [60, 61, 2, 62, 10, 11, 6, 12, 1, 13, 14, 15, 16, 17, 18, 19, 20, 21, 22, 23, 24, 25, 26, 27, 28, 29, 30, 31, 32, 33, 34, 35, 36, 37, 38, 39, 40, 79, 80, 63, 64, 65, 66, 67, 68, 69, 70, 71, 72, 73, 74, 75, 76, 77, 78] (by decide +kernel) (by decide +kernel)
set_option maxRecDepth 20000 in
theorem gX5_readItem_X5_readFree : GoodIn wsX5_readItem (wsV RX5 54 RX5 yX5_readFree wsX5_readFree) := goodIn_app (goodIn_of _ (by decide +kernel)) ggX5_readItem_X5_readFree
theorem dX5_readItem_0 : decode cX5_readItem 0 = .ok (.aload_n 1, 1) := by decide +kernel
theorem dX5_readItem_1 : decode cX5_readItem 1 = .ok (.getfield 31, 3) := by decide +kernel
theorem dX5_readItem_4 : decode cX5_readItem 4 = .ok (.iconst 1, 1) := by decide +kernel
theorem dX5_readItem_5 : decode cX5_readItem 5 = .ok (.if_icmp .eq 5, 3) := by decide +kernel
theorem dX5_readItem_8 : decode cX5_readItem 8 = .ok (.iconst 0, 1) := by decide +kernel
theorem dX5_readItem_9 : decode cX5_readItem 9 = .ok (.ireturn, 1) := by decide +kernel
theorem dX5_readItem_10 : decode cX5_readItem 10 = .ok (.aload_n 1, 1) := by decide +kernel
theorem dX5_readItem_11 : decode cX5_readItem 11 = .ok (.getfield 42, 3) := by decide +kernel
theorem dX5_readItem_14 : decode cX5_readItem 14 = .ok (.lookupswitch 70 #[(100, 49), (102, 63), (111, 56), (112, 42)], 42) := by decide +kernel
theorem dX5_readItem_56 : decode cX5_readItem 56 = .ok (.aload_n 0, 1) := by decide +kernel
theorem dX5_readItem_57 : decode cX5_readItem 57 = .ok (.aload_n 1, 1) := by decide +kernel
theorem dX5_readItem_58 : decode cX5_readItem 58 = .ok (.aload_n 2, 1) := by decide +kernel
theorem dX5_readItem_59 : decode cX5_readItem 59 = .ok (.invokevirtual 45, 3) := by decide +kernel
theorem dX5_readItem_62 : decode cX5_readItem 62 = .ok (.ireturn, 1) := by decide +kernel
theorem dX5_readItem_63 : decode cX5_readItem 63 = .ok (.aload_n 0, 1) := by decide +kernel
theorem dX5_readItem_64 : decode cX5_readItem 64 = .ok (.aload_n 1, 1) := by decide +kernel
theorem dX5_readItem_65 : decode cX5_readItem 65 = .ok (.aload_n 2, 1) := by decide +kernel
theorem dX5_readItem_66 : decode cX5_readItem 66 = .ok (.invokevirtual 48, 3) := by decide +kernel
theorem dX5_readItem_69 : decode cX5_readItem 69 = .ok (.ireturn, 1) := by decide +kernel
theorem dX5_readItem_70 : decode cX5_readItem 70 = .ok (.aload_n 0, 1) := by decide +kernel
theorem dX5_readItem_71 : decode cX5_readItem 71 = .ok (.aload_n 1, 1) := by decide +kernel
theorem dX5_readItem_72 : decode cX5_readItem 72 = .ok (.aload_n 2, 1) := by decide +kernel
theorem dX5_readItem_73 : decode cX5_readItem 73 = .ok (.invokevirtual 51, 3) := by decide +kernel
theorem dX5_readItem_76 : decode cX5_readItem 76 = .ok (.ireturn, 1) := by decide +kernel
theorem dX5_readItem_77 : decode cX5_readItem 77 = .ok (.aload_n 0, 1) := by decide +kernel
theorem dX5_readItem_78 : decode cX5_readItem 78 = .ok (.aload_n 1, 1) := by decide +kernel
theorem dX5_readItem_79 : decode cX5_readItem 79 = .ok (.aload_n 2, 1) := by decide +kernel
theorem dX5_readItem_80 : decode cX5_readItem 80 = .ok (.invokevirtual 54, 3) := by decide +kernel
theorem dX5_readItem_83 : decode cX5_readItem 83 = .ok (.ireturn, 1) := by decide +kernel
theorem dX5_readItem_84 : decode cX5_readItem 84 = .ok (.iconst 0, 1) := by decide +kernel
theorem dX5_readItem_85 : decode cX5_readItem 85 = .ok (.ireturn, 1) := by decide +kernel
set_option maxRecDepth 20000 in
theorem ggX5_readOne_X5_readNumber : GoodIn wsX5_readOne wsX5_readNumber := goodIn_r _ [7, 8, 3, 9, 10, 11, 12, 13, 14, 15, 16, 17, 18, 19, 20, 21, 22, 23, 24, 25, 26, 27, 28, 29, 30, 31, 32, 33, 47, 48, 49, 50, 51, 52] (by decide +kernel) (by decide +kernel)
set_option maxRecDepth 20000 in
theorem gX5_readOne_X5_readNumber : GoodIn wsX5_readOne (va_wsS RX5 60 yX5_readNumber wsX5_readNumber) := goodIn_app (goodIn_of _ (by decide +kernel)) ggX5_readOne_X5_readNumber
set_option maxRecDepth 20000 in
theorem ggX5_readOne_X5_readStop : GoodIn wsX5_readOne wsX5_readStop := goodIn_r _ [36, 8, 9, 10, 11, 12, 13, 14, 15, 16, 17, 18, 19, 20, 21, 22, 23, 24, 25, 26, 27, 28, 29, 30, 31, 32, 33, 47, 48, 49, 50, 51, 52] (by decide +kernel) (by decide +kernel)
set_option maxRecDepth 20000 in
theorem gX5_readOne_X5_readStop : GoodIn wsX5_readOne (va_wsS RX5 68 yX5_readStop wsX5_readStop) := goodIn_app (goodIn_of _ (by decide +kernel)) ggX5_readOne_X5_readStop
theorem dX5_readOne_0 : decode cX5_readOne 0 = .ok (.aload_n 2, 1) := by decide +kernel
theorem dX5_readOne_1 : decode cX5_readOne 1 = .ok (.getfield 57, 3) := by decide +kernel
theorem dX5_readOne_4 : decode cX5_readOne 4 = .ok (.bipush 6, 2) := by decide +kernel
theorem dX5_readOne_6 : decode cX5_readOne 6 = .ok (.if_icmp .ge 13, 3) := by decide +kernel
theorem dX5_readOne_9 : decode cX5_readOne 9 = .ok (.aload_n 1, 1) := by decide +kernel
theorem dX5_readOne_10 : decode cX5_readOne 10 = .ok (.iconst 0, 1) := by decide +kernel
theorem dX5_readOne_11 : decode cX5_readOne 11 = .ok (.bipush 30, 2) := by decide +kernel
theorem dX5_readOne_13 : decode cX5_readOne 13 = .ok (.invokestatic 60, 3) := by decide +kernel
theorem dX5_readOne_16 : decode cX5_readOne 16 = .ok (.ifCond .ne 5, 3) := by decide +kernel
theorem dX5_readOne_19 : decode cX5_readOne 19 = .ok (.iconst 0, 1) := by decide +kernel
theorem dX5_readOne_20 : decode cX5_readOne 20 = .ok (.ireturn, 1) := by decide +kernel
theorem dX5_readOne_21 : decode cX5_readOne 21 = .ok (.aload_n 2, 1) := by decide +kernel
theorem dX5_readOne_22 : decode cX5_readOne 22 = .ok (.getfield 64, 3) := by decide +kernel
theorem dX5_readOne_25 : decode cX5_readOne 25 = .ok (.aload_n 2, 1) := by decide +kernel
theorem dX5_readOne_26 : decode cX5_readOne 26 = .ok (.getfield 57, 3) := by decide +kernel
theorem dX5_readOne_29 : decode cX5_readOne 29 = .ok (.aload_n 1, 1) := by decide +kernel
theorem dX5_readOne_30 : decode cX5_readOne 30 = .ok (.getfield 42, 3) := by decide +kernel
theorem dX5_readOne_33 : decode cX5_readOne 33 = .ok (.iastore, 1) := by decide +kernel
theorem dX5_readOne_34 : decode cX5_readOne 34 = .ok (.aload_n 2, 1) := by decide +kernel
theorem dX5_readOne_35 : decode cX5_readOne 35 = .ok (.dup, 1) := by decide +kernel
theorem dX5_readOne_36 : decode cX5_readOne 36 = .ok (.getfield 57, 3) := by decide +kernel
theorem dX5_readOne_39 : decode cX5_readOne 39 = .ok (.iconst 1, 1) := by decide +kernel
theorem dX5_readOne_40 : decode cX5_readOne 40 = .ok (.iadd, 1) := by decide +kernel
theorem dX5_readOne_41 : decode cX5_readOne 41 = .ok (.putfield 57, 3) := by decide +kernel
theorem dX5_readOne_44 : decode cX5_readOne 44 = .ok (.aload_n 1, 1) := by decide +kernel
theorem dX5_readOne_45 : decode cX5_readOne 45 = .ok (.invokestatic 68, 3) := by decide +kernel
theorem dX5_readOne_48 : decode cX5_readOne 48 = .ok (.ireturn, 1) := by decide +kernel
set_option maxRecDepth 20000 in
theorem ggX5_readDeed_X5_readNumber : GoodIn wsX5_readDeed wsX5_readNumber := goodIn_r _ [12, 13, 4, 14, 15, 16, 17, 18, 19, 20, 21, 22, 23, 24, 25, 26, 27, 28, 29, 30, 31, 32, 33, 34, 35, 36, 37, 38, 52, 53, 54, 55, 56, 57] (by decide +kernel) (by decide +kernel)
set_option maxRecDepth 20000 in
theorem gX5_readDeed_X5_readNumber : GoodIn wsX5_readDeed (va_wsS RX5 60 yX5_readNumber wsX5_readNumber) := goodIn_app (goodIn_of _ (by decide +kernel)) ggX5_readDeed_X5_readNumber
set_option maxRecDepth 20000 in
theorem ggX5_readDeed_X5_readStop : GoodIn wsX5_readDeed wsX5_readStop := goodIn_r _ [41, 13, 14, 15, 16, 17, 18, 19, 20, 21, 22, 23, 24, 25, 26, 27, 28, 29, 30, 31, 32, 33, 34, 35, 36, 37, 38, 52, 53, 54, 55, 56, 57] (by decide +kernel) (by decide +kernel)
set_option maxRecDepth 20000 in
theorem gX5_readDeed_X5_readStop : GoodIn wsX5_readDeed (va_wsS RX5 68 yX5_readStop wsX5_readStop) := goodIn_app (goodIn_of _ (by decide +kernel)) ggX5_readDeed_X5_readStop
theorem dX5_readDeed_0 : decode cX5_readDeed 0 = .ok (.aload_n 2, 1) := by decide +kernel
theorem dX5_readDeed_1 : decode cX5_readDeed 1 = .ok (.getfield 72, 3) := by decide +kernel
theorem dX5_readDeed_4 : decode cX5_readDeed 4 = .ok (.istore_n 3, 1) := by decide +kernel
theorem dX5_readDeed_5 : decode cX5_readDeed 5 = .ok (.iload_n 3, 1) := by decide +kernel
theorem dX5_readDeed_6 : decode cX5_readDeed 6 = .ok (.bipush 8, 2) := by decide +kernel
theorem dX5_readDeed_8 : decode cX5_readDeed 8 = .ok (.if_icmp .ge 17, 3) := by decide +kernel
theorem dX5_readDeed_11 : decode cX5_readDeed 11 = .ok (.aload_n 1, 1) := by decide +kernel
theorem dX5_readDeed_12 : decode cX5_readDeed 12 = .ok (.iconst 0, 1) := by decide +kernel
theorem dX5_readDeed_13 : decode cX5_readDeed 13 = .ok (.aload_n 2, 1) := by decide +kernel
theorem dX5_readDeed_14 : decode cX5_readDeed 14 = .ok (.getfield 57, 3) := by decide +kernel
theorem dX5_readDeed_17 : decode cX5_readDeed 17 = .ok (.iconst 1, 1) := by decide +kernel
theorem dX5_readDeed_18 : decode cX5_readDeed 18 = .ok (.isub, 1) := by decide +kernel
theorem dX5_readDeed_19 : decode cX5_readDeed 19 = .ok (.invokestatic 60, 3) := by decide +kernel
theorem dX5_readDeed_22 : decode cX5_readDeed 22 = .ok (.ifCond .ne 5, 3) := by decide +kernel
theorem dX5_readDeed_25 : decode cX5_readDeed 25 = .ok (.iconst 0, 1) := by decide +kernel
theorem dX5_readDeed_26 : decode cX5_readDeed 26 = .ok (.ireturn, 1) := by decide +kernel
theorem dX5_readDeed_27 : decode cX5_readDeed 27 = .ok (.aload_n 2, 1) := by decide +kernel
theorem dX5_readDeed_28 : decode cX5_readDeed 28 = .ok (.getfield 75, 3) := by decide +kernel
theorem dX5_readDeed_31 : decode cX5_readDeed 31 = .ok (.iload_n 3, 1) := by decide +kernel
theorem dX5_readDeed_32 : decode cX5_readDeed 32 = .ok (.aload_n 1, 1) := by decide +kernel
theorem dX5_readDeed_33 : decode cX5_readDeed 33 = .ok (.getfield 42, 3) := by decide +kernel
theorem dX5_readDeed_36 : decode cX5_readDeed 36 = .ok (.iastore, 1) := by decide +kernel
theorem dX5_readDeed_37 : decode cX5_readDeed 37 = .ok (.aload_n 1, 1) := by decide +kernel
theorem dX5_readDeed_38 : decode cX5_readDeed 38 = .ok (.iconst 0, 1) := by decide +kernel
theorem dX5_readDeed_39 : decode cX5_readDeed 39 = .ok (.bipush 30, 2) := by decide +kernel
theorem dX5_readDeed_41 : decode cX5_readDeed 41 = .ok (.invokestatic 60, 3) := by decide +kernel
theorem dX5_readDeed_44 : decode cX5_readDeed 44 = .ok (.ifCond .ne 5, 3) := by decide +kernel
theorem dX5_readDeed_47 : decode cX5_readDeed 47 = .ok (.iconst 0, 1) := by decide +kernel
theorem dX5_readDeed_48 : decode cX5_readDeed 48 = .ok (.ireturn, 1) := by decide +kernel
theorem dX5_readDeed_49 : decode cX5_readDeed 49 = .ok (.aload_n 2, 1) := by decide +kernel
theorem dX5_readDeed_50 : decode cX5_readDeed 50 = .ok (.getfield 78, 3) := by decide +kernel
theorem dX5_readDeed_53 : decode cX5_readDeed 53 = .ok (.iload_n 3, 1) := by decide +kernel
theorem dX5_readDeed_54 : decode cX5_readDeed 54 = .ok (.aload_n 1, 1) := by decide +kernel
theorem dX5_readDeed_55 : decode cX5_readDeed 55 = .ok (.getfield 42, 3) := by decide +kernel
theorem dX5_readDeed_58 : decode cX5_readDeed 58 = .ok (.iastore, 1) := by decide +kernel
theorem dX5_readDeed_59 : decode cX5_readDeed 59 = .ok (.aload_n 1, 1) := by decide +kernel
theorem dX5_readDeed_60 : decode cX5_readDeed 60 = .ok (.iconst 0, 1) := by decide +kernel
theorem dX5_readDeed_61 : decode cX5_readDeed 61 = .ok (.bipush 99, 2) := by decide +kernel
theorem dX5_readDeed_63 : decode cX5_readDeed 63 = .ok (.invokestatic 60, 3) := by decide +kernel
theorem dX5_readDeed_66 : decode cX5_readDeed 66 = .ok (.ifCond .ne 5, 3) := by decide +kernel
theorem dX5_readDeed_69 : decode cX5_readDeed 69 = .ok (.iconst 0, 1) := by decide +kernel
theorem dX5_readDeed_70 : decode cX5_readDeed 70 = .ok (.ireturn, 1) := by decide +kernel
theorem dX5_readDeed_71 : decode cX5_readDeed 71 = .ok (.aload_n 2, 1) := by decide +kernel
theorem dX5_readDeed_72 : decode cX5_readDeed 72 = .ok (.getfield 81, 3) := by decide +kernel
theorem dX5_readDeed_75 : decode cX5_readDeed 75 = .ok (.iload_n 3, 1) := by decide +kernel
theorem dX5_readDeed_76 : decode cX5_readDeed 76 = .ok (.aload_n 1, 1) := by decide +kernel
theorem dX5_readDeed_77 : decode cX5_readDeed 77 = .ok (.getfield 42, 3) := by decide +kernel
theorem dX5_readDeed_80 : decode cX5_readDeed 80 = .ok (.iastore, 1) := by decide +kernel
theorem dX5_readDeed_81 : decode cX5_readDeed 81 = .ok (.aload_n 1, 1) := by decide +kernel
theorem dX5_readDeed_82 : decode cX5_readDeed 82 = .ok (.aload_n 2, 1) := by decide +kernel
theorem dX5_readDeed_83 : decode cX5_readDeed 83 = .ok (.getfield 81, 3) := by decide +kernel
theorem dX5_readDeed_86 : decode cX5_readDeed 86 = .ok (.iload_n 3, 1) := by decide +kernel
theorem dX5_readDeed_87 : decode cX5_readDeed 87 = .ok (.iaload, 1) := by decide +kernel
theorem dX5_readDeed_88 : decode cX5_readDeed 88 = .ok (.bipush 99, 2) := by decide +kernel
theorem dX5_readDeed_90 : decode cX5_readDeed 90 = .ok (.invokestatic 60, 3) := by decide +kernel
theorem dX5_readDeed_93 : decode cX5_readDeed 93 = .ok (.ifCond .ne 5, 3) := by decide +kernel
theorem dX5_readDeed_96 : decode cX5_readDeed 96 = .ok (.iconst 0, 1) := by decide +kernel
theorem dX5_readDeed_97 : decode cX5_readDeed 97 = .ok (.ireturn, 1) := by decide +kernel
theorem dX5_readDeed_98 : decode cX5_readDeed 98 = .ok (.aload_n 2, 1) := by decide +kernel
theorem dX5_readDeed_99 : decode cX5_readDeed 99 = .ok (.getfield 84, 3) := by decide +kernel
theorem dX5_readDeed_102 : decode cX5_readDeed 102 = .ok (.iload_n 3, 1) := by decide +kernel
theorem dX5_readDeed_103 : decode cX5_readDeed 103 = .ok (.aload_n 1, 1) := by decide +kernel
theorem dX5_readDeed_104 : decode cX5_readDeed 104 = .ok (.getfield 42, 3) := by decide +kernel
theorem dX5_readDeed_107 : decode cX5_readDeed 107 = .ok (.iastore, 1) := by decide +kernel
theorem dX5_readDeed_108 : decode cX5_readDeed 108 = .ok (.aload_n 1, 1) := by decide +kernel
theorem dX5_readDeed_109 : decode cX5_readDeed 109 = .ok (.iconst 1, 1) := by decide +kernel
theorem dX5_readDeed_110 : decode cX5_readDeed 110 = .ok (.bipush 20, 2) := by decide +kernel
theorem dX5_readDeed_112 : decode cX5_readDeed 112 = .ok (.invokestatic 60, 3) := by decide +kernel
theorem dX5_readDeed_115 : decode cX5_readDeed 115 = .ok (.ifCond .ne 5, 3) := by decide +kernel
theorem dX5_readDeed_118 : decode cX5_readDeed 118 = .ok (.iconst 0, 1) := by decide +kernel
