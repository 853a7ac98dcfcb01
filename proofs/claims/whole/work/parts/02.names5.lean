theorem dX11_walks_13 : decode cX11_walks 13 = .ok (.invokevirtual 119, 3) := by decide +kernel
theorem dX11_walks_16 : decode cX11_walks 16 = .ok (.iload_n 1, 1) := by decide +kernel
theorem dX11_walks_17 : decode cX11_walks 17 = .ok (.invokestatic 129, 3) := by decide +kernel
theorem dX11_walks_20 : decode cX11_walks 20 = .ok (.istore_n 2, 1) := by decide +kernel
theorem dX11_walks_21 : decode cX11_walks 21 = .ok (.aload_n 0, 1) := by decide +kernel
theorem dX11_walks_22 : decode cX11_walks 22 = .ok (.invokevirtual 116, 3) := by decide +kernel
theorem dX11_walks_25 : decode cX11_walks 25 = .ok (.ifCond .eq 21, 3) := by decide +kernel
theorem dX11_walks_28 : decode cX11_walks 28 = .ok (.iload_n 2, 1) := by decide +kernel
theorem dX11_walks_29 : decode cX11_walks 29 = .ok (.ifCond .eq 17, 3) := by decide +kernel
theorem dX11_walks_32 : decode cX11_walks 32 = .ok (.aload_n 0, 1) := by decide +kernel
theorem dX11_walks_33 : decode cX11_walks 33 = .ok (.getfield 19, 3) := by decide +kernel
theorem dX11_walks_36 : decode cX11_walks 36 = .ok (.iconst 0, 1) := by decide +kernel
theorem dX11_walks_37 : decode cX11_walks 37 = .ok (.iaload, 1) := by decide +kernel
theorem dX11_walks_38 : decode cX11_walks 38 = .ok (.iload_n 2, 1) := by decide +kernel
theorem dX11_walks_39 : decode cX11_walks 39 = .ok (.iadd, 1) := by decide +kernel
theorem dX11_walks_40 : decode cX11_walks 40 = .ok (.sipush 200, 3) := by decide +kernel
theorem dX11_walks_43 : decode cX11_walks 43 = .ok (.if_icmp .le 6, 3) := by decide +kernel
theorem dX11_walks_46 : decode cX11_walks 46 = .ok (.bipush (-2), 2) := by decide +kernel
theorem dX11_walks_48 : decode cX11_walks 48 = .ok (.ireturn, 1) := by decide +kernel
theorem dX11_walks_49 : decode cX11_walks 49 = .ok (.aload_n 0, 1) := by decide +kernel
theorem dX11_walks_50 : decode cX11_walks 50 = .ok (.invokevirtual 123, 3) := by decide +kernel
theorem dX11_walks_53 : decode cX11_walks 53 = .ok (.aload_n 0, 1) := by decide +kernel
theorem dX11_walks_54 : decode cX11_walks 54 = .ok (.getfield 19, 3) := by decide +kernel
theorem dX11_walks_57 : decode cX11_walks 57 = .ok (.iconst 4, 1) := by decide +kernel
theorem dX11_walks_58 : decode cX11_walks 58 = .ok (.aload_n 0, 1) := by decide +kernel
theorem dX11_walks_59 : decode cX11_walks 59 = .ok (.getfield 19, 3) := by decide +kernel
theorem dX11_walks_62 : decode cX11_walks 62 = .ok (.iconst 1, 1) := by decide +kernel
theorem dX11_walks_63 : decode cX11_walks 63 = .ok (.iaload, 1) := by decide +kernel
theorem dX11_walks_64 : decode cX11_walks 64 = .ok (.iadd, 1) := by decide +kernel
theorem dX11_walks_65 : decode cX11_walks 65 = .ok (.iload_n 1, 1) := by decide +kernel
theorem dX11_walks_66 : decode cX11_walks 66 = .ok (.iastore, 1) := by decide +kernel
theorem dX11_walks_67 : decode cX11_walks 67 = .ok (.aload_n 0, 1) := by decide +kernel
theorem dX11_walks_68 : decode cX11_walks 68 = .ok (.getfield 19, 3) := by decide +kernel
theorem dX11_walks_71 : decode cX11_walks 71 = .ok (.iconst 0, 1) := by decide +kernel
theorem dX11_walks_72 : decode cX11_walks 72 = .ok (.dup2, 1) := by decide +kernel
theorem dX11_walks_73 : decode cX11_walks 73 = .ok (.iaload, 1) := by decide +kernel
theorem dX11_walks_74 : decode cX11_walks 74 = .ok (.iload_n 2, 1) := by decide +kernel
theorem dX11_walks_75 : decode cX11_walks 75 = .ok (.iadd, 1) := by decide +kernel
theorem dX11_walks_76 : decode cX11_walks 76 = .ok (.iastore, 1) := by decide +kernel
theorem dX11_walks_77 : decode cX11_walks 77 = .ok (.aload_n 0, 1) := by decide +kernel
theorem dX11_walks_78 : decode cX11_walks 78 = .ok (.getfield 19, 3) := by decide +kernel
theorem dX11_walks_81 : decode cX11_walks 81 = .ok (.iconst 0, 1) := by decide +kernel
theorem dX11_walks_82 : decode cX11_walks 82 = .ok (.iaload, 1) := by decide +kernel
theorem dX11_walks_83 : decode cX11_walks 83 = .ok (.ireturn, 1) := by decide +kernel
set_option maxRecDepth 20000 in
theorem ggX11_keeps_X11_in : GoodIn wsX11_keeps wsX11_in := goodIn_r _ [5] (by decide +kernel) (by decide +kernel)
set_option maxRecDepth 20000 in
theorem gX11_keeps_X11_in : GoodIn wsX11_keeps (va_wsS RX11 54 yX11_in wsX11_in) := goodIn_app (goodIn_of _ (by decide +kernel)) ggX11_keeps_X11_in
set_option maxRecDepth 20000 in
theorem ggX11_keeps_X11_isHeld : GoodIn wsX11_keeps wsX11_isHeld := goodIn_r _ [9, 1, 14, 15, 16, 17, 18, 19, 20, 21, 22, 23, 24, 25, 26, 27, 28, 29, 30, 31, 32, 33, 34, 35] (by decide +kernel) (by decide +kernel)
set_option maxRecDepth 20000 in
theorem gX11_keeps_X11_isHeld : GoodIn wsX11_keeps (wsV RX11 116 RX11 yX11_isHeld wsX11_isHeld) := goodIn_app (goodIn_of _ (by decide +kernel)) ggX11_keeps_X11_isHeld
set_option maxRecDepth 20000 in
theorem ggX11_keeps_X11_remembers : GoodIn wsX11_keeps wsX11_remembers := goodIn_r _ [13, 1, 14, 15, 16, 17, 18, 19, 20, 21, 22, 23, 24, 25, 26, 27, 28, 29, 30, 31, 32, 33, 34, 35] (by decide +kernel) (by decide +kernel)
set_option maxRecDepth 20000 in
theorem gX11_keeps_X11_remembers : GoodIn wsX11_keeps (wsV RX11 123 RX11 yX11_remembers wsX11_remembers) := goodIn_app (goodIn_of _ (by decide +kernel)) ggX11_keeps_X11_remembers
theorem dX11_keeps_0 : decode cX11_keeps 0 = .ok (.iload_n 1, 1) := by decide +kernel
theorem dX11_keeps_1 : decode cX11_keeps 1 = .ok (.iconst 1, 1) := by decide +kernel
theorem dX11_keeps_2 : decode cX11_keeps 2 = .ok (.bipush 20, 2) := by decide +kernel
theorem dX11_keeps_4 : decode cX11_keeps 4 = .ok (.invokestatic 54, 3) := by decide +kernel
theorem dX11_keeps_7 : decode cX11_keeps 7 = .ok (.ifCond .ne 5, 3) := by decide +kernel
theorem dX11_keeps_10 : decode cX11_keeps 10 = .ok (.iconst (-1), 1) := by decide +kernel
theorem dX11_keeps_11 : decode cX11_keeps 11 = .ok (.ireturn, 1) := by decide +kernel
theorem dX11_keeps_12 : decode cX11_keeps 12 = .ok (.aload_n 0, 1) := by decide +kernel
theorem dX11_keeps_13 : decode cX11_keeps 13 = .ok (.invokevirtual 116, 3) := by decide +kernel
theorem dX11_keeps_16 : decode cX11_keeps 16 = .ok (.ifCond .eq 17, 3) := by decide +kernel
theorem dX11_keeps_19 : decode cX11_keeps 19 = .ok (.aload_n 0, 1) := by decide +kernel
theorem dX11_keeps_20 : decode cX11_keeps 20 = .ok (.getfield 19, 3) := by decide +kernel
theorem dX11_keeps_23 : decode cX11_keeps 23 = .ok (.iconst 0, 1) := by decide +kernel
theorem dX11_keeps_24 : decode cX11_keeps 24 = .ok (.iaload, 1) := by decide +kernel
theorem dX11_keeps_25 : decode cX11_keeps 25 = .ok (.iload_n 1, 1) := by decide +kernel
theorem dX11_keeps_26 : decode cX11_keeps 26 = .ok (.iadd, 1) := by decide +kernel
theorem dX11_keeps_27 : decode cX11_keeps 27 = .ok (.sipush 200, 3) := by decide +kernel
theorem dX11_keeps_30 : decode cX11_keeps 30 = .ok (.if_icmp .le 6, 3) := by decide +kernel
theorem dX11_keeps_33 : decode cX11_keeps 33 = .ok (.bipush (-2), 2) := by decide +kernel
theorem dX11_keeps_35 : decode cX11_keeps 35 = .ok (.ireturn, 1) := by decide +kernel
theorem dX11_keeps_36 : decode cX11_keeps 36 = .ok (.aload_n 0, 1) := by decide +kernel
theorem dX11_keeps_37 : decode cX11_keeps 37 = .ok (.invokevirtual 123, 3) := by decide +kernel
theorem dX11_keeps_40 : decode cX11_keeps 40 = .ok (.aload_n 0, 1) := by decide +kernel
theorem dX11_keeps_41 : decode cX11_keeps 41 = .ok (.getfield 19, 3) := by decide +kernel
theorem dX11_keeps_44 : decode cX11_keeps 44 = .ok (.iconst 0, 1) := by decide +kernel
theorem dX11_keeps_45 : decode cX11_keeps 45 = .ok (.dup2, 1) := by decide +kernel
theorem dX11_keeps_46 : decode cX11_keeps 46 = .ok (.iaload, 1) := by decide +kernel
theorem dX11_keeps_47 : decode cX11_keeps 47 = .ok (.iload_n 1, 1) := by decide +kernel
theorem dX11_keeps_48 : decode cX11_keeps 48 = .ok (.iadd, 1) := by decide +kernel
theorem dX11_keeps_49 : decode cX11_keeps 49 = .ok (.iastore, 1) := by decide +kernel
theorem dX11_keeps_50 : decode cX11_keeps 50 = .ok (.aload_n 0, 1) := by decide +kernel
theorem dX11_keeps_51 : decode cX11_keeps 51 = .ok (.getfield 19, 3) := by decide +kernel
theorem dX11_keeps_54 : decode cX11_keeps 54 = .ok (.iconst 0, 1) := by decide +kernel
theorem dX11_keeps_55 : decode cX11_keeps 55 = .ok (.iaload, 1) := by decide +kernel
theorem dX11_keeps_56 : decode cX11_keeps 56 = .ok (.ireturn, 1) := by decide +kernel
set_option maxRecDepth 20000 in
theorem ggX11_worthDone_X11_isDone : GoodIn wsX11_worthDone wsX11_isDone := goodIn_r _ [6, 7, 8, 9, 5, 10, 11, 12, 13, 14, 15, 16, 17, 18, 19, 20, 21, 22, 23, 24, 25, 26, 27, 28, 29, 30, 31, 32] (by decide +kernel) (by decide +kernel)
set_option maxRecDepth 20000 in
theorem gX11_worthDone_X11_isDone : GoodIn wsX11_worthDone (wsV RX11 113 RX11 yX11_isDone wsX11_isDone) := goodIn_app (goodIn_of _ (by decide +kernel)) ggX11_worthDone_X11_isDone
theorem dX11_worthDone_0 : decode cX11_worthDone 0 = .ok (.iconst 0, 1) := by decide +kernel
theorem dX11_worthDone_1 : decode cX11_worthDone 1 = .ok (.istore_n 1, 1) := by decide +kernel
theorem dX11_worthDone_2 : decode cX11_worthDone 2 = .ok (.iconst 0, 1) := by decide +kernel
theorem dX11_worthDone_3 : decode cX11_worthDone 3 = .ok (.istore_n 2, 1) := by decide +kernel
theorem dX11_worthDone_4 : decode cX11_worthDone 4 = .ok (.iload_n 2, 1) := by decide +kernel
theorem dX11_worthDone_5 : decode cX11_worthDone 5 = .ok (.aload_n 0, 1) := by decide +kernel
theorem dX11_worthDone_6 : decode cX11_worthDone 6 = .ok (.getfield 13, 3) := by decide +kernel
theorem dX11_worthDone_9 : decode cX11_worthDone 9 = .ok (.iconst 1, 1) := by decide +kernel
theorem dX11_worthDone_10 : decode cX11_worthDone 10 = .ok (.iaload, 1) := by decide +kernel
theorem dX11_worthDone_11 : decode cX11_worthDone 11 = .ok (.if_icmp .ge 33, 3) := by decide +kernel
theorem dX11_worthDone_14 : decode cX11_worthDone 14 = .ok (.iload_n 1, 1) := by decide +kernel
theorem dX11_worthDone_15 : decode cX11_worthDone 15 = .ok (.aload_n 0, 1) := by decide +kernel
theorem dX11_worthDone_16 : decode cX11_worthDone 16 = .ok (.iload_n 2, 1) := by decide +kernel
theorem dX11_worthDone_17 : decode cX11_worthDone 17 = .ok (.invokevirtual 113, 3) := by decide +kernel
theorem dX11_worthDone_20 : decode cX11_worthDone 20 = .ok (.ifCond .eq 15, 3) := by decide +kernel
theorem dX11_worthDone_23 : decode cX11_worthDone 23 = .ok (.aload_n 0, 1) := by decide +kernel
theorem dX11_worthDone_24 : decode cX11_worthDone 24 = .ok (.getfield 13, 3) := by decide +kernel
theorem dX11_worthDone_27 : decode cX11_worthDone 27 = .ok (.bipush 44, 2) := by decide +kernel
theorem dX11_worthDone_29 : decode cX11_worthDone 29 = .ok (.iload_n 2, 1) := by decide +kernel
theorem dX11_worthDone_30 : decode cX11_worthDone 30 = .ok (.iadd, 1) := by decide +kernel
theorem dX11_worthDone_31 : decode cX11_worthDone 31 = .ok (.iaload, 1) := by decide +kernel
theorem dX11_worthDone_32 : decode cX11_worthDone 32 = .ok (.goto 4, 3) := by decide +kernel
theorem dX11_worthDone_35 : decode cX11_worthDone 35 = .ok (.iconst 0, 1) := by decide +kernel
theorem dX11_worthDone_36 : decode cX11_worthDone 36 = .ok (.iadd, 1) := by decide +kernel
theorem dX11_worthDone_37 : decode cX11_worthDone 37 = .ok (.istore_n 1, 1) := by decide +kernel
theorem dX11_worthDone_38 : decode cX11_worthDone 38 = .ok (.iinc 2 1, 3) := by decide +kernel
theorem dX11_worthDone_41 : decode cX11_worthDone 41 = .ok (.goto (-37), 3) := by decide +kernel
theorem dX11_worthDone_44 : decode cX11_worthDone 44 = .ok (.iload_n 1, 1) := by decide +kernel
theorem dX11_worthDone_45 : decode cX11_worthDone 45 = .ok (.ireturn, 1) := by decide +kernel
set_option maxRecDepth 20000 in
theorem ggX11_does_X11_isDeed : GoodIn wsX11_does wsX11_isDeed := goodIn_r _ [7, 2, 8, 9, 6, 10, 34, 35, 36, 37, 38, 39, 40, 41, 42, 43, 44, 45, 46, 47, 48, 49, 50, 51, 52, 53, 54, 55] (by decide +kernel) (by decide +kernel)
set_option maxRecDepth 20000 in
theorem gX11_does_X11_isDeed : GoodIn wsX11_does (wsV RX11 110 RX11 yX11_isDeed wsX11_isDeed) := goodIn_app (goodIn_of _ (by decide +kernel)) ggX11_does_X11_isDeed
set_option maxRecDepth 20000 in
theorem ggX11_does_X11_isHeld : GoodIn wsX11_does wsX11_isHeld := goodIn_r _ [14, 1, 34, 35, 36, 37, 38, 39, 40, 41, 42, 43, 44, 45, 46, 47, 48, 49, 50, 51, 52, 53, 54, 55] (by decide +kernel) (by decide +kernel)
set_option maxRecDepth 20000 in
theorem gX11_does_X11_isHeld : GoodIn wsX11_does (wsV RX11 116 RX11 yX11_isHeld wsX11_isHeld) := goodIn_app (goodIn_of _ (by decide +kernel)) ggX11_does_X11_isHeld
set_option maxRecDepth 20000 in
theorem ggX11_does_X11_spoonAt : GoodIn wsX11_does wsX11_spoonAt := goodIn_r _ [18, 1, 2, 11, 12, 13, 6, 14, 34, 35, 36, 37, 38, 39, 40, 41, 42, 43, 44, 45, 46, 47, 48, 49, 50, 51, 52, 53, 54, 55] (by decide +kernel) (by decide +kernel)
set_option maxRecDepth 20000 in
theorem gX11_does_X11_spoonAt : GoodIn wsX11_does (wsV RX11 119 RX11 yX11_spoonAt wsX11_spoonAt) := goodIn_app (goodIn_of _ (by decide +kernel)) ggX11_does_X11_spoonAt
set_option maxRecDepth 20000 in
theorem ggX11_does_X11_isDone : GoodIn wsX11_does wsX11_isDone := goodIn_r _ [22, 1, 23, 24, 6, 25, 34, 35, 36, 37, 38, 39, 40, 41, 42, 43, 44, 45, 46, 47, 48, 49, 50, 51, 52, 53, 54, 55] (by decide +kernel) (by decide +kernel)
set_option maxRecDepth 20000 in
theorem gX11_does_X11_isDone : GoodIn wsX11_does (wsV RX11 113 RX11 yX11_isDone wsX11_isDone) := goodIn_app (goodIn_of _ (by decide +kernel)) ggX11_does_X11_isDone
set_option maxRecDepth 20000 in
theorem ggX11_does_X11_in : GoodIn wsX11_does wsX11_in := goodIn_r _ [10] (by decide +kernel) (by decide +kernel)
set_option maxRecDepth 20000 in
theorem gX11_does_X11_in : GoodIn wsX11_does (va_wsS RX11 54 yX11_in wsX11_in) := goodIn_app (goodIn_of _ (by decide +kernel)) ggX11_does_X11_in
set_option maxRecDepth 20000 in
theorem ggX11_does_X11_remembers : GoodIn wsX11_does wsX11_remembers := goodIn_r _ [29, 1, 34, 35, 36, 37, 38, 39, 40, 41, 42, 43, 44, 45, 46, 47, 48, 49, 50, 51, 52, 53, 54, 55] (by decide +kernel) (by decide +kernel)
set_option maxRecDepth 20000 in
theorem gX11_does_X11_remembers : GoodIn wsX11_does (wsV RX11 123 RX11 yX11_remembers wsX11_remembers) := goodIn_app (goodIn_of _ (by decide +kernel)) ggX11_does_X11_remembers
set_option maxRecDepth 20000 in
theorem ggX11_does_X11_worthDone : GoodIn wsX11_does wsX11_worthDone := goodIn_r _ [33, 2, 19, 20, 21, 6, 22, 1, 23, 24, 25, 34, 35, 36, 37, 38, 39, 40, 41, 42, 43, 44, 45, 46, 47, 48, 49, 50, 51, 52, 53, 54, 55] (by decide +kernel) (by decide +kernel)
set_option maxRecDepth 20000 in
theorem gX11_does_X11_worthDone : GoodIn wsX11_does (wsV RX11 133 RX11 yX11_worthDone wsX11_worthDone) := goodIn_app (goodIn_of _ (by decide +kernel)) ggX11_does_X11_worthDone
theorem dX11_does_0 : decode cX11_does 0 = .ok (.aload_n 0, 1) := by decide +kernel
theorem dX11_does_1 : decode cX11_does 1 = .ok (.iload_n 1, 1) := by decide +kernel
theorem dX11_does_2 : decode cX11_does 2 = .ok (.invokevirtual 110, 3) := by decide +kernel
theorem dX11_does_5 : decode cX11_does 5 = .ok (.ifCond .ne 5, 3) := by decide +kernel
theorem dX11_does_8 : decode cX11_does 8 = .ok (.iconst (-1), 1) := by decide +kernel
theorem dX11_does_9 : decode cX11_does 9 = .ok (.ireturn, 1) := by decide +kernel
theorem dX11_does_10 : decode cX11_does 10 = .ok (.aload_n 0, 1) := by decide +kernel
theorem dX11_does_11 : decode cX11_does 11 = .ok (.invokevirtual 116, 3) := by decide +kernel
theorem dX11_does_14 : decode cX11_does 14 = .ok (.ifCond .eq 84, 3) := by decide +kernel
theorem dX11_does_17 : decode cX11_does 17 = .ok (.aload_n 0, 1) := by decide +kernel
theorem dX11_does_18 : decode cX11_does 18 = .ok (.getfield 19, 3) := by decide +kernel
theorem dX11_does_21 : decode cX11_does 21 = .ok (.iconst 1, 1) := by decide +kernel
theorem dX11_does_22 : decode cX11_does 22 = .ok (.iaload, 1) := by decide +kernel
theorem dX11_does_23 : decode cX11_does 23 = .ok (.aload_n 0, 1) := by decide +kernel
theorem dX11_does_24 : decode cX11_does 24 = .ok (.getfield 13, 3) := by decide +kernel
theorem dX11_does_27 : decode cX11_does 27 = .ok (.bipush 12, 2) := by decide +kernel
theorem dX11_does_29 : decode cX11_does 29 = .ok (.iload_n 1, 1) := by decide +kernel
theorem dX11_does_30 : decode cX11_does 30 = .ok (.iadd, 1) := by decide +kernel
theorem dX11_does_31 : decode cX11_does 31 = .ok (.iaload, 1) := by decide +kernel
theorem dX11_does_32 : decode cX11_does 32 = .ok (.if_icmp .ne 66, 3) := by decide +kernel
theorem dX11_does_35 : decode cX11_does 35 = .ok (.aload_n 0, 1) := by decide +kernel
theorem dX11_does_36 : decode cX11_does 36 = .ok (.getfield 19, 3) := by decide +kernel
theorem dX11_does_39 : decode cX11_does 39 = .ok (.iconst 3, 1) := by decide +kernel
theorem dX11_does_40 : decode cX11_does 40 = .ok (.iaload, 1) := by decide +kernel
theorem dX11_does_41 : decode cX11_does 41 = .ok (.ifCond .eq 57, 3) := by decide +kernel
theorem dX11_does_44 : decode cX11_does 44 = .ok (.aload_n 0, 1) := by decide +kernel
theorem dX11_does_45 : decode cX11_does 45 = .ok (.invokevirtual 119, 3) := by decide +kernel
theorem dX11_does_48 : decode cX11_does 48 = .ok (.aload_n 0, 1) := by decide +kernel
theorem dX11_does_49 : decode cX11_does 49 = .ok (.getfield 13, 3) := by decide +kernel
theorem dX11_does_52 : decode cX11_does 52 = .ok (.bipush 20, 2) := by decide +kernel
theorem dX11_does_54 : decode cX11_does 54 = .ok (.iload_n 1, 1) := by decide +kernel
theorem dX11_does_55 : decode cX11_does 55 = .ok (.iadd, 1) := by decide +kernel
theorem dX11_does_56 : decode cX11_does 56 = .ok (.iaload, 1) := by decide +kernel
theorem dX11_does_57 : decode cX11_does 57 = .ok (.if_icmp .ne 41, 3) := by decide +kernel
theorem dX11_does_60 : decode cX11_does 60 = .ok (.aload_n 0, 1) := by decide +kernel
theorem dX11_does_61 : decode cX11_does 61 = .ok (.iload_n 1, 1) := by decide +kernel
theorem dX11_does_62 : decode cX11_does 62 = .ok (.invokevirtual 113, 3) := by decide +kernel
theorem dX11_does_65 : decode cX11_does 65 = .ok (.ifCond .ne 33, 3) := by decide +kernel
theorem dX11_does_68 : decode cX11_does 68 = .ok (.aload_n 0, 1) := by decide +kernel
theorem dX11_does_69 : decode cX11_does 69 = .ok (.getfield 19, 3) := by decide +kernel
theorem dX11_does_72 : decode cX11_does 72 = .ok (.iconst 0, 1) := by decide +kernel
theorem dX11_does_73 : decode cX11_does 73 = .ok (.iaload, 1) := by decide +kernel
theorem dX11_does_74 : decode cX11_does 74 = .ok (.aload_n 0, 1) := by decide +kernel
theorem dX11_does_75 : decode cX11_does 75 = .ok (.getfield 13, 3) := by decide +kernel
theorem dX11_does_78 : decode cX11_does 78 = .ok (.bipush 28, 2) := by decide +kernel
theorem dX11_does_80 : decode cX11_does 80 = .ok (.iload_n 1, 1) := by decide +kernel
theorem dX11_does_81 : decode cX11_does 81 = .ok (.iadd, 1) := by decide +kernel
theorem dX11_does_82 : decode cX11_does 82 = .ok (.iaload, 1) := by decide +kernel
theorem dX11_does_83 : decode cX11_does 83 = .ok (.aload_n 0, 1) := by decide +kernel
theorem dX11_does_84 : decode cX11_does 84 = .ok (.getfield 13, 3) := by decide +kernel
theorem dX11_does_87 : decode cX11_does 87 = .ok (.bipush 36, 2) := by decide +kernel
theorem dX11_does_89 : decode cX11_does 89 = .ok (.iload_n 1, 1) := by decide +kernel
theorem dX11_does_90 : decode cX11_does 90 = .ok (.iadd, 1) := by decide +kernel
theorem dX11_does_91 : decode cX11_does 91 = .ok (.iaload, 1) := by decide +kernel
theorem dX11_does_92 : decode cX11_does 92 = .ok (.invokestatic 54, 3) := by decide +kernel
theorem dX11_does_95 : decode cX11_does 95 = .ok (.ifCond .ne 6, 3) := by decide +kernel
theorem dX11_does_98 : decode cX11_does 98 = .ok (.bipush (-2), 2) := by decide +kernel
theorem dX11_does_100 : decode cX11_does 100 = .ok (.ireturn, 1) := by decide +kernel
theorem dX11_does_101 : decode cX11_does 101 = .ok (.aload_n 0, 1) := by decide +kernel
theorem dX11_does_102 : decode cX11_does 102 = .ok (.invokevirtual 123, 3) := by decide +kernel
theorem dX11_does_105 : decode cX11_does 105 = .ok (.aload_n 0, 1) := by decide +kernel
theorem dX11_does_106 : decode cX11_does 106 = .ok (.getfield 19, 3) := by decide +kernel
theorem dX11_does_109 : decode cX11_does 109 = .ok (.bipush 22, 2) := by decide +kernel
theorem dX11_does_111 : decode cX11_does 111 = .ok (.dup2, 1) := by decide +kernel
theorem dX11_does_112 : decode cX11_does 112 = .ok (.iaload, 1) := by decide +kernel
theorem dX11_does_113 : decode cX11_does 113 = .ok (.iconst 1, 1) := by decide +kernel
theorem dX11_does_114 : decode cX11_does 114 = .ok (.iload_n 1, 1) := by decide +kernel
theorem dX11_does_115 : decode cX11_does 115 = .ok (.ishl, 1) := by decide +kernel
theorem dX11_does_116 : decode cX11_does 116 = .ok (.ior, 1) := by decide +kernel
theorem dX11_does_117 : decode cX11_does 117 = .ok (.iastore, 1) := by decide +kernel
theorem dX11_does_118 : decode cX11_does 118 = .ok (.aload_n 0, 1) := by decide +kernel
theorem dX11_does_119 : decode cX11_does 119 = .ok (.getfield 19, 3) := by decide +kernel
theorem dX11_does_122 : decode cX11_does 122 = .ok (.iconst 3, 1) := by decide +kernel
theorem dX11_does_123 : decode cX11_does 123 = .ok (.iconst 0, 1) := by decide +kernel
theorem dX11_does_124 : decode cX11_does 124 = .ok (.iastore, 1) := by decide +kernel
theorem dX11_does_125 : decode cX11_does 125 = .ok (.aload_n 0, 1) := by decide +kernel
theorem dX11_does_126 : decode cX11_does 126 = .ok (.invokevirtual 133, 3) := by decide +kernel
theorem dX11_does_129 : decode cX11_does 129 = .ok (.ireturn, 1) := by decide +kernel
theorem dX11_undo_0 : decode cX11_undo 0 = .ok (.aload_n 0, 1) := by decide +kernel
theorem dX11_undo_1 : decode cX11_undo 1 = .ok (.getfield 19, 3) := by decide +kernel
theorem dX11_undo_4 : decode cX11_undo 4 = .ok (.bipush 23, 2) := by decide +kernel
theorem dX11_undo_6 : decode cX11_undo 6 = .ok (.iaload, 1) := by decide +kernel
theorem dX11_undo_7 : decode cX11_undo 7 = .ok (.ifCond .ne 6, 3) := by decide +kernel
theorem dX11_undo_10 : decode cX11_undo 10 = .ok (.bipush (-2), 2) := by decide +kernel
theorem dX11_undo_12 : decode cX11_undo 12 = .ok (.ireturn, 1) := by decide +kernel
theorem dX11_undo_13 : decode cX11_undo 13 = .ok (.aload_n 0, 1) := by decide +kernel
theorem dX11_undo_14 : decode cX11_undo 14 = .ok (.getfield 19, 3) := by decide +kernel
theorem dX11_undo_17 : decode cX11_undo 17 = .ok (.bipush 23, 2) := by decide +kernel
theorem dX11_undo_19 : decode cX11_undo 19 = .ok (.dup2, 1) := by decide +kernel
theorem dX11_undo_20 : decode cX11_undo 20 = .ok (.iaload, 1) := by decide +kernel
theorem dX11_undo_21 : decode cX11_undo 21 = .ok (.iconst 1, 1) := by decide +kernel
theorem dX11_undo_22 : decode cX11_undo 22 = .ok (.isub, 1) := by decide +kernel
theorem dX11_undo_23 : decode cX11_undo 23 = .ok (.iastore, 1) := by decide +kernel
theorem dX11_undo_24 : decode cX11_undo 24 = .ok (.bipush 24, 2) := by decide +kernel
theorem dX11_undo_26 : decode cX11_undo 26 = .ok (.bipush 23, 2) := by decide +kernel
theorem dX11_undo_28 : decode cX11_undo 28 = .ok (.aload_n 0, 1) := by decide +kernel
theorem dX11_undo_29 : decode cX11_undo 29 = .ok (.getfield 19, 3) := by decide +kernel
theorem dX11_undo_32 : decode cX11_undo 32 = .ok (.bipush 23, 2) := by decide +kernel
theorem dX11_undo_34 : decode cX11_undo 34 = .ok (.iaload, 1) := by decide +kernel
theorem dX11_undo_35 : decode cX11_undo 35 = .ok (.imul, 1) := by decide +kernel
theorem dX11_undo_36 : decode cX11_undo 36 = .ok (.iadd, 1) := by decide +kernel
theorem dX11_undo_37 : decode cX11_undo 37 = .ok (.istore_n 1, 1) := by decide +kernel
theorem dX11_undo_38 : decode cX11_undo 38 = .ok (.iconst 0, 1) := by decide +kernel
theorem dX11_undo_39 : decode cX11_undo 39 = .ok (.istore_n 2, 1) := by decide +kernel
theorem dX11_undo_40 : decode cX11_undo 40 = .ok (.iload_n 2, 1) := by decide +kernel
theorem dX11_undo_41 : decode cX11_undo 41 = .ok (.bipush 23, 2) := by decide +kernel
theorem dX11_undo_43 : decode cX11_undo 43 = .ok (.if_icmp .ge 23, 3) := by decide +kernel
theorem dX11_undo_46 : decode cX11_undo 46 = .ok (.aload_n 0, 1) := by decide +kernel
theorem dX11_undo_47 : decode cX11_undo 47 = .ok (.getfield 19, 3) := by decide +kernel
theorem dX11_undo_50 : decode cX11_undo 50 = .ok (.iload_n 2, 1) := by decide +kernel
theorem dX11_undo_51 : decode cX11_undo 51 = .ok (.aload_n 0, 1) := by decide +kernel
theorem dX11_undo_52 : decode cX11_undo 52 = .ok (.getfield 19, 3) := by decide +kernel
theorem dX11_undo_55 : decode cX11_undo 55 = .ok (.iload_n 1, 1) := by decide +kernel
theorem dX11_undo_56 : decode cX11_undo 56 = .ok (.iload_n 2, 1) := by decide +kernel
theorem dX11_undo_57 : decode cX11_undo 57 = .ok (.iadd, 1) := by decide +kernel
theorem dX11_undo_58 : decode cX11_undo 58 = .ok (.iaload, 1) := by decide +kernel
theorem dX11_undo_59 : decode cX11_undo 59 = .ok (.iastore, 1) := by decide +kernel
theorem dX11_undo_60 : decode cX11_undo 60 = .ok (.iinc 2 1, 3) := by decide +kernel
theorem dX11_undo_63 : decode cX11_undo 63 = .ok (.goto (-23), 3) := by decide +kernel
theorem dX11_undo_66 : decode cX11_undo 66 = .ok (.aload_n 0, 1) := by decide +kernel
theorem dX11_undo_67 : decode cX11_undo 67 = .ok (.getfield 19, 3) := by decide +kernel
theorem dX11_undo_70 : decode cX11_undo 70 = .ok (.bipush 23, 2) := by decide +kernel
theorem dX11_undo_72 : decode cX11_undo 72 = .ok (.iaload, 1) := by decide +kernel
theorem dX11_undo_73 : decode cX11_undo 73 = .ok (.ireturn, 1) := by decide +kernel
set_option maxRecDepth 20000 in
theorem ggX11_now_X11_isHeld : GoodIn wsX11_now wsX11_isHeld := goodIn_r _ [6, 1, 19, 20, 21, 22, 23, 24, 25, 26, 27, 28, 29, 30, 31, 32, 33, 34, 35, 36, 37, 38, 39, 40] (by decide +kernel) (by decide +kernel)
set_option maxRecDepth 20000 in
theorem gX11_now_X11_isHeld : GoodIn wsX11_now (wsV RX11 116 RX11 yX11_isHeld wsX11_isHeld) := goodIn_app (goodIn_of _ (by decide +kernel)) ggX11_now_X11_isHeld
set_option maxRecDepth 20000 in
theorem ggX11_now_X11_worthDone : GoodIn wsX11_now wsX11_worthDone := goodIn_r _ [10, 11, 12, 13, 14, 5, 15, 1, 16, 17, 18, 19, 20, 21, 22, 23, 24, 25, 26, 27, 28, 29, 30, 31, 32, 33, 34, 35, 36, 37, 38, 39, 40] (by decide +kernel) (by decide +kernel)
set_option maxRecDepth 20000 in
theorem gX11_now_X11_worthDone : GoodIn wsX11_now (wsV RX11 133 RX11 yX11_worthDone wsX11_worthDone) := goodIn_app (goodIn_of _ (by decide +kernel)) ggX11_now_X11_worthDone
theorem dX11_now_0 : decode cX11_now 0 = .ok (.iconst 0, 1) := by decide +kernel
theorem dX11_now_1 : decode cX11_now 1 = .ok (.istore_n 2, 1) := by decide +kernel
theorem dX11_now_2 : decode cX11_now 2 = .ok (.iconst 0, 1) := by decide +kernel
theorem dX11_now_3 : decode cX11_now 3 = .ok (.istore_n 3, 1) := by decide +kernel
theorem dX11_now_4 : decode cX11_now 4 = .ok (.iload_n 3, 1) := by decide +kernel
theorem dX11_now_5 : decode cX11_now 5 = .ok (.bipush 6, 2) := by decide +kernel
theorem dX11_now_7 : decode cX11_now 7 = .ok (.if_icmp .ge 21, 3) := by decide +kernel
theorem dX11_now_10 : decode cX11_now 10 = .ok (.iload_n 2, 1) := by decide +kernel
theorem dX11_now_11 : decode cX11_now 11 = .ok (.aload_n 0, 1) := by decide +kernel
theorem dX11_now_12 : decode cX11_now 12 = .ok (.getfield 19, 3) := by decide +kernel
theorem dX11_now_15 : decode cX11_now 15 = .ok (.bipush 16, 2) := by decide +kernel
theorem dX11_now_17 : decode cX11_now 17 = .ok (.iload_n 3, 1) := by decide +kernel
theorem dX11_now_18 : decode cX11_now 18 = .ok (.iadd, 1) := by decide +kernel
theorem dX11_now_19 : decode cX11_now 19 = .ok (.iaload, 1) := by decide +kernel
theorem dX11_now_20 : decode cX11_now 20 = .ok (.iadd, 1) := by decide +kernel
theorem dX11_now_21 : decode cX11_now 21 = .ok (.istore_n 2, 1) := by decide +kernel
theorem dX11_now_22 : decode cX11_now 22 = .ok (.iinc 3 1, 3) := by decide +kernel
theorem dX11_now_25 : decode cX11_now 25 = .ok (.goto (-21), 3) := by decide +kernel
theorem dX11_now_28 : decode cX11_now 28 = .ok (.iload_n 1, 1) := by decide +kernel
theorem dX11_now_29 : decode cX11_now 29 = .ok (.tableswitch 104 0 6 #[43, 50, 57, 64, 89, 97, 102], 43) := by decide +kernel
theorem dX11_now_72 : decode cX11_now 72 = .ok (.aload_n 0, 1) := by decide +kernel
theorem dX11_now_73 : decode cX11_now 73 = .ok (.getfield 19, 3) := by decide +kernel
theorem dX11_now_76 : decode cX11_now 76 = .ok (.iconst 0, 1) := by decide +kernel
theorem dX11_now_77 : decode cX11_now 77 = .ok (.iaload, 1) := by decide +kernel
theorem dX11_now_78 : decode cX11_now 78 = .ok (.ireturn, 1) := by decide +kernel
theorem dX11_now_79 : decode cX11_now 79 = .ok (.aload_n 0, 1) := by decide +kernel
theorem dX11_now_80 : decode cX11_now 80 = .ok (.getfield 19, 3) := by decide +kernel
theorem dX11_now_83 : decode cX11_now 83 = .ok (.iconst 1, 1) := by decide +kernel
theorem dX11_now_84 : decode cX11_now 84 = .ok (.iaload, 1) := by decide +kernel
theorem dX11_now_85 : decode cX11_now 85 = .ok (.ireturn, 1) := by decide +kernel
theorem dX11_now_86 : decode cX11_now 86 = .ok (.aload_n 0, 1) := by decide +kernel
theorem dX11_now_87 : decode cX11_now 87 = .ok (.getfield 19, 3) := by decide +kernel
theorem dX11_now_90 : decode cX11_now 90 = .ok (.iconst 3, 1) := by decide +kernel
theorem dX11_now_91 : decode cX11_now 91 = .ok (.iaload, 1) := by decide +kernel
theorem dX11_now_92 : decode cX11_now 92 = .ok (.ireturn, 1) := by decide +kernel
theorem dX11_now_93 : decode cX11_now 93 = .ok (.aload_n 0, 1) := by decide +kernel
theorem dX11_now_94 : decode cX11_now 94 = .ok (.invokevirtual 116, 3) := by decide +kernel
theorem dX11_now_97 : decode cX11_now 97 = .ok (.ifCond .eq 19, 3) := by decide +kernel
theorem dX11_now_100 : decode cX11_now 100 = .ok (.aload_n 0, 1) := by decide +kernel
theorem dX11_now_101 : decode cX11_now 101 = .ok (.getfield 19, 3) := by decide +kernel
theorem dX11_now_104 : decode cX11_now 104 = .ok (.iconst 0, 1) := by decide +kernel
theorem dX11_now_105 : decode cX11_now 105 = .ok (.iaload, 1) := by decide +kernel
theorem dX11_now_106 : decode cX11_now 106 = .ok (.aload_n 0, 1) := by decide +kernel
theorem dX11_now_107 : decode cX11_now 107 = .ok (.getfield 19, 3) := by decide +kernel
theorem dX11_now_110 : decode cX11_now 110 = .ok (.iconst 2, 1) := by decide +kernel
theorem dX11_now_111 : decode cX11_now 111 = .ok (.iaload, 1) := by decide +kernel
theorem dX11_now_112 : decode cX11_now 112 = .ok (.isub, 1) := by decide +kernel
theorem dX11_now_113 : decode cX11_now 113 = .ok (.goto 4, 3) := by decide +kernel
theorem dX11_now_116 : decode cX11_now 116 = .ok (.iconst 0, 1) := by decide +kernel
theorem dX11_now_117 : decode cX11_now 117 = .ok (.ireturn, 1) := by decide +kernel
theorem dX11_now_118 : decode cX11_now 118 = .ok (.aload_n 0, 1) := by decide +kernel
theorem dX11_now_119 : decode cX11_now 119 = .ok (.getfield 19, 3) := by decide +kernel
theorem dX11_now_122 : decode cX11_now 122 = .ok (.bipush 22, 2) := by decide +kernel
theorem dX11_now_124 : decode cX11_now 124 = .ok (.iaload, 1) := by decide +kernel
theorem dX11_now_125 : decode cX11_now 125 = .ok (.ireturn, 1) := by decide +kernel
theorem dX11_now_126 : decode cX11_now 126 = .ok (.aload_n 0, 1) := by decide +kernel
theorem dX11_now_127 : decode cX11_now 127 = .ok (.invokevirtual 133, 3) := by decide +kernel
theorem dX11_now_130 : decode cX11_now 130 = .ok (.ireturn, 1) := by decide +kernel
theorem dX11_now_131 : decode cX11_now 131 = .ok (.iload_n 2, 1) := by decide +kernel
theorem dX11_now_132 : decode cX11_now 132 = .ok (.ireturn, 1) := by decide +kernel
theorem dX11_now_133 : decode cX11_now 133 = .ok (.iconst (-1), 1) := by decide +kernel
theorem dX11_now_134 : decode cX11_now 134 = .ok (.ireturn, 1) := by decide +kernel
set_option maxRecDepth 20000 in
theorem ggX11_wayOf_X11_spoonAt : GoodIn wsX11_wayOf wsX11_spoonAt := goodIn_r _ [9, 2, 4, 10, 11, 12, 8, 13, 17, 18, 19, 20, 21, 22, 23, 24, 25, 26, 27, 28, 29, 30, 31, 32, 33, 34, 35, 36, 37, 38] (by decide +kernel) (by decide +kernel)
set_option maxRecDepth 20000 in
theorem gX11_wayOf_X11_spoonAt : GoodIn wsX11_wayOf (wsV RX11 119 RX11 yX11_spoonAt wsX11_spoonAt) := goodIn_app (goodIn_of _ (by decide +kernel)) ggX11_wayOf_X11_spoonAt
set_option maxRecDepth 20000 in
theorem ggX11_wayOf_X11_far : GoodIn wsX11_wayOf wsX11_far := goodIn_r _ [16] (by decide +kernel) (by decide +kernel)
set_option maxRecDepth 20000 in
theorem gX11_wayOf_X11_far : GoodIn wsX11_wayOf (va_wsS RX11 129 yX11_far wsX11_far) := goodIn_app (goodIn_of _ (by decide +kernel)) ggX11_wayOf_X11_far
theorem dX11_wayOf_0 : decode cX11_wayOf 0 = .ok (.iconst 0, 1) := by decide +kernel
theorem dX11_wayOf_1 : decode cX11_wayOf 1 = .ok (.istore_n 2, 1) := by decide +kernel
theorem dX11_wayOf_2 : decode cX11_wayOf 2 = .ok (.iload_n 2, 1) := by decide +kernel
theorem dX11_wayOf_3 : decode cX11_wayOf 3 = .ok (.bipush 6, 2) := by decide +kernel
theorem dX11_wayOf_5 : decode cX11_wayOf 5 = .ok (.if_icmp .ge 23, 3) := by decide +kernel
theorem dX11_wayOf_8 : decode cX11_wayOf 8 = .ok (.aload_n 0, 1) := by decide +kernel
theorem dX11_wayOf_9 : decode cX11_wayOf 9 = .ok (.getfield 41, 3) := by decide +kernel
theorem dX11_wayOf_12 : decode cX11_wayOf 12 = .ok (.iload_n 2, 1) := by decide +kernel
theorem dX11_wayOf_13 : decode cX11_wayOf 13 = .ok (.aload_n 0, 1) := by decide +kernel
theorem dX11_wayOf_14 : decode cX11_wayOf 14 = .ok (.getfield 19, 3) := by decide +kernel
theorem dX11_wayOf_17 : decode cX11_wayOf 17 = .ok (.iconst 4, 1) := by decide +kernel
theorem dX11_wayOf_18 : decode cX11_wayOf 18 = .ok (.iload_n 2, 1) := by decide +kernel
theorem dX11_wayOf_19 : decode cX11_wayOf 19 = .ok (.iadd, 1) := by decide +kernel
theorem dX11_wayOf_20 : decode cX11_wayOf 20 = .ok (.iaload, 1) := by decide +kernel
theorem dX11_wayOf_21 : decode cX11_wayOf 21 = .ok (.iastore, 1) := by decide +kernel
theorem dX11_wayOf_22 : decode cX11_wayOf 22 = .ok (.iinc 2 1, 3) := by decide +kernel
theorem dX11_wayOf_25 : decode cX11_wayOf 25 = .ok (.goto (-23), 3) := by decide +kernel
theorem dX11_wayOf_28 : decode cX11_wayOf 28 = .ok (.aload_n 0, 1) := by decide +kernel
theorem dX11_wayOf_29 : decode cX11_wayOf 29 = .ok (.getfield 19, 3) := by decide +kernel
theorem dX11_wayOf_32 : decode cX11_wayOf 32 = .ok (.iconst 0, 1) := by decide +kernel
theorem dX11_wayOf_33 : decode cX11_wayOf 33 = .ok (.iaload, 1) := by decide +kernel
theorem dX11_wayOf_34 : decode cX11_wayOf 34 = .ok (.istore_n 2, 1) := by decide +kernel
theorem dX11_wayOf_35 : decode cX11_wayOf 35 = .ok (.aload_n 0, 1) := by decide +kernel
theorem dX11_wayOf_36 : decode cX11_wayOf 36 = .ok (.invokevirtual 119, 3) := by decide +kernel
theorem dX11_wayOf_39 : decode cX11_wayOf 39 = .ok (.istore_n 3, 1) := by decide +kernel
theorem dX11_wayOf_40 : decode cX11_wayOf 40 = .ok (.aload_n 0, 1) := by decide +kernel
theorem dX11_wayOf_41 : decode cX11_wayOf 41 = .ok (.getfield 19, 3) := by decide +kernel
theorem dX11_wayOf_44 : decode cX11_wayOf 44 = .ok (.iconst 1, 1) := by decide +kernel
theorem dX11_wayOf_45 : decode cX11_wayOf 45 = .ok (.iaload, 1) := by decide +kernel
theorem dX11_wayOf_46 : decode cX11_wayOf 46 = .ok (.istore 4, 2) := by decide +kernel
theorem dX11_wayOf_48 : decode cX11_wayOf 48 = .ok (.aload_n 0, 1) := by decide +kernel
theorem dX11_wayOf_49 : decode cX11_wayOf 49 = .ok (.getfield 19, 3) := by decide +kernel
theorem dX11_wayOf_52 : decode cX11_wayOf 52 = .ok (.iconst 3, 1) := by decide +kernel
theorem dX11_wayOf_53 : decode cX11_wayOf 53 = .ok (.iaload, 1) := by decide +kernel
theorem dX11_wayOf_54 : decode cX11_wayOf 54 = .ok (.iconst 1, 1) := by decide +kernel
theorem dX11_wayOf_55 : decode cX11_wayOf 55 = .ok (.if_icmp .ne 7, 3) := by decide +kernel
theorem dX11_wayOf_58 : decode cX11_wayOf 58 = .ok (.iconst 1, 1) := by decide +kernel
theorem dX11_wayOf_59 : decode cX11_wayOf 59 = .ok (.goto 4, 3) := by decide +kernel
theorem dX11_wayOf_62 : decode cX11_wayOf 62 = .ok (.iconst 0, 1) := by decide +kernel
theorem dX11_wayOf_63 : decode cX11_wayOf 63 = .ok (.istore 5, 2) := by decide +kernel
theorem dX11_wayOf_65 : decode cX11_wayOf 65 = .ok (.iconst 0, 1) := by decide +kernel
theorem dX11_wayOf_66 : decode cX11_wayOf 66 = .ok (.istore 6, 2) := by decide +kernel
theorem dX11_wayOf_68 : decode cX11_wayOf 68 = .ok (.iload 6, 2) := by decide +kernel
theorem dX11_wayOf_70 : decode cX11_wayOf 70 = .ok (.iload_n 1, 1) := by decide +kernel
theorem dX11_wayOf_71 : decode cX11_wayOf 71 = .ok (.if_icmp .ge 169, 3) := by decide +kernel
theorem dX11_wayOf_74 : decode cX11_wayOf 74 = .ok (.aload_n 0, 1) := by decide +kernel
theorem dX11_wayOf_75 : decode cX11_wayOf 75 = .ok (.getfield 35, 3) := by decide +kernel
theorem dX11_wayOf_78 : decode cX11_wayOf 78 = .ok (.iload 6, 2) := by decide +kernel
theorem dX11_wayOf_80 : decode cX11_wayOf 80 = .ok (.iaload, 1) := by decide +kernel
theorem dX11_wayOf_81 : decode cX11_wayOf 81 = .ok (.istore 7, 2) := by decide +kernel
theorem dX11_wayOf_83 : decode cX11_wayOf 83 = .ok (.aload_n 0, 1) := by decide +kernel
theorem dX11_wayOf_84 : decode cX11_wayOf 84 = .ok (.getfield 13, 3) := by decide +kernel
theorem dX11_wayOf_87 : decode cX11_wayOf 87 = .ok (.bipush 12, 2) := by decide +kernel
theorem dX11_wayOf_89 : decode cX11_wayOf 89 = .ok (.iload 7, 2) := by decide +kernel
theorem dX11_wayOf_91 : decode cX11_wayOf 91 = .ok (.iadd, 1) := by decide +kernel
theorem dX11_wayOf_92 : decode cX11_wayOf 92 = .ok (.iaload, 1) := by decide +kernel
theorem dX11_wayOf_93 : decode cX11_wayOf 93 = .ok (.istore 8, 2) := by decide +kernel
theorem dX11_wayOf_95 : decode cX11_wayOf 95 = .ok (.iload 8, 2) := by decide +kernel
theorem dX11_wayOf_97 : decode cX11_wayOf 97 = .ok (.iload 4, 2) := by decide +kernel
theorem dX11_wayOf_99 : decode cX11_wayOf 99 = .ok (.if_icmp .ne 10, 3) := by decide +kernel
theorem dX11_wayOf_102 : decode cX11_wayOf 102 = .ok (.iload 5, 2) := by decide +kernel
theorem dX11_wayOf_104 : decode cX11_wayOf 104 = .ok (.ifCond .ne 5, 3) := by decide +kernel
theorem dX11_wayOf_107 : decode cX11_wayOf 107 = .ok (.iconst (-1), 1) := by decide +kernel
theorem dX11_wayOf_108 : decode cX11_wayOf 108 = .ok (.ireturn, 1) := by decide +kernel
theorem dX11_wayOf_109 : decode cX11_wayOf 109 = .ok (.iload_n 2, 1) := by decide +kernel
theorem dX11_wayOf_110 : decode cX11_wayOf 110 = .ok (.iload 8, 2) := by decide +kernel
theorem dX11_wayOf_112 : decode cX11_wayOf 112 = .ok (.iload 4, 2) := by decide +kernel
theorem dX11_wayOf_114 : decode cX11_wayOf 114 = .ok (.if_icmp .ne 7, 3) := by decide +kernel
theorem dX11_wayOf_117 : decode cX11_wayOf 117 = .ok (.iconst 0, 1) := by decide +kernel
theorem dX11_wayOf_118 : decode cX11_wayOf 118 = .ok (.goto 14, 3) := by decide +kernel
theorem dX11_wayOf_121 : decode cX11_wayOf 121 = .ok (.iload_n 3, 1) := by decide +kernel
theorem dX11_wayOf_122 : decode cX11_wayOf 122 = .ok (.aload_n 0, 1) := by decide +kernel
theorem dX11_wayOf_123 : decode cX11_wayOf 123 = .ok (.getfield 41, 3) := by decide +kernel
theorem dX11_wayOf_126 : decode cX11_wayOf 126 = .ok (.iload 8, 2) := by decide +kernel
theorem dX11_wayOf_128 : decode cX11_wayOf 128 = .ok (.iaload, 1) := by decide +kernel
theorem dX11_wayOf_129 : decode cX11_wayOf 129 = .ok (.invokestatic 129, 3) := by decide +kernel
theorem dX11_wayOf_132 : decode cX11_wayOf 132 = .ok (.iadd, 1) := by decide +kernel
theorem dX11_wayOf_133 : decode cX11_wayOf 133 = .ok (.istore_n 2, 1) := by decide +kernel
theorem dX11_wayOf_134 : decode cX11_wayOf 134 = .ok (.iload_n 2, 1) := by decide +kernel
theorem dX11_wayOf_135 : decode cX11_wayOf 135 = .ok (.aload_n 0, 1) := by decide +kernel
theorem dX11_wayOf_136 : decode cX11_wayOf 136 = .ok (.getfield 41, 3) := by decide +kernel
theorem dX11_wayOf_139 : decode cX11_wayOf 139 = .ok (.iload 8, 2) := by decide +kernel
theorem dX11_wayOf_141 : decode cX11_wayOf 141 = .ok (.iaload, 1) := by decide +kernel
theorem dX11_wayOf_142 : decode cX11_wayOf 142 = .ok (.aload_n 0, 1) := by decide +kernel
theorem dX11_wayOf_143 : decode cX11_wayOf 143 = .ok (.getfield 13, 3) := by decide +kernel
theorem dX11_wayOf_146 : decode cX11_wayOf 146 = .ok (.bipush 20, 2) := by decide +kernel
theorem dX11_wayOf_148 : decode cX11_wayOf 148 = .ok (.iload 7, 2) := by decide +kernel
theorem dX11_wayOf_150 : decode cX11_wayOf 150 = .ok (.iadd, 1) := by decide +kernel
theorem dX11_wayOf_151 : decode cX11_wayOf 151 = .ok (.iaload, 1) := by decide +kernel
theorem dX11_wayOf_152 : decode cX11_wayOf 152 = .ok (.invokestatic 129, 3) := by decide +kernel
theorem dX11_wayOf_155 : decode cX11_wayOf 155 = .ok (.iadd, 1) := by decide +kernel
theorem dX11_wayOf_156 : decode cX11_wayOf 156 = .ok (.istore_n 2, 1) := by decide +kernel
theorem dX11_wayOf_157 : decode cX11_wayOf 157 = .ok (.iload_n 2, 1) := by decide +kernel
theorem dX11_wayOf_158 : decode cX11_wayOf 158 = .ok (.aload_n 0, 1) := by decide +kernel
theorem dX11_wayOf_159 : decode cX11_wayOf 159 = .ok (.getfield 13, 3) := by decide +kernel
theorem dX11_wayOf_162 : decode cX11_wayOf 162 = .ok (.bipush 28, 2) := by decide +kernel
theorem dX11_wayOf_164 : decode cX11_wayOf 164 = .ok (.iload 7, 2) := by decide +kernel
theorem dX11_wayOf_166 : decode cX11_wayOf 166 = .ok (.iadd, 1) := by decide +kernel
theorem dX11_wayOf_167 : decode cX11_wayOf 167 = .ok (.iaload, 1) := by decide +kernel
theorem dX11_wayOf_168 : decode cX11_wayOf 168 = .ok (.if_icmp .ge 16, 3) := by decide +kernel
theorem dX11_wayOf_171 : decode cX11_wayOf 171 = .ok (.aload_n 0, 1) := by decide +kernel
theorem dX11_wayOf_172 : decode cX11_wayOf 172 = .ok (.getfield 13, 3) := by decide +kernel
theorem dX11_wayOf_175 : decode cX11_wayOf 175 = .ok (.bipush 28, 2) := by decide +kernel
theorem dX11_wayOf_177 : decode cX11_wayOf 177 = .ok (.iload 7, 2) := by decide +kernel
theorem dX11_wayOf_179 : decode cX11_wayOf 179 = .ok (.iadd, 1) := by decide +kernel
theorem dX11_wayOf_180 : decode cX11_wayOf 180 = .ok (.iaload, 1) := by decide +kernel
theorem dX11_wayOf_181 : decode cX11_wayOf 181 = .ok (.goto 4, 3) := by decide +kernel
theorem dX11_wayOf_184 : decode cX11_wayOf 184 = .ok (.iload_n 2, 1) := by decide +kernel
theorem dX11_wayOf_185 : decode cX11_wayOf 185 = .ok (.istore_n 2, 1) := by decide +kernel
theorem dX11_wayOf_186 : decode cX11_wayOf 186 = .ok (.iload_n 2, 1) := by decide +kernel
theorem dX11_wayOf_187 : decode cX11_wayOf 187 = .ok (.aload_n 0, 1) := by decide +kernel
theorem dX11_wayOf_188 : decode cX11_wayOf 188 = .ok (.getfield 13, 3) := by decide +kernel
theorem dX11_wayOf_191 : decode cX11_wayOf 191 = .ok (.bipush 36, 2) := by decide +kernel
theorem dX11_wayOf_193 : decode cX11_wayOf 193 = .ok (.iload 7, 2) := by decide +kernel
theorem dX11_wayOf_195 : decode cX11_wayOf 195 = .ok (.iadd, 1) := by decide +kernel
theorem dX11_wayOf_196 : decode cX11_wayOf 196 = .ok (.iaload, 1) := by decide +kernel
theorem dX11_wayOf_197 : decode cX11_wayOf 197 = .ok (.if_icmp .le 5, 3) := by decide +kernel
theorem dX11_wayOf_200 : decode cX11_wayOf 200 = .ok (.iconst (-1), 1) := by decide +kernel
theorem dX11_wayOf_201 : decode cX11_wayOf 201 = .ok (.ireturn, 1) := by decide +kernel
theorem dX11_wayOf_202 : decode cX11_wayOf 202 = .ok (.aload_n 0, 1) := by decide +kernel
theorem dX11_wayOf_203 : decode cX11_wayOf 203 = .ok (.getfield 41, 3) := by decide +kernel
theorem dX11_wayOf_206 : decode cX11_wayOf 206 = .ok (.iload 8, 2) := by decide +kernel
theorem dX11_wayOf_208 : decode cX11_wayOf 208 = .ok (.aload_n 0, 1) := by decide +kernel
theorem dX11_wayOf_209 : decode cX11_wayOf 209 = .ok (.getfield 13, 3) := by decide +kernel
theorem dX11_wayOf_212 : decode cX11_wayOf 212 = .ok (.bipush 20, 2) := by decide +kernel
theorem dX11_wayOf_214 : decode cX11_wayOf 214 = .ok (.iload 7, 2) := by decide +kernel
theorem dX11_wayOf_216 : decode cX11_wayOf 216 = .ok (.iadd, 1) := by decide +kernel
theorem dX11_wayOf_217 : decode cX11_wayOf 217 = .ok (.iaload, 1) := by decide +kernel
theorem dX11_wayOf_218 : decode cX11_wayOf 218 = .ok (.iastore, 1) := by decide +kernel
theorem dX11_wayOf_219 : decode cX11_wayOf 219 = .ok (.aload_n 0, 1) := by decide +kernel
theorem dX11_wayOf_220 : decode cX11_wayOf 220 = .ok (.getfield 41, 3) := by decide +kernel
theorem dX11_wayOf_223 : decode cX11_wayOf 223 = .ok (.iload 8, 2) := by decide +kernel
theorem dX11_wayOf_225 : decode cX11_wayOf 225 = .ok (.iaload, 1) := by decide +kernel
theorem dX11_wayOf_226 : decode cX11_wayOf 226 = .ok (.istore_n 3, 1) := by decide +kernel
theorem dX11_wayOf_227 : decode cX11_wayOf 227 = .ok (.iload 8, 2) := by decide +kernel
theorem dX11_wayOf_229 : decode cX11_wayOf 229 = .ok (.istore 4, 2) := by decide +kernel
theorem dX11_wayOf_231 : decode cX11_wayOf 231 = .ok (.iconst 0, 1) := by decide +kernel
theorem dX11_wayOf_232 : decode cX11_wayOf 232 = .ok (.istore 5, 2) := by decide +kernel
theorem dX11_wayOf_234 : decode cX11_wayOf 234 = .ok (.iinc 6 1, 3) := by decide +kernel
theorem dX11_wayOf_237 : decode cX11_wayOf 237 = .ok (.goto (-169), 3) := by decide +kernel
theorem dX11_wayOf_240 : decode cX11_wayOf 240 = .ok (.iload_n 2, 1) := by decide +kernel
theorem dX11_wayOf_241 : decode cX11_wayOf 241 = .ok (.ireturn, 1) := by decide +kernel
set_option maxRecDepth 20000 in
theorem ggX11_mayBe_X11_isDone : GoodIn wsX11_mayBe wsX11_isDone := goodIn_r _ [6, 7, 8, 9, 5, 10, 28, 29, 30, 31, 32, 33, 34, 35, 36, 37, 38, 39, 40, 41, 42, 43, 44, 45, 46, 47, 48, 49] (by decide +kernel) (by decide +kernel)
set_option maxRecDepth 20000 in
theorem gX11_mayBe_X11_isDone : GoodIn wsX11_mayBe (wsV RX11 113 RX11 yX11_isDone wsX11_isDone) := goodIn_app (goodIn_of _ (by decide +kernel)) ggX11_mayBe_X11_isDone
set_option maxRecDepth 20000 in
theorem ggX11_mayBe_X11_wayOf : GoodIn wsX11_mayBe wsX11_wayOf := goodIn_r _ [14, 15, 7, 1, 16, 17, 18, 19, 5, 20, 21, 22, 23, 24, 25, 26, 27, 28, 29, 30, 31, 32, 33, 34, 35, 36, 37, 38, 39, 40, 41, 42, 43, 44, 45, 46, 47, 48, 49] (by decide +kernel) (by decide +kernel)
set_option maxRecDepth 20000 in
theorem gX11_mayBe_X11_wayOf : GoodIn wsX11_mayBe (wsV RX11 136 RX11 yX11_wayOf wsX11_wayOf) := goodIn_app (goodIn_of _ (by decide +kernel)) ggX11_mayBe_X11_wayOf
theorem dX11_mayBe_0 : decode cX11_mayBe 0 = .ok (.aload_n 0, 1) := by decide +kernel
theorem dX11_mayBe_1 : decode cX11_mayBe 1 = .ok (.iload_n 2, 1) := by decide +kernel
theorem dX11_mayBe_2 : decode cX11_mayBe 2 = .ok (.invokevirtual 113, 3) := by decide +kernel
theorem dX11_mayBe_5 : decode cX11_mayBe 5 = .ok (.ifCond .ne 7, 3) := by decide +kernel
theorem dX11_mayBe_8 : decode cX11_mayBe 8 = .ok (.iconst 1, 1) := by decide +kernel
theorem dX11_mayBe_9 : decode cX11_mayBe 9 = .ok (.goto 4, 3) := by decide +kernel
theorem dX11_mayBe_12 : decode cX11_mayBe 12 = .ok (.iconst 0, 1) := by decide +kernel
theorem dX11_mayBe_13 : decode cX11_mayBe 13 = .ok (.istore_n 3, 1) := by decide +kernel
theorem dX11_mayBe_14 : decode cX11_mayBe 14 = .ok (.iconst 0, 1) := by decide +kernel
theorem dX11_mayBe_15 : decode cX11_mayBe 15 = .ok (.istore 4, 2) := by decide +kernel
theorem dX11_mayBe_17 : decode cX11_mayBe 17 = .ok (.iload 4, 2) := by decide +kernel
theorem dX11_mayBe_19 : decode cX11_mayBe 19 = .ok (.iload_n 1, 1) := by decide +kernel
theorem dX11_mayBe_20 : decode cX11_mayBe 20 = .ok (.if_icmp .ge 30, 3) := by decide +kernel
theorem dX11_mayBe_23 : decode cX11_mayBe 23 = .ok (.iload_n 3, 1) := by decide +kernel
theorem dX11_mayBe_24 : decode cX11_mayBe 24 = .ok (.ifCond .eq 18, 3) := by decide +kernel
theorem dX11_mayBe_27 : decode cX11_mayBe 27 = .ok (.aload_n 0, 1) := by decide +kernel
theorem dX11_mayBe_28 : decode cX11_mayBe 28 = .ok (.getfield 35, 3) := by decide +kernel
theorem dX11_mayBe_31 : decode cX11_mayBe 31 = .ok (.iload 4, 2) := by decide +kernel
theorem dX11_mayBe_33 : decode cX11_mayBe 33 = .ok (.iaload, 1) := by decide +kernel
theorem dX11_mayBe_34 : decode cX11_mayBe 34 = .ok (.iload_n 2, 1) := by decide +kernel
theorem dX11_mayBe_35 : decode cX11_mayBe 35 = .ok (.if_icmp .eq 7, 3) := by decide +kernel
theorem dX11_mayBe_38 : decode cX11_mayBe 38 = .ok (.iconst 1, 1) := by decide +kernel
theorem dX11_mayBe_39 : decode cX11_mayBe 39 = .ok (.goto 4, 3) := by decide +kernel
theorem dX11_mayBe_42 : decode cX11_mayBe 42 = .ok (.iconst 0, 1) := by decide +kernel
theorem dX11_mayBe_43 : decode cX11_mayBe 43 = .ok (.istore_n 3, 1) := by decide +kernel
theorem dX11_mayBe_44 : decode cX11_mayBe 44 = .ok (.iinc 4 1, 3) := by decide +kernel
theorem dX11_mayBe_47 : decode cX11_mayBe 47 = .ok (.goto (-30), 3) := by decide +kernel
theorem dX11_mayBe_50 : decode cX11_mayBe 50 = .ok (.aload_n 0, 1) := by decide +kernel
theorem dX11_mayBe_51 : decode cX11_mayBe 51 = .ok (.getfield 35, 3) := by decide +kernel
theorem dX11_mayBe_54 : decode cX11_mayBe 54 = .ok (.iload_n 3, 1) := by decide +kernel
theorem dX11_mayBe_55 : decode cX11_mayBe 55 = .ok (.ifCond .eq 7, 3) := by decide +kernel
theorem dX11_mayBe_58 : decode cX11_mayBe 58 = .ok (.iload_n 1, 1) := by decide +kernel
theorem dX11_mayBe_59 : decode cX11_mayBe 59 = .ok (.goto 4, 3) := by decide +kernel
theorem dX11_mayBe_62 : decode cX11_mayBe 62 = .ok (.iconst 0, 1) := by decide +kernel
theorem dX11_mayBe_63 : decode cX11_mayBe 63 = .ok (.iload_n 3, 1) := by decide +kernel
theorem dX11_mayBe_64 : decode cX11_mayBe 64 = .ok (.ifCond .eq 7, 3) := by decide +kernel
theorem dX11_mayBe_67 : decode cX11_mayBe 67 = .ok (.iload_n 2, 1) := by decide +kernel
theorem dX11_mayBe_68 : decode cX11_mayBe 68 = .ok (.goto 9, 3) := by decide +kernel
theorem dX11_mayBe_71 : decode cX11_mayBe 71 = .ok (.aload_n 0, 1) := by decide +kernel
theorem dX11_mayBe_72 : decode cX11_mayBe 72 = .ok (.getfield 35, 3) := by decide +kernel
theorem dX11_mayBe_75 : decode cX11_mayBe 75 = .ok (.iconst 0, 1) := by decide +kernel
theorem dX11_mayBe_76 : decode cX11_mayBe 76 = .ok (.iaload, 1) := by decide +kernel
theorem dX11_mayBe_77 : decode cX11_mayBe 77 = .ok (.iastore, 1) := by decide +kernel
theorem dX11_mayBe_78 : decode cX11_mayBe 78 = .ok (.iload_n 3, 1) := by decide +kernel
theorem dX11_mayBe_79 : decode cX11_mayBe 79 = .ok (.ifCond .eq 17, 3) := by decide +kernel
theorem dX11_mayBe_82 : decode cX11_mayBe 82 = .ok (.aload_n 0, 1) := by decide +kernel
theorem dX11_mayBe_83 : decode cX11_mayBe 83 = .ok (.iload_n 1, 1) := by decide +kernel
theorem dX11_mayBe_84 : decode cX11_mayBe 84 = .ok (.iconst 1, 1) := by decide +kernel
theorem dX11_mayBe_85 : decode cX11_mayBe 85 = .ok (.iadd, 1) := by decide +kernel
theorem dX11_mayBe_86 : decode cX11_mayBe 86 = .ok (.invokevirtual 136, 3) := by decide +kernel
theorem dX11_mayBe_89 : decode cX11_mayBe 89 = .ok (.ifCond .lt 7, 3) := by decide +kernel
theorem dX11_mayBe_92 : decode cX11_mayBe 92 = .ok (.iconst 1, 1) := by decide +kernel
theorem dX11_mayBe_93 : decode cX11_mayBe 93 = .ok (.goto 4, 3) := by decide +kernel
theorem dX11_mayBe_96 : decode cX11_mayBe 96 = .ok (.iconst 0, 1) := by decide +kernel
theorem dX11_mayBe_97 : decode cX11_mayBe 97 = .ok (.ireturn, 1) := by decide +kernel
theorem dX11_worthOf_0 : decode cX11_worthOf 0 = .ok (.iconst 0, 1) := by decide +kernel
theorem dX11_worthOf_1 : decode cX11_worthOf 1 = .ok (.istore_n 2, 1) := by decide +kernel
theorem dX11_worthOf_2 : decode cX11_worthOf 2 = .ok (.iconst 0, 1) := by decide +kernel
theorem dX11_worthOf_3 : decode cX11_worthOf 3 = .ok (.istore_n 3, 1) := by decide +kernel
theorem dX11_worthOf_4 : decode cX11_worthOf 4 = .ok (.iload_n 3, 1) := by decide +kernel
theorem dX11_worthOf_5 : decode cX11_worthOf 5 = .ok (.iload_n 1, 1) := by decide +kernel
theorem dX11_worthOf_6 : decode cX11_worthOf 6 = .ok (.if_icmp .ge 26, 3) := by decide +kernel
theorem dX11_worthOf_9 : decode cX11_worthOf 9 = .ok (.iload_n 2, 1) := by decide +kernel
theorem dX11_worthOf_10 : decode cX11_worthOf 10 = .ok (.aload_n 0, 1) := by decide +kernel
theorem dX11_worthOf_11 : decode cX11_worthOf 11 = .ok (.getfield 13, 3) := by decide +kernel
theorem dX11_worthOf_14 : decode cX11_worthOf 14 = .ok (.bipush 44, 2) := by decide +kernel
theorem dX11_worthOf_16 : decode cX11_worthOf 16 = .ok (.aload_n 0, 1) := by decide +kernel
theorem dX11_worthOf_17 : decode cX11_worthOf 17 = .ok (.getfield 35, 3) := by decide +kernel
theorem dX11_worthOf_20 : decode cX11_worthOf 20 = .ok (.iload_n 3, 1) := by decide +kernel
theorem dX11_worthOf_21 : decode cX11_worthOf 21 = .ok (.iaload, 1) := by decide +kernel
theorem dX11_worthOf_22 : decode cX11_worthOf 22 = .ok (.iadd, 1) := by decide +kernel
theorem dX11_worthOf_23 : decode cX11_worthOf 23 = .ok (.iaload, 1) := by decide +kernel
theorem dX11_worthOf_24 : decode cX11_worthOf 24 = .ok (.iadd, 1) := by decide +kernel
theorem dX11_worthOf_25 : decode cX11_worthOf 25 = .ok (.istore_n 2, 1) := by decide +kernel
theorem dX11_worthOf_26 : decode cX11_worthOf 26 = .ok (.iinc 3 1, 3) := by decide +kernel
theorem dX11_worthOf_29 : decode cX11_worthOf 29 = .ok (.goto (-25), 3) := by decide +kernel
theorem dX11_worthOf_32 : decode cX11_worthOf 32 = .ok (.iload_n 2, 1) := by decide +kernel
theorem dX11_worthOf_33 : decode cX11_worthOf 33 = .ok (.ireturn, 1) := by decide +kernel
set_option maxRecDepth 20000 in
theorem ggX11_rounds_X11_mayBe : GoodIn wsX11_rounds wsX11_mayBe := goodIn_r _ [12, 7, 13, 14, 15, 11, 16, 3, 17, 18, 19, 20, 21, 22, 23, 24, 5, 25, 26, 27, 28, 29, 30, 31, 32, 33, 34, 35, 40, 41, 42, 43, 44, 45, 46, 47, 48, 49, 50, 51, 52, 53, 54, 55, 56, 57, 58, 59, 60, 61] (by decide +kernel) (by decide +kernel)
set_option maxRecDepth 20000 in
theorem gX11_rounds_X11_mayBe : GoodIn wsX11_rounds (wsV RX11 148 RX11 yX11_mayBe wsX11_mayBe) := goodIn_app (goodIn_of _ (by decide +kernel)) ggX11_rounds_X11_mayBe
set_option maxRecDepth 20000 in
theorem ggX11_rounds_X11_worthOf : GoodIn wsX11_rounds wsX11_worthOf := goodIn_r _ [39, 5, 7, 40, 41, 42, 43, 44, 45, 46, 47, 48, 49, 50, 51, 52, 53, 54, 55, 56, 57, 58, 59, 60, 61] (by decide +kernel) (by decide +kernel)
set_option maxRecDepth 20000 in
theorem gX11_rounds_X11_worthOf : GoodIn wsX11_rounds (wsV RX11 151 RX11 yX11_worthOf wsX11_worthOf) := goodIn_app (goodIn_of _ (by decide +kernel)) ggX11_rounds_X11_worthOf
set_option maxRecDepth 20000 in
theorem ggX11_rounds_X11_wayOf : GoodIn wsX11_rounds wsX11_wayOf := goodIn_r _ [23, 24, 3, 7, 5, 25, 26, 27, 11, 28, 29, 30, 31, 32, 33, 34, 35, 40, 41, 42, 43, 44, 45, 46, 47, 48, 49, 50, 51, 52, 53, 54, 55, 56, 57, 58, 59, 60, 61] (by decide +kernel) (by decide +kernel)
set_option maxRecDepth 20000 in
theorem gX11_rounds_X11_wayOf : GoodIn wsX11_rounds (wsV RX11 136 RX11 yX11_wayOf wsX11_wayOf) := goodIn_app (goodIn_of _ (by decide +kernel)) ggX11_rounds_X11_wayOf
theorem dX11_rounds_0 : decode cX11_rounds 0 = .ok (.aload_n 0, 1) := by decide +kernel
theorem dX11_rounds_1 : decode cX11_rounds 1 = .ok (.iconst 0, 1) := by decide +kernel
theorem dX11_rounds_2 : decode cX11_rounds 2 = .ok (.putfield 139, 3) := by decide +kernel
theorem dX11_rounds_5 : decode cX11_rounds 5 = .ok (.aload_n 0, 1) := by decide +kernel
theorem dX11_rounds_6 : decode cX11_rounds 6 = .ok (.iconst 0, 1) := by decide +kernel
theorem dX11_rounds_7 : decode cX11_rounds 7 = .ok (.putfield 142, 3) := by decide +kernel
theorem dX11_rounds_10 : decode cX11_rounds 10 = .ok (.aload_n 0, 1) := by decide +kernel
theorem dX11_rounds_11 : decode cX11_rounds 11 = .ok (.aload_n 0, 1) := by decide +kernel
theorem dX11_rounds_12 : decode cX11_rounds 12 = .ok (.getfield 19, 3) := by decide +kernel
theorem dX11_rounds_15 : decode cX11_rounds 15 = .ok (.iconst 0, 1) := by decide +kernel
theorem dX11_rounds_16 : decode cX11_rounds 16 = .ok (.iaload, 1) := by decide +kernel
theorem dX11_rounds_17 : decode cX11_rounds 17 = .ok (.putfield 145, 3) := by decide +kernel
theorem dX11_rounds_20 : decode cX11_rounds 20 = .ok (.iconst 0, 1) := by decide +kernel
theorem dX11_rounds_21 : decode cX11_rounds 21 = .ok (.istore_n 1, 1) := by decide +kernel
theorem dX11_rounds_22 : decode cX11_rounds 22 = .ok (.iconst 0, 1) := by decide +kernel
theorem dX11_rounds_23 : decode cX11_rounds 23 = .ok (.istore_n 2, 1) := by decide +kernel
theorem dX11_rounds_24 : decode cX11_rounds 24 = .ok (.iload_n 1, 1) := by decide +kernel
theorem dX11_rounds_25 : decode cX11_rounds 25 = .ok (.ifCond .lt 152, 3) := by decide +kernel
theorem dX11_rounds_28 : decode cX11_rounds 28 = .ok (.iload_n 2, 1) := by decide +kernel
theorem dX11_rounds_29 : decode cX11_rounds 29 = .ok (.aload_n 0, 1) := by decide +kernel
theorem dX11_rounds_30 : decode cX11_rounds 30 = .ok (.getfield 13, 3) := by decide +kernel
theorem dX11_rounds_33 : decode cX11_rounds 33 = .ok (.iconst 1, 1) := by decide +kernel
theorem dX11_rounds_34 : decode cX11_rounds 34 = .ok (.iaload, 1) := by decide +kernel
theorem dX11_rounds_35 : decode cX11_rounds 35 = .ok (.if_icmp .ge 18, 3) := by decide +kernel
theorem dX11_rounds_38 : decode cX11_rounds 38 = .ok (.aload_n 0, 1) := by decide +kernel
theorem dX11_rounds_39 : decode cX11_rounds 39 = .ok (.iload_n 1, 1) := by decide +kernel
theorem dX11_rounds_40 : decode cX11_rounds 40 = .ok (.iload_n 2, 1) := by decide +kernel
theorem dX11_rounds_41 : decode cX11_rounds 41 = .ok (.invokevirtual 148, 3) := by decide +kernel
theorem dX11_rounds_44 : decode cX11_rounds 44 = .ok (.ifCond .ne 9, 3) := by decide +kernel
theorem dX11_rounds_47 : decode cX11_rounds 47 = .ok (.iinc 2 1, 3) := by decide +kernel
theorem dX11_rounds_50 : decode cX11_rounds 50 = .ok (.goto (-22), 3) := by decide +kernel
theorem dX11_rounds_53 : decode cX11_rounds 53 = .ok (.iload_n 2, 1) := by decide +kernel
theorem dX11_rounds_54 : decode cX11_rounds 54 = .ok (.aload_n 0, 1) := by decide +kernel
theorem dX11_rounds_55 : decode cX11_rounds 55 = .ok (.getfield 13, 3) := by decide +kernel
theorem dX11_rounds_58 : decode cX11_rounds 58 = .ok (.iconst 1, 1) := by decide +kernel
theorem dX11_rounds_59 : decode cX11_rounds 59 = .ok (.iaload, 1) := by decide +kernel
theorem dX11_rounds_60 : decode cX11_rounds 60 = .ok (.if_icmp .ge 94, 3) := by decide +kernel
theorem dX11_rounds_63 : decode cX11_rounds 63 = .ok (.iinc 1 1, 3) := by decide +kernel
theorem dX11_rounds_66 : decode cX11_rounds 66 = .ok (.iconst 0, 1) := by decide +kernel
theorem dX11_rounds_67 : decode cX11_rounds 67 = .ok (.istore_n 2, 1) := by decide +kernel
theorem dX11_rounds_68 : decode cX11_rounds 68 = .ok (.aload_n 0, 1) := by decide +kernel
theorem dX11_rounds_69 : decode cX11_rounds 69 = .ok (.iload_n 1, 1) := by decide +kernel
theorem dX11_rounds_70 : decode cX11_rounds 70 = .ok (.invokevirtual 151, 3) := by decide +kernel
theorem dX11_rounds_73 : decode cX11_rounds 73 = .ok (.istore_n 3, 1) := by decide +kernel
theorem dX11_rounds_74 : decode cX11_rounds 74 = .ok (.aload_n 0, 1) := by decide +kernel
theorem dX11_rounds_75 : decode cX11_rounds 75 = .ok (.iload_n 1, 1) := by decide +kernel
theorem dX11_rounds_76 : decode cX11_rounds 76 = .ok (.invokevirtual 136, 3) := by decide +kernel
theorem dX11_rounds_79 : decode cX11_rounds 79 = .ok (.istore 4, 2) := by decide +kernel
theorem dX11_rounds_81 : decode cX11_rounds 81 = .ok (.iload_n 3, 1) := by decide +kernel
theorem dX11_rounds_82 : decode cX11_rounds 82 = .ok (.aload_n 0, 1) := by decide +kernel
theorem dX11_rounds_83 : decode cX11_rounds 83 = .ok (.getfield 142, 3) := by decide +kernel
theorem dX11_rounds_86 : decode cX11_rounds 86 = .ok (.if_icmp .gt 20, 3) := by decide +kernel
theorem dX11_rounds_89 : decode cX11_rounds 89 = .ok (.iload_n 3, 1) := by decide +kernel
theorem dX11_rounds_90 : decode cX11_rounds 90 = .ok (.aload_n 0, 1) := by decide +kernel
theorem dX11_rounds_91 : decode cX11_rounds 91 = .ok (.getfield 142, 3) := by decide +kernel
theorem dX11_rounds_94 : decode cX11_rounds 94 = .ok (.if_icmp .ne 57, 3) := by decide +kernel
theorem dX11_rounds_97 : decode cX11_rounds 97 = .ok (.iload 4, 2) := by decide +kernel
theorem dX11_rounds_99 : decode cX11_rounds 99 = .ok (.aload_n 0, 1) := by decide +kernel
theorem dX11_rounds_100 : decode cX11_rounds 100 = .ok (.getfield 145, 3) := by decide +kernel
theorem dX11_rounds_103 : decode cX11_rounds 103 = .ok (.if_icmp .ge 48, 3) := by decide +kernel
theorem dX11_rounds_106 : decode cX11_rounds 106 = .ok (.aload_n 0, 1) := by decide +kernel
theorem dX11_rounds_107 : decode cX11_rounds 107 = .ok (.iload_n 1, 1) := by decide +kernel
theorem dX11_rounds_108 : decode cX11_rounds 108 = .ok (.putfield 139, 3) := by decide +kernel
theorem dX11_rounds_111 : decode cX11_rounds 111 = .ok (.aload_n 0, 1) := by decide +kernel
theorem dX11_rounds_112 : decode cX11_rounds 112 = .ok (.iload_n 3, 1) := by decide +kernel
theorem dX11_rounds_113 : decode cX11_rounds 113 = .ok (.putfield 142, 3) := by decide +kernel
theorem dX11_rounds_116 : decode cX11_rounds 116 = .ok (.aload_n 0, 1) := by decide +kernel
theorem dX11_rounds_117 : decode cX11_rounds 117 = .ok (.iload 4, 2) := by decide +kernel
theorem dX11_rounds_119 : decode cX11_rounds 119 = .ok (.putfield 145, 3) := by decide +kernel
theorem dX11_rounds_122 : decode cX11_rounds 122 = .ok (.iconst 0, 1) := by decide +kernel
theorem dX11_rounds_123 : decode cX11_rounds 123 = .ok (.istore 5, 2) := by decide +kernel
theorem dX11_rounds_125 : decode cX11_rounds 125 = .ok (.iload 5, 2) := by decide +kernel
theorem dX11_rounds_127 : decode cX11_rounds 127 = .ok (.iload_n 1, 1) := by decide +kernel
theorem dX11_rounds_128 : decode cX11_rounds 128 = .ok (.if_icmp .ge 23, 3) := by decide +kernel
theorem dX11_rounds_131 : decode cX11_rounds 131 = .ok (.aload_n 0, 1) := by decide +kernel
theorem dX11_rounds_132 : decode cX11_rounds 132 = .ok (.getfield 38, 3) := by decide +kernel
theorem dX11_rounds_135 : decode cX11_rounds 135 = .ok (.iload 5, 2) := by decide +kernel
theorem dX11_rounds_137 : decode cX11_rounds 137 = .ok (.aload_n 0, 1) := by decide +kernel
theorem dX11_rounds_138 : decode cX11_rounds 138 = .ok (.getfield 35, 3) := by decide +kernel
theorem dX11_rounds_141 : decode cX11_rounds 141 = .ok (.iload 5, 2) := by decide +kernel
theorem dX11_rounds_143 : decode cX11_rounds 143 = .ok (.iaload, 1) := by decide +kernel
theorem dX11_rounds_144 : decode cX11_rounds 144 = .ok (.iastore, 1) := by decide +kernel
theorem dX11_rounds_145 : decode cX11_rounds 145 = .ok (.iinc 5 1, 3) := by decide +kernel
theorem dX11_rounds_148 : decode cX11_rounds 148 = .ok (.goto (-23), 3) := by decide +kernel
theorem dX11_rounds_151 : decode cX11_rounds 151 = .ok (.goto (-127), 3) := by decide +kernel
theorem dX11_rounds_154 : decode cX11_rounds 154 = .ok (.iinc 1 (-1), 3) := by decide +kernel
theorem dX11_rounds_157 : decode cX11_rounds 157 = .ok (.iload_n 1, 1) := by decide +kernel
theorem dX11_rounds_158 : decode cX11_rounds 158 = .ok (.ifCond .lt 14, 3) := by decide +kernel
theorem dX11_rounds_161 : decode cX11_rounds 161 = .ok (.aload_n 0, 1) := by decide +kernel
theorem dX11_rounds_162 : decode cX11_rounds 162 = .ok (.getfield 35, 3) := by decide +kernel
theorem dX11_rounds_165 : decode cX11_rounds 165 = .ok (.iload_n 1, 1) := by decide +kernel
theorem dX11_rounds_166 : decode cX11_rounds 166 = .ok (.iaload, 1) := by decide +kernel
theorem dX11_rounds_167 : decode cX11_rounds 167 = .ok (.iconst 1, 1) := by decide +kernel
theorem dX11_rounds_168 : decode cX11_rounds 168 = .ok (.iadd, 1) := by decide +kernel
theorem dX11_rounds_169 : decode cX11_rounds 169 = .ok (.goto 4, 3) := by decide +kernel
theorem dX11_rounds_172 : decode cX11_rounds 172 = .ok (.iconst 0, 1) := by decide +kernel
theorem dX11_rounds_173 : decode cX11_rounds 173 = .ok (.istore_n 2, 1) := by decide +kernel
theorem dX11_rounds_174 : decode cX11_rounds 174 = .ok (.goto (-150), 3) := by decide +kernel
theorem dX11_rounds_177 : decode cX11_rounds 177 = .ok (.return_, 1) := by decide +kernel
set_option maxRecDepth 20000 in
theorem ggX11_round_X11_in : GoodIn wsX11_round wsX11_in := goodIn_r _ [8] (by decide +kernel) (by decide +kernel)
set_option maxRecDepth 20000 in
theorem gX11_round_X11_in : GoodIn wsX11_round (va_wsS RX11 54 yX11_in wsX11_in) := goodIn_app (goodIn_of _ (by decide +kernel)) ggX11_round_X11_in
set_option maxRecDepth 20000 in
theorem ggX11_round_X11_rounds : GoodIn wsX11_round wsX11_rounds := goodIn_r _ [12, 3, 1, 13, 2, 14, 4, 15, 16, 17, 18, 7, 19, 20, 21, 22, 23, 24, 25, 26, 27, 28, 29, 30, 31, 32, 33, 34, 35, 36, 37, 38, 39, 40, 41, 42, 43, 44, 45, 46, 47, 48, 49, 50, 51, 52, 53, 54, 55, 56, 57, 58, 59, 60, 61, 62, 63, 64, 65, 66, 67, 68] (by decide +kernel) (by decide +kernel)
set_option maxRecDepth 20000 in
theorem gX11_round_X11_rounds : GoodIn wsX11_round (wsV RX11 154 RX11 yX11_rounds wsX11_rounds) := goodIn_app (goodIn_of _ (by decide +kernel)) ggX11_round_X11_rounds
theorem dX11_round_0 : decode cX11_round 0 = .ok (.iload_n 1, 1) := by decide +kernel
theorem dX11_round_1 : decode cX11_round 1 = .ok (.bipush (-3), 2) := by decide +kernel
theorem dX11_round_3 : decode cX11_round 3 = .ok (.bipush 7, 2) := by decide +kernel
theorem dX11_round_5 : decode cX11_round 5 = .ok (.invokestatic 54, 3) := by decide +kernel
theorem dX11_round_8 : decode cX11_round 8 = .ok (.ifCond .ne 5, 3) := by decide +kernel
theorem dX11_round_11 : decode cX11_round 11 = .ok (.iconst (-1), 1) := by decide +kernel
theorem dX11_round_12 : decode cX11_round 12 = .ok (.ireturn, 1) := by decide +kernel
theorem dX11_round_13 : decode cX11_round 13 = .ok (.aload_n 0, 1) := by decide +kernel
theorem dX11_round_14 : decode cX11_round 14 = .ok (.invokevirtual 154, 3) := by decide +kernel
theorem dX11_round_17 : decode cX11_round 17 = .ok (.iload_n 1, 1) := by decide +kernel
theorem dX11_round_18 : decode cX11_round 18 = .ok (.iconst (-1), 1) := by decide +kernel
theorem dX11_round_19 : decode cX11_round 19 = .ok (.if_icmp .ne 10, 3) := by decide +kernel
theorem dX11_round_22 : decode cX11_round 22 = .ok (.aload_n 0, 1) := by decide +kernel
theorem dX11_round_23 : decode cX11_round 23 = .ok (.getfield 142, 3) := by decide +kernel
theorem dX11_round_26 : decode cX11_round 26 = .ok (.goto 48, 3) := by decide +kernel
theorem dX11_round_29 : decode cX11_round 29 = .ok (.iload_n 1, 1) := by decide +kernel
theorem dX11_round_30 : decode cX11_round 30 = .ok (.bipush (-2), 2) := by decide +kernel
theorem dX11_round_32 : decode cX11_round 32 = .ok (.if_icmp .ne 10, 3) := by decide +kernel
theorem dX11_round_35 : decode cX11_round 35 = .ok (.aload_n 0, 1) := by decide +kernel
theorem dX11_round_36 : decode cX11_round 36 = .ok (.getfield 145, 3) := by decide +kernel
theorem dX11_round_39 : decode cX11_round 39 = .ok (.goto 35, 3) := by decide +kernel
theorem dX11_round_42 : decode cX11_round 42 = .ok (.iload_n 1, 1) := by decide +kernel
theorem dX11_round_43 : decode cX11_round 43 = .ok (.bipush (-3), 2) := by decide +kernel
theorem dX11_round_45 : decode cX11_round 45 = .ok (.if_icmp .ne 10, 3) := by decide +kernel
theorem dX11_round_48 : decode cX11_round 48 = .ok (.aload_n 0, 1) := by decide +kernel
theorem dX11_round_49 : decode cX11_round 49 = .ok (.getfield 139, 3) := by decide +kernel
theorem dX11_round_52 : decode cX11_round 52 = .ok (.goto 22, 3) := by decide +kernel
theorem dX11_round_55 : decode cX11_round 55 = .ok (.iload_n 1, 1) := by decide +kernel
theorem dX11_round_56 : decode cX11_round 56 = .ok (.aload_n 0, 1) := by decide +kernel
theorem dX11_round_57 : decode cX11_round 57 = .ok (.getfield 139, 3) := by decide +kernel
theorem dX11_round_60 : decode cX11_round 60 = .ok (.if_icmp .ge 12, 3) := by decide +kernel
theorem dX11_round_63 : decode cX11_round 63 = .ok (.aload_n 0, 1) := by decide +kernel
theorem dX11_round_64 : decode cX11_round 64 = .ok (.getfield 38, 3) := by decide +kernel
theorem dX11_round_67 : decode cX11_round 67 = .ok (.iload_n 1, 1) := by decide +kernel
theorem dX11_round_68 : decode cX11_round 68 = .ok (.iaload, 1) := by decide +kernel
theorem dX11_round_69 : decode cX11_round 69 = .ok (.goto 5, 3) := by decide +kernel
theorem dX11_round_72 : decode cX11_round 72 = .ok (.bipush (-9), 2) := by decide +kernel
theorem dX11_round_74 : decode cX11_round 74 = .ok (.ireturn, 1) := by decide +kernel
set_option maxRecDepth 20000 in
theorem ggX11_comes_X11_far : GoodIn wsX11_comes wsX11_far := goodIn_r _ [5] (by decide +kernel) (by decide +kernel)
set_option maxRecDepth 20000 in
theorem gX11_comes_X11_far : GoodIn wsX11_comes (va_wsS RX11 129 yX11_far wsX11_far) := goodIn_app (goodIn_of _ (by decide +kernel)) ggX11_comes_X11_far
theorem dX11_comes_0 : decode cX11_comes 0 = .ok (.aload_n 0, 1) := by decide +kernel
theorem dX11_comes_1 : decode cX11_comes 1 = .ok (.getfield 13, 3) := by decide +kernel
theorem dX11_comes_4 : decode cX11_comes 4 = .ok (.bipush 6, 2) := by decide +kernel
theorem dX11_comes_6 : decode cX11_comes 6 = .ok (.aload_n 0, 1) := by decide +kernel
theorem dX11_comes_7 : decode cX11_comes 7 = .ok (.getfield 13, 3) := by decide +kernel
theorem dX11_comes_10 : decode cX11_comes 10 = .ok (.bipush 12, 2) := by decide +kernel
theorem dX11_comes_12 : decode cX11_comes 12 = .ok (.iload_n 3, 1) := by decide +kernel
theorem dX11_comes_13 : decode cX11_comes 13 = .ok (.iadd, 1) := by decide +kernel
theorem dX11_comes_14 : decode cX11_comes 14 = .ok (.iaload, 1) := by decide +kernel
theorem dX11_comes_15 : decode cX11_comes 15 = .ok (.iadd, 1) := by decide +kernel
theorem dX11_comes_16 : decode cX11_comes 16 = .ok (.iaload, 1) := by decide +kernel
theorem dX11_comes_17 : decode cX11_comes 17 = .ok (.istore 4, 2) := by decide +kernel
theorem dX11_comes_19 : decode cX11_comes 19 = .ok (.iload_n 2, 1) := by decide +kernel
theorem dX11_comes_20 : decode cX11_comes 20 = .ok (.iload_n 1, 1) := by decide +kernel
theorem dX11_comes_21 : decode cX11_comes 21 = .ok (.iload 4, 2) := by decide +kernel
theorem dX11_comes_23 : decode cX11_comes 23 = .ok (.invokestatic 129, 3) := by decide +kernel
theorem dX11_comes_26 : decode cX11_comes 26 = .ok (.iadd, 1) := by decide +kernel
theorem dX11_comes_27 : decode cX11_comes 27 = .ok (.iload 4, 2) := by decide +kernel
theorem dX11_comes_29 : decode cX11_comes 29 = .ok (.aload_n 0, 1) := by decide +kernel
theorem dX11_comes_30 : decode cX11_comes 30 = .ok (.getfield 13, 3) := by decide +kernel
theorem dX11_comes_33 : decode cX11_comes 33 = .ok (.bipush 20, 2) := by decide +kernel
theorem dX11_comes_35 : decode cX11_comes 35 = .ok (.iload_n 3, 1) := by decide +kernel
theorem dX11_comes_36 : decode cX11_comes 36 = .ok (.iadd, 1) := by decide +kernel
theorem dX11_comes_37 : decode cX11_comes 37 = .ok (.iaload, 1) := by decide +kernel
theorem dX11_comes_38 : decode cX11_comes 38 = .ok (.invokestatic 129, 3) := by decide +kernel
theorem dX11_comes_41 : decode cX11_comes 41 = .ok (.iadd, 1) := by decide +kernel
theorem dX11_comes_42 : decode cX11_comes 42 = .ok (.aload_n 0, 1) := by decide +kernel
theorem dX11_comes_43 : decode cX11_comes 43 = .ok (.getfield 13, 3) := by decide +kernel
theorem dX11_comes_46 : decode cX11_comes 46 = .ok (.bipush 28, 2) := by decide +kernel
theorem dX11_comes_48 : decode cX11_comes 48 = .ok (.iload_n 3, 1) := by decide +kernel
theorem dX11_comes_49 : decode cX11_comes 49 = .ok (.iadd, 1) := by decide +kernel
theorem dX11_comes_50 : decode cX11_comes 50 = .ok (.iaload, 1) := by decide +kernel
theorem dX11_comes_51 : decode cX11_comes 51 = .ok (.if_icmp .gt 7, 3) := by decide +kernel
theorem dX11_comes_54 : decode cX11_comes 54 = .ok (.iconst 1, 1) := by decide +kernel
theorem dX11_comes_55 : decode cX11_comes 55 = .ok (.goto 4, 3) := by decide +kernel
theorem dX11_comes_58 : decode cX11_comes 58 = .ok (.iconst 0, 1) := by decide +kernel
theorem dX11_comes_59 : decode cX11_comes 59 = .ok (.ireturn, 1) := by decide +kernel
set_option maxRecDepth 20000 in
theorem ggX11_spoons_X11_comes : GoodIn wsX11_spoons wsX11_comes := goodIn_r _ [7, 1, 8, 9, 6, 10, 14, 15, 16, 17, 18, 19, 20, 21, 22, 23, 24, 25, 26, 27, 28, 29, 30, 31, 32, 33, 34, 35] (by decide +kernel) (by decide +kernel)
set_option maxRecDepth 20000 in
theorem gX11_spoons_X11_comes : GoodIn wsX11_spoons (wsV RX11 157 RX11 yX11_comes wsX11_comes) := goodIn_app (goodIn_of _ (by decide +kernel)) ggX11_spoons_X11_comes
set_option maxRecDepth 20000 in
theorem ggX11_spoons_X11_has : GoodIn wsX11_spoons wsX11_has := goodIn_r _ [13] (by decide +kernel) (by decide +kernel)
set_option maxRecDepth 20000 in
theorem gX11_spoons_X11_has : GoodIn wsX11_spoons (va_wsS RX11 106 yX11_has wsX11_has) := goodIn_app (goodIn_of _ (by decide +kernel)) ggX11_spoons_X11_has
theorem dX11_spoons_0 : decode cX11_spoons 0 = .ok (.aload_n 0, 1) := by decide +kernel
theorem dX11_spoons_1 : decode cX11_spoons 1 = .ok (.getfield 13, 3) := by decide +kernel
theorem dX11_spoons_4 : decode cX11_spoons 4 = .ok (.iconst 1, 1) := by decide +kernel
theorem dX11_spoons_5 : decode cX11_spoons 5 = .ok (.iaload, 1) := by decide +kernel
theorem dX11_spoons_6 : decode cX11_spoons 6 = .ok (.istore_n 1, 1) := by decide +kernel
theorem dX11_spoons_7 : decode cX11_spoons 7 = .ok (.iconst 0, 1) := by decide +kernel
theorem dX11_spoons_8 : decode cX11_spoons 8 = .ok (.istore_n 2, 1) := by decide +kernel
theorem dX11_spoons_9 : decode cX11_spoons 9 = .ok (.iload_n 2, 1) := by decide +kernel
theorem dX11_spoons_10 : decode cX11_spoons 10 = .ok (.iload_n 1, 1) := by decide +kernel
theorem dX11_spoons_11 : decode cX11_spoons 11 = .ok (.if_icmp .ge 27, 3) := by decide +kernel
theorem dX11_spoons_14 : decode cX11_spoons 14 = .ok (.aload_n 0, 1) := by decide +kernel
theorem dX11_spoons_15 : decode cX11_spoons 15 = .ok (.aload_n 0, 1) := by decide +kernel
theorem dX11_spoons_16 : decode cX11_spoons 16 = .ok (.getfield 13, 3) := by decide +kernel
theorem dX11_spoons_19 : decode cX11_spoons 19 = .ok (.iconst 2, 1) := by decide +kernel
theorem dX11_spoons_20 : decode cX11_spoons 20 = .ok (.iaload, 1) := by decide +kernel
theorem dX11_spoons_21 : decode cX11_spoons 21 = .ok (.iconst 0, 1) := by decide +kernel
theorem dX11_spoons_22 : decode cX11_spoons 22 = .ok (.iload_n 2, 1) := by decide +kernel
theorem dX11_spoons_23 : decode cX11_spoons 23 = .ok (.invokevirtual 157, 3) := by decide +kernel
theorem dX11_spoons_26 : decode cX11_spoons 26 = .ok (.ifCond .ne 6, 3) := by decide +kernel
theorem dX11_spoons_29 : decode cX11_spoons 29 = .ok (.bipush (-9), 2) := by decide +kernel
theorem dX11_spoons_31 : decode cX11_spoons 31 = .ok (.ireturn, 1) := by decide +kernel
theorem dX11_spoons_32 : decode cX11_spoons 32 = .ok (.iinc 2 1, 3) := by decide +kernel
theorem dX11_spoons_35 : decode cX11_spoons 35 = .ok (.goto (-26), 3) := by decide +kernel
theorem dX11_spoons_38 : decode cX11_spoons 38 = .ok (.iconst 0, 1) := by decide +kernel
theorem dX11_spoons_39 : decode cX11_spoons 39 = .ok (.istore_n 2, 1) := by decide +kernel
theorem dX11_spoons_40 : decode cX11_spoons 40 = .ok (.iload_n 2, 1) := by decide +kernel
theorem dX11_spoons_41 : decode cX11_spoons 41 = .ok (.iconst 1, 1) := by decide +kernel
theorem dX11_spoons_42 : decode cX11_spoons 42 = .ok (.iload_n 1, 1) := by decide +kernel
theorem dX11_spoons_43 : decode cX11_spoons 43 = .ok (.ishl, 1) := by decide +kernel
theorem dX11_spoons_44 : decode cX11_spoons 44 = .ok (.if_icmp .ge 24, 3) := by decide +kernel
theorem dX11_spoons_47 : decode cX11_spoons 47 = .ok (.aload_n 0, 1) := by decide +kernel
theorem dX11_spoons_48 : decode cX11_spoons 48 = .ok (.getfield 44, 3) := by decide +kernel
theorem dX11_spoons_51 : decode cX11_spoons 51 = .ok (.iload_n 2, 1) := by decide +kernel
theorem dX11_spoons_52 : decode cX11_spoons 52 = .ok (.iload_n 2, 1) := by decide +kernel
theorem dX11_spoons_53 : decode cX11_spoons 53 = .ok (.ifCond .ne 7, 3) := by decide +kernel
theorem dX11_spoons_56 : decode cX11_spoons 56 = .ok (.iconst 0, 1) := by decide +kernel
theorem dX11_spoons_57 : decode cX11_spoons 57 = .ok (.goto 4, 3) := by decide +kernel
theorem dX11_spoons_60 : decode cX11_spoons 60 = .ok (.iconst (-1), 1) := by decide +kernel
theorem dX11_spoons_61 : decode cX11_spoons 61 = .ok (.iastore, 1) := by decide +kernel
theorem dX11_spoons_62 : decode cX11_spoons 62 = .ok (.iinc 2 1, 3) := by decide +kernel
theorem dX11_spoons_65 : decode cX11_spoons 65 = .ok (.goto (-25), 3) := by decide +kernel
theorem dX11_spoons_68 : decode cX11_spoons 68 = .ok (.iconst 0, 1) := by decide +kernel
theorem dX11_spoons_69 : decode cX11_spoons 69 = .ok (.istore_n 2, 1) := by decide +kernel
theorem dX11_spoons_70 : decode cX11_spoons 70 = .ok (.iconst 0, 1) := by decide +kernel
theorem dX11_spoons_71 : decode cX11_spoons 71 = .ok (.istore_n 3, 1) := by decide +kernel
theorem dX11_spoons_72 : decode cX11_spoons 72 = .ok (.iload_n 3, 1) := by decide +kernel
theorem dX11_spoons_73 : decode cX11_spoons 73 = .ok (.iload_n 1, 1) := by decide +kernel
theorem dX11_spoons_74 : decode cX11_spoons 74 = .ok (.if_icmp .ge 277, 3) := by decide +kernel
theorem dX11_spoons_77 : decode cX11_spoons 77 = .ok (.iconst 1, 1) := by decide +kernel
theorem dX11_spoons_78 : decode cX11_spoons 78 = .ok (.iload_n 1, 1) := by decide +kernel
theorem dX11_spoons_79 : decode cX11_spoons 79 = .ok (.ishl, 1) := by decide +kernel
theorem dX11_spoons_80 : decode cX11_spoons 80 = .ok (.iconst 1, 1) := by decide +kernel
theorem dX11_spoons_81 : decode cX11_spoons 81 = .ok (.isub, 1) := by decide +kernel
theorem dX11_spoons_82 : decode cX11_spoons 82 = .ok (.istore 4, 2) := by decide +kernel
theorem dX11_spoons_84 : decode cX11_spoons 84 = .ok (.iload 4, 2) := by decide +kernel
theorem dX11_spoons_86 : decode cX11_spoons 86 = .ok (.ifCond .lt 259, 3) := by decide +kernel
theorem dX11_spoons_89 : decode cX11_spoons 89 = .ok (.iconst 0, 1) := by decide +kernel
theorem dX11_spoons_90 : decode cX11_spoons 90 = .ok (.istore 5, 2) := by decide +kernel
theorem dX11_spoons_92 : decode cX11_spoons 92 = .ok (.iload 5, 2) := by decide +kernel
theorem dX11_spoons_94 : decode cX11_spoons 94 = .ok (.iload_n 1, 1) := by decide +kernel
theorem dX11_spoons_95 : decode cX11_spoons 95 = .ok (.if_icmp .ge 244, 3) := by decide +kernel
theorem dX11_spoons_98 : decode cX11_spoons 98 = .ok (.aload_n 0, 1) := by decide +kernel
theorem dX11_spoons_99 : decode cX11_spoons 99 = .ok (.getfield 44, 3) := by decide +kernel
theorem dX11_spoons_102 : decode cX11_spoons 102 = .ok (.iload 4, 2) := by decide +kernel
theorem dX11_spoons_104 : decode cX11_spoons 104 = .ok (.iaload, 1) := by decide +kernel
theorem dX11_spoons_105 : decode cX11_spoons 105 = .ok (.ifCond .lt 234, 3) := by decide +kernel
theorem dX11_spoons_108 : decode cX11_spoons 108 = .ok (.aload_n 0, 1) := by decide +kernel
theorem dX11_spoons_109 : decode cX11_spoons 109 = .ok (.getfield 13, 3) := by decide +kernel
theorem dX11_spoons_112 : decode cX11_spoons 112 = .ok (.bipush 28, 2) := by decide +kernel
theorem dX11_spoons_114 : decode cX11_spoons 114 = .ok (.iload 5, 2) := by decide +kernel
theorem dX11_spoons_116 : decode cX11_spoons 116 = .ok (.iadd, 1) := by decide +kernel
theorem dX11_spoons_117 : decode cX11_spoons 117 = .ok (.iaload, 1) := by decide +kernel
theorem dX11_spoons_118 : decode cX11_spoons 118 = .ok (.aload_n 0, 1) := by decide +kernel
theorem dX11_spoons_119 : decode cX11_spoons 119 = .ok (.getfield 13, 3) := by decide +kernel
theorem dX11_spoons_122 : decode cX11_spoons 122 = .ok (.bipush 28, 2) := by decide +kernel
theorem dX11_spoons_124 : decode cX11_spoons 124 = .ok (.iload_n 3, 1) := by decide +kernel
theorem dX11_spoons_125 : decode cX11_spoons 125 = .ok (.iadd, 1) := by decide +kernel
theorem dX11_spoons_126 : decode cX11_spoons 126 = .ok (.iaload, 1) := by decide +kernel
theorem dX11_spoons_127 : decode cX11_spoons 127 = .ok (.if_icmp .gt 31, 3) := by decide +kernel
theorem dX11_spoons_130 : decode cX11_spoons 130 = .ok (.aload_n 0, 1) := by decide +kernel
theorem dX11_spoons_131 : decode cX11_spoons 131 = .ok (.getfield 13, 3) := by decide +kernel
theorem dX11_spoons_134 : decode cX11_spoons 134 = .ok (.bipush 28, 2) := by decide +kernel
theorem dX11_spoons_136 : decode cX11_spoons 136 = .ok (.iload 5, 2) := by decide +kernel
theorem dX11_spoons_138 : decode cX11_spoons 138 = .ok (.iadd, 1) := by decide +kernel
theorem dX11_spoons_139 : decode cX11_spoons 139 = .ok (.iaload, 1) := by decide +kernel
theorem dX11_spoons_140 : decode cX11_spoons 140 = .ok (.aload_n 0, 1) := by decide +kernel
theorem dX11_spoons_141 : decode cX11_spoons 141 = .ok (.getfield 13, 3) := by decide +kernel
theorem dX11_spoons_144 : decode cX11_spoons 144 = .ok (.bipush 28, 2) := by decide +kernel
theorem dX11_spoons_146 : decode cX11_spoons 146 = .ok (.iload_n 3, 1) := by decide +kernel
theorem dX11_spoons_147 : decode cX11_spoons 147 = .ok (.iadd, 1) := by decide +kernel
theorem dX11_spoons_148 : decode cX11_spoons 148 = .ok (.iaload, 1) := by decide +kernel
theorem dX11_spoons_149 : decode cX11_spoons 149 = .ok (.if_icmp .ne 13, 3) := by decide +kernel
theorem dX11_spoons_152 : decode cX11_spoons 152 = .ok (.iload 5, 2) := by decide +kernel
theorem dX11_spoons_154 : decode cX11_spoons 154 = .ok (.iload_n 3, 1) := by decide +kernel
theorem dX11_spoons_155 : decode cX11_spoons 155 = .ok (.if_icmp .le 7, 3) := by decide +kernel
theorem dX11_spoons_158 : decode cX11_spoons 158 = .ok (.iconst 1, 1) := by decide +kernel
theorem dX11_spoons_159 : decode cX11_spoons 159 = .ok (.goto 4, 3) := by decide +kernel
theorem dX11_spoons_162 : decode cX11_spoons 162 = .ok (.iconst 0, 1) := by decide +kernel
theorem dX11_spoons_163 : decode cX11_spoons 163 = .ok (.istore 6, 2) := by decide +kernel
theorem dX11_spoons_165 : decode cX11_spoons 165 = .ok (.iload 6, 2) := by decide +kernel
theorem dX11_spoons_167 : decode cX11_spoons 167 = .ok (.ifCond .eq 66, 3) := by decide +kernel
theorem dX11_spoons_170 : decode cX11_spoons 170 = .ok (.iload 4, 2) := by decide +kernel
theorem dX11_spoons_172 : decode cX11_spoons 172 = .ok (.iload 5, 2) := by decide +kernel
theorem dX11_spoons_174 : decode cX11_spoons 174 = .ok (.invokestatic 106, 3) := by decide +kernel
theorem dX11_spoons_177 : decode cX11_spoons 177 = .ok (.ifCond .ne 56, 3) := by decide +kernel
theorem dX11_spoons_180 : decode cX11_spoons 180 = .ok (.aload_n 0, 1) := by decide +kernel
theorem dX11_spoons_181 : decode cX11_spoons 181 = .ok (.getfield 13, 3) := by decide +kernel
theorem dX11_spoons_184 : decode cX11_spoons 184 = .ok (.bipush 12, 2) := by decide +kernel
theorem dX11_spoons_186 : decode cX11_spoons 186 = .ok (.iload 5, 2) := by decide +kernel
theorem dX11_spoons_188 : decode cX11_spoons 188 = .ok (.iadd, 1) := by decide +kernel
theorem dX11_spoons_189 : decode cX11_spoons 189 = .ok (.iaload, 1) := by decide +kernel
theorem dX11_spoons_190 : decode cX11_spoons 190 = .ok (.aload_n 0, 1) := by decide +kernel
theorem dX11_spoons_191 : decode cX11_spoons 191 = .ok (.getfield 13, 3) := by decide +kernel
theorem dX11_spoons_194 : decode cX11_spoons 194 = .ok (.bipush 12, 2) := by decide +kernel
theorem dX11_spoons_196 : decode cX11_spoons 196 = .ok (.iload_n 3, 1) := by decide +kernel
theorem dX11_spoons_197 : decode cX11_spoons 197 = .ok (.iadd, 1) := by decide +kernel
theorem dX11_spoons_198 : decode cX11_spoons 198 = .ok (.iaload, 1) := by decide +kernel
theorem dX11_spoons_199 : decode cX11_spoons 199 = .ok (.if_icmp .eq 34, 3) := by decide +kernel
theorem dX11_spoons_202 : decode cX11_spoons 202 = .ok (.aload_n 0, 1) := by decide +kernel
theorem dX11_spoons_203 : decode cX11_spoons 203 = .ok (.aload_n 0, 1) := by decide +kernel
theorem dX11_spoons_204 : decode cX11_spoons 204 = .ok (.getfield 13, 3) := by decide +kernel
theorem dX11_spoons_207 : decode cX11_spoons 207 = .ok (.bipush 20, 2) := by decide +kernel
theorem dX11_spoons_209 : decode cX11_spoons 209 = .ok (.iload_n 3, 1) := by decide +kernel
theorem dX11_spoons_210 : decode cX11_spoons 210 = .ok (.iadd, 1) := by decide +kernel
theorem dX11_spoons_211 : decode cX11_spoons 211 = .ok (.iaload, 1) := by decide +kernel
theorem dX11_spoons_212 : decode cX11_spoons 212 = .ok (.aload_n 0, 1) := by decide +kernel
theorem dX11_spoons_213 : decode cX11_spoons 213 = .ok (.getfield 13, 3) := by decide +kernel
theorem dX11_spoons_216 : decode cX11_spoons 216 = .ok (.bipush 28, 2) := by decide +kernel
theorem dX11_spoons_218 : decode cX11_spoons 218 = .ok (.iload_n 3, 1) := by decide +kernel
theorem dX11_spoons_219 : decode cX11_spoons 219 = .ok (.iadd, 1) := by decide +kernel
theorem dX11_spoons_220 : decode cX11_spoons 220 = .ok (.iaload, 1) := by decide +kernel
theorem dX11_spoons_221 : decode cX11_spoons 221 = .ok (.iload 5, 2) := by decide +kernel
theorem dX11_spoons_223 : decode cX11_spoons 223 = .ok (.invokevirtual 157, 3) := by decide +kernel
theorem dX11_spoons_226 : decode cX11_spoons 226 = .ok (.ifCond .eq 7, 3) := by decide +kernel
theorem dX11_spoons_229 : decode cX11_spoons 229 = .ok (.iconst 1, 1) := by decide +kernel
theorem dX11_spoons_230 : decode cX11_spoons 230 = .ok (.goto 4, 3) := by decide +kernel
theorem dX11_spoons_233 : decode cX11_spoons 233 = .ok (.iconst 0, 1) := by decide +kernel
theorem dX11_spoons_234 : decode cX11_spoons 234 = .ok (.istore 7, 2) := by decide +kernel
theorem dX11_spoons_236 : decode cX11_spoons 236 = .ok (.aload_n 0, 1) := by decide +kernel
theorem dX11_spoons_237 : decode cX11_spoons 237 = .ok (.getfield 44, 3) := by decide +kernel
theorem dX11_spoons_240 : decode cX11_spoons 240 = .ok (.iload 4, 2) := by decide +kernel
theorem dX11_spoons_242 : decode cX11_spoons 242 = .ok (.iconst 1, 1) := by decide +kernel
theorem dX11_spoons_243 : decode cX11_spoons 243 = .ok (.iload 5, 2) := by decide +kernel
theorem dX11_spoons_245 : decode cX11_spoons 245 = .ok (.ishl, 1) := by decide +kernel
theorem dX11_spoons_246 : decode cX11_spoons 246 = .ok (.ior, 1) := by decide +kernel
theorem dX11_spoons_247 : decode cX11_spoons 247 = .ok (.iload 7, 2) := by decide +kernel
theorem dX11_spoons_249 : decode cX11_spoons 249 = .ok (.ifCond .eq 39, 3) := by decide +kernel
theorem dX11_spoons_252 : decode cX11_spoons 252 = .ok (.aload_n 0, 1) := by decide +kernel
theorem dX11_spoons_253 : decode cX11_spoons 253 = .ok (.getfield 44, 3) := by decide +kernel
theorem dX11_spoons_256 : decode cX11_spoons 256 = .ok (.iload 4, 2) := by decide +kernel
theorem dX11_spoons_258 : decode cX11_spoons 258 = .ok (.iaload, 1) := by decide +kernel
theorem dX11_spoons_259 : decode cX11_spoons 259 = .ok (.iconst 1, 1) := by decide +kernel
theorem dX11_spoons_260 : decode cX11_spoons 260 = .ok (.iadd, 1) := by decide +kernel
theorem dX11_spoons_261 : decode cX11_spoons 261 = .ok (.aload_n 0, 1) := by decide +kernel
theorem dX11_spoons_262 : decode cX11_spoons 262 = .ok (.getfield 44, 3) := by decide +kernel
theorem dX11_spoons_265 : decode cX11_spoons 265 = .ok (.iload 4, 2) := by decide +kernel
theorem dX11_spoons_267 : decode cX11_spoons 267 = .ok (.iconst 1, 1) := by decide +kernel
theorem dX11_spoons_268 : decode cX11_spoons 268 = .ok (.iload 5, 2) := by decide +kernel
theorem dX11_spoons_270 : decode cX11_spoons 270 = .ok (.ishl, 1) := by decide +kernel
theorem dX11_spoons_271 : decode cX11_spoons 271 = .ok (.ior, 1) := by decide +kernel
theorem dX11_spoons_272 : decode cX11_spoons 272 = .ok (.iaload, 1) := by decide +kernel
theorem dX11_spoons_273 : decode cX11_spoons 273 = .ok (.if_icmp .le 15, 3) := by decide +kernel
theorem dX11_spoons_276 : decode cX11_spoons 276 = .ok (.aload_n 0, 1) := by decide +kernel
theorem dX11_spoons_277 : decode cX11_spoons 277 = .ok (.getfield 44, 3) := by decide +kernel
theorem dX11_spoons_280 : decode cX11_spoons 280 = .ok (.iload 4, 2) := by decide +kernel
theorem dX11_spoons_282 : decode cX11_spoons 282 = .ok (.iaload, 1) := by decide +kernel
theorem dX11_spoons_283 : decode cX11_spoons 283 = .ok (.iconst 1, 1) := by decide +kernel
theorem dX11_spoons_284 : decode cX11_spoons 284 = .ok (.iadd, 1) := by decide +kernel
theorem dX11_spoons_285 : decode cX11_spoons 285 = .ok (.goto 15, 3) := by decide +kernel
theorem dX11_spoons_288 : decode cX11_spoons 288 = .ok (.aload_n 0, 1) := by decide +kernel
theorem dX11_spoons_289 : decode cX11_spoons 289 = .ok (.getfield 44, 3) := by decide +kernel
theorem dX11_spoons_292 : decode cX11_spoons 292 = .ok (.iload 4, 2) := by decide +kernel
theorem dX11_spoons_294 : decode cX11_spoons 294 = .ok (.iconst 1, 1) := by decide +kernel
theorem dX11_spoons_295 : decode cX11_spoons 295 = .ok (.iload 5, 2) := by decide +kernel
theorem dX11_spoons_297 : decode cX11_spoons 297 = .ok (.ishl, 1) := by decide +kernel
theorem dX11_spoons_298 : decode cX11_spoons 298 = .ok (.ior, 1) := by decide +kernel
theorem dX11_spoons_299 : decode cX11_spoons 299 = .ok (.iaload, 1) := by decide +kernel
theorem dX11_spoons_300 : decode cX11_spoons 300 = .ok (.iastore, 1) := by decide +kernel
theorem dX11_spoons_301 : decode cX11_spoons 301 = .ok (.iload 7, 2) := by decide +kernel
theorem dX11_spoons_303 : decode cX11_spoons 303 = .ok (.ifCond .eq 28, 3) := by decide +kernel
theorem dX11_spoons_306 : decode cX11_spoons 306 = .ok (.aload_n 0, 1) := by decide +kernel
theorem dX11_spoons_307 : decode cX11_spoons 307 = .ok (.getfield 44, 3) := by decide +kernel
theorem dX11_spoons_310 : decode cX11_spoons 310 = .ok (.iload 4, 2) := by decide +kernel
theorem dX11_spoons_312 : decode cX11_spoons 312 = .ok (.iaload, 1) := by decide +kernel
theorem dX11_spoons_313 : decode cX11_spoons 313 = .ok (.iconst 1, 1) := by decide +kernel
theorem dX11_spoons_314 : decode cX11_spoons 314 = .ok (.iadd, 1) := by decide +kernel
theorem dX11_spoons_315 : decode cX11_spoons 315 = .ok (.iload_n 2, 1) := by decide +kernel
theorem dX11_spoons_316 : decode cX11_spoons 316 = .ok (.if_icmp .le 15, 3) := by decide +kernel
theorem dX11_spoons_319 : decode cX11_spoons 319 = .ok (.aload_n 0, 1) := by decide +kernel
theorem dX11_spoons_320 : decode cX11_spoons 320 = .ok (.getfield 44, 3) := by decide +kernel
theorem dX11_spoons_323 : decode cX11_spoons 323 = .ok (.iload 4, 2) := by decide +kernel
theorem dX11_spoons_325 : decode cX11_spoons 325 = .ok (.iaload, 1) := by decide +kernel
theorem dX11_spoons_326 : decode cX11_spoons 326 = .ok (.iconst 1, 1) := by decide +kernel
theorem dX11_spoons_327 : decode cX11_spoons 327 = .ok (.iadd, 1) := by decide +kernel
theorem dX11_spoons_328 : decode cX11_spoons 328 = .ok (.goto 4, 3) := by decide +kernel
theorem dX11_spoons_331 : decode cX11_spoons 331 = .ok (.iload_n 2, 1) := by decide +kernel
theorem dX11_spoons_332 : decode cX11_spoons 332 = .ok (.istore_n 2, 1) := by decide +kernel
theorem dX11_spoons_333 : decode cX11_spoons 333 = .ok (.iinc 5 1, 3) := by decide +kernel
theorem dX11_spoons_336 : decode cX11_spoons 336 = .ok (.goto (-244), 3) := by decide +kernel
theorem dX11_spoons_339 : decode cX11_spoons 339 = .ok (.iinc 4 (-1), 3) := by decide +kernel
theorem dX11_spoons_342 : decode cX11_spoons 342 = .ok (.goto (-258), 3) := by decide +kernel
theorem dX11_spoons_345 : decode cX11_spoons 345 = .ok (.iinc 3 1, 3) := by decide +kernel
theorem dX11_spoons_348 : decode cX11_spoons 348 = .ok (.goto (-276), 3) := by decide +kernel
theorem dX11_spoons_351 : decode cX11_spoons 351 = .ok (.iload_n 1, 1) := by decide +kernel
theorem dX11_spoons_352 : decode cX11_spoons 352 = .ok (.iload_n 2, 1) := by decide +kernel
theorem dX11_spoons_353 : decode cX11_spoons 353 = .ok (.isub, 1) := by decide +kernel
theorem dX11_spoons_354 : decode cX11_spoons 354 = .ok (.ireturn, 1) := by decide +kernel
set_option maxRecDepth 20000 in
theorem ggX11_drawn_X11_in : GoodIn wsX11_drawn wsX11_in := goodIn_r _ [9] (by decide +kernel) (by decide +kernel)
set_option maxRecDepth 20000 in
theorem gX11_drawn_X11_in : GoodIn wsX11_drawn (va_wsS RX11 54 yX11_in wsX11_in) := goodIn_app (goodIn_of _ (by decide +kernel)) ggX11_drawn_X11_in
set_option maxRecDepth 20000 in
theorem ggX11_drawn_X11_mayBe : GoodIn wsX11_drawn wsX11_mayBe := goodIn_r _ [13, 14, 15, 16, 17, 8, 18, 19, 20, 21, 22, 23, 24, 25, 26, 27, 2, 28, 29, 30, 31, 32, 33, 34, 35, 36, 37, 38, 43, 44, 45, 46, 47, 48, 49, 50, 51, 52, 53, 54, 55, 56, 57, 58, 59, 60, 61, 62, 63, 64] (by decide +kernel) (by decide +kernel)
set_option maxRecDepth 20000 in
theorem gX11_drawn_X11_mayBe : GoodIn wsX11_drawn (wsV RX11 148 RX11 yX11_mayBe wsX11_mayBe) := goodIn_app (goodIn_of _ (by decide +kernel)) ggX11_drawn_X11_mayBe
set_option maxRecDepth 20000 in
theorem ggX11_drawn_X11_worthOf : GoodIn wsX11_drawn wsX11_worthOf := goodIn_r _ [42, 2, 14, 43, 44, 45, 46, 47, 48, 49, 50, 51, 52, 53, 54, 55, 56, 57, 58, 59, 60, 61, 62, 63, 64] (by decide +kernel) (by decide +kernel)
set_option maxRecDepth 20000 in
theorem gX11_drawn_X11_worthOf : GoodIn wsX11_drawn (wsV RX11 151 RX11 yX11_worthOf wsX11_worthOf) := goodIn_app (goodIn_of _ (by decide +kernel)) ggX11_drawn_X11_worthOf
theorem dX11_drawn_0 : decode cX11_drawn 0 = .ok (.iload_n 1, 1) := by decide +kernel
theorem dX11_drawn_1 : decode cX11_drawn 1 = .ok (.iconst 0, 1) := by decide +kernel
theorem dX11_drawn_2 : decode cX11_drawn 2 = .ok (.ldc 160, 2) := by decide +kernel
theorem dX11_drawn_4 : decode cX11_drawn 4 = .ok (.invokestatic 54, 3) := by decide +kernel
theorem dX11_drawn_7 : decode cX11_drawn 7 = .ok (.ifCond .eq 13, 3) := by decide +kernel
theorem dX11_drawn_10 : decode cX11_drawn 10 = .ok (.iload_n 2, 1) := by decide +kernel
theorem dX11_drawn_11 : decode cX11_drawn 11 = .ok (.iconst 0, 1) := by decide +kernel
theorem dX11_drawn_12 : decode cX11_drawn 12 = .ok (.bipush 20, 2) := by decide +kernel
theorem dX11_drawn_14 : decode cX11_drawn 14 = .ok (.invokestatic 54, 3) := by decide +kernel
theorem dX11_drawn_17 : decode cX11_drawn 17 = .ok (.ifCond .ne 5, 3) := by decide +kernel
theorem dX11_drawn_20 : decode cX11_drawn 20 = .ok (.iconst (-1), 1) := by decide +kernel
theorem dX11_drawn_21 : decode cX11_drawn 21 = .ok (.ireturn, 1) := by decide +kernel
theorem dX11_drawn_22 : decode cX11_drawn 22 = .ok (.iload_n 1, 1) := by decide +kernel
theorem dX11_drawn_23 : decode cX11_drawn 23 = .ok (.i2l, 1) := by decide +kernel
theorem dX11_drawn_24 : decode cX11_drawn 24 = .ok (.lstore_n 3, 1) := by decide +kernel
theorem dX11_drawn_25 : decode cX11_drawn 25 = .ok (.iconst 0, 1) := by decide +kernel
theorem dX11_drawn_26 : decode cX11_drawn 26 = .ok (.istore 5, 2) := by decide +kernel
theorem dX11_drawn_28 : decode cX11_drawn 28 = .ok (.iconst 0, 1) := by decide +kernel
theorem dX11_drawn_29 : decode cX11_drawn 29 = .ok (.istore 6, 2) := by decide +kernel
theorem dX11_drawn_31 : decode cX11_drawn 31 = .ok (.iload 6, 2) := by decide +kernel
theorem dX11_drawn_33 : decode cX11_drawn 33 = .ok (.iload_n 2, 1) := by decide +kernel
theorem dX11_drawn_34 : decode cX11_drawn 34 = .ok (.if_icmp .ge 61, 3) := by decide +kernel
theorem dX11_drawn_37 : decode cX11_drawn 37 = .ok (.aload_n 0, 1) := by decide +kernel
theorem dX11_drawn_38 : decode cX11_drawn 38 = .ok (.getfield 13, 3) := by decide +kernel
theorem dX11_drawn_41 : decode cX11_drawn 41 = .ok (.iconst 1, 1) := by decide +kernel
theorem dX11_drawn_42 : decode cX11_drawn 42 = .ok (.iaload, 1) := by decide +kernel
theorem dX11_drawn_43 : decode cX11_drawn 43 = .ok (.ifCond .le 52, 3) := by decide +kernel
theorem dX11_drawn_46 : decode cX11_drawn 46 = .ok (.ldc2_w 161, 3) := by decide +kernel
theorem dX11_drawn_49 : decode cX11_drawn 49 = .ok (.lload_n 3, 1) := by decide +kernel
theorem dX11_drawn_50 : decode cX11_drawn 50 = .ok (.lmul, 1) := by decide +kernel
theorem dX11_drawn_51 : decode cX11_drawn 51 = .ok (.ldc2_w 163, 3) := by decide +kernel
theorem dX11_drawn_54 : decode cX11_drawn 54 = .ok (.ladd, 1) := by decide +kernel
theorem dX11_drawn_55 : decode cX11_drawn 55 = .ok (.ldc2_w 165, 3) := by decide +kernel
theorem dX11_drawn_58 : decode cX11_drawn 58 = .ok (.lrem, 1) := by decide +kernel
theorem dX11_drawn_59 : decode cX11_drawn 59 = .ok (.lstore_n 3, 1) := by decide +kernel
theorem dX11_drawn_60 : decode cX11_drawn 60 = .ok (.iload 5, 2) := by decide +kernel
theorem dX11_drawn_62 : decode cX11_drawn 62 = .ok (.aload_n 0, 1) := by decide +kernel
theorem dX11_drawn_63 : decode cX11_drawn 63 = .ok (.iload 5, 2) := by decide +kernel
theorem dX11_drawn_65 : decode cX11_drawn 65 = .ok (.lload_n 3, 1) := by decide +kernel
theorem dX11_drawn_66 : decode cX11_drawn 66 = .ok (.aload_n 0, 1) := by decide +kernel
theorem dX11_drawn_67 : decode cX11_drawn 67 = .ok (.getfield 13, 3) := by decide +kernel
theorem dX11_drawn_70 : decode cX11_drawn 70 = .ok (.iconst 1, 1) := by decide +kernel
theorem dX11_drawn_71 : decode cX11_drawn 71 = .ok (.iaload, 1) := by decide +kernel
theorem dX11_drawn_72 : decode cX11_drawn 72 = .ok (.i2l, 1) := by decide +kernel
theorem dX11_drawn_73 : decode cX11_drawn 73 = .ok (.lrem, 1) := by decide +kernel
theorem dX11_drawn_74 : decode cX11_drawn 74 = .ok (.l2i, 1) := by decide +kernel
theorem dX11_drawn_75 : decode cX11_drawn 75 = .ok (.invokevirtual 148, 3) := by decide +kernel
theorem dX11_drawn_78 : decode cX11_drawn 78 = .ok (.ifCond .eq 7, 3) := by decide +kernel
theorem dX11_drawn_81 : decode cX11_drawn 81 = .ok (.iconst 1, 1) := by decide +kernel
theorem dX11_drawn_82 : decode cX11_drawn 82 = .ok (.goto 4, 3) := by decide +kernel
theorem dX11_drawn_85 : decode cX11_drawn 85 = .ok (.iconst 0, 1) := by decide +kernel
theorem dX11_drawn_86 : decode cX11_drawn 86 = .ok (.iadd, 1) := by decide +kernel
theorem dX11_drawn_87 : decode cX11_drawn 87 = .ok (.istore 5, 2) := by decide +kernel
theorem dX11_drawn_89 : decode cX11_drawn 89 = .ok (.iinc 6 1, 3) := by decide +kernel
theorem dX11_drawn_92 : decode cX11_drawn 92 = .ok (.goto (-61), 3) := by decide +kernel
theorem dX11_drawn_95 : decode cX11_drawn 95 = .ok (.aload_n 0, 1) := by decide +kernel
theorem dX11_drawn_96 : decode cX11_drawn 96 = .ok (.iload 5, 2) := by decide +kernel
theorem dX11_drawn_98 : decode cX11_drawn 98 = .ok (.invokevirtual 151, 3) := by decide +kernel
theorem dX11_drawn_101 : decode cX11_drawn 101 = .ok (.ireturn, 1) := by decide +kernel
set_option maxRecDepth 20000 in
theorem ggX11_odds_X11_in : GoodIn wsX11_odds wsX11_in := goodIn_r _ [5] (by decide +kernel) (by decide +kernel)
set_option maxRecDepth 20000 in
theorem gX11_odds_X11_in : GoodIn wsX11_odds (va_wsS RX11 54 yX11_in wsX11_in) := goodIn_app (goodIn_of _ (by decide +kernel)) ggX11_odds_X11_in
set_option maxRecDepth 20000 in
theorem ggX11_odds_X11_isDone : GoodIn wsX11_odds wsX11_isDone := goodIn_r _ [9, 10, 11, 12, 4, 13, 14, 15, 16, 17, 18, 19, 20, 21, 22, 23, 24, 25, 26, 27, 28, 29, 30, 31, 32, 33, 34, 35] (by decide +kernel) (by decide +kernel)
set_option maxRecDepth 20000 in
theorem gX11_odds_X11_isDone : GoodIn wsX11_odds (wsV RX11 113 RX11 yX11_isDone wsX11_isDone) := goodIn_app (goodIn_of _ (by decide +kernel)) ggX11_odds_X11_isDone
set_option maxRecDepth 20000 in
theorem ggX11_odds_X11_has : GoodIn wsX11_odds wsX11_has := goodIn_r _ [13] (by decide +kernel) (by decide +kernel)
set_option maxRecDepth 20000 in
theorem gX11_odds_X11_has : GoodIn wsX11_odds (va_wsS RX11 106 yX11_has wsX11_has) := goodIn_app (goodIn_of _ (by decide +kernel)) ggX11_odds_X11_has
theorem dX11_odds_0 : decode cX11_odds 0 = .ok (.iload_n 1, 1) := by decide +kernel
theorem dX11_odds_1 : decode cX11_odds 1 = .ok (.iconst 0, 1) := by decide +kernel
theorem dX11_odds_2 : decode cX11_odds 2 = .ok (.bipush 10, 2) := by decide +kernel
theorem dX11_odds_4 : decode cX11_odds 4 = .ok (.invokestatic 54, 3) := by decide +kernel
theorem dX11_odds_7 : decode cX11_odds 7 = .ok (.ifCond .eq 22, 3) := by decide +kernel
theorem dX11_odds_10 : decode cX11_odds 10 = .ok (.iload_n 2, 1) := by decide +kernel
theorem dX11_odds_11 : decode cX11_odds 11 = .ok (.iconst 0, 1) := by decide +kernel
theorem dX11_odds_12 : decode cX11_odds 12 = .ok (.bipush 8, 2) := by decide +kernel
theorem dX11_odds_14 : decode cX11_odds 14 = .ok (.invokestatic 54, 3) := by decide +kernel
theorem dX11_odds_17 : decode cX11_odds 17 = .ok (.ifCond .eq 12, 3) := by decide +kernel
theorem dX11_odds_20 : decode cX11_odds 20 = .ok (.iload_n 3, 1) := by decide +kernel
theorem dX11_odds_21 : decode cX11_odds 21 = .ok (.iconst 0, 1) := by decide +kernel
theorem dX11_odds_22 : decode cX11_odds 22 = .ok (.iconst 1, 1) := by decide +kernel
theorem dX11_odds_23 : decode cX11_odds 23 = .ok (.invokestatic 54, 3) := by decide +kernel
theorem dX11_odds_26 : decode cX11_odds 26 = .ok (.ifCond .ne 5, 3) := by decide +kernel
theorem dX11_odds_29 : decode cX11_odds 29 = .ok (.iconst (-1), 1) := by decide +kernel
theorem dX11_odds_30 : decode cX11_odds 30 = .ok (.ireturn, 1) := by decide +kernel
theorem dX11_odds_31 : decode cX11_odds 31 = .ok (.iconst 0, 1) := by decide +kernel
theorem dX11_odds_32 : decode cX11_odds 32 = .ok (.istore 4, 2) := by decide +kernel
theorem dX11_odds_34 : decode cX11_odds 34 = .ok (.iconst 1, 1) := by decide +kernel
theorem dX11_odds_35 : decode cX11_odds 35 = .ok (.istore 5, 2) := by decide +kernel
theorem dX11_odds_37 : decode cX11_odds 37 = .ok (.iconst 0, 1) := by decide +kernel
