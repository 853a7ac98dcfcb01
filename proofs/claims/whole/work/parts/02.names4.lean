theorem dX11_init_24 : decode cX11_init 24 = .ok (.newarray .int, 2) := by decide +kernel
theorem dX11_init_26 : decode cX11_init 26 = .ok (.putfield 16, 3) := by decide +kernel
theorem dX11_init_29 : decode cX11_init 29 = .ok (.aload_n 0, 1) := by decide +kernel
theorem dX11_init_30 : decode cX11_init 30 = .ok (.sipush 254, 3) := by decide +kernel
theorem dX11_init_33 : decode cX11_init 33 = .ok (.newarray .int, 2) := by decide +kernel
theorem dX11_init_35 : decode cX11_init 35 = .ok (.putfield 19, 3) := by decide +kernel
theorem dX11_init_38 : decode cX11_init 38 = .ok (.aload_n 0, 1) := by decide +kernel
theorem dX11_init_39 : decode cX11_init 39 = .ok (.sipush 508, 3) := by decide +kernel
theorem dX11_init_42 : decode cX11_init 42 = .ok (.newarray .int, 2) := by decide +kernel
theorem dX11_init_44 : decode cX11_init 44 = .ok (.putfield 22, 3) := by decide +kernel
theorem dX11_init_47 : decode cX11_init 47 = .ok (.aload_n 0, 1) := by decide +kernel
theorem dX11_init_48 : decode cX11_init 48 = .ok (.iconst 2, 1) := by decide +kernel
theorem dX11_init_49 : decode cX11_init 49 = .ok (.newarray .boolean, 2) := by decide +kernel
theorem dX11_init_51 : decode cX11_init 51 = .ok (.putfield 25, 3) := by decide +kernel
theorem dX11_init_54 : decode cX11_init 54 = .ok (.aload_n 0, 1) := by decide +kernel
theorem dX11_init_55 : decode cX11_init 55 = .ok (.bipush 6, 2) := by decide +kernel
theorem dX11_init_57 : decode cX11_init 57 = .ok (.newarray .int, 2) := by decide +kernel
theorem dX11_init_59 : decode cX11_init 59 = .ok (.putfield 29, 3) := by decide +kernel
theorem dX11_init_62 : decode cX11_init 62 = .ok (.aload_n 0, 1) := by decide +kernel
theorem dX11_init_63 : decode cX11_init 63 = .ok (.bipush 6, 2) := by decide +kernel
theorem dX11_init_65 : decode cX11_init 65 = .ok (.newarray .int, 2) := by decide +kernel
theorem dX11_init_67 : decode cX11_init 67 = .ok (.putfield 32, 3) := by decide +kernel
theorem dX11_init_70 : decode cX11_init 70 = .ok (.aload_n 0, 1) := by decide +kernel
theorem dX11_init_71 : decode cX11_init 71 = .ok (.bipush 8, 2) := by decide +kernel
theorem dX11_init_73 : decode cX11_init 73 = .ok (.newarray .int, 2) := by decide +kernel
theorem dX11_init_75 : decode cX11_init 75 = .ok (.putfield 35, 3) := by decide +kernel
theorem dX11_init_78 : decode cX11_init 78 = .ok (.aload_n 0, 1) := by decide +kernel
theorem dX11_init_79 : decode cX11_init 79 = .ok (.bipush 8, 2) := by decide +kernel
theorem dX11_init_81 : decode cX11_init 81 = .ok (.newarray .int, 2) := by decide +kernel
theorem dX11_init_83 : decode cX11_init 83 = .ok (.putfield 38, 3) := by decide +kernel
theorem dX11_init_86 : decode cX11_init 86 = .ok (.aload_n 0, 1) := by decide +kernel
theorem dX11_init_87 : decode cX11_init 87 = .ok (.bipush 6, 2) := by decide +kernel
theorem dX11_init_89 : decode cX11_init 89 = .ok (.newarray .int, 2) := by decide +kernel
theorem dX11_init_91 : decode cX11_init 91 = .ok (.putfield 41, 3) := by decide +kernel
theorem dX11_init_94 : decode cX11_init 94 = .ok (.aload_n 0, 1) := by decide +kernel
theorem dX11_init_95 : decode cX11_init 95 = .ok (.sipush 256, 3) := by decide +kernel
theorem dX11_init_98 : decode cX11_init 98 = .ok (.newarray .int, 2) := by decide +kernel
theorem dX11_init_100 : decode cX11_init 100 = .ok (.putfield 44, 3) := by decide +kernel
theorem dX11_init_103 : decode cX11_init 103 = .ok (.aload_n 0, 1) := by decide +kernel
theorem dX11_init_104 : decode cX11_init 104 = .ok (.invokevirtual 47, 3) := by decide +kernel
theorem dX11_init_107 : decode cX11_init 107 = .ok (.pop, 1) := by decide +kernel
theorem dX11_init_108 : decode cX11_init 108 = .ok (.aload_n 0, 1) := by decide +kernel
theorem dX11_init_109 : decode cX11_init 109 = .ok (.invokevirtual 51, 3) := by decide +kernel
theorem dX11_init_112 : decode cX11_init 112 = .ok (.return_, 1) := by decide +kernel
theorem dX11_in_0 : decode cX11_in 0 = .ok (.iload_n 0, 1) := by decide +kernel
theorem dX11_in_1 : decode cX11_in 1 = .ok (.iload_n 1, 1) := by decide +kernel
theorem dX11_in_2 : decode cX11_in 2 = .ok (.if_icmp .lt 12, 3) := by decide +kernel
theorem dX11_in_5 : decode cX11_in 5 = .ok (.iload_n 0, 1) := by decide +kernel
theorem dX11_in_6 : decode cX11_in 6 = .ok (.iload_n 2, 1) := by decide +kernel
theorem dX11_in_7 : decode cX11_in 7 = .ok (.if_icmp .gt 7, 3) := by decide +kernel
theorem dX11_in_10 : decode cX11_in 10 = .ok (.iconst 1, 1) := by decide +kernel
theorem dX11_in_11 : decode cX11_in 11 = .ok (.goto 4, 3) := by decide +kernel
theorem dX11_in_14 : decode cX11_in 14 = .ok (.iconst 0, 1) := by decide +kernel
theorem dX11_in_15 : decode cX11_in 15 = .ok (.ireturn, 1) := by decide +kernel
theorem dX11_has_0 : decode cX11_has 0 = .ok (.iload_n 0, 1) := by decide +kernel
theorem dX11_has_1 : decode cX11_has 1 = .ok (.iload_n 1, 1) := by decide +kernel
theorem dX11_has_2 : decode cX11_has 2 = .ok (.ishr, 1) := by decide +kernel
theorem dX11_has_3 : decode cX11_has 3 = .ok (.iconst 1, 1) := by decide +kernel
theorem dX11_has_4 : decode cX11_has 4 = .ok (.iand, 1) := by decide +kernel
theorem dX11_has_5 : decode cX11_has 5 = .ok (.iconst 1, 1) := by decide +kernel
theorem dX11_has_6 : decode cX11_has 6 = .ok (.if_icmp .ne 7, 3) := by decide +kernel
theorem dX11_has_9 : decode cX11_has 9 = .ok (.iconst 1, 1) := by decide +kernel
theorem dX11_has_10 : decode cX11_has 10 = .ok (.goto 4, 3) := by decide +kernel
theorem dX11_has_13 : decode cX11_has 13 = .ok (.iconst 0, 1) := by decide +kernel
theorem dX11_has_14 : decode cX11_has 14 = .ok (.ireturn, 1) := by decide +kernel
theorem dX11_far_0 : decode cX11_far 0 = .ok (.iload_n 0, 1) := by decide +kernel
theorem dX11_far_1 : decode cX11_far 1 = .ok (.iload_n 1, 1) := by decide +kernel
theorem dX11_far_2 : decode cX11_far 2 = .ok (.if_icmp .le 9, 3) := by decide +kernel
theorem dX11_far_5 : decode cX11_far 5 = .ok (.iload_n 0, 1) := by decide +kernel
theorem dX11_far_6 : decode cX11_far 6 = .ok (.iload_n 1, 1) := by decide +kernel
theorem dX11_far_7 : decode cX11_far 7 = .ok (.isub, 1) := by decide +kernel
theorem dX11_far_8 : decode cX11_far 8 = .ok (.goto 6, 3) := by decide +kernel
theorem dX11_far_11 : decode cX11_far 11 = .ok (.iload_n 1, 1) := by decide +kernel
theorem dX11_far_12 : decode cX11_far 12 = .ok (.iload_n 0, 1) := by decide +kernel
theorem dX11_far_13 : decode cX11_far 13 = .ok (.isub, 1) := by decide +kernel
theorem dX11_far_14 : decode cX11_far 14 = .ok (.ireturn, 1) := by decide +kernel
set_option maxRecDepth 20000 in
theorem ggX11_isOne_X11_in : GoodIn wsX11_isOne wsX11_in := goodIn_r _ [5] (by decide +kernel) (by decide +kernel)
set_option maxRecDepth 20000 in
theorem gX11_isOne_X11_in : GoodIn wsX11_isOne (va_wsS RX11 54 yX11_in wsX11_in) := goodIn_app (goodIn_of _ (by decide +kernel)) ggX11_isOne_X11_in
theorem dX11_isOne_0 : decode cX11_isOne 0 = .ok (.iload_n 1, 1) := by decide +kernel
theorem dX11_isOne_1 : decode cX11_isOne 1 = .ok (.iconst 0, 1) := by decide +kernel
theorem dX11_isOne_2 : decode cX11_isOne 2 = .ok (.aload_n 0, 1) := by decide +kernel
theorem dX11_isOne_3 : decode cX11_isOne 3 = .ok (.getfield 13, 3) := by decide +kernel
theorem dX11_isOne_6 : decode cX11_isOne 6 = .ok (.iconst 0, 1) := by decide +kernel
theorem dX11_isOne_7 : decode cX11_isOne 7 = .ok (.iaload, 1) := by decide +kernel
theorem dX11_isOne_8 : decode cX11_isOne 8 = .ok (.iconst 1, 1) := by decide +kernel
theorem dX11_isOne_9 : decode cX11_isOne 9 = .ok (.isub, 1) := by decide +kernel
theorem dX11_isOne_10 : decode cX11_isOne 10 = .ok (.invokestatic 54, 3) := by decide +kernel
theorem dX11_isOne_13 : decode cX11_isOne 13 = .ok (.ireturn, 1) := by decide +kernel
set_option maxRecDepth 20000 in
theorem ggX11_isDeed_X11_in : GoodIn wsX11_isDeed wsX11_in := goodIn_r _ [5] (by decide +kernel) (by decide +kernel)
set_option maxRecDepth 20000 in
theorem gX11_isDeed_X11_in : GoodIn wsX11_isDeed (va_wsS RX11 54 yX11_in wsX11_in) := goodIn_app (goodIn_of _ (by decide +kernel)) ggX11_isDeed_X11_in
theorem dX11_isDeed_0 : decode cX11_isDeed 0 = .ok (.iload_n 1, 1) := by decide +kernel
theorem dX11_isDeed_1 : decode cX11_isDeed 1 = .ok (.iconst 0, 1) := by decide +kernel
theorem dX11_isDeed_2 : decode cX11_isDeed 2 = .ok (.aload_n 0, 1) := by decide +kernel
theorem dX11_isDeed_3 : decode cX11_isDeed 3 = .ok (.getfield 13, 3) := by decide +kernel
theorem dX11_isDeed_6 : decode cX11_isDeed 6 = .ok (.iconst 1, 1) := by decide +kernel
theorem dX11_isDeed_7 : decode cX11_isDeed 7 = .ok (.iaload, 1) := by decide +kernel
theorem dX11_isDeed_8 : decode cX11_isDeed 8 = .ok (.iconst 1, 1) := by decide +kernel
theorem dX11_isDeed_9 : decode cX11_isDeed 9 = .ok (.isub, 1) := by decide +kernel
theorem dX11_isDeed_10 : decode cX11_isDeed 10 = .ok (.invokestatic 54, 3) := by decide +kernel
theorem dX11_isDeed_13 : decode cX11_isDeed 13 = .ok (.ireturn, 1) := by decide +kernel
set_option maxRecDepth 20000 in
theorem ggX11_type_X11_in : GoodIn wsX11_type wsX11_in := goodIn_r _ [6] (by decide +kernel) (by decide +kernel)
set_option maxRecDepth 20000 in
theorem gX11_type_X11_in : GoodIn wsX11_type (va_wsS RX11 54 yX11_in wsX11_in) := goodIn_app (goodIn_of _ (by decide +kernel)) ggX11_type_X11_in
theorem dX11_type_0 : decode cX11_type 0 = .ok (.iload_n 1, 1) := by decide +kernel
theorem dX11_type_1 : decode cX11_type 1 = .ok (.iconst 0, 1) := by decide +kernel
theorem dX11_type_2 : decode cX11_type 2 = .ok (.sipush 255, 3) := by decide +kernel
theorem dX11_type_5 : decode cX11_type 5 = .ok (.invokestatic 54, 3) := by decide +kernel
theorem dX11_type_8 : decode cX11_type 8 = .ok (.ifCond .ne 5, 3) := by decide +kernel
theorem dX11_type_11 : decode cX11_type 11 = .ok (.iconst (-1), 1) := by decide +kernel
theorem dX11_type_12 : decode cX11_type 12 = .ok (.ireturn, 1) := by decide +kernel
theorem dX11_type_13 : decode cX11_type 13 = .ok (.aload_n 0, 1) := by decide +kernel
theorem dX11_type_14 : decode cX11_type 14 = .ok (.getfield 58, 3) := by decide +kernel
theorem dX11_type_17 : decode cX11_type 17 = .ok (.sipush 180, 3) := by decide +kernel
theorem dX11_type_20 : decode cX11_type 20 = .ok (.if_icmp .ne 6, 3) := by decide +kernel
theorem dX11_type_23 : decode cX11_type 23 = .ok (.bipush (-3), 2) := by decide +kernel
theorem dX11_type_25 : decode cX11_type 25 = .ok (.ireturn, 1) := by decide +kernel
theorem dX11_type_26 : decode cX11_type 26 = .ok (.aload_n 0, 1) := by decide +kernel
theorem dX11_type_27 : decode cX11_type 27 = .ok (.getfield 7, 3) := by decide +kernel
theorem dX11_type_30 : decode cX11_type 30 = .ok (.aload_n 0, 1) := by decide +kernel
theorem dX11_type_31 : decode cX11_type 31 = .ok (.getfield 58, 3) := by decide +kernel
theorem dX11_type_34 : decode cX11_type 34 = .ok (.iload_n 1, 1) := by decide +kernel
theorem dX11_type_35 : decode cX11_type 35 = .ok (.iastore, 1) := by decide +kernel
theorem dX11_type_36 : decode cX11_type 36 = .ok (.aload_n 0, 1) := by decide +kernel
theorem dX11_type_37 : decode cX11_type 37 = .ok (.dup, 1) := by decide +kernel
theorem dX11_type_38 : decode cX11_type 38 = .ok (.getfield 58, 3) := by decide +kernel
theorem dX11_type_41 : decode cX11_type 41 = .ok (.iconst 1, 1) := by decide +kernel
theorem dX11_type_42 : decode cX11_type 42 = .ok (.iadd, 1) := by decide +kernel
theorem dX11_type_43 : decode cX11_type 43 = .ok (.putfield 58, 3) := by decide +kernel
theorem dX11_type_46 : decode cX11_type 46 = .ok (.aload_n 0, 1) := by decide +kernel
theorem dX11_type_47 : decode cX11_type 47 = .ok (.getfield 58, 3) := by decide +kernel
theorem dX11_type_50 : decode cX11_type 50 = .ok (.ireturn, 1) := by decide +kernel
theorem dX11_clear_0 : decode cX11_clear 0 = .ok (.aload_n 0, 1) := by decide +kernel
theorem dX11_clear_1 : decode cX11_clear 1 = .ok (.getfield 58, 3) := by decide +kernel
theorem dX11_clear_4 : decode cX11_clear 4 = .ok (.istore_n 1, 1) := by decide +kernel
theorem dX11_clear_5 : decode cX11_clear 5 = .ok (.aload_n 0, 1) := by decide +kernel
theorem dX11_clear_6 : decode cX11_clear 6 = .ok (.iconst 0, 1) := by decide +kernel
theorem dX11_clear_7 : decode cX11_clear 7 = .ok (.putfield 58, 3) := by decide +kernel
theorem dX11_clear_10 : decode cX11_clear 10 = .ok (.iload_n 1, 1) := by decide +kernel
theorem dX11_clear_11 : decode cX11_clear 11 = .ok (.ireturn, 1) := by decide +kernel
theorem dX11_letterAt_0 : decode cX11_letterAt 0 = .ok (.iload_n 1, 1) := by decide +kernel
theorem dX11_letterAt_1 : decode cX11_letterAt 1 = .ok (.aload_n 0, 1) := by decide +kernel
theorem dX11_letterAt_2 : decode cX11_letterAt 2 = .ok (.getfield 58, 3) := by decide +kernel
theorem dX11_letterAt_5 : decode cX11_letterAt 5 = .ok (.if_icmp .ge 12, 3) := by decide +kernel
theorem dX11_letterAt_8 : decode cX11_letterAt 8 = .ok (.aload_n 0, 1) := by decide +kernel
theorem dX11_letterAt_9 : decode cX11_letterAt 9 = .ok (.getfield 7, 3) := by decide +kernel
theorem dX11_letterAt_12 : decode cX11_letterAt 12 = .ok (.iload_n 1, 1) := by decide +kernel
theorem dX11_letterAt_13 : decode cX11_letterAt 13 = .ok (.iaload, 1) := by decide +kernel
theorem dX11_letterAt_14 : decode cX11_letterAt 14 = .ok (.goto 4, 3) := by decide +kernel
theorem dX11_letterAt_17 : decode cX11_letterAt 17 = .ok (.iconst (-1), 1) := by decide +kernel
theorem dX11_letterAt_18 : decode cX11_letterAt 18 = .ok (.ireturn, 1) := by decide +kernel
set_option maxRecDepth 20000 in
theorem ggX11_isLetter_X11_in : GoodIn wsX11_isLetter wsX11_in := goodIn_r _ [4] (by decide +kernel) (by decide +kernel)
set_option maxRecDepth 20000 in
theorem gX11_isLetter_X11_in : GoodIn wsX11_isLetter (va_wsS RX11 54 yX11_in wsX11_in) := goodIn_app (goodIn_of _ (by decide +kernel)) ggX11_isLetter_X11_in
theorem dX11_isLetter_0 : decode cX11_isLetter 0 = .ok (.iload_n 0, 1) := by decide +kernel
theorem dX11_isLetter_1 : decode cX11_isLetter 1 = .ok (.bipush 97, 2) := by decide +kernel
theorem dX11_isLetter_3 : decode cX11_isLetter 3 = .ok (.bipush 122, 2) := by decide +kernel
theorem dX11_isLetter_5 : decode cX11_isLetter 5 = .ok (.invokestatic 54, 3) := by decide +kernel
theorem dX11_isLetter_8 : decode cX11_isLetter 8 = .ok (.ireturn, 1) := by decide +kernel
set_option maxRecDepth 20000 in
theorem ggX11_isDigit_X11_in : GoodIn wsX11_isDigit wsX11_in := goodIn_r _ [4] (by decide +kernel) (by decide +kernel)
set_option maxRecDepth 20000 in
theorem gX11_isDigit_X11_in : GoodIn wsX11_isDigit (va_wsS RX11 54 yX11_in wsX11_in) := goodIn_app (goodIn_of _ (by decide +kernel)) ggX11_isDigit_X11_in
theorem dX11_isDigit_0 : decode cX11_isDigit 0 = .ok (.iload_n 0, 1) := by decide +kernel
theorem dX11_isDigit_1 : decode cX11_isDigit 1 = .ok (.bipush 48, 2) := by decide +kernel
theorem dX11_isDigit_3 : decode cX11_isDigit 3 = .ok (.bipush 57, 2) := by decide +kernel
theorem dX11_isDigit_5 : decode cX11_isDigit 5 = .ok (.invokestatic 54, 3) := by decide +kernel
theorem dX11_isDigit_8 : decode cX11_isDigit 8 = .ok (.ireturn, 1) := by decide +kernel
set_option maxRecDepth 20000 in
theorem ggX11_token_X11_letterAt : GoodIn wsX11_token wsX11_letterAt := goodIn_r _ [10, 11, 5, 21, 22, 23, 24, 25, 26, 27, 28, 29, 30, 31, 32, 33, 34, 35, 36, 37, 38, 39, 40, 41, 42] (by decide +kernel) (by decide +kernel)
set_option maxRecDepth 20000 in
theorem gX11_token_X11_letterAt : GoodIn wsX11_token (wsV RX11 65 RX11 yX11_letterAt wsX11_letterAt) := goodIn_app (goodIn_of _ (by decide +kernel)) ggX11_token_X11_letterAt
set_option maxRecDepth 20000 in
theorem ggX11_token_X11_isLetter : GoodIn wsX11_token wsX11_isLetter := goodIn_r _ [14, 15, 16, 9, 17] (by decide +kernel) (by decide +kernel)
set_option maxRecDepth 20000 in
theorem gX11_token_X11_isLetter : GoodIn wsX11_token (va_wsS RX11 72 yX11_isLetter wsX11_isLetter) := goodIn_app (goodIn_of _ (by decide +kernel)) ggX11_token_X11_isLetter
set_option maxRecDepth 20000 in
theorem ggX11_token_X11_isDigit : GoodIn wsX11_token wsX11_isDigit := goodIn_r _ [20, 15, 16, 9, 17] (by decide +kernel) (by decide +kernel)
set_option maxRecDepth 20000 in
theorem gX11_token_X11_isDigit : GoodIn wsX11_token (va_wsS RX11 76 yX11_isDigit wsX11_isDigit) := goodIn_app (goodIn_of _ (by decide +kernel)) ggX11_token_X11_isDigit
theorem dX11_token_0 : decode cX11_token 0 = .ok (.aload_n 0, 1) := by decide +kernel
theorem dX11_token_1 : decode cX11_token 1 = .ok (.aload_n 0, 1) := by decide +kernel
theorem dX11_token_2 : decode cX11_token 2 = .ok (.getfield 62, 3) := by decide +kernel
theorem dX11_token_5 : decode cX11_token 5 = .ok (.invokevirtual 65, 3) := by decide +kernel
theorem dX11_token_8 : decode cX11_token 8 = .ok (.bipush 32, 2) := by decide +kernel
theorem dX11_token_10 : decode cX11_token 10 = .ok (.if_icmp .ne 16, 3) := by decide +kernel
theorem dX11_token_13 : decode cX11_token 13 = .ok (.aload_n 0, 1) := by decide +kernel
theorem dX11_token_14 : decode cX11_token 14 = .ok (.dup, 1) := by decide +kernel
theorem dX11_token_15 : decode cX11_token 15 = .ok (.getfield 62, 3) := by decide +kernel
theorem dX11_token_18 : decode cX11_token 18 = .ok (.iconst 1, 1) := by decide +kernel
theorem dX11_token_19 : decode cX11_token 19 = .ok (.iadd, 1) := by decide +kernel
theorem dX11_token_20 : decode cX11_token 20 = .ok (.putfield 62, 3) := by decide +kernel
theorem dX11_token_23 : decode cX11_token 23 = .ok (.goto (-23), 3) := by decide +kernel
theorem dX11_token_26 : decode cX11_token 26 = .ok (.aload_n 0, 1) := by decide +kernel
theorem dX11_token_27 : decode cX11_token 27 = .ok (.aload_n 0, 1) := by decide +kernel
theorem dX11_token_28 : decode cX11_token 28 = .ok (.getfield 62, 3) := by decide +kernel
theorem dX11_token_31 : decode cX11_token 31 = .ok (.putfield 69, 3) := by decide +kernel
theorem dX11_token_34 : decode cX11_token 34 = .ok (.aload_n 0, 1) := by decide +kernel
theorem dX11_token_35 : decode cX11_token 35 = .ok (.aload_n 0, 1) := by decide +kernel
theorem dX11_token_36 : decode cX11_token 36 = .ok (.getfield 62, 3) := by decide +kernel
theorem dX11_token_39 : decode cX11_token 39 = .ok (.invokevirtual 65, 3) := by decide +kernel
theorem dX11_token_42 : decode cX11_token 42 = .ok (.istore_n 1, 1) := by decide +kernel
theorem dX11_token_43 : decode cX11_token 43 = .ok (.aload_n 0, 1) := by decide +kernel
theorem dX11_token_44 : decode cX11_token 44 = .ok (.iload_n 1, 1) := by decide +kernel
theorem dX11_token_45 : decode cX11_token 45 = .ok (.ifCond .ge 7, 3) := by decide +kernel
theorem dX11_token_48 : decode cX11_token 48 = .ok (.iconst 0, 1) := by decide +kernel
theorem dX11_token_49 : decode cX11_token 49 = .ok (.goto 36, 3) := by decide +kernel
theorem dX11_token_52 : decode cX11_token 52 = .ok (.iload_n 1, 1) := by decide +kernel
theorem dX11_token_53 : decode cX11_token 53 = .ok (.invokestatic 72, 3) := by decide +kernel
theorem dX11_token_56 : decode cX11_token 56 = .ok (.ifCond .eq 7, 3) := by decide +kernel
theorem dX11_token_59 : decode cX11_token 59 = .ok (.iconst 1, 1) := by decide +kernel
theorem dX11_token_60 : decode cX11_token 60 = .ok (.goto 25, 3) := by decide +kernel
theorem dX11_token_63 : decode cX11_token 63 = .ok (.iload_n 1, 1) := by decide +kernel
theorem dX11_token_64 : decode cX11_token 64 = .ok (.invokestatic 76, 3) := by decide +kernel
theorem dX11_token_67 : decode cX11_token 67 = .ok (.ifCond .eq 7, 3) := by decide +kernel
theorem dX11_token_70 : decode cX11_token 70 = .ok (.iconst 2, 1) := by decide +kernel
theorem dX11_token_71 : decode cX11_token 71 = .ok (.goto 14, 3) := by decide +kernel
theorem dX11_token_74 : decode cX11_token 74 = .ok (.iload_n 1, 1) := by decide +kernel
theorem dX11_token_75 : decode cX11_token 75 = .ok (.bipush 59, 2) := by decide +kernel
theorem dX11_token_77 : decode cX11_token 77 = .ok (.if_icmp .ne 7, 3) := by decide +kernel
theorem dX11_token_80 : decode cX11_token 80 = .ok (.iconst 3, 1) := by decide +kernel
theorem dX11_token_81 : decode cX11_token 81 = .ok (.goto 4, 3) := by decide +kernel
theorem dX11_token_84 : decode cX11_token 84 = .ok (.iconst 4, 1) := by decide +kernel
theorem dX11_token_85 : decode cX11_token 85 = .ok (.putfield 79, 3) := by decide +kernel
theorem dX11_token_88 : decode cX11_token 88 = .ok (.aload_n 0, 1) := by decide +kernel
theorem dX11_token_89 : decode cX11_token 89 = .ok (.iload_n 1, 1) := by decide +kernel
theorem dX11_token_90 : decode cX11_token 90 = .ok (.putfield 82, 3) := by decide +kernel
theorem dX11_token_93 : decode cX11_token 93 = .ok (.aload_n 0, 1) := by decide +kernel
theorem dX11_token_94 : decode cX11_token 94 = .ok (.dup, 1) := by decide +kernel
theorem dX11_token_95 : decode cX11_token 95 = .ok (.getfield 62, 3) := by decide +kernel
theorem dX11_token_98 : decode cX11_token 98 = .ok (.aload_n 0, 1) := by decide +kernel
theorem dX11_token_99 : decode cX11_token 99 = .ok (.getfield 79, 3) := by decide +kernel
theorem dX11_token_102 : decode cX11_token 102 = .ok (.ifCond .ne 7, 3) := by decide +kernel
theorem dX11_token_105 : decode cX11_token 105 = .ok (.iconst 0, 1) := by decide +kernel
theorem dX11_token_106 : decode cX11_token 106 = .ok (.goto 4, 3) := by decide +kernel
theorem dX11_token_109 : decode cX11_token 109 = .ok (.iconst 1, 1) := by decide +kernel
theorem dX11_token_110 : decode cX11_token 110 = .ok (.iadd, 1) := by decide +kernel
theorem dX11_token_111 : decode cX11_token 111 = .ok (.putfield 62, 3) := by decide +kernel
theorem dX11_token_114 : decode cX11_token 114 = .ok (.aload_n 0, 1) := by decide +kernel
theorem dX11_token_115 : decode cX11_token 115 = .ok (.getfield 79, 3) := by decide +kernel
theorem dX11_token_118 : decode cX11_token 118 = .ok (.iconst 1, 1) := by decide +kernel
theorem dX11_token_119 : decode cX11_token 119 = .ok (.if_icmp .ne 35, 3) := by decide +kernel
theorem dX11_token_122 : decode cX11_token 122 = .ok (.aload_n 0, 1) := by decide +kernel
theorem dX11_token_123 : decode cX11_token 123 = .ok (.aload_n 0, 1) := by decide +kernel
theorem dX11_token_124 : decode cX11_token 124 = .ok (.getfield 62, 3) := by decide +kernel
theorem dX11_token_127 : decode cX11_token 127 = .ok (.invokevirtual 65, 3) := by decide +kernel
theorem dX11_token_130 : decode cX11_token 130 = .ok (.invokestatic 72, 3) := by decide +kernel
theorem dX11_token_133 : decode cX11_token 133 = .ok (.ifCond .eq 21, 3) := by decide +kernel
theorem dX11_token_136 : decode cX11_token 136 = .ok (.aload_n 0, 1) := by decide +kernel
theorem dX11_token_137 : decode cX11_token 137 = .ok (.iconst 0, 1) := by decide +kernel
theorem dX11_token_138 : decode cX11_token 138 = .ok (.putfield 82, 3) := by decide +kernel
theorem dX11_token_141 : decode cX11_token 141 = .ok (.aload_n 0, 1) := by decide +kernel
theorem dX11_token_142 : decode cX11_token 142 = .ok (.dup, 1) := by decide +kernel
theorem dX11_token_143 : decode cX11_token 143 = .ok (.getfield 62, 3) := by decide +kernel
theorem dX11_token_146 : decode cX11_token 146 = .ok (.iconst 1, 1) := by decide +kernel
theorem dX11_token_147 : decode cX11_token 147 = .ok (.iadd, 1) := by decide +kernel
theorem dX11_token_148 : decode cX11_token 148 = .ok (.putfield 62, 3) := by decide +kernel
theorem dX11_token_151 : decode cX11_token 151 = .ok (.goto (-37), 3) := by decide +kernel
theorem dX11_token_154 : decode cX11_token 154 = .ok (.aload_n 0, 1) := by decide +kernel
theorem dX11_token_155 : decode cX11_token 155 = .ok (.getfield 79, 3) := by decide +kernel
theorem dX11_token_158 : decode cX11_token 158 = .ok (.iconst 2, 1) := by decide +kernel
theorem dX11_token_159 : decode cX11_token 159 = .ok (.if_icmp .ne 83, 3) := by decide +kernel
theorem dX11_token_162 : decode cX11_token 162 = .ok (.aload_n 0, 1) := by decide +kernel
theorem dX11_token_163 : decode cX11_token 163 = .ok (.iload_n 1, 1) := by decide +kernel
theorem dX11_token_164 : decode cX11_token 164 = .ok (.bipush 48, 2) := by decide +kernel
theorem dX11_token_166 : decode cX11_token 166 = .ok (.isub, 1) := by decide +kernel
theorem dX11_token_167 : decode cX11_token 167 = .ok (.putfield 82, 3) := by decide +kernel
theorem dX11_token_170 : decode cX11_token 170 = .ok (.aload_n 0, 1) := by decide +kernel
theorem dX11_token_171 : decode cX11_token 171 = .ok (.aload_n 0, 1) := by decide +kernel
theorem dX11_token_172 : decode cX11_token 172 = .ok (.getfield 62, 3) := by decide +kernel
theorem dX11_token_175 : decode cX11_token 175 = .ok (.invokevirtual 65, 3) := by decide +kernel
theorem dX11_token_178 : decode cX11_token 178 = .ok (.invokestatic 76, 3) := by decide +kernel
theorem dX11_token_181 : decode cX11_token 181 = .ok (.ifCond .eq 61, 3) := by decide +kernel
theorem dX11_token_184 : decode cX11_token 184 = .ok (.aload_n 0, 1) := by decide +kernel
theorem dX11_token_185 : decode cX11_token 185 = .ok (.iload_n 1, 1) := by decide +kernel
theorem dX11_token_186 : decode cX11_token 186 = .ok (.bipush 48, 2) := by decide +kernel
theorem dX11_token_188 : decode cX11_token 188 = .ok (.if_icmp .eq 12, 3) := by decide +kernel
theorem dX11_token_191 : decode cX11_token 191 = .ok (.aload_n 0, 1) := by decide +kernel
theorem dX11_token_192 : decode cX11_token 192 = .ok (.getfield 82, 3) := by decide +kernel
theorem dX11_token_195 : decode cX11_token 195 = .ok (.bipush 99, 2) := by decide +kernel
theorem dX11_token_197 : decode cX11_token 197 = .ok (.if_icmp .le 9, 3) := by decide +kernel
theorem dX11_token_200 : decode cX11_token 200 = .ok (.sipush 1000, 3) := by decide +kernel
theorem dX11_token_203 : decode cX11_token 203 = .ok (.goto 23, 3) := by decide +kernel
theorem dX11_token_206 : decode cX11_token 206 = .ok (.bipush 10, 2) := by decide +kernel
theorem dX11_token_208 : decode cX11_token 208 = .ok (.aload_n 0, 1) := by decide +kernel
theorem dX11_token_209 : decode cX11_token 209 = .ok (.getfield 82, 3) := by decide +kernel
theorem dX11_token_212 : decode cX11_token 212 = .ok (.imul, 1) := by decide +kernel
theorem dX11_token_213 : decode cX11_token 213 = .ok (.aload_n 0, 1) := by decide +kernel
theorem dX11_token_214 : decode cX11_token 214 = .ok (.getfield 7, 3) := by decide +kernel
theorem dX11_token_217 : decode cX11_token 217 = .ok (.aload_n 0, 1) := by decide +kernel
theorem dX11_token_218 : decode cX11_token 218 = .ok (.getfield 62, 3) := by decide +kernel
theorem dX11_token_221 : decode cX11_token 221 = .ok (.iaload, 1) := by decide +kernel
theorem dX11_token_222 : decode cX11_token 222 = .ok (.iadd, 1) := by decide +kernel
theorem dX11_token_223 : decode cX11_token 223 = .ok (.bipush 48, 2) := by decide +kernel
theorem dX11_token_225 : decode cX11_token 225 = .ok (.isub, 1) := by decide +kernel
theorem dX11_token_226 : decode cX11_token 226 = .ok (.putfield 82, 3) := by decide +kernel
theorem dX11_token_229 : decode cX11_token 229 = .ok (.aload_n 0, 1) := by decide +kernel
theorem dX11_token_230 : decode cX11_token 230 = .ok (.dup, 1) := by decide +kernel
theorem dX11_token_231 : decode cX11_token 231 = .ok (.getfield 62, 3) := by decide +kernel
theorem dX11_token_234 : decode cX11_token 234 = .ok (.iconst 1, 1) := by decide +kernel
theorem dX11_token_235 : decode cX11_token 235 = .ok (.iadd, 1) := by decide +kernel
theorem dX11_token_236 : decode cX11_token 236 = .ok (.putfield 62, 3) := by decide +kernel
theorem dX11_token_239 : decode cX11_token 239 = .ok (.goto (-69), 3) := by decide +kernel
theorem dX11_token_242 : decode cX11_token 242 = .ok (.return_, 1) := by decide +kernel
set_option maxRecDepth 20000 in
theorem ggX11_number_X11_token : GoodIn wsX11_number wsX11_token := goodIn_r _ [8, 9, 10, 3, 2, 11, 12, 13, 14, 7, 15, 16, 17, 18, 19, 20, 21, 22, 23, 24, 25, 26, 27, 28, 29, 30, 31, 32, 33, 34, 35, 36, 37, 38, 39, 40, 41, 42, 43, 44, 45, 46, 47] (by decide +kernel) (by decide +kernel)
set_option maxRecDepth 20000 in
theorem gX11_number_X11_token : GoodIn wsX11_number (wsV RX11 85 RX11 yX11_token wsX11_token) := goodIn_app (goodIn_of _ (by decide +kernel)) ggX11_number_X11_token
set_option maxRecDepth 20000 in
theorem ggX11_number_X11_in : GoodIn wsX11_number wsX11_in := goodIn_r _ [22] (by decide +kernel) (by decide +kernel)
set_option maxRecDepth 20000 in
theorem gX11_number_X11_in : GoodIn wsX11_number (va_wsS RX11 54 yX11_in wsX11_in) := goodIn_app (goodIn_of _ (by decide +kernel)) ggX11_number_X11_in
theorem dX11_number_0 : decode cX11_number 0 = .ok (.aload_n 0, 1) := by decide +kernel
theorem dX11_number_1 : decode cX11_number 1 = .ok (.invokevirtual 85, 3) := by decide +kernel
theorem dX11_number_4 : decode cX11_number 4 = .ok (.aload_n 0, 1) := by decide +kernel
theorem dX11_number_5 : decode cX11_number 5 = .ok (.getfield 16, 3) := by decide +kernel
theorem dX11_number_8 : decode cX11_number 8 = .ok (.iload_n 1, 1) := by decide +kernel
theorem dX11_number_9 : decode cX11_number 9 = .ok (.aload_n 0, 1) := by decide +kernel
theorem dX11_number_10 : decode cX11_number 10 = .ok (.getfield 82, 3) := by decide +kernel
theorem dX11_number_13 : decode cX11_number 13 = .ok (.iastore, 1) := by decide +kernel
theorem dX11_number_14 : decode cX11_number 14 = .ok (.aload_n 0, 1) := by decide +kernel
theorem dX11_number_15 : decode cX11_number 15 = .ok (.getfield 79, 3) := by decide +kernel
theorem dX11_number_18 : decode cX11_number 18 = .ok (.iconst 2, 1) := by decide +kernel
theorem dX11_number_19 : decode cX11_number 19 = .ok (.if_icmp .ne 19, 3) := by decide +kernel
theorem dX11_number_22 : decode cX11_number 22 = .ok (.aload_n 0, 1) := by decide +kernel
theorem dX11_number_23 : decode cX11_number 23 = .ok (.getfield 82, 3) := by decide +kernel
theorem dX11_number_26 : decode cX11_number 26 = .ok (.iload_n 2, 1) := by decide +kernel
theorem dX11_number_27 : decode cX11_number 27 = .ok (.iload_n 3, 1) := by decide +kernel
theorem dX11_number_28 : decode cX11_number 28 = .ok (.invokestatic 54, 3) := by decide +kernel
theorem dX11_number_31 : decode cX11_number 31 = .ok (.ifCond .eq 7, 3) := by decide +kernel
theorem dX11_number_34 : decode cX11_number 34 = .ok (.iconst 1, 1) := by decide +kernel
theorem dX11_number_35 : decode cX11_number 35 = .ok (.goto 4, 3) := by decide +kernel
theorem dX11_number_38 : decode cX11_number 38 = .ok (.iconst 0, 1) := by decide +kernel
theorem dX11_number_39 : decode cX11_number 39 = .ok (.ireturn, 1) := by decide +kernel
set_option maxRecDepth 20000 in
theorem ggX11_once_X11_number : GoodIn wsX11_once wsX11_number := goodIn_r _ [6, 1, 7, 8, 9, 10, 11, 5, 12, 13, 14, 15, 16, 17, 18, 19, 20, 21, 22, 23, 24, 25, 26, 27, 28, 29, 30, 31, 32, 33, 34, 35, 36, 37, 38, 39, 40, 41, 42, 43, 44, 45, 46, 47, 48, 49, 50, 51] (by decide +kernel) (by decide +kernel)
set_option maxRecDepth 20000 in
theorem gX11_once_X11_number : GoodIn wsX11_once (wsV RX11 88 RX11 yX11_number wsX11_number) := goodIn_app (goodIn_of _ (by decide +kernel)) ggX11_once_X11_number
theorem dX11_once_0 : decode cX11_once 0 = .ok (.aload_n 0, 1) := by decide +kernel
theorem dX11_once_1 : decode cX11_once 1 = .ok (.getfield 16, 3) := by decide +kernel
theorem dX11_once_4 : decode cX11_once 4 = .ok (.iconst 5, 1) := by decide +kernel
theorem dX11_once_5 : decode cX11_once 5 = .ok (.iaload, 1) := by decide +kernel
theorem dX11_once_6 : decode cX11_once 6 = .ok (.iload_n 1, 1) := by decide +kernel
theorem dX11_once_7 : decode cX11_once 7 = .ok (.iand, 1) := by decide +kernel
theorem dX11_once_8 : decode cX11_once 8 = .ok (.ifCond .eq 5, 3) := by decide +kernel
theorem dX11_once_11 : decode cX11_once 11 = .ok (.iconst 0, 1) := by decide +kernel
theorem dX11_once_12 : decode cX11_once 12 = .ok (.ireturn, 1) := by decide +kernel
theorem dX11_once_13 : decode cX11_once 13 = .ok (.aload_n 0, 1) := by decide +kernel
theorem dX11_once_14 : decode cX11_once 14 = .ok (.getfield 16, 3) := by decide +kernel
theorem dX11_once_17 : decode cX11_once 17 = .ok (.iconst 5, 1) := by decide +kernel
theorem dX11_once_18 : decode cX11_once 18 = .ok (.dup2, 1) := by decide +kernel
theorem dX11_once_19 : decode cX11_once 19 = .ok (.iaload, 1) := by decide +kernel
theorem dX11_once_20 : decode cX11_once 20 = .ok (.iload_n 1, 1) := by decide +kernel
theorem dX11_once_21 : decode cX11_once 21 = .ok (.ior, 1) := by decide +kernel
theorem dX11_once_22 : decode cX11_once 22 = .ok (.iastore, 1) := by decide +kernel
theorem dX11_once_23 : decode cX11_once 23 = .ok (.aload_n 0, 1) := by decide +kernel
theorem dX11_once_24 : decode cX11_once 24 = .ok (.iload_n 2, 1) := by decide +kernel
theorem dX11_once_25 : decode cX11_once 25 = .ok (.iconst 0, 1) := by decide +kernel
theorem dX11_once_26 : decode cX11_once 26 = .ok (.iload_n 3, 1) := by decide +kernel
theorem dX11_once_27 : decode cX11_once 27 = .ok (.invokevirtual 88, 3) := by decide +kernel
theorem dX11_once_30 : decode cX11_once 30 = .ok (.ireturn, 1) := by decide +kernel
set_option maxRecDepth 20000 in
theorem ggX11_readsItem_X11_number : GoodIn wsX11_readsItem wsX11_number := goodIn_r _ [8, 3, 2, 1, 9, 10, 11, 7, 12, 13, 14, 15, 16, 17, 18, 19, 20, 21, 22, 23, 24, 25, 26, 27, 28, 29, 34, 35, 36, 37, 38, 39, 40, 41, 42, 43, 44, 45, 46, 47, 48, 49, 50, 51, 52, 53, 54, 55] (by decide +kernel) (by decide +kernel)
set_option maxRecDepth 20000 in
theorem gX11_readsItem_X11_number : GoodIn wsX11_readsItem (wsV RX11 88 RX11 yX11_number wsX11_number) := goodIn_app (goodIn_of _ (by decide +kernel)) ggX11_readsItem_X11_number
set_option maxRecDepth 20000 in
theorem ggX11_readsItem_X11_once : GoodIn wsX11_readsItem wsX11_once := goodIn_r _ [33, 3, 4, 5, 6, 7, 8, 2, 1, 9, 10, 11, 12, 13, 14, 15, 16, 17, 18, 19, 20, 21, 22, 23, 24, 25, 26, 27, 28, 29, 34, 35, 36, 37, 38, 39, 40, 41, 42, 43, 44, 45, 46, 47, 48, 49, 50, 51, 52, 53, 54, 55] (by decide +kernel) (by decide +kernel)
set_option maxRecDepth 20000 in
theorem gX11_readsItem_X11_once : GoodIn wsX11_readsItem (wsV RX11 91 RX11 yX11_once wsX11_once) := goodIn_app (goodIn_of _ (by decide +kernel)) ggX11_readsItem_X11_once
theorem dX11_readsItem_0 : decode cX11_readsItem 0 = .ok (.aload_n 0, 1) := by decide +kernel
theorem dX11_readsItem_1 : decode cX11_readsItem 1 = .ok (.getfield 79, 3) := by decide +kernel
theorem dX11_readsItem_4 : decode cX11_readsItem 4 = .ok (.iconst 1, 1) := by decide +kernel
theorem dX11_readsItem_5 : decode cX11_readsItem 5 = .ok (.if_icmp .ne 10, 3) := by decide +kernel
theorem dX11_readsItem_8 : decode cX11_readsItem 8 = .ok (.aload_n 0, 1) := by decide +kernel
theorem dX11_readsItem_9 : decode cX11_readsItem 9 = .ok (.getfield 82, 3) := by decide +kernel
theorem dX11_readsItem_12 : decode cX11_readsItem 12 = .ok (.goto 4, 3) := by decide +kernel
theorem dX11_readsItem_15 : decode cX11_readsItem 15 = .ok (.iconst 0, 1) := by decide +kernel
theorem dX11_readsItem_16 : decode cX11_readsItem 16 = .ok (.istore_n 1, 1) := by decide +kernel
theorem dX11_readsItem_17 : decode cX11_readsItem 17 = .ok (.iload_n 1, 1) := by decide +kernel
theorem dX11_readsItem_18 : decode cX11_readsItem 18 = .ok (.bipush 112, 2) := by decide +kernel
theorem dX11_readsItem_20 : decode cX11_readsItem 20 = .ok (.if_icmp .ne 12, 3) := by decide +kernel
theorem dX11_readsItem_23 : decode cX11_readsItem 23 = .ok (.aload_n 0, 1) := by decide +kernel
theorem dX11_readsItem_24 : decode cX11_readsItem 24 = .ok (.getfield 16, 3) := by decide +kernel
theorem dX11_readsItem_27 : decode cX11_readsItem 27 = .ok (.iconst 0, 1) := by decide +kernel
theorem dX11_readsItem_28 : decode cX11_readsItem 28 = .ok (.iaload, 1) := by decide +kernel
theorem dX11_readsItem_29 : decode cX11_readsItem 29 = .ok (.goto 9, 3) := by decide +kernel
theorem dX11_readsItem_32 : decode cX11_readsItem 32 = .ok (.aload_n 0, 1) := by decide +kernel
theorem dX11_readsItem_33 : decode cX11_readsItem 33 = .ok (.getfield 16, 3) := by decide +kernel
theorem dX11_readsItem_36 : decode cX11_readsItem 36 = .ok (.iconst 1, 1) := by decide +kernel
theorem dX11_readsItem_37 : decode cX11_readsItem 37 = .ok (.iaload, 1) := by decide +kernel
theorem dX11_readsItem_38 : decode cX11_readsItem 38 = .ok (.istore_n 2, 1) := by decide +kernel
theorem dX11_readsItem_39 : decode cX11_readsItem 39 = .ok (.iload_n 1, 1) := by decide +kernel
theorem dX11_readsItem_40 : decode cX11_readsItem 40 = .ok (.lookupswitch 200 #[(100, 78), (102, 191), (111, 182), (112, 44)], 44) := by decide +kernel
theorem dX11_readsItem_84 : decode cX11_readsItem 84 = .ok (.iload_n 2, 1) := by decide +kernel
theorem dX11_readsItem_85 : decode cX11_readsItem 85 = .ok (.bipush 6, 2) := by decide +kernel
theorem dX11_readsItem_87 : decode cX11_readsItem 87 = .ok (.if_icmp .eq 17, 3) := by decide +kernel
theorem dX11_readsItem_90 : decode cX11_readsItem 90 = .ok (.aload_n 0, 1) := by decide +kernel
theorem dX11_readsItem_91 : decode cX11_readsItem 91 = .ok (.bipush 6, 2) := by decide +kernel
theorem dX11_readsItem_93 : decode cX11_readsItem 93 = .ok (.iload_n 2, 1) := by decide +kernel
theorem dX11_readsItem_94 : decode cX11_readsItem 94 = .ok (.iadd, 1) := by decide +kernel
theorem dX11_readsItem_95 : decode cX11_readsItem 95 = .ok (.iconst 0, 1) := by decide +kernel
theorem dX11_readsItem_96 : decode cX11_readsItem 96 = .ok (.bipush 30, 2) := by decide +kernel
theorem dX11_readsItem_98 : decode cX11_readsItem 98 = .ok (.invokevirtual 88, 3) := by decide +kernel
theorem dX11_readsItem_101 : decode cX11_readsItem 101 = .ok (.ifCond .ne 5, 3) := by decide +kernel
theorem dX11_readsItem_104 : decode cX11_readsItem 104 = .ok (.iconst 0, 1) := by decide +kernel
theorem dX11_readsItem_105 : decode cX11_readsItem 105 = .ok (.ireturn, 1) := by decide +kernel
theorem dX11_readsItem_106 : decode cX11_readsItem 106 = .ok (.aload_n 0, 1) := by decide +kernel
theorem dX11_readsItem_107 : decode cX11_readsItem 107 = .ok (.getfield 16, 3) := by decide +kernel
theorem dX11_readsItem_110 : decode cX11_readsItem 110 = .ok (.iconst 0, 1) := by decide +kernel
theorem dX11_readsItem_111 : decode cX11_readsItem 111 = .ok (.dup2, 1) := by decide +kernel
theorem dX11_readsItem_112 : decode cX11_readsItem 112 = .ok (.iaload, 1) := by decide +kernel
theorem dX11_readsItem_113 : decode cX11_readsItem 113 = .ok (.iconst 1, 1) := by decide +kernel
theorem dX11_readsItem_114 : decode cX11_readsItem 114 = .ok (.iadd, 1) := by decide +kernel
theorem dX11_readsItem_115 : decode cX11_readsItem 115 = .ok (.iastore, 1) := by decide +kernel
theorem dX11_readsItem_116 : decode cX11_readsItem 116 = .ok (.iconst 1, 1) := by decide +kernel
theorem dX11_readsItem_117 : decode cX11_readsItem 117 = .ok (.ireturn, 1) := by decide +kernel
theorem dX11_readsItem_118 : decode cX11_readsItem 118 = .ok (.iload_n 2, 1) := by decide +kernel
theorem dX11_readsItem_119 : decode cX11_readsItem 119 = .ok (.bipush 8, 2) := by decide +kernel
theorem dX11_readsItem_121 : decode cX11_readsItem 121 = .ok (.if_icmp .eq 87, 3) := by decide +kernel
theorem dX11_readsItem_124 : decode cX11_readsItem 124 = .ok (.aload_n 0, 1) := by decide +kernel
theorem dX11_readsItem_125 : decode cX11_readsItem 125 = .ok (.bipush 12, 2) := by decide +kernel
theorem dX11_readsItem_127 : decode cX11_readsItem 127 = .ok (.iload_n 2, 1) := by decide +kernel
theorem dX11_readsItem_128 : decode cX11_readsItem 128 = .ok (.iadd, 1) := by decide +kernel
theorem dX11_readsItem_129 : decode cX11_readsItem 129 = .ok (.iconst 0, 1) := by decide +kernel
theorem dX11_readsItem_130 : decode cX11_readsItem 130 = .ok (.aload_n 0, 1) := by decide +kernel
theorem dX11_readsItem_131 : decode cX11_readsItem 131 = .ok (.getfield 16, 3) := by decide +kernel
theorem dX11_readsItem_134 : decode cX11_readsItem 134 = .ok (.iconst 0, 1) := by decide +kernel
theorem dX11_readsItem_135 : decode cX11_readsItem 135 = .ok (.iaload, 1) := by decide +kernel
theorem dX11_readsItem_136 : decode cX11_readsItem 136 = .ok (.iconst 1, 1) := by decide +kernel
theorem dX11_readsItem_137 : decode cX11_readsItem 137 = .ok (.isub, 1) := by decide +kernel
theorem dX11_readsItem_138 : decode cX11_readsItem 138 = .ok (.invokevirtual 88, 3) := by decide +kernel
theorem dX11_readsItem_141 : decode cX11_readsItem 141 = .ok (.ifCond .eq 67, 3) := by decide +kernel
theorem dX11_readsItem_144 : decode cX11_readsItem 144 = .ok (.aload_n 0, 1) := by decide +kernel
theorem dX11_readsItem_145 : decode cX11_readsItem 145 = .ok (.bipush 20, 2) := by decide +kernel
theorem dX11_readsItem_147 : decode cX11_readsItem 147 = .ok (.iload_n 2, 1) := by decide +kernel
theorem dX11_readsItem_148 : decode cX11_readsItem 148 = .ok (.iadd, 1) := by decide +kernel
theorem dX11_readsItem_149 : decode cX11_readsItem 149 = .ok (.iconst 0, 1) := by decide +kernel
theorem dX11_readsItem_150 : decode cX11_readsItem 150 = .ok (.bipush 30, 2) := by decide +kernel
theorem dX11_readsItem_152 : decode cX11_readsItem 152 = .ok (.invokevirtual 88, 3) := by decide +kernel
theorem dX11_readsItem_155 : decode cX11_readsItem 155 = .ok (.ifCond .eq 53, 3) := by decide +kernel
theorem dX11_readsItem_158 : decode cX11_readsItem 158 = .ok (.aload_n 0, 1) := by decide +kernel
theorem dX11_readsItem_159 : decode cX11_readsItem 159 = .ok (.bipush 28, 2) := by decide +kernel
theorem dX11_readsItem_161 : decode cX11_readsItem 161 = .ok (.iload_n 2, 1) := by decide +kernel
theorem dX11_readsItem_162 : decode cX11_readsItem 162 = .ok (.iadd, 1) := by decide +kernel
theorem dX11_readsItem_163 : decode cX11_readsItem 163 = .ok (.iconst 0, 1) := by decide +kernel
theorem dX11_readsItem_164 : decode cX11_readsItem 164 = .ok (.bipush 99, 2) := by decide +kernel
theorem dX11_readsItem_166 : decode cX11_readsItem 166 = .ok (.invokevirtual 88, 3) := by decide +kernel
theorem dX11_readsItem_169 : decode cX11_readsItem 169 = .ok (.ifCond .eq 39, 3) := by decide +kernel
theorem dX11_readsItem_172 : decode cX11_readsItem 172 = .ok (.aload_n 0, 1) := by decide +kernel
theorem dX11_readsItem_173 : decode cX11_readsItem 173 = .ok (.bipush 36, 2) := by decide +kernel
theorem dX11_readsItem_175 : decode cX11_readsItem 175 = .ok (.iload_n 2, 1) := by decide +kernel
theorem dX11_readsItem_176 : decode cX11_readsItem 176 = .ok (.iadd, 1) := by decide +kernel
theorem dX11_readsItem_177 : decode cX11_readsItem 177 = .ok (.aload_n 0, 1) := by decide +kernel
theorem dX11_readsItem_178 : decode cX11_readsItem 178 = .ok (.getfield 16, 3) := by decide +kernel
theorem dX11_readsItem_181 : decode cX11_readsItem 181 = .ok (.bipush 28, 2) := by decide +kernel
theorem dX11_readsItem_183 : decode cX11_readsItem 183 = .ok (.iload_n 2, 1) := by decide +kernel
theorem dX11_readsItem_184 : decode cX11_readsItem 184 = .ok (.iadd, 1) := by decide +kernel
theorem dX11_readsItem_185 : decode cX11_readsItem 185 = .ok (.iaload, 1) := by decide +kernel
theorem dX11_readsItem_186 : decode cX11_readsItem 186 = .ok (.bipush 99, 2) := by decide +kernel
theorem dX11_readsItem_188 : decode cX11_readsItem 188 = .ok (.invokevirtual 88, 3) := by decide +kernel
theorem dX11_readsItem_191 : decode cX11_readsItem 191 = .ok (.ifCond .eq 17, 3) := by decide +kernel
theorem dX11_readsItem_194 : decode cX11_readsItem 194 = .ok (.aload_n 0, 1) := by decide +kernel
theorem dX11_readsItem_195 : decode cX11_readsItem 195 = .ok (.bipush 44, 2) := by decide +kernel
theorem dX11_readsItem_197 : decode cX11_readsItem 197 = .ok (.iload_n 2, 1) := by decide +kernel
theorem dX11_readsItem_198 : decode cX11_readsItem 198 = .ok (.iadd, 1) := by decide +kernel
theorem dX11_readsItem_199 : decode cX11_readsItem 199 = .ok (.iconst 1, 1) := by decide +kernel
theorem dX11_readsItem_200 : decode cX11_readsItem 200 = .ok (.bipush 20, 2) := by decide +kernel
theorem dX11_readsItem_202 : decode cX11_readsItem 202 = .ok (.invokevirtual 88, 3) := by decide +kernel
theorem dX11_readsItem_205 : decode cX11_readsItem 205 = .ok (.ifCond .ne 5, 3) := by decide +kernel
theorem dX11_readsItem_208 : decode cX11_readsItem 208 = .ok (.iconst 0, 1) := by decide +kernel
theorem dX11_readsItem_209 : decode cX11_readsItem 209 = .ok (.ireturn, 1) := by decide +kernel
theorem dX11_readsItem_210 : decode cX11_readsItem 210 = .ok (.aload_n 0, 1) := by decide +kernel
theorem dX11_readsItem_211 : decode cX11_readsItem 211 = .ok (.getfield 16, 3) := by decide +kernel
theorem dX11_readsItem_214 : decode cX11_readsItem 214 = .ok (.iconst 1, 1) := by decide +kernel
theorem dX11_readsItem_215 : decode cX11_readsItem 215 = .ok (.dup2, 1) := by decide +kernel
theorem dX11_readsItem_216 : decode cX11_readsItem 216 = .ok (.iaload, 1) := by decide +kernel
theorem dX11_readsItem_217 : decode cX11_readsItem 217 = .ok (.iconst 1, 1) := by decide +kernel
theorem dX11_readsItem_218 : decode cX11_readsItem 218 = .ok (.iadd, 1) := by decide +kernel
theorem dX11_readsItem_219 : decode cX11_readsItem 219 = .ok (.iastore, 1) := by decide +kernel
theorem dX11_readsItem_220 : decode cX11_readsItem 220 = .ok (.iconst 1, 1) := by decide +kernel
theorem dX11_readsItem_221 : decode cX11_readsItem 221 = .ok (.ireturn, 1) := by decide +kernel
theorem dX11_readsItem_222 : decode cX11_readsItem 222 = .ok (.aload_n 0, 1) := by decide +kernel
theorem dX11_readsItem_223 : decode cX11_readsItem 223 = .ok (.iconst 1, 1) := by decide +kernel
theorem dX11_readsItem_224 : decode cX11_readsItem 224 = .ok (.iconst 2, 1) := by decide +kernel
theorem dX11_readsItem_225 : decode cX11_readsItem 225 = .ok (.bipush 30, 2) := by decide +kernel
theorem dX11_readsItem_227 : decode cX11_readsItem 227 = .ok (.invokevirtual 91, 3) := by decide +kernel
theorem dX11_readsItem_230 : decode cX11_readsItem 230 = .ok (.ireturn, 1) := by decide +kernel
theorem dX11_readsItem_231 : decode cX11_readsItem 231 = .ok (.aload_n 0, 1) := by decide +kernel
theorem dX11_readsItem_232 : decode cX11_readsItem 232 = .ok (.iconst 2, 1) := by decide +kernel
theorem dX11_readsItem_233 : decode cX11_readsItem 233 = .ok (.iconst 3, 1) := by decide +kernel
theorem dX11_readsItem_234 : decode cX11_readsItem 234 = .ok (.bipush 9, 2) := by decide +kernel
theorem dX11_readsItem_236 : decode cX11_readsItem 236 = .ok (.invokevirtual 91, 3) := by decide +kernel
theorem dX11_readsItem_239 : decode cX11_readsItem 239 = .ok (.ireturn, 1) := by decide +kernel
theorem dX11_readsItem_240 : decode cX11_readsItem 240 = .ok (.iconst 0, 1) := by decide +kernel
theorem dX11_readsItem_241 : decode cX11_readsItem 241 = .ok (.ireturn, 1) := by decide +kernel
set_option maxRecDepth 20000 in
theorem ggX11_reads_X11_token : GoodIn wsX11_reads wsX11_token := goodIn_r _ [8, 2, 9, 3, 10, 11, 12, 13, 14, 7, 15, 16, 17, 18, 19, 20, 21, 22, 23, 24, 25, 38, 39, 40, 41, 42, 43, 44, 45, 46, 47, 48, 49, 50, 51, 52, 53, 54, 55, 56, 57, 58, 59] (by decide +kernel) (by decide +kernel)
set_option maxRecDepth 20000 in
theorem gX11_reads_X11_token : GoodIn wsX11_reads (wsV RX11 85 RX11 yX11_token wsX11_token) := goodIn_app (goodIn_of _ (by decide +kernel)) ggX11_reads_X11_token
set_option maxRecDepth 20000 in
theorem ggX11_reads_X11_readsItem : GoodIn wsX11_reads wsX11_readsItem := goodIn_r _ [29, 3, 10, 1, 30, 31, 32, 7, 33, 4, 5, 6, 8, 2, 9, 11, 12, 13, 14, 15, 16, 17, 18, 19, 20, 21, 22, 23, 24, 25, 34, 35, 36, 37, 38, 39, 40, 41, 42, 43, 44, 45, 46, 47, 48, 49, 50, 51, 52, 53, 54, 55, 56, 57, 58, 59] (by decide +kernel) (by decide +kernel)
set_option maxRecDepth 20000 in
theorem gX11_reads_X11_readsItem : GoodIn wsX11_reads (wsV RX11 94 RX11 yX11_readsItem wsX11_readsItem) := goodIn_app (goodIn_of _ (by decide +kernel)) ggX11_reads_X11_readsItem
theorem dX11_reads_0 : decode cX11_reads 0 = .ok (.iconst 0, 1) := by decide +kernel
theorem dX11_reads_1 : decode cX11_reads 1 = .ok (.istore_n 1, 1) := by decide +kernel
theorem dX11_reads_2 : decode cX11_reads 2 = .ok (.iload_n 1, 1) := by decide +kernel
theorem dX11_reads_3 : decode cX11_reads 3 = .ok (.bipush 52, 2) := by decide +kernel
theorem dX11_reads_5 : decode cX11_reads 5 = .ok (.if_icmp .ge 16, 3) := by decide +kernel
theorem dX11_reads_8 : decode cX11_reads 8 = .ok (.aload_n 0, 1) := by decide +kernel
theorem dX11_reads_9 : decode cX11_reads 9 = .ok (.getfield 16, 3) := by decide +kernel
theorem dX11_reads_12 : decode cX11_reads 12 = .ok (.iload_n 1, 1) := by decide +kernel
theorem dX11_reads_13 : decode cX11_reads 13 = .ok (.iconst 0, 1) := by decide +kernel
theorem dX11_reads_14 : decode cX11_reads 14 = .ok (.iastore, 1) := by decide +kernel
theorem dX11_reads_15 : decode cX11_reads 15 = .ok (.iinc 1 1, 3) := by decide +kernel
theorem dX11_reads_18 : decode cX11_reads 18 = .ok (.goto (-16), 3) := by decide +kernel
theorem dX11_reads_21 : decode cX11_reads 21 = .ok (.aload_n 0, 1) := by decide +kernel
theorem dX11_reads_22 : decode cX11_reads 22 = .ok (.getfield 16, 3) := by decide +kernel
theorem dX11_reads_25 : decode cX11_reads 25 = .ok (.iconst 2, 1) := by decide +kernel
theorem dX11_reads_26 : decode cX11_reads 26 = .ok (.bipush 15, 2) := by decide +kernel
theorem dX11_reads_28 : decode cX11_reads 28 = .ok (.iastore, 1) := by decide +kernel
theorem dX11_reads_29 : decode cX11_reads 29 = .ok (.aload_n 0, 1) := by decide +kernel
theorem dX11_reads_30 : decode cX11_reads 30 = .ok (.getfield 16, 3) := by decide +kernel
theorem dX11_reads_33 : decode cX11_reads 33 = .ok (.iconst 3, 1) := by decide +kernel
theorem dX11_reads_34 : decode cX11_reads 34 = .ok (.iconst 3, 1) := by decide +kernel
theorem dX11_reads_35 : decode cX11_reads 35 = .ok (.iastore, 1) := by decide +kernel
theorem dX11_reads_36 : decode cX11_reads 36 = .ok (.aload_n 0, 1) := by decide +kernel
theorem dX11_reads_37 : decode cX11_reads 37 = .ok (.iconst 0, 1) := by decide +kernel
theorem dX11_reads_38 : decode cX11_reads 38 = .ok (.putfield 62, 3) := by decide +kernel
theorem dX11_reads_41 : decode cX11_reads 41 = .ok (.aload_n 0, 1) := by decide +kernel
theorem dX11_reads_42 : decode cX11_reads 42 = .ok (.invokevirtual 85, 3) := by decide +kernel
theorem dX11_reads_45 : decode cX11_reads 45 = .ok (.aload_n 0, 1) := by decide +kernel
theorem dX11_reads_46 : decode cX11_reads 46 = .ok (.getfield 79, 3) := by decide +kernel
theorem dX11_reads_49 : decode cX11_reads 49 = .ok (.ifCond .eq 43, 3) := by decide +kernel
theorem dX11_reads_52 : decode cX11_reads 52 = .ok (.aload_n 0, 1) := by decide +kernel
theorem dX11_reads_53 : decode cX11_reads 53 = .ok (.invokevirtual 94, 3) := by decide +kernel
theorem dX11_reads_56 : decode cX11_reads 56 = .ok (.ifCond .ne 5, 3) := by decide +kernel
theorem dX11_reads_59 : decode cX11_reads 59 = .ok (.iconst 0, 1) := by decide +kernel
theorem dX11_reads_60 : decode cX11_reads 60 = .ok (.ireturn, 1) := by decide +kernel
theorem dX11_reads_61 : decode cX11_reads 61 = .ok (.aload_n 0, 1) := by decide +kernel
theorem dX11_reads_62 : decode cX11_reads 62 = .ok (.invokevirtual 85, 3) := by decide +kernel
theorem dX11_reads_65 : decode cX11_reads 65 = .ok (.aload_n 0, 1) := by decide +kernel
theorem dX11_reads_66 : decode cX11_reads 66 = .ok (.getfield 79, 3) := by decide +kernel
theorem dX11_reads_69 : decode cX11_reads 69 = .ok (.iconst 3, 1) := by decide +kernel
theorem dX11_reads_70 : decode cX11_reads 70 = .ok (.if_icmp .eq 5, 3) := by decide +kernel
theorem dX11_reads_73 : decode cX11_reads 73 = .ok (.iconst 0, 1) := by decide +kernel
theorem dX11_reads_74 : decode cX11_reads 74 = .ok (.ireturn, 1) := by decide +kernel
theorem dX11_reads_75 : decode cX11_reads 75 = .ok (.aload_n 0, 1) := by decide +kernel
theorem dX11_reads_76 : decode cX11_reads 76 = .ok (.getfield 16, 3) := by decide +kernel
theorem dX11_reads_79 : decode cX11_reads 79 = .ok (.iconst 4, 1) := by decide +kernel
theorem dX11_reads_80 : decode cX11_reads 80 = .ok (.dup2, 1) := by decide +kernel
theorem dX11_reads_81 : decode cX11_reads 81 = .ok (.iaload, 1) := by decide +kernel
theorem dX11_reads_82 : decode cX11_reads 82 = .ok (.iconst 1, 1) := by decide +kernel
theorem dX11_reads_83 : decode cX11_reads 83 = .ok (.iadd, 1) := by decide +kernel
theorem dX11_reads_84 : decode cX11_reads 84 = .ok (.iastore, 1) := by decide +kernel
theorem dX11_reads_85 : decode cX11_reads 85 = .ok (.aload_n 0, 1) := by decide +kernel
theorem dX11_reads_86 : decode cX11_reads 86 = .ok (.invokevirtual 85, 3) := by decide +kernel
theorem dX11_reads_89 : decode cX11_reads 89 = .ok (.goto (-44), 3) := by decide +kernel
theorem dX11_reads_92 : decode cX11_reads 92 = .ok (.iconst 1, 1) := by decide +kernel
theorem dX11_reads_93 : decode cX11_reads 93 = .ok (.ireturn, 1) := by decide +kernel
set_option maxRecDepth 20000 in
theorem ggX11_begins_X11_in : GoodIn wsX11_begins wsX11_in := goodIn_r _ [9] (by decide +kernel) (by decide +kernel)
set_option maxRecDepth 20000 in
theorem gX11_begins_X11_in : GoodIn wsX11_begins (va_wsS RX11 54 yX11_in wsX11_in) := goodIn_app (goodIn_of _ (by decide +kernel)) ggX11_begins_X11_in
theorem dX11_begins_0 : decode cX11_begins 0 = .ok (.iconst 0, 1) := by decide +kernel
theorem dX11_begins_1 : decode cX11_begins 1 = .ok (.istore_n 1, 1) := by decide +kernel
theorem dX11_begins_2 : decode cX11_begins 2 = .ok (.iload_n 1, 1) := by decide +kernel
theorem dX11_begins_3 : decode cX11_begins 3 = .ok (.bipush 52, 2) := by decide +kernel
theorem dX11_begins_5 : decode cX11_begins 5 = .ok (.if_icmp .ge 21, 3) := by decide +kernel
theorem dX11_begins_8 : decode cX11_begins 8 = .ok (.aload_n 0, 1) := by decide +kernel
theorem dX11_begins_9 : decode cX11_begins 9 = .ok (.getfield 13, 3) := by decide +kernel
theorem dX11_begins_12 : decode cX11_begins 12 = .ok (.iload_n 1, 1) := by decide +kernel
theorem dX11_begins_13 : decode cX11_begins 13 = .ok (.aload_n 0, 1) := by decide +kernel
theorem dX11_begins_14 : decode cX11_begins 14 = .ok (.getfield 16, 3) := by decide +kernel
theorem dX11_begins_17 : decode cX11_begins 17 = .ok (.iload_n 1, 1) := by decide +kernel
theorem dX11_begins_18 : decode cX11_begins 18 = .ok (.iaload, 1) := by decide +kernel
theorem dX11_begins_19 : decode cX11_begins 19 = .ok (.iastore, 1) := by decide +kernel
theorem dX11_begins_20 : decode cX11_begins 20 = .ok (.iinc 1 1, 3) := by decide +kernel
theorem dX11_begins_23 : decode cX11_begins 23 = .ok (.goto (-21), 3) := by decide +kernel
theorem dX11_begins_26 : decode cX11_begins 26 = .ok (.iconst 0, 1) := by decide +kernel
theorem dX11_begins_27 : decode cX11_begins 27 = .ok (.istore_n 1, 1) := by decide +kernel
theorem dX11_begins_28 : decode cX11_begins 28 = .ok (.iload_n 1, 1) := by decide +kernel
theorem dX11_begins_29 : decode cX11_begins 29 = .ok (.bipush 23, 2) := by decide +kernel
theorem dX11_begins_31 : decode cX11_begins 31 = .ok (.if_icmp .gt 40, 3) := by decide +kernel
theorem dX11_begins_34 : decode cX11_begins 34 = .ok (.aload_n 0, 1) := by decide +kernel
theorem dX11_begins_35 : decode cX11_begins 35 = .ok (.getfield 19, 3) := by decide +kernel
theorem dX11_begins_38 : decode cX11_begins 38 = .ok (.iload_n 1, 1) := by decide +kernel
theorem dX11_begins_39 : decode cX11_begins 39 = .ok (.iload_n 1, 1) := by decide +kernel
theorem dX11_begins_40 : decode cX11_begins 40 = .ok (.iconst 4, 1) := by decide +kernel
theorem dX11_begins_41 : decode cX11_begins 41 = .ok (.bipush 9, 2) := by decide +kernel
theorem dX11_begins_43 : decode cX11_begins 43 = .ok (.invokestatic 54, 3) := by decide +kernel
theorem dX11_begins_46 : decode cX11_begins 46 = .ok (.ifCond .eq 17, 3) := by decide +kernel
theorem dX11_begins_49 : decode cX11_begins 49 = .ok (.aload_n 0, 1) := by decide +kernel
theorem dX11_begins_50 : decode cX11_begins 50 = .ok (.getfield 13, 3) := by decide +kernel
theorem dX11_begins_53 : decode cX11_begins 53 = .ok (.bipush 6, 2) := by decide +kernel
theorem dX11_begins_55 : decode cX11_begins 55 = .ok (.iload_n 1, 1) := by decide +kernel
theorem dX11_begins_56 : decode cX11_begins 56 = .ok (.iadd, 1) := by decide +kernel
theorem dX11_begins_57 : decode cX11_begins 57 = .ok (.iconst 4, 1) := by decide +kernel
theorem dX11_begins_58 : decode cX11_begins 58 = .ok (.isub, 1) := by decide +kernel
theorem dX11_begins_59 : decode cX11_begins 59 = .ok (.iaload, 1) := by decide +kernel
theorem dX11_begins_60 : decode cX11_begins 60 = .ok (.goto 4, 3) := by decide +kernel
theorem dX11_begins_63 : decode cX11_begins 63 = .ok (.iconst 0, 1) := by decide +kernel
theorem dX11_begins_64 : decode cX11_begins 64 = .ok (.iastore, 1) := by decide +kernel
theorem dX11_begins_65 : decode cX11_begins 65 = .ok (.iinc 1 1, 3) := by decide +kernel
theorem dX11_begins_68 : decode cX11_begins 68 = .ok (.goto (-40), 3) := by decide +kernel
theorem dX11_begins_71 : decode cX11_begins 71 = .ok (.aload_n 0, 1) := by decide +kernel
theorem dX11_begins_72 : decode cX11_begins 72 = .ok (.getfield 19, 3) := by decide +kernel
theorem dX11_begins_75 : decode cX11_begins 75 = .ok (.iconst 1, 1) := by decide +kernel
theorem dX11_begins_76 : decode cX11_begins 76 = .ok (.bipush (-9), 2) := by decide +kernel
theorem dX11_begins_78 : decode cX11_begins 78 = .ok (.iastore, 1) := by decide +kernel
theorem dX11_begins_79 : decode cX11_begins 79 = .ok (.aload_n 0, 1) := by decide +kernel
theorem dX11_begins_80 : decode cX11_begins 80 = .ok (.iconst 0, 1) := by decide +kernel
theorem dX11_begins_81 : decode cX11_begins 81 = .ok (.putfield 97, 3) := by decide +kernel
theorem dX11_begins_84 : decode cX11_begins 84 = .ok (.aload_n 0, 1) := by decide +kernel
theorem dX11_begins_85 : decode cX11_begins 85 = .ok (.getfield 25, 3) := by decide +kernel
theorem dX11_begins_88 : decode cX11_begins 88 = .ok (.iconst 0, 1) := by decide +kernel
theorem dX11_begins_89 : decode cX11_begins 89 = .ok (.iconst 0, 1) := by decide +kernel
theorem dX11_begins_90 : decode cX11_begins 90 = .ok (.bastore, 1) := by decide +kernel
theorem dX11_begins_91 : decode cX11_begins 91 = .ok (.aload_n 0, 1) := by decide +kernel
theorem dX11_begins_92 : decode cX11_begins 92 = .ok (.getfield 25, 3) := by decide +kernel
theorem dX11_begins_95 : decode cX11_begins 95 = .ok (.iconst 1, 1) := by decide +kernel
theorem dX11_begins_96 : decode cX11_begins 96 = .ok (.iconst 0, 1) := by decide +kernel
theorem dX11_begins_97 : decode cX11_begins 97 = .ok (.bastore, 1) := by decide +kernel
theorem dX11_begins_98 : decode cX11_begins 98 = .ok (.return_, 1) := by decide +kernel
set_option maxRecDepth 20000 in
theorem ggX11_port_X11_reads : GoodIn wsX11_port wsX11_reads := goodIn_r _ [8, 9, 10, 11, 12, 13, 14, 7, 15, 1, 16, 17, 18, 19, 20, 21, 2, 22, 23, 24, 25, 26, 27, 28, 29, 30, 31, 32, 33, 34, 35, 36, 37, 38, 39, 40, 41, 42, 50, 51, 52, 53, 54, 55, 56, 57, 58, 59, 60, 61, 62, 63, 64, 65, 66, 67, 68, 69, 70, 71] (by decide +kernel) (by decide +kernel)
set_option maxRecDepth 20000 in
theorem gX11_port_X11_reads : GoodIn wsX11_port (wsV RX11 47 RX11 yX11_reads wsX11_reads) := goodIn_app (goodIn_of _ (by decide +kernel)) ggX11_port_X11_reads
set_option maxRecDepth 20000 in
theorem ggX11_port_X11_begins : GoodIn wsX11_port wsX11_begins := goodIn_r _ [46, 3, 9, 47, 48, 49, 25, 26, 7, 27, 50, 51, 52, 53, 54, 55, 56, 57, 58, 59, 60, 61, 62, 63, 64, 65, 66, 67, 68, 69, 70, 71] (by decide +kernel) (by decide +kernel)
set_option maxRecDepth 20000 in
theorem gX11_port_X11_begins : GoodIn wsX11_port (wsV RX11 51 RX11 yX11_begins wsX11_begins) := goodIn_app (goodIn_of _ (by decide +kernel)) ggX11_port_X11_begins
theorem dX11_port_0 : decode cX11_port 0 = .ok (.aload_n 0, 1) := by decide +kernel
theorem dX11_port_1 : decode cX11_port 1 = .ok (.invokevirtual 47, 3) := by decide +kernel
theorem dX11_port_4 : decode cX11_port 4 = .ok (.ifCond .ne 11, 3) := by decide +kernel
theorem dX11_port_7 : decode cX11_port 7 = .ok (.bipush (-10), 2) := by decide +kernel
theorem dX11_port_9 : decode cX11_port 9 = .ok (.aload_n 0, 1) := by decide +kernel
theorem dX11_port_10 : decode cX11_port 10 = .ok (.getfield 69, 3) := by decide +kernel
theorem dX11_port_13 : decode cX11_port 13 = .ok (.isub, 1) := by decide +kernel
theorem dX11_port_14 : decode cX11_port 14 = .ok (.ireturn, 1) := by decide +kernel
theorem dX11_port_15 : decode cX11_port 15 = .ok (.aload_n 0, 1) := by decide +kernel
theorem dX11_port_16 : decode cX11_port 16 = .ok (.invokevirtual 51, 3) := by decide +kernel
theorem dX11_port_19 : decode cX11_port 19 = .ok (.aload_n 0, 1) := by decide +kernel
theorem dX11_port_20 : decode cX11_port 20 = .ok (.iconst 0, 1) := by decide +kernel
theorem dX11_port_21 : decode cX11_port 21 = .ok (.putfield 58, 3) := by decide +kernel
theorem dX11_port_24 : decode cX11_port 24 = .ok (.aload_n 0, 1) := by decide +kernel
theorem dX11_port_25 : decode cX11_port 25 = .ok (.getfield 13, 3) := by decide +kernel
theorem dX11_port_28 : decode cX11_port 28 = .ok (.iconst 4, 1) := by decide +kernel
theorem dX11_port_29 : decode cX11_port 29 = .ok (.iaload, 1) := by decide +kernel
theorem dX11_port_30 : decode cX11_port 30 = .ok (.ireturn, 1) := by decide +kernel
theorem dX11_isHeld_0 : decode cX11_isHeld 0 = .ok (.aload_n 0, 1) := by decide +kernel
theorem dX11_isHeld_1 : decode cX11_isHeld 1 = .ok (.getfield 19, 3) := by decide +kernel
theorem dX11_isHeld_4 : decode cX11_isHeld 4 = .ok (.iconst 1, 1) := by decide +kernel
theorem dX11_isHeld_5 : decode cX11_isHeld 5 = .ok (.iaload, 1) := by decide +kernel
theorem dX11_isHeld_6 : decode cX11_isHeld 6 = .ok (.bipush (-9), 2) := by decide +kernel
theorem dX11_isHeld_8 : decode cX11_isHeld 8 = .ok (.if_icmp .eq 7, 3) := by decide +kernel
theorem dX11_isHeld_11 : decode cX11_isHeld 11 = .ok (.iconst 1, 1) := by decide +kernel
theorem dX11_isHeld_12 : decode cX11_isHeld 12 = .ok (.goto 4, 3) := by decide +kernel
theorem dX11_isHeld_15 : decode cX11_isHeld 15 = .ok (.iconst 0, 1) := by decide +kernel
theorem dX11_isHeld_16 : decode cX11_isHeld 16 = .ok (.ireturn, 1) := by decide +kernel
theorem dX11_care_0 : decode cX11_care 0 = .ok (.aload_n 0, 1) := by decide +kernel
theorem dX11_care_1 : decode cX11_care 1 = .ok (.getfield 19, 3) := by decide +kernel
theorem dX11_care_4 : decode cX11_care 4 = .ok (.iconst 1, 1) := by decide +kernel
theorem dX11_care_5 : decode cX11_care 5 = .ok (.iaload, 1) := by decide +kernel
theorem dX11_care_6 : decode cX11_care 6 = .ok (.iload_n 1, 1) := by decide +kernel
theorem dX11_care_7 : decode cX11_care 7 = .ok (.if_icmp .ne 7, 3) := by decide +kernel
theorem dX11_care_10 : decode cX11_care 10 = .ok (.iconst 0, 1) := by decide +kernel
theorem dX11_care_11 : decode cX11_care 11 = .ok (.goto 19, 3) := by decide +kernel
theorem dX11_care_14 : decode cX11_care 14 = .ok (.aload_n 0, 1) := by decide +kernel
theorem dX11_care_15 : decode cX11_care 15 = .ok (.getfield 19, 3) := by decide +kernel
theorem dX11_care_18 : decode cX11_care 18 = .ok (.iconst 0, 1) := by decide +kernel
theorem dX11_care_19 : decode cX11_care 19 = .ok (.iaload, 1) := by decide +kernel
theorem dX11_care_20 : decode cX11_care 20 = .ok (.aload_n 0, 1) := by decide +kernel
theorem dX11_care_21 : decode cX11_care 21 = .ok (.getfield 19, 3) := by decide +kernel
theorem dX11_care_24 : decode cX11_care 24 = .ok (.bipush 10, 2) := by decide +kernel
theorem dX11_care_26 : decode cX11_care 26 = .ok (.iload_n 1, 1) := by decide +kernel
theorem dX11_care_27 : decode cX11_care 27 = .ok (.iadd, 1) := by decide +kernel
theorem dX11_care_28 : decode cX11_care 28 = .ok (.iaload, 1) := by decide +kernel
theorem dX11_care_29 : decode cX11_care 29 = .ok (.isub, 1) := by decide +kernel
theorem dX11_care_30 : decode cX11_care 30 = .ok (.ireturn, 1) := by decide +kernel
set_option maxRecDepth 20000 in
theorem ggX11_one_X11_isOne : GoodIn wsX11_one wsX11_isOne := goodIn_r _ [7, 1, 8, 9, 6, 10, 15, 16, 17, 18, 19, 20, 21, 22, 23, 24, 25, 26, 27, 28, 29, 30, 31, 32, 33, 34, 35, 36] (by decide +kernel) (by decide +kernel)
set_option maxRecDepth 20000 in
theorem gX11_one_X11_isOne : GoodIn wsX11_one (wsV RX11 100 RX11 yX11_isOne wsX11_isOne) := goodIn_app (goodIn_of _ (by decide +kernel)) ggX11_one_X11_isOne
set_option maxRecDepth 20000 in
theorem ggX11_one_X11_care : GoodIn wsX11_one wsX11_care := goodIn_r _ [14, 2, 15, 16, 17, 18, 19, 20, 21, 22, 23, 24, 25, 26, 27, 28, 29, 30, 31, 32, 33, 34, 35, 36] (by decide +kernel) (by decide +kernel)
set_option maxRecDepth 20000 in
theorem gX11_one_X11_care : GoodIn wsX11_one (wsV RX11 103 RX11 yX11_care wsX11_care) := goodIn_app (goodIn_of _ (by decide +kernel)) ggX11_one_X11_care
theorem dX11_one_0 : decode cX11_one 0 = .ok (.aload_n 0, 1) := by decide +kernel
theorem dX11_one_1 : decode cX11_one 1 = .ok (.iload_n 1, 1) := by decide +kernel
theorem dX11_one_2 : decode cX11_one 2 = .ok (.invokevirtual 100, 3) := by decide +kernel
theorem dX11_one_5 : decode cX11_one 5 = .ok (.ifCond .ne 5, 3) := by decide +kernel
theorem dX11_one_8 : decode cX11_one 8 = .ok (.iconst (-1), 1) := by decide +kernel
theorem dX11_one_9 : decode cX11_one 9 = .ok (.ireturn, 1) := by decide +kernel
theorem dX11_one_10 : decode cX11_one 10 = .ok (.iload_n 2, 1) := by decide +kernel
theorem dX11_one_11 : decode cX11_one 11 = .ok (.tableswitch 64 0 3 #[29, 39, 48, 58], 29) := by decide +kernel
theorem dX11_one_40 : decode cX11_one 40 = .ok (.aload_n 0, 1) := by decide +kernel
theorem dX11_one_41 : decode cX11_one 41 = .ok (.getfield 13, 3) := by decide +kernel
theorem dX11_one_44 : decode cX11_one 44 = .ok (.bipush 6, 2) := by decide +kernel
theorem dX11_one_46 : decode cX11_one 46 = .ok (.iload_n 1, 1) := by decide +kernel
theorem dX11_one_47 : decode cX11_one 47 = .ok (.iadd, 1) := by decide +kernel
theorem dX11_one_48 : decode cX11_one 48 = .ok (.iaload, 1) := by decide +kernel
theorem dX11_one_49 : decode cX11_one 49 = .ok (.ireturn, 1) := by decide +kernel
theorem dX11_one_50 : decode cX11_one 50 = .ok (.aload_n 0, 1) := by decide +kernel
theorem dX11_one_51 : decode cX11_one 51 = .ok (.getfield 19, 3) := by decide +kernel
theorem dX11_one_54 : decode cX11_one 54 = .ok (.iconst 4, 1) := by decide +kernel
theorem dX11_one_55 : decode cX11_one 55 = .ok (.iload_n 1, 1) := by decide +kernel
theorem dX11_one_56 : decode cX11_one 56 = .ok (.iadd, 1) := by decide +kernel
theorem dX11_one_57 : decode cX11_one 57 = .ok (.iaload, 1) := by decide +kernel
theorem dX11_one_58 : decode cX11_one 58 = .ok (.ireturn, 1) := by decide +kernel
theorem dX11_one_59 : decode cX11_one 59 = .ok (.aload_n 0, 1) := by decide +kernel
theorem dX11_one_60 : decode cX11_one 60 = .ok (.getfield 19, 3) := by decide +kernel
theorem dX11_one_63 : decode cX11_one 63 = .ok (.bipush 16, 2) := by decide +kernel
theorem dX11_one_65 : decode cX11_one 65 = .ok (.iload_n 1, 1) := by decide +kernel
theorem dX11_one_66 : decode cX11_one 66 = .ok (.iadd, 1) := by decide +kernel
theorem dX11_one_67 : decode cX11_one 67 = .ok (.iaload, 1) := by decide +kernel
theorem dX11_one_68 : decode cX11_one 68 = .ok (.ireturn, 1) := by decide +kernel
theorem dX11_one_69 : decode cX11_one 69 = .ok (.aload_n 0, 1) := by decide +kernel
theorem dX11_one_70 : decode cX11_one 70 = .ok (.iload_n 1, 1) := by decide +kernel
theorem dX11_one_71 : decode cX11_one 71 = .ok (.invokevirtual 103, 3) := by decide +kernel
theorem dX11_one_74 : decode cX11_one 74 = .ok (.ireturn, 1) := by decide +kernel
theorem dX11_one_75 : decode cX11_one 75 = .ok (.iconst (-1), 1) := by decide +kernel
theorem dX11_one_76 : decode cX11_one 76 = .ok (.ireturn, 1) := by decide +kernel
set_option maxRecDepth 20000 in
theorem ggX11_isDone_X11_has : GoodIn wsX11_isDone wsX11_has := goodIn_r _ [5] (by decide +kernel) (by decide +kernel)
set_option maxRecDepth 20000 in
theorem gX11_isDone_X11_has : GoodIn wsX11_isDone (va_wsS RX11 106 yX11_has wsX11_has) := goodIn_app (goodIn_of _ (by decide +kernel)) ggX11_isDone_X11_has
theorem dX11_isDone_0 : decode cX11_isDone 0 = .ok (.aload_n 0, 1) := by decide +kernel
theorem dX11_isDone_1 : decode cX11_isDone 1 = .ok (.getfield 19, 3) := by decide +kernel
theorem dX11_isDone_4 : decode cX11_isDone 4 = .ok (.bipush 22, 2) := by decide +kernel
theorem dX11_isDone_6 : decode cX11_isDone 6 = .ok (.iaload, 1) := by decide +kernel
theorem dX11_isDone_7 : decode cX11_isDone 7 = .ok (.iload_n 1, 1) := by decide +kernel
theorem dX11_isDone_8 : decode cX11_isDone 8 = .ok (.invokestatic 106, 3) := by decide +kernel
theorem dX11_isDone_11 : decode cX11_isDone 11 = .ok (.ireturn, 1) := by decide +kernel
set_option maxRecDepth 20000 in
theorem ggX11_deed_X11_isDeed : GoodIn wsX11_deed wsX11_isDeed := goodIn_r _ [6, 1, 7, 8, 5, 9, 18, 19, 20, 21, 22, 23, 24, 25, 26, 27, 28, 29, 30, 31, 32, 33, 34, 35, 36, 37, 38, 39] (by decide +kernel) (by decide +kernel)
set_option maxRecDepth 20000 in
theorem gX11_deed_X11_isDeed : GoodIn wsX11_deed (wsV RX11 110 RX11 yX11_isDeed wsX11_isDeed) := goodIn_app (goodIn_of _ (by decide +kernel)) ggX11_deed_X11_isDeed
set_option maxRecDepth 20000 in
theorem ggX11_deed_X11_isDone : GoodIn wsX11_deed wsX11_isDone := goodIn_r _ [13, 14, 15, 16, 5, 17, 18, 19, 20, 21, 22, 23, 24, 25, 26, 27, 28, 29, 30, 31, 32, 33, 34, 35, 36, 37, 38, 39] (by decide +kernel) (by decide +kernel)
set_option maxRecDepth 20000 in
theorem gX11_deed_X11_isDone : GoodIn wsX11_deed (wsV RX11 113 RX11 yX11_isDone wsX11_isDone) := goodIn_app (goodIn_of _ (by decide +kernel)) ggX11_deed_X11_isDone
theorem dX11_deed_0 : decode cX11_deed 0 = .ok (.aload_n 0, 1) := by decide +kernel
theorem dX11_deed_1 : decode cX11_deed 1 = .ok (.iload_n 1, 1) := by decide +kernel
theorem dX11_deed_2 : decode cX11_deed 2 = .ok (.invokevirtual 110, 3) := by decide +kernel
theorem dX11_deed_5 : decode cX11_deed 5 = .ok (.ifCond .ne 5, 3) := by decide +kernel
theorem dX11_deed_8 : decode cX11_deed 8 = .ok (.iconst (-1), 1) := by decide +kernel
theorem dX11_deed_9 : decode cX11_deed 9 = .ok (.ireturn, 1) := by decide +kernel
theorem dX11_deed_10 : decode cX11_deed 10 = .ok (.iload_n 2, 1) := by decide +kernel
theorem dX11_deed_11 : decode cX11_deed 11 = .ok (.tableswitch 101 0 5 #[37, 47, 57, 67, 77, 87], 37) := by decide +kernel
theorem dX11_deed_48 : decode cX11_deed 48 = .ok (.aload_n 0, 1) := by decide +kernel
theorem dX11_deed_49 : decode cX11_deed 49 = .ok (.getfield 13, 3) := by decide +kernel
theorem dX11_deed_52 : decode cX11_deed 52 = .ok (.bipush 12, 2) := by decide +kernel
theorem dX11_deed_54 : decode cX11_deed 54 = .ok (.iload_n 1, 1) := by decide +kernel
theorem dX11_deed_55 : decode cX11_deed 55 = .ok (.iadd, 1) := by decide +kernel
theorem dX11_deed_56 : decode cX11_deed 56 = .ok (.iaload, 1) := by decide +kernel
theorem dX11_deed_57 : decode cX11_deed 57 = .ok (.ireturn, 1) := by decide +kernel
theorem dX11_deed_58 : decode cX11_deed 58 = .ok (.aload_n 0, 1) := by decide +kernel
theorem dX11_deed_59 : decode cX11_deed 59 = .ok (.getfield 13, 3) := by decide +kernel
theorem dX11_deed_62 : decode cX11_deed 62 = .ok (.bipush 20, 2) := by decide +kernel
theorem dX11_deed_64 : decode cX11_deed 64 = .ok (.iload_n 1, 1) := by decide +kernel
theorem dX11_deed_65 : decode cX11_deed 65 = .ok (.iadd, 1) := by decide +kernel
theorem dX11_deed_66 : decode cX11_deed 66 = .ok (.iaload, 1) := by decide +kernel
theorem dX11_deed_67 : decode cX11_deed 67 = .ok (.ireturn, 1) := by decide +kernel
theorem dX11_deed_68 : decode cX11_deed 68 = .ok (.aload_n 0, 1) := by decide +kernel
theorem dX11_deed_69 : decode cX11_deed 69 = .ok (.getfield 13, 3) := by decide +kernel
theorem dX11_deed_72 : decode cX11_deed 72 = .ok (.bipush 28, 2) := by decide +kernel
theorem dX11_deed_74 : decode cX11_deed 74 = .ok (.iload_n 1, 1) := by decide +kernel
theorem dX11_deed_75 : decode cX11_deed 75 = .ok (.iadd, 1) := by decide +kernel
theorem dX11_deed_76 : decode cX11_deed 76 = .ok (.iaload, 1) := by decide +kernel
theorem dX11_deed_77 : decode cX11_deed 77 = .ok (.ireturn, 1) := by decide +kernel
theorem dX11_deed_78 : decode cX11_deed 78 = .ok (.aload_n 0, 1) := by decide +kernel
theorem dX11_deed_79 : decode cX11_deed 79 = .ok (.getfield 13, 3) := by decide +kernel
theorem dX11_deed_82 : decode cX11_deed 82 = .ok (.bipush 36, 2) := by decide +kernel
theorem dX11_deed_84 : decode cX11_deed 84 = .ok (.iload_n 1, 1) := by decide +kernel
theorem dX11_deed_85 : decode cX11_deed 85 = .ok (.iadd, 1) := by decide +kernel
theorem dX11_deed_86 : decode cX11_deed 86 = .ok (.iaload, 1) := by decide +kernel
theorem dX11_deed_87 : decode cX11_deed 87 = .ok (.ireturn, 1) := by decide +kernel
theorem dX11_deed_88 : decode cX11_deed 88 = .ok (.aload_n 0, 1) := by decide +kernel
theorem dX11_deed_89 : decode cX11_deed 89 = .ok (.getfield 13, 3) := by decide +kernel
theorem dX11_deed_92 : decode cX11_deed 92 = .ok (.bipush 44, 2) := by decide +kernel
theorem dX11_deed_94 : decode cX11_deed 94 = .ok (.iload_n 1, 1) := by decide +kernel
theorem dX11_deed_95 : decode cX11_deed 95 = .ok (.iadd, 1) := by decide +kernel
theorem dX11_deed_96 : decode cX11_deed 96 = .ok (.iaload, 1) := by decide +kernel
theorem dX11_deed_97 : decode cX11_deed 97 = .ok (.ireturn, 1) := by decide +kernel
theorem dX11_deed_98 : decode cX11_deed 98 = .ok (.aload_n 0, 1) := by decide +kernel
theorem dX11_deed_99 : decode cX11_deed 99 = .ok (.iload_n 1, 1) := by decide +kernel
theorem dX11_deed_100 : decode cX11_deed 100 = .ok (.invokevirtual 113, 3) := by decide +kernel
theorem dX11_deed_103 : decode cX11_deed 103 = .ok (.ifCond .eq 7, 3) := by decide +kernel
theorem dX11_deed_106 : decode cX11_deed 106 = .ok (.iconst 1, 1) := by decide +kernel
theorem dX11_deed_107 : decode cX11_deed 107 = .ok (.goto 4, 3) := by decide +kernel
theorem dX11_deed_110 : decode cX11_deed 110 = .ok (.iconst 0, 1) := by decide +kernel
theorem dX11_deed_111 : decode cX11_deed 111 = .ok (.ireturn, 1) := by decide +kernel
theorem dX11_deed_112 : decode cX11_deed 112 = .ok (.iconst (-1), 1) := by decide +kernel
theorem dX11_deed_113 : decode cX11_deed 113 = .ok (.ireturn, 1) := by decide +kernel
theorem dX11_remembers_0 : decode cX11_remembers 0 = .ok (.aload_n 0, 1) := by decide +kernel
theorem dX11_remembers_1 : decode cX11_remembers 1 = .ok (.getfield 19, 3) := by decide +kernel
theorem dX11_remembers_4 : decode cX11_remembers 4 = .ok (.bipush 23, 2) := by decide +kernel
theorem dX11_remembers_6 : decode cX11_remembers 6 = .ok (.iaload, 1) := by decide +kernel
theorem dX11_remembers_7 : decode cX11_remembers 7 = .ok (.bipush 10, 2) := by decide +kernel
theorem dX11_remembers_9 : decode cX11_remembers 9 = .ok (.if_icmp .ne 45, 3) := by decide +kernel
theorem dX11_remembers_12 : decode cX11_remembers 12 = .ok (.bipush 24, 2) := by decide +kernel
theorem dX11_remembers_14 : decode cX11_remembers 14 = .ok (.istore_n 1, 1) := by decide +kernel
theorem dX11_remembers_15 : decode cX11_remembers 15 = .ok (.iload_n 1, 1) := by decide +kernel
theorem dX11_remembers_16 : decode cX11_remembers 16 = .ok (.sipush 231, 3) := by decide +kernel
theorem dX11_remembers_19 : decode cX11_remembers 19 = .ok (.if_icmp .ge 24, 3) := by decide +kernel
theorem dX11_remembers_22 : decode cX11_remembers 22 = .ok (.aload_n 0, 1) := by decide +kernel
theorem dX11_remembers_23 : decode cX11_remembers 23 = .ok (.getfield 19, 3) := by decide +kernel
theorem dX11_remembers_26 : decode cX11_remembers 26 = .ok (.iload_n 1, 1) := by decide +kernel
theorem dX11_remembers_27 : decode cX11_remembers 27 = .ok (.aload_n 0, 1) := by decide +kernel
theorem dX11_remembers_28 : decode cX11_remembers 28 = .ok (.getfield 19, 3) := by decide +kernel
theorem dX11_remembers_31 : decode cX11_remembers 31 = .ok (.iload_n 1, 1) := by decide +kernel
theorem dX11_remembers_32 : decode cX11_remembers 32 = .ok (.bipush 23, 2) := by decide +kernel
theorem dX11_remembers_34 : decode cX11_remembers 34 = .ok (.iadd, 1) := by decide +kernel
theorem dX11_remembers_35 : decode cX11_remembers 35 = .ok (.iaload, 1) := by decide +kernel
theorem dX11_remembers_36 : decode cX11_remembers 36 = .ok (.iastore, 1) := by decide +kernel
theorem dX11_remembers_37 : decode cX11_remembers 37 = .ok (.iinc 1 1, 3) := by decide +kernel
theorem dX11_remembers_40 : decode cX11_remembers 40 = .ok (.goto (-25), 3) := by decide +kernel
theorem dX11_remembers_43 : decode cX11_remembers 43 = .ok (.aload_n 0, 1) := by decide +kernel
theorem dX11_remembers_44 : decode cX11_remembers 44 = .ok (.getfield 19, 3) := by decide +kernel
theorem dX11_remembers_47 : decode cX11_remembers 47 = .ok (.bipush 23, 2) := by decide +kernel
theorem dX11_remembers_49 : decode cX11_remembers 49 = .ok (.dup2, 1) := by decide +kernel
theorem dX11_remembers_50 : decode cX11_remembers 50 = .ok (.iaload, 1) := by decide +kernel
theorem dX11_remembers_51 : decode cX11_remembers 51 = .ok (.iconst 1, 1) := by decide +kernel
theorem dX11_remembers_52 : decode cX11_remembers 52 = .ok (.isub, 1) := by decide +kernel
theorem dX11_remembers_53 : decode cX11_remembers 53 = .ok (.iastore, 1) := by decide +kernel
theorem dX11_remembers_54 : decode cX11_remembers 54 = .ok (.bipush 24, 2) := by decide +kernel
theorem dX11_remembers_56 : decode cX11_remembers 56 = .ok (.bipush 23, 2) := by decide +kernel
theorem dX11_remembers_58 : decode cX11_remembers 58 = .ok (.aload_n 0, 1) := by decide +kernel
theorem dX11_remembers_59 : decode cX11_remembers 59 = .ok (.getfield 19, 3) := by decide +kernel
theorem dX11_remembers_62 : decode cX11_remembers 62 = .ok (.bipush 23, 2) := by decide +kernel
theorem dX11_remembers_64 : decode cX11_remembers 64 = .ok (.iaload, 1) := by decide +kernel
theorem dX11_remembers_65 : decode cX11_remembers 65 = .ok (.imul, 1) := by decide +kernel
theorem dX11_remembers_66 : decode cX11_remembers 66 = .ok (.iadd, 1) := by decide +kernel
theorem dX11_remembers_67 : decode cX11_remembers 67 = .ok (.istore_n 1, 1) := by decide +kernel
theorem dX11_remembers_68 : decode cX11_remembers 68 = .ok (.iconst 0, 1) := by decide +kernel
theorem dX11_remembers_69 : decode cX11_remembers 69 = .ok (.istore_n 2, 1) := by decide +kernel
theorem dX11_remembers_70 : decode cX11_remembers 70 = .ok (.iload_n 2, 1) := by decide +kernel
theorem dX11_remembers_71 : decode cX11_remembers 71 = .ok (.bipush 23, 2) := by decide +kernel
theorem dX11_remembers_73 : decode cX11_remembers 73 = .ok (.if_icmp .ge 23, 3) := by decide +kernel
theorem dX11_remembers_76 : decode cX11_remembers 76 = .ok (.aload_n 0, 1) := by decide +kernel
theorem dX11_remembers_77 : decode cX11_remembers 77 = .ok (.getfield 19, 3) := by decide +kernel
theorem dX11_remembers_80 : decode cX11_remembers 80 = .ok (.iload_n 1, 1) := by decide +kernel
theorem dX11_remembers_81 : decode cX11_remembers 81 = .ok (.iload_n 2, 1) := by decide +kernel
theorem dX11_remembers_82 : decode cX11_remembers 82 = .ok (.iadd, 1) := by decide +kernel
theorem dX11_remembers_83 : decode cX11_remembers 83 = .ok (.aload_n 0, 1) := by decide +kernel
theorem dX11_remembers_84 : decode cX11_remembers 84 = .ok (.getfield 19, 3) := by decide +kernel
theorem dX11_remembers_87 : decode cX11_remembers 87 = .ok (.iload_n 2, 1) := by decide +kernel
theorem dX11_remembers_88 : decode cX11_remembers 88 = .ok (.iaload, 1) := by decide +kernel
theorem dX11_remembers_89 : decode cX11_remembers 89 = .ok (.iastore, 1) := by decide +kernel
theorem dX11_remembers_90 : decode cX11_remembers 90 = .ok (.iinc 2 1, 3) := by decide +kernel
theorem dX11_remembers_93 : decode cX11_remembers 93 = .ok (.goto (-23), 3) := by decide +kernel
theorem dX11_remembers_96 : decode cX11_remembers 96 = .ok (.aload_n 0, 1) := by decide +kernel
theorem dX11_remembers_97 : decode cX11_remembers 97 = .ok (.getfield 19, 3) := by decide +kernel
theorem dX11_remembers_100 : decode cX11_remembers 100 = .ok (.bipush 23, 2) := by decide +kernel
theorem dX11_remembers_102 : decode cX11_remembers 102 = .ok (.dup2, 1) := by decide +kernel
theorem dX11_remembers_103 : decode cX11_remembers 103 = .ok (.iaload, 1) := by decide +kernel
theorem dX11_remembers_104 : decode cX11_remembers 104 = .ok (.iconst 1, 1) := by decide +kernel
theorem dX11_remembers_105 : decode cX11_remembers 105 = .ok (.iadd, 1) := by decide +kernel
theorem dX11_remembers_106 : decode cX11_remembers 106 = .ok (.iastore, 1) := by decide +kernel
theorem dX11_remembers_107 : decode cX11_remembers 107 = .ok (.return_, 1) := by decide +kernel
set_option maxRecDepth 20000 in
theorem ggX11_gives_X11_isHeld : GoodIn wsX11_gives wsX11_isHeld := goodIn_r _ [7, 1, 8, 9, 10, 11, 12, 13, 14, 15, 16, 17, 18, 19, 20, 21, 22, 23, 24, 25, 26, 27, 28, 29] (by decide +kernel) (by decide +kernel)
set_option maxRecDepth 20000 in
theorem gX11_gives_X11_isHeld : GoodIn wsX11_gives (wsV RX11 116 RX11 yX11_isHeld wsX11_isHeld) := goodIn_app (goodIn_of _ (by decide +kernel)) ggX11_gives_X11_isHeld
theorem dX11_gives_0 : decode cX11_gives 0 = .ok (.aload_n 0, 1) := by decide +kernel
theorem dX11_gives_1 : decode cX11_gives 1 = .ok (.invokevirtual 116, 3) := by decide +kernel
theorem dX11_gives_4 : decode cX11_gives 4 = .ok (.ifCond .ne 5, 3) := by decide +kernel
theorem dX11_gives_7 : decode cX11_gives 7 = .ok (.iconst 0, 1) := by decide +kernel
theorem dX11_gives_8 : decode cX11_gives 8 = .ok (.ireturn, 1) := by decide +kernel
theorem dX11_gives_9 : decode cX11_gives 9 = .ok (.aload_n 0, 1) := by decide +kernel
theorem dX11_gives_10 : decode cX11_gives 10 = .ok (.getfield 19, 3) := by decide +kernel
theorem dX11_gives_13 : decode cX11_gives 13 = .ok (.iconst 1, 1) := by decide +kernel
theorem dX11_gives_14 : decode cX11_gives 14 = .ok (.iaload, 1) := by decide +kernel
theorem dX11_gives_15 : decode cX11_gives 15 = .ok (.istore_n 1, 1) := by decide +kernel
theorem dX11_gives_16 : decode cX11_gives 16 = .ok (.aload_n 0, 1) := by decide +kernel
theorem dX11_gives_17 : decode cX11_gives 17 = .ok (.getfield 19, 3) := by decide +kernel
theorem dX11_gives_20 : decode cX11_gives 20 = .ok (.iconst 0, 1) := by decide +kernel
theorem dX11_gives_21 : decode cX11_gives 21 = .ok (.iaload, 1) := by decide +kernel
theorem dX11_gives_22 : decode cX11_gives 22 = .ok (.aload_n 0, 1) := by decide +kernel
theorem dX11_gives_23 : decode cX11_gives 23 = .ok (.getfield 19, 3) := by decide +kernel
theorem dX11_gives_26 : decode cX11_gives 26 = .ok (.iconst 2, 1) := by decide +kernel
theorem dX11_gives_27 : decode cX11_gives 27 = .ok (.iaload, 1) := by decide +kernel
theorem dX11_gives_28 : decode cX11_gives 28 = .ok (.isub, 1) := by decide +kernel
theorem dX11_gives_29 : decode cX11_gives 29 = .ok (.aload_n 0, 1) := by decide +kernel
theorem dX11_gives_30 : decode cX11_gives 30 = .ok (.getfield 13, 3) := by decide +kernel
theorem dX11_gives_33 : decode cX11_gives 33 = .ok (.iconst 3, 1) := by decide +kernel
theorem dX11_gives_34 : decode cX11_gives 34 = .ok (.iaload, 1) := by decide +kernel
theorem dX11_gives_35 : decode cX11_gives 35 = .ok (.isub, 1) := by decide +kernel
theorem dX11_gives_36 : decode cX11_gives 36 = .ok (.istore_n 2, 1) := by decide +kernel
theorem dX11_gives_37 : decode cX11_gives 37 = .ok (.aload_n 0, 1) := by decide +kernel
theorem dX11_gives_38 : decode cX11_gives 38 = .ok (.getfield 19, 3) := by decide +kernel
theorem dX11_gives_41 : decode cX11_gives 41 = .ok (.bipush 16, 2) := by decide +kernel
theorem dX11_gives_43 : decode cX11_gives 43 = .ok (.iload_n 1, 1) := by decide +kernel
theorem dX11_gives_44 : decode cX11_gives 44 = .ok (.iadd, 1) := by decide +kernel
theorem dX11_gives_45 : decode cX11_gives 45 = .ok (.iaload, 1) := by decide +kernel
theorem dX11_gives_46 : decode cX11_gives 46 = .ok (.iload_n 2, 1) := by decide +kernel
theorem dX11_gives_47 : decode cX11_gives 47 = .ok (.ifCond .le 7, 3) := by decide +kernel
theorem dX11_gives_50 : decode cX11_gives 50 = .ok (.iload_n 2, 1) := by decide +kernel
theorem dX11_gives_51 : decode cX11_gives 51 = .ok (.goto 4, 3) := by decide +kernel
theorem dX11_gives_54 : decode cX11_gives 54 = .ok (.iconst 0, 1) := by decide +kernel
theorem dX11_gives_55 : decode cX11_gives 55 = .ok (.iadd, 1) := by decide +kernel
theorem dX11_gives_56 : decode cX11_gives 56 = .ok (.istore_n 3, 1) := by decide +kernel
theorem dX11_gives_57 : decode cX11_gives 57 = .ok (.aload_n 0, 1) := by decide +kernel
theorem dX11_gives_58 : decode cX11_gives 58 = .ok (.getfield 19, 3) := by decide +kernel
theorem dX11_gives_61 : decode cX11_gives 61 = .ok (.bipush 16, 2) := by decide +kernel
theorem dX11_gives_63 : decode cX11_gives 63 = .ok (.iload_n 1, 1) := by decide +kernel
theorem dX11_gives_64 : decode cX11_gives 64 = .ok (.iadd, 1) := by decide +kernel
theorem dX11_gives_65 : decode cX11_gives 65 = .ok (.iload_n 3, 1) := by decide +kernel
theorem dX11_gives_66 : decode cX11_gives 66 = .ok (.sipush 999, 3) := by decide +kernel
theorem dX11_gives_69 : decode cX11_gives 69 = .ok (.if_icmp .le 9, 3) := by decide +kernel
theorem dX11_gives_72 : decode cX11_gives 72 = .ok (.sipush 999, 3) := by decide +kernel
theorem dX11_gives_75 : decode cX11_gives 75 = .ok (.goto 4, 3) := by decide +kernel
theorem dX11_gives_78 : decode cX11_gives 78 = .ok (.iload_n 3, 1) := by decide +kernel
theorem dX11_gives_79 : decode cX11_gives 79 = .ok (.iastore, 1) := by decide +kernel
theorem dX11_gives_80 : decode cX11_gives 80 = .ok (.aload_n 0, 1) := by decide +kernel
theorem dX11_gives_81 : decode cX11_gives 81 = .ok (.getfield 19, 3) := by decide +kernel
theorem dX11_gives_84 : decode cX11_gives 84 = .ok (.bipush 10, 2) := by decide +kernel
theorem dX11_gives_86 : decode cX11_gives 86 = .ok (.iload_n 1, 1) := by decide +kernel
theorem dX11_gives_87 : decode cX11_gives 87 = .ok (.iadd, 1) := by decide +kernel
theorem dX11_gives_88 : decode cX11_gives 88 = .ok (.aload_n 0, 1) := by decide +kernel
theorem dX11_gives_89 : decode cX11_gives 89 = .ok (.getfield 19, 3) := by decide +kernel
theorem dX11_gives_92 : decode cX11_gives 92 = .ok (.iconst 0, 1) := by decide +kernel
theorem dX11_gives_93 : decode cX11_gives 93 = .ok (.iaload, 1) := by decide +kernel
theorem dX11_gives_94 : decode cX11_gives 94 = .ok (.iastore, 1) := by decide +kernel
theorem dX11_gives_95 : decode cX11_gives 95 = .ok (.aload_n 0, 1) := by decide +kernel
theorem dX11_gives_96 : decode cX11_gives 96 = .ok (.getfield 19, 3) := by decide +kernel
theorem dX11_gives_99 : decode cX11_gives 99 = .ok (.bipush 16, 2) := by decide +kernel
theorem dX11_gives_101 : decode cX11_gives 101 = .ok (.iload_n 1, 1) := by decide +kernel
theorem dX11_gives_102 : decode cX11_gives 102 = .ok (.iadd, 1) := by decide +kernel
theorem dX11_gives_103 : decode cX11_gives 103 = .ok (.iaload, 1) := by decide +kernel
theorem dX11_gives_104 : decode cX11_gives 104 = .ok (.ireturn, 1) := by decide +kernel
set_option maxRecDepth 20000 in
theorem ggX11_spoonAt_X11_isHeld : GoodIn wsX11_spoonAt wsX11_isHeld := goodIn_r _ [7, 1, 8, 9, 10, 11, 12, 13, 14, 15, 16, 17, 18, 19, 20, 21, 22, 23, 24, 25, 26, 27, 28, 29] (by decide +kernel) (by decide +kernel)
set_option maxRecDepth 20000 in
theorem gX11_spoonAt_X11_isHeld : GoodIn wsX11_spoonAt (wsV RX11 116 RX11 yX11_isHeld wsX11_isHeld) := goodIn_app (goodIn_of _ (by decide +kernel)) ggX11_spoonAt_X11_isHeld
theorem dX11_spoonAt_0 : decode cX11_spoonAt 0 = .ok (.aload_n 0, 1) := by decide +kernel
theorem dX11_spoonAt_1 : decode cX11_spoonAt 1 = .ok (.invokevirtual 116, 3) := by decide +kernel
theorem dX11_spoonAt_4 : decode cX11_spoonAt 4 = .ok (.ifCond .eq 19, 3) := by decide +kernel
theorem dX11_spoonAt_7 : decode cX11_spoonAt 7 = .ok (.aload_n 0, 1) := by decide +kernel
theorem dX11_spoonAt_8 : decode cX11_spoonAt 8 = .ok (.getfield 19, 3) := by decide +kernel
theorem dX11_spoonAt_11 : decode cX11_spoonAt 11 = .ok (.iconst 4, 1) := by decide +kernel
theorem dX11_spoonAt_12 : decode cX11_spoonAt 12 = .ok (.aload_n 0, 1) := by decide +kernel
theorem dX11_spoonAt_13 : decode cX11_spoonAt 13 = .ok (.getfield 19, 3) := by decide +kernel
theorem dX11_spoonAt_16 : decode cX11_spoonAt 16 = .ok (.iconst 1, 1) := by decide +kernel
theorem dX11_spoonAt_17 : decode cX11_spoonAt 17 = .ok (.iaload, 1) := by decide +kernel
theorem dX11_spoonAt_18 : decode cX11_spoonAt 18 = .ok (.iadd, 1) := by decide +kernel
theorem dX11_spoonAt_19 : decode cX11_spoonAt 19 = .ok (.iaload, 1) := by decide +kernel
theorem dX11_spoonAt_20 : decode cX11_spoonAt 20 = .ok (.goto 9, 3) := by decide +kernel
theorem dX11_spoonAt_23 : decode cX11_spoonAt 23 = .ok (.aload_n 0, 1) := by decide +kernel
theorem dX11_spoonAt_24 : decode cX11_spoonAt 24 = .ok (.getfield 13, 3) := by decide +kernel
theorem dX11_spoonAt_27 : decode cX11_spoonAt 27 = .ok (.iconst 2, 1) := by decide +kernel
theorem dX11_spoonAt_28 : decode cX11_spoonAt 28 = .ok (.iaload, 1) := by decide +kernel
theorem dX11_spoonAt_29 : decode cX11_spoonAt 29 = .ok (.ireturn, 1) := by decide +kernel
set_option maxRecDepth 20000 in
theorem ggX11_lends_X11_isOne : GoodIn wsX11_lends wsX11_isOne := goodIn_r _ [6, 7, 8, 9, 5, 10, 27, 28, 29, 30, 31, 32, 33, 34, 35, 36, 37, 38, 39, 40, 41, 42, 43, 44, 45, 46, 47, 48] (by decide +kernel) (by decide +kernel)
set_option maxRecDepth 20000 in
theorem gX11_lends_X11_isOne : GoodIn wsX11_lends (wsV RX11 100 RX11 yX11_isOne wsX11_isOne) := goodIn_app (goodIn_of _ (by decide +kernel)) ggX11_lends_X11_isOne
set_option maxRecDepth 20000 in
theorem ggX11_lends_X11_spoonAt : GoodIn wsX11_lends wsX11_spoonAt := goodIn_r _ [14, 1, 7, 15, 16, 17, 5, 18, 27, 28, 29, 30, 31, 32, 33, 34, 35, 36, 37, 38, 39, 40, 41, 42, 43, 44, 45, 46, 47, 48] (by decide +kernel) (by decide +kernel)
set_option maxRecDepth 20000 in
theorem gX11_lends_X11_spoonAt : GoodIn wsX11_lends (wsV RX11 119 RX11 yX11_spoonAt wsX11_spoonAt) := goodIn_app (goodIn_of _ (by decide +kernel)) ggX11_lends_X11_spoonAt
set_option maxRecDepth 20000 in
theorem ggX11_lends_X11_remembers : GoodIn wsX11_lends wsX11_remembers := goodIn_r _ [22, 1, 27, 28, 29, 30, 31, 32, 33, 34, 35, 36, 37, 38, 39, 40, 41, 42, 43, 44, 45, 46, 47, 48] (by decide +kernel) (by decide +kernel)
set_option maxRecDepth 20000 in
theorem gX11_lends_X11_remembers : GoodIn wsX11_lends (wsV RX11 123 RX11 yX11_remembers wsX11_remembers) := goodIn_app (goodIn_of _ (by decide +kernel)) ggX11_lends_X11_remembers
set_option maxRecDepth 20000 in
theorem ggX11_lends_X11_gives : GoodIn wsX11_lends wsX11_gives := goodIn_r _ [26, 1, 7, 15, 16, 17, 5, 18, 27, 28, 29, 30, 31, 32, 33, 34, 35, 36, 37, 38, 39, 40, 41, 42, 43, 44, 45, 46, 47, 48] (by decide +kernel) (by decide +kernel)
set_option maxRecDepth 20000 in
theorem gX11_lends_X11_gives : GoodIn wsX11_lends (wsV RX11 126 RX11 yX11_gives wsX11_gives) := goodIn_app (goodIn_of _ (by decide +kernel)) ggX11_lends_X11_gives
theorem dX11_lends_0 : decode cX11_lends 0 = .ok (.aload_n 0, 1) := by decide +kernel
theorem dX11_lends_1 : decode cX11_lends 1 = .ok (.iload_n 1, 1) := by decide +kernel
theorem dX11_lends_2 : decode cX11_lends 2 = .ok (.invokevirtual 100, 3) := by decide +kernel
theorem dX11_lends_5 : decode cX11_lends 5 = .ok (.ifCond .ne 5, 3) := by decide +kernel
theorem dX11_lends_8 : decode cX11_lends 8 = .ok (.iconst (-1), 1) := by decide +kernel
theorem dX11_lends_9 : decode cX11_lends 9 = .ok (.ireturn, 1) := by decide +kernel
theorem dX11_lends_10 : decode cX11_lends 10 = .ok (.aload_n 0, 1) := by decide +kernel
theorem dX11_lends_11 : decode cX11_lends 11 = .ok (.getfield 19, 3) := by decide +kernel
theorem dX11_lends_14 : decode cX11_lends 14 = .ok (.iconst 1, 1) := by decide +kernel
theorem dX11_lends_15 : decode cX11_lends 15 = .ok (.iaload, 1) := by decide +kernel
theorem dX11_lends_16 : decode cX11_lends 16 = .ok (.iload_n 1, 1) := by decide +kernel
theorem dX11_lends_17 : decode cX11_lends 17 = .ok (.if_icmp .eq 18, 3) := by decide +kernel
theorem dX11_lends_20 : decode cX11_lends 20 = .ok (.aload_n 0, 1) := by decide +kernel
theorem dX11_lends_21 : decode cX11_lends 21 = .ok (.getfield 19, 3) := by decide +kernel
theorem dX11_lends_24 : decode cX11_lends 24 = .ok (.iconst 4, 1) := by decide +kernel
theorem dX11_lends_25 : decode cX11_lends 25 = .ok (.iload_n 1, 1) := by decide +kernel
theorem dX11_lends_26 : decode cX11_lends 26 = .ok (.iadd, 1) := by decide +kernel
theorem dX11_lends_27 : decode cX11_lends 27 = .ok (.iaload, 1) := by decide +kernel
theorem dX11_lends_28 : decode cX11_lends 28 = .ok (.aload_n 0, 1) := by decide +kernel
theorem dX11_lends_29 : decode cX11_lends 29 = .ok (.invokevirtual 119, 3) := by decide +kernel
theorem dX11_lends_32 : decode cX11_lends 32 = .ok (.if_icmp .eq 6, 3) := by decide +kernel
theorem dX11_lends_35 : decode cX11_lends 35 = .ok (.bipush (-2), 2) := by decide +kernel
theorem dX11_lends_37 : decode cX11_lends 37 = .ok (.ireturn, 1) := by decide +kernel
theorem dX11_lends_38 : decode cX11_lends 38 = .ok (.aload_n 0, 1) := by decide +kernel
theorem dX11_lends_39 : decode cX11_lends 39 = .ok (.invokevirtual 123, 3) := by decide +kernel
theorem dX11_lends_42 : decode cX11_lends 42 = .ok (.aload_n 0, 1) := by decide +kernel
theorem dX11_lends_43 : decode cX11_lends 43 = .ok (.invokevirtual 126, 3) := by decide +kernel
theorem dX11_lends_46 : decode cX11_lends 46 = .ok (.istore_n 2, 1) := by decide +kernel
theorem dX11_lends_47 : decode cX11_lends 47 = .ok (.aload_n 0, 1) := by decide +kernel
theorem dX11_lends_48 : decode cX11_lends 48 = .ok (.getfield 19, 3) := by decide +kernel
theorem dX11_lends_51 : decode cX11_lends 51 = .ok (.iconst 1, 1) := by decide +kernel
theorem dX11_lends_52 : decode cX11_lends 52 = .ok (.iload_n 1, 1) := by decide +kernel
theorem dX11_lends_53 : decode cX11_lends 53 = .ok (.iastore, 1) := by decide +kernel
theorem dX11_lends_54 : decode cX11_lends 54 = .ok (.aload_n 0, 1) := by decide +kernel
theorem dX11_lends_55 : decode cX11_lends 55 = .ok (.getfield 19, 3) := by decide +kernel
theorem dX11_lends_58 : decode cX11_lends 58 = .ok (.iconst 2, 1) := by decide +kernel
theorem dX11_lends_59 : decode cX11_lends 59 = .ok (.aload_n 0, 1) := by decide +kernel
theorem dX11_lends_60 : decode cX11_lends 60 = .ok (.getfield 19, 3) := by decide +kernel
theorem dX11_lends_63 : decode cX11_lends 63 = .ok (.iconst 0, 1) := by decide +kernel
theorem dX11_lends_64 : decode cX11_lends 64 = .ok (.iaload, 1) := by decide +kernel
theorem dX11_lends_65 : decode cX11_lends 65 = .ok (.iastore, 1) := by decide +kernel
theorem dX11_lends_66 : decode cX11_lends 66 = .ok (.aload_n 0, 1) := by decide +kernel
theorem dX11_lends_67 : decode cX11_lends 67 = .ok (.getfield 19, 3) := by decide +kernel
theorem dX11_lends_70 : decode cX11_lends 70 = .ok (.iconst 3, 1) := by decide +kernel
theorem dX11_lends_71 : decode cX11_lends 71 = .ok (.iconst 1, 1) := by decide +kernel
theorem dX11_lends_72 : decode cX11_lends 72 = .ok (.iastore, 1) := by decide +kernel
theorem dX11_lends_73 : decode cX11_lends 73 = .ok (.iload_n 2, 1) := by decide +kernel
theorem dX11_lends_74 : decode cX11_lends 74 = .ok (.ireturn, 1) := by decide +kernel
set_option maxRecDepth 20000 in
theorem ggX11_brings_X11_isHeld : GoodIn wsX11_brings wsX11_isHeld := goodIn_r _ [7, 2, 20, 21, 22, 23, 24, 25, 26, 27, 28, 29, 30, 31, 32, 33, 34, 35, 36, 37, 38, 39, 40, 41] (by decide +kernel) (by decide +kernel)
set_option maxRecDepth 20000 in
theorem gX11_brings_X11_isHeld : GoodIn wsX11_brings (wsV RX11 116 RX11 yX11_isHeld wsX11_isHeld) := goodIn_app (goodIn_of _ (by decide +kernel)) ggX11_brings_X11_isHeld
set_option maxRecDepth 20000 in
theorem ggX11_brings_X11_spoonAt : GoodIn wsX11_brings wsX11_spoonAt := goodIn_r _ [11, 2, 1, 3, 4, 5, 6, 7, 20, 21, 22, 23, 24, 25, 26, 27, 28, 29, 30, 31, 32, 33, 34, 35, 36, 37, 38, 39, 40, 41] (by decide +kernel) (by decide +kernel)
set_option maxRecDepth 20000 in
theorem gX11_brings_X11_spoonAt : GoodIn wsX11_brings (wsV RX11 119 RX11 yX11_spoonAt wsX11_spoonAt) := goodIn_app (goodIn_of _ (by decide +kernel)) ggX11_brings_X11_spoonAt
set_option maxRecDepth 20000 in
theorem ggX11_brings_X11_remembers : GoodIn wsX11_brings wsX11_remembers := goodIn_r _ [15, 2, 20, 21, 22, 23, 24, 25, 26, 27, 28, 29, 30, 31, 32, 33, 34, 35, 36, 37, 38, 39, 40, 41] (by decide +kernel) (by decide +kernel)
set_option maxRecDepth 20000 in
theorem gX11_brings_X11_remembers : GoodIn wsX11_brings (wsV RX11 123 RX11 yX11_remembers wsX11_remembers) := goodIn_app (goodIn_of _ (by decide +kernel)) ggX11_brings_X11_remembers
set_option maxRecDepth 20000 in
theorem ggX11_brings_X11_gives : GoodIn wsX11_brings wsX11_gives := goodIn_r _ [19, 2, 1, 3, 4, 5, 6, 7, 20, 21, 22, 23, 24, 25, 26, 27, 28, 29, 30, 31, 32, 33, 34, 35, 36, 37, 38, 39, 40, 41] (by decide +kernel) (by decide +kernel)
set_option maxRecDepth 20000 in
theorem gX11_brings_X11_gives : GoodIn wsX11_brings (wsV RX11 126 RX11 yX11_gives wsX11_gives) := goodIn_app (goodIn_of _ (by decide +kernel)) ggX11_brings_X11_gives
theorem dX11_brings_0 : decode cX11_brings 0 = .ok (.aload_n 0, 1) := by decide +kernel
theorem dX11_brings_1 : decode cX11_brings 1 = .ok (.invokevirtual 116, 3) := by decide +kernel
theorem dX11_brings_4 : decode cX11_brings 4 = .ok (.ifCond .eq 16, 3) := by decide +kernel
theorem dX11_brings_7 : decode cX11_brings 7 = .ok (.aload_n 0, 1) := by decide +kernel
theorem dX11_brings_8 : decode cX11_brings 8 = .ok (.invokevirtual 119, 3) := by decide +kernel
theorem dX11_brings_11 : decode cX11_brings 11 = .ok (.aload_n 0, 1) := by decide +kernel
theorem dX11_brings_12 : decode cX11_brings 12 = .ok (.getfield 13, 3) := by decide +kernel
theorem dX11_brings_15 : decode cX11_brings 15 = .ok (.iconst 2, 1) := by decide +kernel
theorem dX11_brings_16 : decode cX11_brings 16 = .ok (.iaload, 1) := by decide +kernel
theorem dX11_brings_17 : decode cX11_brings 17 = .ok (.if_icmp .eq 6, 3) := by decide +kernel
theorem dX11_brings_20 : decode cX11_brings 20 = .ok (.bipush (-2), 2) := by decide +kernel
theorem dX11_brings_22 : decode cX11_brings 22 = .ok (.ireturn, 1) := by decide +kernel
theorem dX11_brings_23 : decode cX11_brings 23 = .ok (.aload_n 0, 1) := by decide +kernel
theorem dX11_brings_24 : decode cX11_brings 24 = .ok (.invokevirtual 123, 3) := by decide +kernel
theorem dX11_brings_27 : decode cX11_brings 27 = .ok (.aload_n 0, 1) := by decide +kernel
theorem dX11_brings_28 : decode cX11_brings 28 = .ok (.invokevirtual 126, 3) := by decide +kernel
theorem dX11_brings_31 : decode cX11_brings 31 = .ok (.istore_n 1, 1) := by decide +kernel
theorem dX11_brings_32 : decode cX11_brings 32 = .ok (.aload_n 0, 1) := by decide +kernel
theorem dX11_brings_33 : decode cX11_brings 33 = .ok (.getfield 19, 3) := by decide +kernel
theorem dX11_brings_36 : decode cX11_brings 36 = .ok (.iconst 1, 1) := by decide +kernel
theorem dX11_brings_37 : decode cX11_brings 37 = .ok (.bipush (-9), 2) := by decide +kernel
theorem dX11_brings_39 : decode cX11_brings 39 = .ok (.iastore, 1) := by decide +kernel
theorem dX11_brings_40 : decode cX11_brings 40 = .ok (.aload_n 0, 1) := by decide +kernel
theorem dX11_brings_41 : decode cX11_brings 41 = .ok (.getfield 19, 3) := by decide +kernel
theorem dX11_brings_44 : decode cX11_brings 44 = .ok (.iconst 2, 1) := by decide +kernel
theorem dX11_brings_45 : decode cX11_brings 45 = .ok (.iconst 0, 1) := by decide +kernel
theorem dX11_brings_46 : decode cX11_brings 46 = .ok (.iastore, 1) := by decide +kernel
theorem dX11_brings_47 : decode cX11_brings 47 = .ok (.aload_n 0, 1) := by decide +kernel
theorem dX11_brings_48 : decode cX11_brings 48 = .ok (.getfield 19, 3) := by decide +kernel
theorem dX11_brings_51 : decode cX11_brings 51 = .ok (.iconst 3, 1) := by decide +kernel
theorem dX11_brings_52 : decode cX11_brings 52 = .ok (.iconst 0, 1) := by decide +kernel
theorem dX11_brings_53 : decode cX11_brings 53 = .ok (.iastore, 1) := by decide +kernel
theorem dX11_brings_54 : decode cX11_brings 54 = .ok (.iload_n 1, 1) := by decide +kernel
theorem dX11_brings_55 : decode cX11_brings 55 = .ok (.ireturn, 1) := by decide +kernel
set_option maxRecDepth 20000 in
theorem ggX11_walks_X11_in : GoodIn wsX11_walks wsX11_in := goodIn_r _ [5] (by decide +kernel) (by decide +kernel)
set_option maxRecDepth 20000 in
theorem gX11_walks_X11_in : GoodIn wsX11_walks (va_wsS RX11 54 yX11_in wsX11_in) := goodIn_app (goodIn_of _ (by decide +kernel)) ggX11_walks_X11_in
set_option maxRecDepth 20000 in
theorem ggX11_walks_X11_spoonAt : GoodIn wsX11_walks wsX11_spoonAt := goodIn_r _ [9, 1, 10, 11, 12, 13, 4, 14, 22, 23, 24, 25, 26, 27, 28, 29, 30, 31, 32, 33, 34, 35, 36, 37, 38, 39, 40, 41, 42, 43] (by decide +kernel) (by decide +kernel)
set_option maxRecDepth 20000 in
theorem gX11_walks_X11_spoonAt : GoodIn wsX11_walks (wsV RX11 119 RX11 yX11_spoonAt wsX11_spoonAt) := goodIn_app (goodIn_of _ (by decide +kernel)) ggX11_walks_X11_spoonAt
set_option maxRecDepth 20000 in
theorem ggX11_walks_X11_far : GoodIn wsX11_walks wsX11_far := goodIn_r _ [17] (by decide +kernel) (by decide +kernel)
set_option maxRecDepth 20000 in
theorem gX11_walks_X11_far : GoodIn wsX11_walks (va_wsS RX11 129 yX11_far wsX11_far) := goodIn_app (goodIn_of _ (by decide +kernel)) ggX11_walks_X11_far
set_option maxRecDepth 20000 in
theorem ggX11_walks_X11_isHeld : GoodIn wsX11_walks wsX11_isHeld := goodIn_r _ [14, 1, 22, 23, 24, 25, 26, 27, 28, 29, 30, 31, 32, 33, 34, 35, 36, 37, 38, 39, 40, 41, 42, 43] (by decide +kernel) (by decide +kernel)
set_option maxRecDepth 20000 in
theorem gX11_walks_X11_isHeld : GoodIn wsX11_walks (wsV RX11 116 RX11 yX11_isHeld wsX11_isHeld) := goodIn_app (goodIn_of _ (by decide +kernel)) ggX11_walks_X11_isHeld
set_option maxRecDepth 20000 in
theorem ggX11_walks_X11_remembers : GoodIn wsX11_walks wsX11_remembers := goodIn_r _ [21, 1, 22, 23, 24, 25, 26, 27, 28, 29, 30, 31, 32, 33, 34, 35, 36, 37, 38, 39, 40, 41, 42, 43] (by decide +kernel) (by decide +kernel)
set_option maxRecDepth 20000 in
theorem gX11_walks_X11_remembers : GoodIn wsX11_walks (wsV RX11 123 RX11 yX11_remembers wsX11_remembers) := goodIn_app (goodIn_of _ (by decide +kernel)) ggX11_walks_X11_remembers
theorem dX11_walks_0 : decode cX11_walks 0 = .ok (.iload_n 1, 1) := by decide +kernel
theorem dX11_walks_1 : decode cX11_walks 1 = .ok (.iconst 0, 1) := by decide +kernel
theorem dX11_walks_2 : decode cX11_walks 2 = .ok (.bipush 30, 2) := by decide +kernel
theorem dX11_walks_4 : decode cX11_walks 4 = .ok (.invokestatic 54, 3) := by decide +kernel
theorem dX11_walks_7 : decode cX11_walks 7 = .ok (.ifCond .ne 5, 3) := by decide +kernel
theorem dX11_walks_10 : decode cX11_walks 10 = .ok (.iconst (-1), 1) := by decide +kernel
theorem dX11_walks_11 : decode cX11_walks 11 = .ok (.ireturn, 1) := by decide +kernel
theorem dX11_walks_12 : decode cX11_walks 12 = .ok (.aload_n 0, 1) := by decide +kernel
