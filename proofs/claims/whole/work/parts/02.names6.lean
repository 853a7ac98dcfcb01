theorem dX11_odds_38 : decode cX11_odds 38 = .ok (.istore 6, 2) := by decide +kernel
theorem dX11_odds_40 : decode cX11_odds 40 = .ok (.iload 6, 2) := by decide +kernel
theorem dX11_odds_42 : decode cX11_odds 42 = .ok (.aload_n 0, 1) := by decide +kernel
theorem dX11_odds_43 : decode cX11_odds 43 = .ok (.getfield 13, 3) := by decide +kernel
theorem dX11_odds_46 : decode cX11_odds 46 = .ok (.iconst 1, 1) := by decide +kernel
theorem dX11_odds_47 : decode cX11_odds 47 = .ok (.iaload, 1) := by decide +kernel
theorem dX11_odds_48 : decode cX11_odds 48 = .ok (.if_icmp .ge 48, 3) := by decide +kernel
theorem dX11_odds_51 : decode cX11_odds 51 = .ok (.iload 4, 2) := by decide +kernel
theorem dX11_odds_53 : decode cX11_odds 53 = .ok (.aload_n 0, 1) := by decide +kernel
theorem dX11_odds_54 : decode cX11_odds 54 = .ok (.iload 6, 2) := by decide +kernel
theorem dX11_odds_56 : decode cX11_odds 56 = .ok (.invokevirtual 113, 3) := by decide +kernel
theorem dX11_odds_59 : decode cX11_odds 59 = .ok (.ifCond .eq 7, 3) := by decide +kernel
theorem dX11_odds_62 : decode cX11_odds 62 = .ok (.iconst 0, 1) := by decide +kernel
theorem dX11_odds_63 : decode cX11_odds 63 = .ok (.goto 4, 3) := by decide +kernel
theorem dX11_odds_66 : decode cX11_odds 66 = .ok (.iconst 1, 1) := by decide +kernel
theorem dX11_odds_67 : decode cX11_odds 67 = .ok (.iadd, 1) := by decide +kernel
theorem dX11_odds_68 : decode cX11_odds 68 = .ok (.istore 4, 2) := by decide +kernel
theorem dX11_odds_70 : decode cX11_odds 70 = .ok (.iload 5, 2) := by decide +kernel
theorem dX11_odds_72 : decode cX11_odds 72 = .ok (.aload_n 0, 1) := by decide +kernel
theorem dX11_odds_73 : decode cX11_odds 73 = .ok (.iload 6, 2) := by decide +kernel
theorem dX11_odds_75 : decode cX11_odds 75 = .ok (.invokevirtual 113, 3) := by decide +kernel
theorem dX11_odds_78 : decode cX11_odds 78 = .ok (.ifCond .eq 7, 3) := by decide +kernel
theorem dX11_odds_81 : decode cX11_odds 81 = .ok (.iconst 1, 1) := by decide +kernel
theorem dX11_odds_82 : decode cX11_odds 82 = .ok (.goto 5, 3) := by decide +kernel
theorem dX11_odds_85 : decode cX11_odds 85 = .ok (.bipush 10, 2) := by decide +kernel
theorem dX11_odds_87 : decode cX11_odds 87 = .ok (.imul, 1) := by decide +kernel
theorem dX11_odds_88 : decode cX11_odds 88 = .ok (.istore 5, 2) := by decide +kernel
theorem dX11_odds_90 : decode cX11_odds 90 = .ok (.iinc 6 1, 3) := by decide +kernel
theorem dX11_odds_93 : decode cX11_odds 93 = .ok (.goto (-53), 3) := by decide +kernel
theorem dX11_odds_96 : decode cX11_odds 96 = .ok (.iconst 0, 1) := by decide +kernel
theorem dX11_odds_97 : decode cX11_odds 97 = .ok (.istore 6, 2) := by decide +kernel
theorem dX11_odds_99 : decode cX11_odds 99 = .ok (.iconst 0, 1) := by decide +kernel
theorem dX11_odds_100 : decode cX11_odds 100 = .ok (.istore 7, 2) := by decide +kernel
theorem dX11_odds_102 : decode cX11_odds 102 = .ok (.iload 7, 2) := by decide +kernel
theorem dX11_odds_104 : decode cX11_odds 104 = .ok (.iconst 1, 1) := by decide +kernel
theorem dX11_odds_105 : decode cX11_odds 105 = .ok (.iload 4, 2) := by decide +kernel
theorem dX11_odds_107 : decode cX11_odds 107 = .ok (.ishl, 1) := by decide +kernel
theorem dX11_odds_108 : decode cX11_odds 108 = .ok (.if_icmp .ge 83, 3) := by decide +kernel
theorem dX11_odds_111 : decode cX11_odds 111 = .ok (.iconst 1, 1) := by decide +kernel
theorem dX11_odds_112 : decode cX11_odds 112 = .ok (.istore 8, 2) := by decide +kernel
theorem dX11_odds_114 : decode cX11_odds 114 = .ok (.iconst 0, 1) := by decide +kernel
theorem dX11_odds_115 : decode cX11_odds 115 = .ok (.istore 9, 2) := by decide +kernel
theorem dX11_odds_117 : decode cX11_odds 117 = .ok (.iconst 0, 1) := by decide +kernel
theorem dX11_odds_118 : decode cX11_odds 118 = .ok (.istore 10, 2) := by decide +kernel
theorem dX11_odds_120 : decode cX11_odds 120 = .ok (.iload 10, 2) := by decide +kernel
theorem dX11_odds_122 : decode cX11_odds 122 = .ok (.iload 4, 2) := by decide +kernel
theorem dX11_odds_124 : decode cX11_odds 124 = .ok (.if_icmp .ge 44, 3) := by decide +kernel
theorem dX11_odds_127 : decode cX11_odds 127 = .ok (.iload 8, 2) := by decide +kernel
theorem dX11_odds_129 : decode cX11_odds 129 = .ok (.iload 7, 2) := by decide +kernel
theorem dX11_odds_131 : decode cX11_odds 131 = .ok (.iload 10, 2) := by decide +kernel
theorem dX11_odds_133 : decode cX11_odds 133 = .ok (.invokestatic 106, 3) := by decide +kernel
theorem dX11_odds_136 : decode cX11_odds 136 = .ok (.ifCond .eq 7, 3) := by decide +kernel
theorem dX11_odds_139 : decode cX11_odds 139 = .ok (.iload_n 1, 1) := by decide +kernel
theorem dX11_odds_140 : decode cX11_odds 140 = .ok (.goto 7, 3) := by decide +kernel
theorem dX11_odds_143 : decode cX11_odds 143 = .ok (.bipush 10, 2) := by decide +kernel
theorem dX11_odds_145 : decode cX11_odds 145 = .ok (.iload_n 1, 1) := by decide +kernel
theorem dX11_odds_146 : decode cX11_odds 146 = .ok (.isub, 1) := by decide +kernel
theorem dX11_odds_147 : decode cX11_odds 147 = .ok (.imul, 1) := by decide +kernel
theorem dX11_odds_148 : decode cX11_odds 148 = .ok (.istore 8, 2) := by decide +kernel
theorem dX11_odds_150 : decode cX11_odds 150 = .ok (.iload 9, 2) := by decide +kernel
theorem dX11_odds_152 : decode cX11_odds 152 = .ok (.iload 7, 2) := by decide +kernel
theorem dX11_odds_154 : decode cX11_odds 154 = .ok (.iload 10, 2) := by decide +kernel
theorem dX11_odds_156 : decode cX11_odds 156 = .ok (.ishr, 1) := by decide +kernel
theorem dX11_odds_157 : decode cX11_odds 157 = .ok (.iconst 1, 1) := by decide +kernel
theorem dX11_odds_158 : decode cX11_odds 158 = .ok (.iand, 1) := by decide +kernel
theorem dX11_odds_159 : decode cX11_odds 159 = .ok (.iadd, 1) := by decide +kernel
theorem dX11_odds_160 : decode cX11_odds 160 = .ok (.istore 9, 2) := by decide +kernel
theorem dX11_odds_162 : decode cX11_odds 162 = .ok (.iinc 10 1, 3) := by decide +kernel
theorem dX11_odds_165 : decode cX11_odds 165 = .ok (.goto (-45), 3) := by decide +kernel
theorem dX11_odds_168 : decode cX11_odds 168 = .ok (.iload 6, 2) := by decide +kernel
theorem dX11_odds_170 : decode cX11_odds 170 = .ok (.iload 9, 2) := by decide +kernel
theorem dX11_odds_172 : decode cX11_odds 172 = .ok (.iload_n 2, 1) := by decide +kernel
theorem dX11_odds_173 : decode cX11_odds 173 = .ok (.if_icmp .gt 8, 3) := by decide +kernel
theorem dX11_odds_176 : decode cX11_odds 176 = .ok (.iload 8, 2) := by decide +kernel
theorem dX11_odds_178 : decode cX11_odds 178 = .ok (.goto 4, 3) := by decide +kernel
theorem dX11_odds_181 : decode cX11_odds 181 = .ok (.iconst 0, 1) := by decide +kernel
theorem dX11_odds_182 : decode cX11_odds 182 = .ok (.iadd, 1) := by decide +kernel
theorem dX11_odds_183 : decode cX11_odds 183 = .ok (.istore 6, 2) := by decide +kernel
theorem dX11_odds_185 : decode cX11_odds 185 = .ok (.iinc 7 1, 3) := by decide +kernel
theorem dX11_odds_188 : decode cX11_odds 188 = .ok (.goto (-86), 3) := by decide +kernel
theorem dX11_odds_191 : decode cX11_odds 191 = .ok (.iload 6, 2) := by decide +kernel
theorem dX11_odds_193 : decode cX11_odds 193 = .ok (.istore 7, 2) := by decide +kernel
theorem dX11_odds_195 : decode cX11_odds 195 = .ok (.iload 5, 2) := by decide +kernel
theorem dX11_odds_197 : decode cX11_odds 197 = .ok (.istore 8, 2) := by decide +kernel
theorem dX11_odds_199 : decode cX11_odds 199 = .ok (.iload 8, 2) := by decide +kernel
theorem dX11_odds_201 : decode cX11_odds 201 = .ok (.ifCond .le 21, 3) := by decide +kernel
theorem dX11_odds_204 : decode cX11_odds 204 = .ok (.iload 7, 2) := by decide +kernel
theorem dX11_odds_206 : decode cX11_odds 206 = .ok (.iload 8, 2) := by decide +kernel
theorem dX11_odds_208 : decode cX11_odds 208 = .ok (.irem, 1) := by decide +kernel
theorem dX11_odds_209 : decode cX11_odds 209 = .ok (.istore 9, 2) := by decide +kernel
theorem dX11_odds_211 : decode cX11_odds 211 = .ok (.iload 8, 2) := by decide +kernel
theorem dX11_odds_213 : decode cX11_odds 213 = .ok (.istore 7, 2) := by decide +kernel
theorem dX11_odds_215 : decode cX11_odds 215 = .ok (.iload 9, 2) := by decide +kernel
theorem dX11_odds_217 : decode cX11_odds 217 = .ok (.istore 8, 2) := by decide +kernel
theorem dX11_odds_219 : decode cX11_odds 219 = .ok (.goto (-20), 3) := by decide +kernel
theorem dX11_odds_222 : decode cX11_odds 222 = .ok (.iload_n 3, 1) := by decide +kernel
theorem dX11_odds_223 : decode cX11_odds 223 = .ok (.ifCond .ne 11, 3) := by decide +kernel
theorem dX11_odds_226 : decode cX11_odds 226 = .ok (.iload 6, 2) := by decide +kernel
theorem dX11_odds_228 : decode cX11_odds 228 = .ok (.iload 7, 2) := by decide +kernel
theorem dX11_odds_230 : decode cX11_odds 230 = .ok (.idiv, 1) := by decide +kernel
theorem dX11_odds_231 : decode cX11_odds 231 = .ok (.goto 8, 3) := by decide +kernel
theorem dX11_odds_234 : decode cX11_odds 234 = .ok (.iload 5, 2) := by decide +kernel
theorem dX11_odds_236 : decode cX11_odds 236 = .ok (.iload 7, 2) := by decide +kernel
theorem dX11_odds_238 : decode cX11_odds 238 = .ok (.idiv, 1) := by decide +kernel
theorem dX11_odds_239 : decode cX11_odds 239 = .ok (.ireturn, 1) := by decide +kernel
set_option maxRecDepth 20000 in
theorem ggX11_hears_X11_isDeed : GoodIn wsX11_hears wsX11_isDeed := goodIn_r _ [8, 9, 10, 11, 7, 12, 13, 14, 15, 16, 17, 18, 19, 20, 21, 22, 23, 24, 25, 26, 27, 28, 29, 30, 31, 32, 33, 34] (by decide +kernel) (by decide +kernel)
set_option maxRecDepth 20000 in
theorem gX11_hears_X11_isDeed : GoodIn wsX11_hears (wsV RX11 110 RX11 yX11_isDeed wsX11_isDeed) := goodIn_app (goodIn_of _ (by decide +kernel)) ggX11_hears_X11_isDeed
set_option maxRecDepth 20000 in
theorem ggX11_hears_X11_in : GoodIn wsX11_hears wsX11_in := goodIn_r _ [12] (by decide +kernel) (by decide +kernel)
set_option maxRecDepth 20000 in
theorem gX11_hears_X11_in : GoodIn wsX11_hears (va_wsS RX11 54 yX11_in wsX11_in) := goodIn_app (goodIn_of _ (by decide +kernel)) ggX11_hears_X11_in
theorem dX11_hears_0 : decode cX11_hears 0 = .ok (.aload_n 0, 1) := by decide +kernel
theorem dX11_hears_1 : decode cX11_hears 1 = .ok (.iload_n 1, 1) := by decide +kernel
theorem dX11_hears_2 : decode cX11_hears 2 = .ok (.invokevirtual 110, 3) := by decide +kernel
theorem dX11_hears_5 : decode cX11_hears 5 = .ok (.ifCond .eq 13, 3) := by decide +kernel
theorem dX11_hears_8 : decode cX11_hears 8 = .ok (.iload_n 2, 1) := by decide +kernel
theorem dX11_hears_9 : decode cX11_hears 9 = .ok (.iconst 0, 1) := by decide +kernel
theorem dX11_hears_10 : decode cX11_hears 10 = .ok (.bipush 99, 2) := by decide +kernel
theorem dX11_hears_12 : decode cX11_hears 12 = .ok (.invokestatic 54, 3) := by decide +kernel
theorem dX11_hears_15 : decode cX11_hears 15 = .ok (.ifCond .ne 5, 3) := by decide +kernel
theorem dX11_hears_18 : decode cX11_hears 18 = .ok (.iconst (-1), 1) := by decide +kernel
theorem dX11_hears_19 : decode cX11_hears 19 = .ok (.ireturn, 1) := by decide +kernel
theorem dX11_hears_20 : decode cX11_hears 20 = .ok (.aload_n 0, 1) := by decide +kernel
theorem dX11_hears_21 : decode cX11_hears 21 = .ok (.getfield 97, 3) := by decide +kernel
theorem dX11_hears_24 : decode cX11_hears 24 = .ok (.bipush 6, 2) := by decide +kernel
theorem dX11_hears_26 : decode cX11_hears 26 = .ok (.if_icmp .ne 6, 3) := by decide +kernel
theorem dX11_hears_29 : decode cX11_hears 29 = .ok (.bipush (-3), 2) := by decide +kernel
theorem dX11_hears_31 : decode cX11_hears 31 = .ok (.ireturn, 1) := by decide +kernel
theorem dX11_hears_32 : decode cX11_hears 32 = .ok (.aload_n 0, 1) := by decide +kernel
theorem dX11_hears_33 : decode cX11_hears 33 = .ok (.getfield 97, 3) := by decide +kernel
theorem dX11_hears_36 : decode cX11_hears 36 = .ok (.istore_n 3, 1) := by decide +kernel
theorem dX11_hears_37 : decode cX11_hears 37 = .ok (.iload_n 3, 1) := by decide +kernel
theorem dX11_hears_38 : decode cX11_hears 38 = .ok (.ifCond .le 49, 3) := by decide +kernel
theorem dX11_hears_41 : decode cX11_hears 41 = .ok (.aload_n 0, 1) := by decide +kernel
theorem dX11_hears_42 : decode cX11_hears 42 = .ok (.getfield 32, 3) := by decide +kernel
theorem dX11_hears_45 : decode cX11_hears 45 = .ok (.iload_n 3, 1) := by decide +kernel
theorem dX11_hears_46 : decode cX11_hears 46 = .ok (.iconst 1, 1) := by decide +kernel
theorem dX11_hears_47 : decode cX11_hears 47 = .ok (.isub, 1) := by decide +kernel
theorem dX11_hears_48 : decode cX11_hears 48 = .ok (.iaload, 1) := by decide +kernel
theorem dX11_hears_49 : decode cX11_hears 49 = .ok (.iload_n 2, 1) := by decide +kernel
theorem dX11_hears_50 : decode cX11_hears 50 = .ok (.if_icmp .le 37, 3) := by decide +kernel
theorem dX11_hears_53 : decode cX11_hears 53 = .ok (.aload_n 0, 1) := by decide +kernel
theorem dX11_hears_54 : decode cX11_hears 54 = .ok (.getfield 29, 3) := by decide +kernel
theorem dX11_hears_57 : decode cX11_hears 57 = .ok (.iload_n 3, 1) := by decide +kernel
theorem dX11_hears_58 : decode cX11_hears 58 = .ok (.aload_n 0, 1) := by decide +kernel
theorem dX11_hears_59 : decode cX11_hears 59 = .ok (.getfield 29, 3) := by decide +kernel
theorem dX11_hears_62 : decode cX11_hears 62 = .ok (.iload_n 3, 1) := by decide +kernel
theorem dX11_hears_63 : decode cX11_hears 63 = .ok (.iconst 1, 1) := by decide +kernel
theorem dX11_hears_64 : decode cX11_hears 64 = .ok (.isub, 1) := by decide +kernel
theorem dX11_hears_65 : decode cX11_hears 65 = .ok (.iaload, 1) := by decide +kernel
theorem dX11_hears_66 : decode cX11_hears 66 = .ok (.iastore, 1) := by decide +kernel
theorem dX11_hears_67 : decode cX11_hears 67 = .ok (.aload_n 0, 1) := by decide +kernel
theorem dX11_hears_68 : decode cX11_hears 68 = .ok (.getfield 32, 3) := by decide +kernel
theorem dX11_hears_71 : decode cX11_hears 71 = .ok (.iload_n 3, 1) := by decide +kernel
theorem dX11_hears_72 : decode cX11_hears 72 = .ok (.aload_n 0, 1) := by decide +kernel
theorem dX11_hears_73 : decode cX11_hears 73 = .ok (.getfield 32, 3) := by decide +kernel
theorem dX11_hears_76 : decode cX11_hears 76 = .ok (.iload_n 3, 1) := by decide +kernel
theorem dX11_hears_77 : decode cX11_hears 77 = .ok (.iconst 1, 1) := by decide +kernel
theorem dX11_hears_78 : decode cX11_hears 78 = .ok (.isub, 1) := by decide +kernel
theorem dX11_hears_79 : decode cX11_hears 79 = .ok (.iaload, 1) := by decide +kernel
theorem dX11_hears_80 : decode cX11_hears 80 = .ok (.iastore, 1) := by decide +kernel
theorem dX11_hears_81 : decode cX11_hears 81 = .ok (.iinc 3 (-1), 3) := by decide +kernel
theorem dX11_hears_84 : decode cX11_hears 84 = .ok (.goto (-47), 3) := by decide +kernel
theorem dX11_hears_87 : decode cX11_hears 87 = .ok (.aload_n 0, 1) := by decide +kernel
theorem dX11_hears_88 : decode cX11_hears 88 = .ok (.getfield 29, 3) := by decide +kernel
theorem dX11_hears_91 : decode cX11_hears 91 = .ok (.iload_n 3, 1) := by decide +kernel
theorem dX11_hears_92 : decode cX11_hears 92 = .ok (.iload_n 1, 1) := by decide +kernel
theorem dX11_hears_93 : decode cX11_hears 93 = .ok (.iastore, 1) := by decide +kernel
theorem dX11_hears_94 : decode cX11_hears 94 = .ok (.aload_n 0, 1) := by decide +kernel
theorem dX11_hears_95 : decode cX11_hears 95 = .ok (.getfield 32, 3) := by decide +kernel
theorem dX11_hears_98 : decode cX11_hears 98 = .ok (.iload_n 3, 1) := by decide +kernel
theorem dX11_hears_99 : decode cX11_hears 99 = .ok (.iload_n 2, 1) := by decide +kernel
theorem dX11_hears_100 : decode cX11_hears 100 = .ok (.iastore, 1) := by decide +kernel
theorem dX11_hears_101 : decode cX11_hears 101 = .ok (.aload_n 0, 1) := by decide +kernel
theorem dX11_hears_102 : decode cX11_hears 102 = .ok (.dup, 1) := by decide +kernel
theorem dX11_hears_103 : decode cX11_hears 103 = .ok (.getfield 97, 3) := by decide +kernel
theorem dX11_hears_106 : decode cX11_hears 106 = .ok (.iconst 1, 1) := by decide +kernel
theorem dX11_hears_107 : decode cX11_hears 107 = .ok (.iadd, 1) := by decide +kernel
theorem dX11_hears_108 : decode cX11_hears 108 = .ok (.putfield 97, 3) := by decide +kernel
theorem dX11_hears_111 : decode cX11_hears 111 = .ok (.aload_n 0, 1) := by decide +kernel
theorem dX11_hears_112 : decode cX11_hears 112 = .ok (.getfield 97, 3) := by decide +kernel
theorem dX11_hears_115 : decode cX11_hears 115 = .ok (.ireturn, 1) := by decide +kernel
theorem dX11_forget_0 : decode cX11_forget 0 = .ok (.aload_n 0, 1) := by decide +kernel
theorem dX11_forget_1 : decode cX11_forget 1 = .ok (.getfield 97, 3) := by decide +kernel
theorem dX11_forget_4 : decode cX11_forget 4 = .ok (.istore_n 1, 1) := by decide +kernel
theorem dX11_forget_5 : decode cX11_forget 5 = .ok (.aload_n 0, 1) := by decide +kernel
theorem dX11_forget_6 : decode cX11_forget 6 = .ok (.iconst 0, 1) := by decide +kernel
theorem dX11_forget_7 : decode cX11_forget 7 = .ok (.putfield 97, 3) := by decide +kernel
theorem dX11_forget_10 : decode cX11_forget 10 = .ok (.iload_n 1, 1) := by decide +kernel
theorem dX11_forget_11 : decode cX11_forget 11 = .ok (.ireturn, 1) := by decide +kernel
set_option maxRecDepth 20000 in
theorem ggX11_lies_X11_far : GoodIn wsX11_lies wsX11_far := goodIn_r _ [8] (by decide +kernel) (by decide +kernel)
set_option maxRecDepth 20000 in
theorem gX11_lies_X11_far : GoodIn wsX11_lies (va_wsS RX11 129 yX11_far wsX11_far) := goodIn_app (goodIn_of _ (by decide +kernel)) ggX11_lies_X11_far
theorem dX11_lies_0 : decode cX11_lies 0 = .ok (.iconst 0, 1) := by decide +kernel
theorem dX11_lies_1 : decode cX11_lies 1 = .ok (.istore_n 1, 1) := by decide +kernel
theorem dX11_lies_2 : decode cX11_lies 2 = .ok (.iconst 1, 1) := by decide +kernel
theorem dX11_lies_3 : decode cX11_lies 3 = .ok (.istore_n 2, 1) := by decide +kernel
theorem dX11_lies_4 : decode cX11_lies 4 = .ok (.iload_n 2, 1) := by decide +kernel
theorem dX11_lies_5 : decode cX11_lies 5 = .ok (.aload_n 0, 1) := by decide +kernel
theorem dX11_lies_6 : decode cX11_lies 6 = .ok (.getfield 97, 3) := by decide +kernel
theorem dX11_lies_9 : decode cX11_lies 9 = .ok (.if_icmp .ge 68, 3) := by decide +kernel
theorem dX11_lies_12 : decode cX11_lies 12 = .ok (.iload_n 1, 1) := by decide +kernel
theorem dX11_lies_13 : decode cX11_lies 13 = .ok (.aload_n 0, 1) := by decide +kernel
theorem dX11_lies_14 : decode cX11_lies 14 = .ok (.getfield 13, 3) := by decide +kernel
theorem dX11_lies_17 : decode cX11_lies 17 = .ok (.bipush 20, 2) := by decide +kernel
theorem dX11_lies_19 : decode cX11_lies 19 = .ok (.aload_n 0, 1) := by decide +kernel
theorem dX11_lies_20 : decode cX11_lies 20 = .ok (.getfield 29, 3) := by decide +kernel
theorem dX11_lies_23 : decode cX11_lies 23 = .ok (.iload_n 2, 1) := by decide +kernel
theorem dX11_lies_24 : decode cX11_lies 24 = .ok (.iaload, 1) := by decide +kernel
theorem dX11_lies_25 : decode cX11_lies 25 = .ok (.iadd, 1) := by decide +kernel
theorem dX11_lies_26 : decode cX11_lies 26 = .ok (.iaload, 1) := by decide +kernel
theorem dX11_lies_27 : decode cX11_lies 27 = .ok (.aload_n 0, 1) := by decide +kernel
theorem dX11_lies_28 : decode cX11_lies 28 = .ok (.getfield 13, 3) := by decide +kernel
theorem dX11_lies_31 : decode cX11_lies 31 = .ok (.bipush 20, 2) := by decide +kernel
theorem dX11_lies_33 : decode cX11_lies 33 = .ok (.aload_n 0, 1) := by decide +kernel
theorem dX11_lies_34 : decode cX11_lies 34 = .ok (.getfield 29, 3) := by decide +kernel
theorem dX11_lies_37 : decode cX11_lies 37 = .ok (.iload_n 2, 1) := by decide +kernel
theorem dX11_lies_38 : decode cX11_lies 38 = .ok (.iconst 1, 1) := by decide +kernel
theorem dX11_lies_39 : decode cX11_lies 39 = .ok (.isub, 1) := by decide +kernel
theorem dX11_lies_40 : decode cX11_lies 40 = .ok (.iaload, 1) := by decide +kernel
theorem dX11_lies_41 : decode cX11_lies 41 = .ok (.iadd, 1) := by decide +kernel
theorem dX11_lies_42 : decode cX11_lies 42 = .ok (.iaload, 1) := by decide +kernel
theorem dX11_lies_43 : decode cX11_lies 43 = .ok (.invokestatic 129, 3) := by decide +kernel
theorem dX11_lies_46 : decode cX11_lies 46 = .ok (.aload_n 0, 1) := by decide +kernel
theorem dX11_lies_47 : decode cX11_lies 47 = .ok (.getfield 32, 3) := by decide +kernel
theorem dX11_lies_50 : decode cX11_lies 50 = .ok (.iload_n 2, 1) := by decide +kernel
theorem dX11_lies_51 : decode cX11_lies 51 = .ok (.iaload, 1) := by decide +kernel
theorem dX11_lies_52 : decode cX11_lies 52 = .ok (.aload_n 0, 1) := by decide +kernel
theorem dX11_lies_53 : decode cX11_lies 53 = .ok (.getfield 32, 3) := by decide +kernel
theorem dX11_lies_56 : decode cX11_lies 56 = .ok (.iload_n 2, 1) := by decide +kernel
theorem dX11_lies_57 : decode cX11_lies 57 = .ok (.iconst 1, 1) := by decide +kernel
theorem dX11_lies_58 : decode cX11_lies 58 = .ok (.isub, 1) := by decide +kernel
theorem dX11_lies_59 : decode cX11_lies 59 = .ok (.iaload, 1) := by decide +kernel
theorem dX11_lies_60 : decode cX11_lies 60 = .ok (.isub, 1) := by decide +kernel
theorem dX11_lies_61 : decode cX11_lies 61 = .ok (.if_icmp .le 7, 3) := by decide +kernel
theorem dX11_lies_64 : decode cX11_lies 64 = .ok (.iconst 1, 1) := by decide +kernel
theorem dX11_lies_65 : decode cX11_lies 65 = .ok (.goto 4, 3) := by decide +kernel
theorem dX11_lies_68 : decode cX11_lies 68 = .ok (.iconst 0, 1) := by decide +kernel
theorem dX11_lies_69 : decode cX11_lies 69 = .ok (.iadd, 1) := by decide +kernel
theorem dX11_lies_70 : decode cX11_lies 70 = .ok (.istore_n 1, 1) := by decide +kernel
theorem dX11_lies_71 : decode cX11_lies 71 = .ok (.iinc 2 1, 3) := by decide +kernel
theorem dX11_lies_74 : decode cX11_lies 74 = .ok (.goto (-70), 3) := by decide +kernel
theorem dX11_lies_77 : decode cX11_lies 77 = .ok (.iload_n 1, 1) := by decide +kernel
theorem dX11_lies_78 : decode cX11_lies 78 = .ok (.ireturn, 1) := by decide +kernel
set_option maxRecDepth 20000 in
theorem ggX11_had_X11_in : GoodIn wsX11_had wsX11_in := goodIn_r _ [8] (by decide +kernel) (by decide +kernel)
set_option maxRecDepth 20000 in
theorem gX11_had_X11_in : GoodIn wsX11_had (va_wsS RX11 54 yX11_in wsX11_in) := goodIn_app (goodIn_of _ (by decide +kernel)) ggX11_had_X11_in
set_option maxRecDepth 20000 in
theorem ggX11_had_X11_far : GoodIn wsX11_had wsX11_far := goodIn_r _ [11] (by decide +kernel) (by decide +kernel)
set_option maxRecDepth 20000 in
theorem gX11_had_X11_far : GoodIn wsX11_had (va_wsS RX11 129 yX11_far wsX11_far) := goodIn_app (goodIn_of _ (by decide +kernel)) ggX11_had_X11_far
theorem dX11_had_0 : decode cX11_had 0 = .ok (.iload_n 1, 1) := by decide +kernel
theorem dX11_had_1 : decode cX11_had 1 = .ok (.iconst 0, 1) := by decide +kernel
theorem dX11_had_2 : decode cX11_had 2 = .ok (.bipush 99, 2) := by decide +kernel
theorem dX11_had_4 : decode cX11_had 4 = .ok (.invokestatic 54, 3) := by decide +kernel
theorem dX11_had_7 : decode cX11_had 7 = .ok (.ifCond .ne 5, 3) := by decide +kernel
theorem dX11_had_10 : decode cX11_had 10 = .ok (.iconst (-1), 1) := by decide +kernel
theorem dX11_had_11 : decode cX11_had 11 = .ok (.ireturn, 1) := by decide +kernel
theorem dX11_had_12 : decode cX11_had 12 = .ok (.bipush (-9), 2) := by decide +kernel
theorem dX11_had_14 : decode cX11_had 14 = .ok (.istore_n 2, 1) := by decide +kernel
theorem dX11_had_15 : decode cX11_had 15 = .ok (.bipush (-9), 2) := by decide +kernel
theorem dX11_had_17 : decode cX11_had 17 = .ok (.istore_n 3, 1) := by decide +kernel
theorem dX11_had_18 : decode cX11_had 18 = .ok (.iconst 0, 1) := by decide +kernel
theorem dX11_had_19 : decode cX11_had 19 = .ok (.istore 4, 2) := by decide +kernel
theorem dX11_had_21 : decode cX11_had 21 = .ok (.iload 4, 2) := by decide +kernel
theorem dX11_had_23 : decode cX11_had 23 = .ok (.aload_n 0, 1) := by decide +kernel
theorem dX11_had_24 : decode cX11_had 24 = .ok (.getfield 97, 3) := by decide +kernel
theorem dX11_had_27 : decode cX11_had 27 = .ok (.if_icmp .ge 51, 3) := by decide +kernel
theorem dX11_had_30 : decode cX11_had 30 = .ok (.aload_n 0, 1) := by decide +kernel
theorem dX11_had_31 : decode cX11_had 31 = .ok (.getfield 32, 3) := by decide +kernel
theorem dX11_had_34 : decode cX11_had 34 = .ok (.iload 4, 2) := by decide +kernel
theorem dX11_had_36 : decode cX11_had 36 = .ok (.iaload, 1) := by decide +kernel
theorem dX11_had_37 : decode cX11_had 37 = .ok (.iload_n 1, 1) := by decide +kernel
theorem dX11_had_38 : decode cX11_had 38 = .ok (.if_icmp .gt 8, 3) := by decide +kernel
theorem dX11_had_41 : decode cX11_had 41 = .ok (.iload 4, 2) := by decide +kernel
theorem dX11_had_43 : decode cX11_had 43 = .ok (.goto 4, 3) := by decide +kernel
theorem dX11_had_46 : decode cX11_had 46 = .ok (.iload_n 2, 1) := by decide +kernel
theorem dX11_had_47 : decode cX11_had 47 = .ok (.istore_n 2, 1) := by decide +kernel
theorem dX11_had_48 : decode cX11_had 48 = .ok (.aload_n 0, 1) := by decide +kernel
theorem dX11_had_49 : decode cX11_had 49 = .ok (.getfield 32, 3) := by decide +kernel
theorem dX11_had_52 : decode cX11_had 52 = .ok (.iload 4, 2) := by decide +kernel
theorem dX11_had_54 : decode cX11_had 54 = .ok (.iaload, 1) := by decide +kernel
theorem dX11_had_55 : decode cX11_had 55 = .ok (.iload_n 1, 1) := by decide +kernel
theorem dX11_had_56 : decode cX11_had 56 = .ok (.if_icmp .lt 14, 3) := by decide +kernel
theorem dX11_had_59 : decode cX11_had 59 = .ok (.iload_n 3, 1) := by decide +kernel
theorem dX11_had_60 : decode cX11_had 60 = .ok (.bipush (-9), 2) := by decide +kernel
theorem dX11_had_62 : decode cX11_had 62 = .ok (.if_icmp .ne 8, 3) := by decide +kernel
theorem dX11_had_65 : decode cX11_had 65 = .ok (.iload 4, 2) := by decide +kernel
theorem dX11_had_67 : decode cX11_had 67 = .ok (.goto 4, 3) := by decide +kernel
theorem dX11_had_70 : decode cX11_had 70 = .ok (.iload_n 3, 1) := by decide +kernel
theorem dX11_had_71 : decode cX11_had 71 = .ok (.istore_n 3, 1) := by decide +kernel
theorem dX11_had_72 : decode cX11_had 72 = .ok (.iinc 4 1, 3) := by decide +kernel
theorem dX11_had_75 : decode cX11_had 75 = .ok (.goto (-54), 3) := by decide +kernel
theorem dX11_had_78 : decode cX11_had 78 = .ok (.iload_n 2, 1) := by decide +kernel
theorem dX11_had_79 : decode cX11_had 79 = .ok (.bipush (-9), 2) := by decide +kernel
theorem dX11_had_81 : decode cX11_had 81 = .ok (.if_icmp .ne 7, 3) := by decide +kernel
theorem dX11_had_84 : decode cX11_had 84 = .ok (.iconst 0, 1) := by decide +kernel
theorem dX11_had_85 : decode cX11_had 85 = .ok (.goto 19, 3) := by decide +kernel
theorem dX11_had_88 : decode cX11_had 88 = .ok (.iconst 1, 1) := by decide +kernel
theorem dX11_had_89 : decode cX11_had 89 = .ok (.aload_n 0, 1) := by decide +kernel
theorem dX11_had_90 : decode cX11_had 90 = .ok (.getfield 13, 3) := by decide +kernel
theorem dX11_had_93 : decode cX11_had 93 = .ok (.bipush 12, 2) := by decide +kernel
theorem dX11_had_95 : decode cX11_had 95 = .ok (.aload_n 0, 1) := by decide +kernel
theorem dX11_had_96 : decode cX11_had 96 = .ok (.getfield 29, 3) := by decide +kernel
theorem dX11_had_99 : decode cX11_had 99 = .ok (.iload_n 2, 1) := by decide +kernel
theorem dX11_had_100 : decode cX11_had 100 = .ok (.iaload, 1) := by decide +kernel
theorem dX11_had_101 : decode cX11_had 101 = .ok (.iadd, 1) := by decide +kernel
theorem dX11_had_102 : decode cX11_had 102 = .ok (.iaload, 1) := by decide +kernel
theorem dX11_had_103 : decode cX11_had 103 = .ok (.ishl, 1) := by decide +kernel
theorem dX11_had_104 : decode cX11_had 104 = .ok (.istore 4, 2) := by decide +kernel
theorem dX11_had_106 : decode cX11_had 106 = .ok (.iload 4, 2) := by decide +kernel
theorem dX11_had_108 : decode cX11_had 108 = .ok (.iload_n 3, 1) := by decide +kernel
theorem dX11_had_109 : decode cX11_had 109 = .ok (.bipush (-9), 2) := by decide +kernel
theorem dX11_had_111 : decode cX11_had 111 = .ok (.if_icmp .ne 7, 3) := by decide +kernel
theorem dX11_had_114 : decode cX11_had 114 = .ok (.iconst 0, 1) := by decide +kernel
theorem dX11_had_115 : decode cX11_had 115 = .ok (.goto 19, 3) := by decide +kernel
theorem dX11_had_118 : decode cX11_had 118 = .ok (.iconst 1, 1) := by decide +kernel
theorem dX11_had_119 : decode cX11_had 119 = .ok (.aload_n 0, 1) := by decide +kernel
theorem dX11_had_120 : decode cX11_had 120 = .ok (.getfield 13, 3) := by decide +kernel
theorem dX11_had_123 : decode cX11_had 123 = .ok (.bipush 12, 2) := by decide +kernel
theorem dX11_had_125 : decode cX11_had 125 = .ok (.aload_n 0, 1) := by decide +kernel
theorem dX11_had_126 : decode cX11_had 126 = .ok (.getfield 29, 3) := by decide +kernel
theorem dX11_had_129 : decode cX11_had 129 = .ok (.iload_n 3, 1) := by decide +kernel
theorem dX11_had_130 : decode cX11_had 130 = .ok (.iaload, 1) := by decide +kernel
theorem dX11_had_131 : decode cX11_had 131 = .ok (.iadd, 1) := by decide +kernel
theorem dX11_had_132 : decode cX11_had 132 = .ok (.iaload, 1) := by decide +kernel
theorem dX11_had_133 : decode cX11_had 133 = .ok (.ishl, 1) := by decide +kernel
theorem dX11_had_134 : decode cX11_had 134 = .ok (.ior, 1) := by decide +kernel
theorem dX11_had_135 : decode cX11_had 135 = .ok (.istore 4, 2) := by decide +kernel
theorem dX11_had_137 : decode cX11_had 137 = .ok (.iconst 0, 1) := by decide +kernel
theorem dX11_had_138 : decode cX11_had 138 = .ok (.istore 5, 2) := by decide +kernel
theorem dX11_had_140 : decode cX11_had 140 = .ok (.iload 5, 2) := by decide +kernel
theorem dX11_had_142 : decode cX11_had 142 = .ok (.aload_n 0, 1) := by decide +kernel
theorem dX11_had_143 : decode cX11_had 143 = .ok (.getfield 13, 3) := by decide +kernel
theorem dX11_had_146 : decode cX11_had 146 = .ok (.iconst 0, 1) := by decide +kernel
theorem dX11_had_147 : decode cX11_had 147 = .ok (.iaload, 1) := by decide +kernel
theorem dX11_had_148 : decode cX11_had 148 = .ok (.if_icmp .ge 134, 3) := by decide +kernel
theorem dX11_had_151 : decode cX11_had 151 = .ok (.iload_n 2, 1) := by decide +kernel
theorem dX11_had_152 : decode cX11_had 152 = .ok (.bipush (-9), 2) := by decide +kernel
theorem dX11_had_154 : decode cX11_had 154 = .ok (.if_icmp .eq 41, 3) := by decide +kernel
theorem dX11_had_157 : decode cX11_had 157 = .ok (.aload_n 0, 1) := by decide +kernel
theorem dX11_had_158 : decode cX11_had 158 = .ok (.getfield 13, 3) := by decide +kernel
theorem dX11_had_161 : decode cX11_had 161 = .ok (.bipush 20, 2) := by decide +kernel
theorem dX11_had_163 : decode cX11_had 163 = .ok (.aload_n 0, 1) := by decide +kernel
theorem dX11_had_164 : decode cX11_had 164 = .ok (.getfield 29, 3) := by decide +kernel
theorem dX11_had_167 : decode cX11_had 167 = .ok (.iload_n 2, 1) := by decide +kernel
theorem dX11_had_168 : decode cX11_had 168 = .ok (.iaload, 1) := by decide +kernel
theorem dX11_had_169 : decode cX11_had 169 = .ok (.iadd, 1) := by decide +kernel
theorem dX11_had_170 : decode cX11_had 170 = .ok (.iaload, 1) := by decide +kernel
theorem dX11_had_171 : decode cX11_had 171 = .ok (.aload_n 0, 1) := by decide +kernel
theorem dX11_had_172 : decode cX11_had 172 = .ok (.getfield 13, 3) := by decide +kernel
theorem dX11_had_175 : decode cX11_had 175 = .ok (.bipush 6, 2) := by decide +kernel
theorem dX11_had_177 : decode cX11_had 177 = .ok (.iload 5, 2) := by decide +kernel
theorem dX11_had_179 : decode cX11_had 179 = .ok (.iadd, 1) := by decide +kernel
theorem dX11_had_180 : decode cX11_had 180 = .ok (.iaload, 1) := by decide +kernel
theorem dX11_had_181 : decode cX11_had 181 = .ok (.invokestatic 129, 3) := by decide +kernel
theorem dX11_had_184 : decode cX11_had 184 = .ok (.iload_n 1, 1) := by decide +kernel
theorem dX11_had_185 : decode cX11_had 185 = .ok (.aload_n 0, 1) := by decide +kernel
theorem dX11_had_186 : decode cX11_had 186 = .ok (.getfield 32, 3) := by decide +kernel
theorem dX11_had_189 : decode cX11_had 189 = .ok (.iload_n 2, 1) := by decide +kernel
theorem dX11_had_190 : decode cX11_had 190 = .ok (.iaload, 1) := by decide +kernel
theorem dX11_had_191 : decode cX11_had 191 = .ok (.isub, 1) := by decide +kernel
theorem dX11_had_192 : decode cX11_had 192 = .ok (.if_icmp .gt 7, 3) := by decide +kernel
theorem dX11_had_195 : decode cX11_had 195 = .ok (.iconst 1, 1) := by decide +kernel
theorem dX11_had_196 : decode cX11_had 196 = .ok (.goto 4, 3) := by decide +kernel
theorem dX11_had_199 : decode cX11_had 199 = .ok (.iconst 0, 1) := by decide +kernel
theorem dX11_had_200 : decode cX11_had 200 = .ok (.istore 6, 2) := by decide +kernel
theorem dX11_had_202 : decode cX11_had 202 = .ok (.iload_n 3, 1) := by decide +kernel
theorem dX11_had_203 : decode cX11_had 203 = .ok (.bipush (-9), 2) := by decide +kernel
theorem dX11_had_205 : decode cX11_had 205 = .ok (.if_icmp .eq 41, 3) := by decide +kernel
theorem dX11_had_208 : decode cX11_had 208 = .ok (.aload_n 0, 1) := by decide +kernel
theorem dX11_had_209 : decode cX11_had 209 = .ok (.getfield 13, 3) := by decide +kernel
theorem dX11_had_212 : decode cX11_had 212 = .ok (.bipush 6, 2) := by decide +kernel
theorem dX11_had_214 : decode cX11_had 214 = .ok (.iload 5, 2) := by decide +kernel
theorem dX11_had_216 : decode cX11_had 216 = .ok (.iadd, 1) := by decide +kernel
theorem dX11_had_217 : decode cX11_had 217 = .ok (.iaload, 1) := by decide +kernel
theorem dX11_had_218 : decode cX11_had 218 = .ok (.aload_n 0, 1) := by decide +kernel
theorem dX11_had_219 : decode cX11_had 219 = .ok (.getfield 13, 3) := by decide +kernel
theorem dX11_had_222 : decode cX11_had 222 = .ok (.bipush 20, 2) := by decide +kernel
theorem dX11_had_224 : decode cX11_had 224 = .ok (.aload_n 0, 1) := by decide +kernel
theorem dX11_had_225 : decode cX11_had 225 = .ok (.getfield 29, 3) := by decide +kernel
theorem dX11_had_228 : decode cX11_had 228 = .ok (.iload_n 3, 1) := by decide +kernel
theorem dX11_had_229 : decode cX11_had 229 = .ok (.iaload, 1) := by decide +kernel
theorem dX11_had_230 : decode cX11_had 230 = .ok (.iadd, 1) := by decide +kernel
theorem dX11_had_231 : decode cX11_had 231 = .ok (.iaload, 1) := by decide +kernel
theorem dX11_had_232 : decode cX11_had 232 = .ok (.invokestatic 129, 3) := by decide +kernel
theorem dX11_had_235 : decode cX11_had 235 = .ok (.aload_n 0, 1) := by decide +kernel
theorem dX11_had_236 : decode cX11_had 236 = .ok (.getfield 32, 3) := by decide +kernel
theorem dX11_had_239 : decode cX11_had 239 = .ok (.iload_n 3, 1) := by decide +kernel
theorem dX11_had_240 : decode cX11_had 240 = .ok (.iaload, 1) := by decide +kernel
theorem dX11_had_241 : decode cX11_had 241 = .ok (.iload_n 1, 1) := by decide +kernel
theorem dX11_had_242 : decode cX11_had 242 = .ok (.isub, 1) := by decide +kernel
theorem dX11_had_243 : decode cX11_had 243 = .ok (.if_icmp .gt 7, 3) := by decide +kernel
theorem dX11_had_246 : decode cX11_had 246 = .ok (.iconst 1, 1) := by decide +kernel
theorem dX11_had_247 : decode cX11_had 247 = .ok (.goto 4, 3) := by decide +kernel
theorem dX11_had_250 : decode cX11_had 250 = .ok (.iconst 0, 1) := by decide +kernel
theorem dX11_had_251 : decode cX11_had 251 = .ok (.istore 7, 2) := by decide +kernel
theorem dX11_had_253 : decode cX11_had 253 = .ok (.iload 4, 2) := by decide +kernel
theorem dX11_had_255 : decode cX11_had 255 = .ok (.iload 6, 2) := by decide +kernel
theorem dX11_had_257 : decode cX11_had 257 = .ok (.ifCond .eq 15, 3) := by decide +kernel
theorem dX11_had_260 : decode cX11_had 260 = .ok (.iload 7, 2) := by decide +kernel
theorem dX11_had_262 : decode cX11_had 262 = .ok (.ifCond .eq 10, 3) := by decide +kernel
theorem dX11_had_265 : decode cX11_had 265 = .ok (.iconst 1, 1) := by decide +kernel
theorem dX11_had_266 : decode cX11_had 266 = .ok (.iload 5, 2) := by decide +kernel
theorem dX11_had_268 : decode cX11_had 268 = .ok (.ishl, 1) := by decide +kernel
theorem dX11_had_269 : decode cX11_had 269 = .ok (.goto 4, 3) := by decide +kernel
theorem dX11_had_272 : decode cX11_had 272 = .ok (.iconst 0, 1) := by decide +kernel
theorem dX11_had_273 : decode cX11_had 273 = .ok (.ior, 1) := by decide +kernel
theorem dX11_had_274 : decode cX11_had 274 = .ok (.istore 4, 2) := by decide +kernel
theorem dX11_had_276 : decode cX11_had 276 = .ok (.iinc 5 1, 3) := by decide +kernel
theorem dX11_had_279 : decode cX11_had 279 = .ok (.goto (-139), 3) := by decide +kernel
theorem dX11_had_282 : decode cX11_had 282 = .ok (.iload 4, 2) := by decide +kernel
theorem dX11_had_284 : decode cX11_had 284 = .ok (.ireturn, 1) := by decide +kernel
set_option maxRecDepth 20000 in
theorem ggX11_mark_X11_in : GoodIn wsX11_mark wsX11_in := goodIn_r _ [12] (by decide +kernel) (by decide +kernel)
set_option maxRecDepth 20000 in
theorem gX11_mark_X11_in : GoodIn wsX11_mark (va_wsS RX11 54 yX11_in wsX11_in) := goodIn_app (goodIn_of _ (by decide +kernel)) ggX11_mark_X11_in
set_option maxRecDepth 20000 in
theorem ggX11_mark_X11_isOne : GoodIn wsX11_mark wsX11_isOne := goodIn_r _ [16, 17, 9, 10, 11, 12, 22, 23, 24, 25, 26, 27, 28, 29, 30, 31, 32, 33, 34, 35, 36, 37, 38, 39, 40, 41, 42, 43] (by decide +kernel) (by decide +kernel)
set_option maxRecDepth 20000 in
theorem gX11_mark_X11_isOne : GoodIn wsX11_mark (wsV RX11 100 RX11 yX11_isOne wsX11_isOne) := goodIn_app (goodIn_of _ (by decide +kernel)) ggX11_mark_X11_isOne
set_option maxRecDepth 20000 in
theorem ggX11_mark_X11_care : GoodIn wsX11_mark wsX11_care := goodIn_r _ [21, 8, 22, 23, 24, 25, 26, 27, 28, 29, 30, 31, 32, 33, 34, 35, 36, 37, 38, 39, 40, 41, 42, 43] (by decide +kernel) (by decide +kernel)
set_option maxRecDepth 20000 in
theorem gX11_mark_X11_care : GoodIn wsX11_mark (wsV RX11 103 RX11 yX11_care wsX11_care) := goodIn_app (goodIn_of _ (by decide +kernel)) ggX11_mark_X11_care
theorem dX11_mark_0 : decode cX11_mark 0 = .ok (.iload_n 1, 1) := by decide +kernel
theorem dX11_mark_1 : decode cX11_mark 1 = .ok (.iconst 0, 1) := by decide +kernel
theorem dX11_mark_2 : decode cX11_mark 2 = .ok (.iconst 5, 1) := by decide +kernel
theorem dX11_mark_3 : decode cX11_mark 3 = .ok (.invokestatic 54, 3) := by decide +kernel
theorem dX11_mark_6 : decode cX11_mark 6 = .ok (.ifCond .eq 11, 3) := by decide +kernel
theorem dX11_mark_9 : decode cX11_mark 9 = .ok (.aload_n 0, 1) := by decide +kernel
theorem dX11_mark_10 : decode cX11_mark 10 = .ok (.iload_n 2, 1) := by decide +kernel
theorem dX11_mark_11 : decode cX11_mark 11 = .ok (.invokevirtual 100, 3) := by decide +kernel
theorem dX11_mark_14 : decode cX11_mark 14 = .ok (.ifCond .ne 6, 3) := by decide +kernel
theorem dX11_mark_17 : decode cX11_mark 17 = .ok (.ldc 167, 2) := by decide +kernel
theorem dX11_mark_19 : decode cX11_mark 19 = .ok (.ireturn, 1) := by decide +kernel
theorem dX11_mark_20 : decode cX11_mark 20 = .ok (.aload_n 0, 1) := by decide +kernel
theorem dX11_mark_21 : decode cX11_mark 21 = .ok (.dup, 1) := by decide +kernel
theorem dX11_mark_22 : decode cX11_mark 22 = .ok (.getfield 168, 3) := by decide +kernel
theorem dX11_mark_25 : decode cX11_mark 25 = .ok (.iload_n 1, 1) := by decide +kernel
theorem dX11_mark_26 : decode cX11_mark 26 = .ok (.ifCond .ne 7, 3) := by decide +kernel
theorem dX11_mark_29 : decode cX11_mark 29 = .ok (.lconst 1, 1) := by decide +kernel
theorem dX11_mark_30 : decode cX11_mark 30 = .ok (.goto 50, 3) := by decide +kernel
theorem dX11_mark_33 : decode cX11_mark 33 = .ok (.iload_n 1, 1) := by decide +kernel
theorem dX11_mark_34 : decode cX11_mark 34 = .ok (.iconst 1, 1) := by decide +kernel
theorem dX11_mark_35 : decode cX11_mark 35 = .ok (.if_icmp .ne 9, 3) := by decide +kernel
theorem dX11_mark_38 : decode cX11_mark 38 = .ok (.ldc2_w 172, 3) := by decide +kernel
theorem dX11_mark_41 : decode cX11_mark 41 = .ok (.goto 39, 3) := by decide +kernel
theorem dX11_mark_44 : decode cX11_mark 44 = .ok (.iload_n 1, 1) := by decide +kernel
theorem dX11_mark_45 : decode cX11_mark 45 = .ok (.iconst 2, 1) := by decide +kernel
theorem dX11_mark_46 : decode cX11_mark 46 = .ok (.if_icmp .ne 9, 3) := by decide +kernel
theorem dX11_mark_49 : decode cX11_mark 49 = .ok (.ldc2_w 174, 3) := by decide +kernel
theorem dX11_mark_52 : decode cX11_mark 52 = .ok (.goto 28, 3) := by decide +kernel
theorem dX11_mark_55 : decode cX11_mark 55 = .ok (.iload_n 1, 1) := by decide +kernel
theorem dX11_mark_56 : decode cX11_mark 56 = .ok (.iconst 3, 1) := by decide +kernel
theorem dX11_mark_57 : decode cX11_mark 57 = .ok (.if_icmp .ne 9, 3) := by decide +kernel
theorem dX11_mark_60 : decode cX11_mark 60 = .ok (.ldc2_w 176, 3) := by decide +kernel
theorem dX11_mark_63 : decode cX11_mark 63 = .ok (.goto 17, 3) := by decide +kernel
theorem dX11_mark_66 : decode cX11_mark 66 = .ok (.iload_n 1, 1) := by decide +kernel
theorem dX11_mark_67 : decode cX11_mark 67 = .ok (.iconst 4, 1) := by decide +kernel
theorem dX11_mark_68 : decode cX11_mark 68 = .ok (.if_icmp .ne 9, 3) := by decide +kernel
theorem dX11_mark_71 : decode cX11_mark 71 = .ok (.ldc2_w 178, 3) := by decide +kernel
theorem dX11_mark_74 : decode cX11_mark 74 = .ok (.goto 6, 3) := by decide +kernel
theorem dX11_mark_77 : decode cX11_mark 77 = .ok (.ldc2_w 180, 3) := by decide +kernel
theorem dX11_mark_80 : decode cX11_mark 80 = .ok (.ladd, 1) := by decide +kernel
theorem dX11_mark_81 : decode cX11_mark 81 = .ok (.putfield 168, 3) := by decide +kernel
theorem dX11_mark_84 : decode cX11_mark 84 = .ok (.aload_n 0, 1) := by decide +kernel
theorem dX11_mark_85 : decode cX11_mark 85 = .ok (.iload_n 2, 1) := by decide +kernel
theorem dX11_mark_86 : decode cX11_mark 86 = .ok (.invokevirtual 103, 3) := by decide +kernel
theorem dX11_mark_89 : decode cX11_mark 89 = .ok (.istore_n 3, 1) := by decide +kernel
theorem dX11_mark_90 : decode cX11_mark 90 = .ok (.iload_n 3, 1) := by decide +kernel
theorem dX11_mark_91 : decode cX11_mark 91 = .ok (.aload_n 0, 1) := by decide +kernel
theorem dX11_mark_92 : decode cX11_mark 92 = .ok (.getfield 19, 3) := by decide +kernel
theorem dX11_mark_95 : decode cX11_mark 95 = .ok (.bipush 16, 2) := by decide +kernel
theorem dX11_mark_97 : decode cX11_mark 97 = .ok (.iload_n 2, 1) := by decide +kernel
theorem dX11_mark_98 : decode cX11_mark 98 = .ok (.iadd, 1) := by decide +kernel
theorem dX11_mark_99 : decode cX11_mark 99 = .ok (.iaload, 1) := by decide +kernel
theorem dX11_mark_100 : decode cX11_mark 100 = .ok (.iadd, 1) := by decide +kernel
theorem dX11_mark_101 : decode cX11_mark 101 = .ok (.istore 4, 2) := by decide +kernel
theorem dX11_mark_103 : decode cX11_mark 103 = .ok (.iload_n 3, 1) := by decide +kernel
theorem dX11_mark_104 : decode cX11_mark 104 = .ok (.aload_n 0, 1) := by decide +kernel
theorem dX11_mark_105 : decode cX11_mark 105 = .ok (.getfield 19, 3) := by decide +kernel
theorem dX11_mark_108 : decode cX11_mark 108 = .ok (.iconst 4, 1) := by decide +kernel
theorem dX11_mark_109 : decode cX11_mark 109 = .ok (.iload_n 2, 1) := by decide +kernel
theorem dX11_mark_110 : decode cX11_mark 110 = .ok (.iadd, 1) := by decide +kernel
theorem dX11_mark_111 : decode cX11_mark 111 = .ok (.iaload, 1) := by decide +kernel
theorem dX11_mark_112 : decode cX11_mark 112 = .ok (.isub, 1) := by decide +kernel
theorem dX11_mark_113 : decode cX11_mark 113 = .ok (.istore 5, 2) := by decide +kernel
theorem dX11_mark_115 : decode cX11_mark 115 = .ok (.iload_n 1, 1) := by decide +kernel
theorem dX11_mark_116 : decode cX11_mark 116 = .ok (.ifCond .ne 7, 3) := by decide +kernel
theorem dX11_mark_119 : decode cX11_mark 119 = .ok (.iload_n 3, 1) := by decide +kernel
theorem dX11_mark_120 : decode cX11_mark 120 = .ok (.goto 55, 3) := by decide +kernel
theorem dX11_mark_123 : decode cX11_mark 123 = .ok (.iload_n 1, 1) := by decide +kernel
theorem dX11_mark_124 : decode cX11_mark 124 = .ok (.iconst 1, 1) := by decide +kernel
theorem dX11_mark_125 : decode cX11_mark 125 = .ok (.if_icmp .ne 8, 3) := by decide +kernel
theorem dX11_mark_128 : decode cX11_mark 128 = .ok (.iload 4, 2) := by decide +kernel
theorem dX11_mark_130 : decode cX11_mark 130 = .ok (.goto 45, 3) := by decide +kernel
theorem dX11_mark_133 : decode cX11_mark 133 = .ok (.iload_n 1, 1) := by decide +kernel
theorem dX11_mark_134 : decode cX11_mark 134 = .ok (.iconst 2, 1) := by decide +kernel
theorem dX11_mark_135 : decode cX11_mark 135 = .ok (.if_icmp .ne 8, 3) := by decide +kernel
theorem dX11_mark_138 : decode cX11_mark 138 = .ok (.iload 5, 2) := by decide +kernel
theorem dX11_mark_140 : decode cX11_mark 140 = .ok (.goto 35, 3) := by decide +kernel
theorem dX11_mark_143 : decode cX11_mark 143 = .ok (.iload_n 1, 1) := by decide +kernel
theorem dX11_mark_144 : decode cX11_mark 144 = .ok (.iconst 3, 1) := by decide +kernel
theorem dX11_mark_145 : decode cX11_mark 145 = .ok (.if_icmp .ne 10, 3) := by decide +kernel
theorem dX11_mark_148 : decode cX11_mark 148 = .ok (.iconst 2, 1) := by decide +kernel
theorem dX11_mark_149 : decode cX11_mark 149 = .ok (.iload 4, 2) := by decide +kernel
theorem dX11_mark_151 : decode cX11_mark 151 = .ok (.imul, 1) := by decide +kernel
theorem dX11_mark_152 : decode cX11_mark 152 = .ok (.goto 23, 3) := by decide +kernel
theorem dX11_mark_155 : decode cX11_mark 155 = .ok (.iload_n 1, 1) := by decide +kernel
theorem dX11_mark_156 : decode cX11_mark 156 = .ok (.iconst 4, 1) := by decide +kernel
theorem dX11_mark_157 : decode cX11_mark 157 = .ok (.if_icmp .ne 10, 3) := by decide +kernel
theorem dX11_mark_160 : decode cX11_mark 160 = .ok (.iload 5, 2) := by decide +kernel
theorem dX11_mark_162 : decode cX11_mark 162 = .ok (.iload_n 2, 1) := by decide +kernel
theorem dX11_mark_163 : decode cX11_mark 163 = .ok (.iadd, 1) := by decide +kernel
theorem dX11_mark_164 : decode cX11_mark 164 = .ok (.goto 11, 3) := by decide +kernel
theorem dX11_mark_167 : decode cX11_mark 167 = .ok (.iload_n 3, 1) := by decide +kernel
theorem dX11_mark_168 : decode cX11_mark 168 = .ok (.aload_n 0, 1) := by decide +kernel
theorem dX11_mark_169 : decode cX11_mark 169 = .ok (.getfield 19, 3) := by decide +kernel
theorem dX11_mark_172 : decode cX11_mark 172 = .ok (.iconst 0, 1) := by decide +kernel
theorem dX11_mark_173 : decode cX11_mark 173 = .ok (.iaload, 1) := by decide +kernel
theorem dX11_mark_174 : decode cX11_mark 174 = .ok (.iadd, 1) := by decide +kernel
theorem dX11_mark_175 : decode cX11_mark 175 = .ok (.ireturn, 1) := by decide +kernel
set_option maxRecDepth 20000 in
theorem ggX11_keep_X11_in : GoodIn wsX11_keep wsX11_in := goodIn_r _ [7] (by decide +kernel) (by decide +kernel)
set_option maxRecDepth 20000 in
theorem gX11_keep_X11_in : GoodIn wsX11_keep (va_wsS RX11 54 yX11_in wsX11_in) := goodIn_app (goodIn_of _ (by decide +kernel)) ggX11_keep_X11_in
theorem dX11_keep_0 : decode cX11_keep 0 = .ok (.iload_n 1, 1) := by decide +kernel
theorem dX11_keep_1 : decode cX11_keep 1 = .ok (.iconst 0, 1) := by decide +kernel
theorem dX11_keep_2 : decode cX11_keep 2 = .ok (.iconst 1, 1) := by decide +kernel
theorem dX11_keep_3 : decode cX11_keep 3 = .ok (.invokestatic 54, 3) := by decide +kernel
theorem dX11_keep_6 : decode cX11_keep 6 = .ok (.ifCond .ne 5, 3) := by decide +kernel
theorem dX11_keep_9 : decode cX11_keep 9 = .ok (.iconst (-1), 1) := by decide +kernel
theorem dX11_keep_10 : decode cX11_keep 10 = .ok (.ireturn, 1) := by decide +kernel
theorem dX11_keep_11 : decode cX11_keep 11 = .ok (.iconst 0, 1) := by decide +kernel
theorem dX11_keep_12 : decode cX11_keep 12 = .ok (.istore_n 2, 1) := by decide +kernel
theorem dX11_keep_13 : decode cX11_keep 13 = .ok (.iload_n 2, 1) := by decide +kernel
theorem dX11_keep_14 : decode cX11_keep 14 = .ok (.sipush 254, 3) := by decide +kernel
theorem dX11_keep_17 : decode cX11_keep 17 = .ok (.if_icmp .ge 27, 3) := by decide +kernel
theorem dX11_keep_20 : decode cX11_keep 20 = .ok (.aload_n 0, 1) := by decide +kernel
theorem dX11_keep_21 : decode cX11_keep 21 = .ok (.getfield 22, 3) := by decide +kernel
theorem dX11_keep_24 : decode cX11_keep 24 = .ok (.sipush 254, 3) := by decide +kernel
theorem dX11_keep_27 : decode cX11_keep 27 = .ok (.iload_n 1, 1) := by decide +kernel
theorem dX11_keep_28 : decode cX11_keep 28 = .ok (.imul, 1) := by decide +kernel
theorem dX11_keep_29 : decode cX11_keep 29 = .ok (.iload_n 2, 1) := by decide +kernel
theorem dX11_keep_30 : decode cX11_keep 30 = .ok (.iadd, 1) := by decide +kernel
theorem dX11_keep_31 : decode cX11_keep 31 = .ok (.aload_n 0, 1) := by decide +kernel
theorem dX11_keep_32 : decode cX11_keep 32 = .ok (.getfield 19, 3) := by decide +kernel
theorem dX11_keep_35 : decode cX11_keep 35 = .ok (.iload_n 2, 1) := by decide +kernel
theorem dX11_keep_36 : decode cX11_keep 36 = .ok (.iaload, 1) := by decide +kernel
theorem dX11_keep_37 : decode cX11_keep 37 = .ok (.iastore, 1) := by decide +kernel
theorem dX11_keep_38 : decode cX11_keep 38 = .ok (.iinc 2 1, 3) := by decide +kernel
theorem dX11_keep_41 : decode cX11_keep 41 = .ok (.goto (-28), 3) := by decide +kernel
theorem dX11_keep_44 : decode cX11_keep 44 = .ok (.aload_n 0, 1) := by decide +kernel
theorem dX11_keep_45 : decode cX11_keep 45 = .ok (.getfield 25, 3) := by decide +kernel
theorem dX11_keep_48 : decode cX11_keep 48 = .ok (.iload_n 1, 1) := by decide +kernel
theorem dX11_keep_49 : decode cX11_keep 49 = .ok (.iconst 1, 1) := by decide +kernel
theorem dX11_keep_50 : decode cX11_keep 50 = .ok (.bastore, 1) := by decide +kernel
theorem dX11_keep_51 : decode cX11_keep 51 = .ok (.aload_n 0, 1) := by decide +kernel
theorem dX11_keep_52 : decode cX11_keep 52 = .ok (.getfield 19, 3) := by decide +kernel
theorem dX11_keep_55 : decode cX11_keep 55 = .ok (.iconst 0, 1) := by decide +kernel
theorem dX11_keep_56 : decode cX11_keep 56 = .ok (.iaload, 1) := by decide +kernel
theorem dX11_keep_57 : decode cX11_keep 57 = .ok (.ireturn, 1) := by decide +kernel
set_option maxRecDepth 20000 in
theorem ggX11_back_X11_in : GoodIn wsX11_back wsX11_in := goodIn_r _ [7] (by decide +kernel) (by decide +kernel)
set_option maxRecDepth 20000 in
theorem gX11_back_X11_in : GoodIn wsX11_back (va_wsS RX11 54 yX11_in wsX11_in) := goodIn_app (goodIn_of _ (by decide +kernel)) ggX11_back_X11_in
theorem dX11_back_0 : decode cX11_back 0 = .ok (.iload_n 1, 1) := by decide +kernel
theorem dX11_back_1 : decode cX11_back 1 = .ok (.iconst 0, 1) := by decide +kernel
theorem dX11_back_2 : decode cX11_back 2 = .ok (.iconst 1, 1) := by decide +kernel
theorem dX11_back_3 : decode cX11_back 3 = .ok (.invokestatic 54, 3) := by decide +kernel
theorem dX11_back_6 : decode cX11_back 6 = .ok (.ifCond .ne 5, 3) := by decide +kernel
theorem dX11_back_9 : decode cX11_back 9 = .ok (.iconst (-1), 1) := by decide +kernel
theorem dX11_back_10 : decode cX11_back 10 = .ok (.ireturn, 1) := by decide +kernel
theorem dX11_back_11 : decode cX11_back 11 = .ok (.aload_n 0, 1) := by decide +kernel
theorem dX11_back_12 : decode cX11_back 12 = .ok (.getfield 25, 3) := by decide +kernel
theorem dX11_back_15 : decode cX11_back 15 = .ok (.iload_n 1, 1) := by decide +kernel
theorem dX11_back_16 : decode cX11_back 16 = .ok (.baload, 1) := by decide +kernel
theorem dX11_back_17 : decode cX11_back 17 = .ok (.ifCond .ne 6, 3) := by decide +kernel
theorem dX11_back_20 : decode cX11_back 20 = .ok (.bipush (-2), 2) := by decide +kernel
theorem dX11_back_22 : decode cX11_back 22 = .ok (.ireturn, 1) := by decide +kernel
theorem dX11_back_23 : decode cX11_back 23 = .ok (.iconst 0, 1) := by decide +kernel
theorem dX11_back_24 : decode cX11_back 24 = .ok (.istore_n 2, 1) := by decide +kernel
theorem dX11_back_25 : decode cX11_back 25 = .ok (.iload_n 2, 1) := by decide +kernel
theorem dX11_back_26 : decode cX11_back 26 = .ok (.sipush 254, 3) := by decide +kernel
theorem dX11_back_29 : decode cX11_back 29 = .ok (.if_icmp .ge 27, 3) := by decide +kernel
theorem dX11_back_32 : decode cX11_back 32 = .ok (.aload_n 0, 1) := by decide +kernel
theorem dX11_back_33 : decode cX11_back 33 = .ok (.getfield 19, 3) := by decide +kernel
theorem dX11_back_36 : decode cX11_back 36 = .ok (.iload_n 2, 1) := by decide +kernel
theorem dX11_back_37 : decode cX11_back 37 = .ok (.aload_n 0, 1) := by decide +kernel
theorem dX11_back_38 : decode cX11_back 38 = .ok (.getfield 22, 3) := by decide +kernel
theorem dX11_back_41 : decode cX11_back 41 = .ok (.sipush 254, 3) := by decide +kernel
theorem dX11_back_44 : decode cX11_back 44 = .ok (.iload_n 1, 1) := by decide +kernel
theorem dX11_back_45 : decode cX11_back 45 = .ok (.imul, 1) := by decide +kernel
theorem dX11_back_46 : decode cX11_back 46 = .ok (.iload_n 2, 1) := by decide +kernel
theorem dX11_back_47 : decode cX11_back 47 = .ok (.iadd, 1) := by decide +kernel
theorem dX11_back_48 : decode cX11_back 48 = .ok (.iaload, 1) := by decide +kernel
theorem dX11_back_49 : decode cX11_back 49 = .ok (.iastore, 1) := by decide +kernel
theorem dX11_back_50 : decode cX11_back 50 = .ok (.iinc 2 1, 3) := by decide +kernel
theorem dX11_back_53 : decode cX11_back 53 = .ok (.goto (-28), 3) := by decide +kernel
theorem dX11_back_56 : decode cX11_back 56 = .ok (.aload_n 0, 1) := by decide +kernel
theorem dX11_back_57 : decode cX11_back 57 = .ok (.getfield 19, 3) := by decide +kernel
theorem dX11_back_60 : decode cX11_back 60 = .ok (.iconst 0, 1) := by decide +kernel
theorem dX11_back_61 : decode cX11_back 61 = .ok (.iaload, 1) := by decide +kernel
theorem dX11_back_62 : decode cX11_back 62 = .ok (.ireturn, 1) := by decide +kernel
theorem dX11_count_0 : decode cX11_count 0 = .ok (.iload_n 1, 1) := by decide +kernel
theorem dX11_count_1 : decode cX11_count 1 = .ok (.tableswitch 89 0 6 #[43, 50, 57, 64, 71, 76, 84], 43) := by decide +kernel
theorem dX11_count_44 : decode cX11_count 44 = .ok (.aload_n 0, 1) := by decide +kernel
theorem dX11_count_45 : decode cX11_count 45 = .ok (.getfield 13, 3) := by decide +kernel
theorem dX11_count_48 : decode cX11_count 48 = .ok (.iconst 0, 1) := by decide +kernel
theorem dX11_count_49 : decode cX11_count 49 = .ok (.iaload, 1) := by decide +kernel
theorem dX11_count_50 : decode cX11_count 50 = .ok (.ireturn, 1) := by decide +kernel
theorem dX11_count_51 : decode cX11_count 51 = .ok (.aload_n 0, 1) := by decide +kernel
theorem dX11_count_52 : decode cX11_count 52 = .ok (.getfield 13, 3) := by decide +kernel
theorem dX11_count_55 : decode cX11_count 55 = .ok (.iconst 1, 1) := by decide +kernel
theorem dX11_count_56 : decode cX11_count 56 = .ok (.iaload, 1) := by decide +kernel
theorem dX11_count_57 : decode cX11_count 57 = .ok (.ireturn, 1) := by decide +kernel
theorem dX11_count_58 : decode cX11_count 58 = .ok (.aload_n 0, 1) := by decide +kernel
theorem dX11_count_59 : decode cX11_count 59 = .ok (.getfield 13, 3) := by decide +kernel
theorem dX11_count_62 : decode cX11_count 62 = .ok (.iconst 2, 1) := by decide +kernel
theorem dX11_count_63 : decode cX11_count 63 = .ok (.iaload, 1) := by decide +kernel
theorem dX11_count_64 : decode cX11_count 64 = .ok (.ireturn, 1) := by decide +kernel
theorem dX11_count_65 : decode cX11_count 65 = .ok (.aload_n 0, 1) := by decide +kernel
theorem dX11_count_66 : decode cX11_count 66 = .ok (.getfield 13, 3) := by decide +kernel
theorem dX11_count_69 : decode cX11_count 69 = .ok (.iconst 3, 1) := by decide +kernel
theorem dX11_count_70 : decode cX11_count 70 = .ok (.iaload, 1) := by decide +kernel
theorem dX11_count_71 : decode cX11_count 71 = .ok (.ireturn, 1) := by decide +kernel
theorem dX11_count_72 : decode cX11_count 72 = .ok (.aload_n 0, 1) := by decide +kernel
theorem dX11_count_73 : decode cX11_count 73 = .ok (.getfield 97, 3) := by decide +kernel
theorem dX11_count_76 : decode cX11_count 76 = .ok (.ireturn, 1) := by decide +kernel
theorem dX11_count_77 : decode cX11_count 77 = .ok (.aload_n 0, 1) := by decide +kernel
theorem dX11_count_78 : decode cX11_count 78 = .ok (.getfield 19, 3) := by decide +kernel
theorem dX11_count_81 : decode cX11_count 81 = .ok (.bipush 23, 2) := by decide +kernel
theorem dX11_count_83 : decode cX11_count 83 = .ok (.iaload, 1) := by decide +kernel
theorem dX11_count_84 : decode cX11_count 84 = .ok (.ireturn, 1) := by decide +kernel
theorem dX11_count_85 : decode cX11_count 85 = .ok (.aload_n 0, 1) := by decide +kernel
theorem dX11_count_86 : decode cX11_count 86 = .ok (.getfield 58, 3) := by decide +kernel
theorem dX11_count_89 : decode cX11_count 89 = .ok (.ireturn, 1) := by decide +kernel
theorem dX11_count_90 : decode cX11_count 90 = .ok (.iconst (-1), 1) := by decide +kernel
theorem dX11_count_91 : decode cX11_count 91 = .ok (.ireturn, 1) := by decide +kernel
theorem dX11_trace_0 : decode cX11_trace 0 = .ok (.aload_n 0, 1) := by decide +kernel
theorem dX11_trace_1 : decode cX11_trace 1 = .ok (.getfield 168, 3) := by decide +kernel
theorem dX11_trace_4 : decode cX11_trace 4 = .ok (.lreturn, 1) := by decide +kernel
theorem dJ6_bitCount_0f7a4_0 : decode cJ6_bitCount_0f7a4 0 = .ok (.iload_n 0, 1) := by decide +kernel
theorem dJ6_bitCount_0f7a4_1 : decode cJ6_bitCount_0f7a4 1 = .ok (.iload_n 0, 1) := by decide +kernel
theorem dJ6_bitCount_0f7a4_2 : decode cJ6_bitCount_0f7a4 2 = .ok (.iconst 1, 1) := by decide +kernel
theorem dJ6_bitCount_0f7a4_3 : decode cJ6_bitCount_0f7a4 3 = .ok (.iushr, 1) := by decide +kernel
theorem dJ6_bitCount_0f7a4_4 : decode cJ6_bitCount_0f7a4 4 = .ok (.ldc_w 265, 3) := by decide +kernel
theorem dJ6_bitCount_0f7a4_7 : decode cJ6_bitCount_0f7a4 7 = .ok (.iand, 1) := by decide +kernel
theorem dJ6_bitCount_0f7a4_8 : decode cJ6_bitCount_0f7a4 8 = .ok (.isub, 1) := by decide +kernel
theorem dJ6_bitCount_0f7a4_9 : decode cJ6_bitCount_0f7a4 9 = .ok (.istore_n 0, 1) := by decide +kernel
theorem dJ6_bitCount_0f7a4_10 : decode cJ6_bitCount_0f7a4 10 = .ok (.iload_n 0, 1) := by decide +kernel
theorem dJ6_bitCount_0f7a4_11 : decode cJ6_bitCount_0f7a4 11 = .ok (.ldc_w 266, 3) := by decide +kernel
theorem dJ6_bitCount_0f7a4_14 : decode cJ6_bitCount_0f7a4 14 = .ok (.iand, 1) := by decide +kernel
theorem dJ6_bitCount_0f7a4_15 : decode cJ6_bitCount_0f7a4 15 = .ok (.iload_n 0, 1) := by decide +kernel
theorem dJ6_bitCount_0f7a4_16 : decode cJ6_bitCount_0f7a4 16 = .ok (.iconst 2, 1) := by decide +kernel
theorem dJ6_bitCount_0f7a4_17 : decode cJ6_bitCount_0f7a4 17 = .ok (.iushr, 1) := by decide +kernel
theorem dJ6_bitCount_0f7a4_18 : decode cJ6_bitCount_0f7a4 18 = .ok (.ldc_w 266, 3) := by decide +kernel
theorem dJ6_bitCount_0f7a4_21 : decode cJ6_bitCount_0f7a4 21 = .ok (.iand, 1) := by decide +kernel
theorem dJ6_bitCount_0f7a4_22 : decode cJ6_bitCount_0f7a4 22 = .ok (.iadd, 1) := by decide +kernel
theorem dJ6_bitCount_0f7a4_23 : decode cJ6_bitCount_0f7a4 23 = .ok (.istore_n 0, 1) := by decide +kernel
theorem dJ6_bitCount_0f7a4_24 : decode cJ6_bitCount_0f7a4 24 = .ok (.iload_n 0, 1) := by decide +kernel
theorem dJ6_bitCount_0f7a4_25 : decode cJ6_bitCount_0f7a4 25 = .ok (.iload_n 0, 1) := by decide +kernel
theorem dJ6_bitCount_0f7a4_26 : decode cJ6_bitCount_0f7a4 26 = .ok (.iconst 4, 1) := by decide +kernel
theorem dJ6_bitCount_0f7a4_27 : decode cJ6_bitCount_0f7a4 27 = .ok (.iushr, 1) := by decide +kernel
theorem dJ6_bitCount_0f7a4_28 : decode cJ6_bitCount_0f7a4 28 = .ok (.iadd, 1) := by decide +kernel
theorem dJ6_bitCount_0f7a4_29 : decode cJ6_bitCount_0f7a4 29 = .ok (.ldc_w 267, 3) := by decide +kernel
theorem dJ6_bitCount_0f7a4_32 : decode cJ6_bitCount_0f7a4 32 = .ok (.iand, 1) := by decide +kernel
theorem dJ6_bitCount_0f7a4_33 : decode cJ6_bitCount_0f7a4 33 = .ok (.istore_n 0, 1) := by decide +kernel
theorem dJ6_bitCount_0f7a4_34 : decode cJ6_bitCount_0f7a4 34 = .ok (.iload_n 0, 1) := by decide +kernel
theorem dJ6_bitCount_0f7a4_35 : decode cJ6_bitCount_0f7a4 35 = .ok (.iload_n 0, 1) := by decide +kernel
theorem dJ6_bitCount_0f7a4_36 : decode cJ6_bitCount_0f7a4 36 = .ok (.bipush 8, 2) := by decide +kernel
theorem dJ6_bitCount_0f7a4_38 : decode cJ6_bitCount_0f7a4 38 = .ok (.iushr, 1) := by decide +kernel
theorem dJ6_bitCount_0f7a4_39 : decode cJ6_bitCount_0f7a4 39 = .ok (.iadd, 1) := by decide +kernel
theorem dJ6_bitCount_0f7a4_40 : decode cJ6_bitCount_0f7a4 40 = .ok (.istore_n 0, 1) := by decide +kernel
theorem dJ6_bitCount_0f7a4_41 : decode cJ6_bitCount_0f7a4 41 = .ok (.iload_n 0, 1) := by decide +kernel
theorem dJ6_bitCount_0f7a4_42 : decode cJ6_bitCount_0f7a4 42 = .ok (.iload_n 0, 1) := by decide +kernel
theorem dJ6_bitCount_0f7a4_43 : decode cJ6_bitCount_0f7a4 43 = .ok (.bipush 16, 2) := by decide +kernel
theorem dJ6_bitCount_0f7a4_45 : decode cJ6_bitCount_0f7a4 45 = .ok (.iushr, 1) := by decide +kernel
theorem dJ6_bitCount_0f7a4_46 : decode cJ6_bitCount_0f7a4 46 = .ok (.iadd, 1) := by decide +kernel
theorem dJ6_bitCount_0f7a4_47 : decode cJ6_bitCount_0f7a4 47 = .ok (.istore_n 0, 1) := by decide +kernel
theorem dJ6_bitCount_0f7a4_48 : decode cJ6_bitCount_0f7a4 48 = .ok (.iload_n 0, 1) := by decide +kernel
theorem dJ6_bitCount_0f7a4_49 : decode cJ6_bitCount_0f7a4 49 = .ok (.bipush 63, 2) := by decide +kernel
theorem dJ6_bitCount_0f7a4_51 : decode cJ6_bitCount_0f7a4 51 = .ok (.iand, 1) := by decide +kernel
theorem dJ6_bitCount_0f7a4_52 : decode cJ6_bitCount_0f7a4 52 = .ok (.ireturn, 1) := by decide +kernel
theorem dJ9_abs_0f7a4_0 : decode cJ9_abs_0f7a4 0 = .ok (.iload_n 0, 1) := by decide +kernel
theorem dJ9_abs_0f7a4_1 : decode cJ9_abs_0f7a4 1 = .ok (.ifCond .ge 8, 3) := by decide +kernel
theorem dJ9_abs_0f7a4_4 : decode cJ9_abs_0f7a4 4 = .ok (.iload_n 0, 1) := by decide +kernel
theorem dJ9_abs_0f7a4_5 : decode cJ9_abs_0f7a4 5 = .ok (.ineg, 1) := by decide +kernel
theorem dJ9_abs_0f7a4_6 : decode cJ9_abs_0f7a4 6 = .ok (.goto 4, 3) := by decide +kernel
theorem dJ9_abs_0f7a4_9 : decode cJ9_abs_0f7a4 9 = .ok (.iload_n 0, 1) := by decide +kernel
theorem dJ9_abs_0f7a4_10 : decode cJ9_abs_0f7a4 10 = .ok (.ireturn, 1) := by decide +kernel
theorem dJ9_max_7cf53_0 : decode cJ9_max_7cf53 0 = .ok (.iload_n 0, 1) := by decide +kernel
theorem dJ9_max_7cf53_1 : decode cJ9_max_7cf53 1 = .ok (.iload_n 1, 1) := by decide +kernel
theorem dJ9_max_7cf53_2 : decode cJ9_max_7cf53 2 = .ok (.if_icmp .lt 7, 3) := by decide +kernel
theorem dJ9_max_7cf53_5 : decode cJ9_max_7cf53 5 = .ok (.iload_n 0, 1) := by decide +kernel
theorem dJ9_max_7cf53_6 : decode cJ9_max_7cf53 6 = .ok (.goto 4, 3) := by decide +kernel
theorem dJ9_max_7cf53_9 : decode cJ9_max_7cf53 9 = .ok (.iload_n 1, 1) := by decide +kernel
theorem dJ9_max_7cf53_10 : decode cJ9_max_7cf53 10 = .ok (.ireturn, 1) := by decide +kernel
theorem dJ9_min_7cf53_0 : decode cJ9_min_7cf53 0 = .ok (.iload_n 0, 1) := by decide +kernel
theorem dJ9_min_7cf53_1 : decode cJ9_min_7cf53 1 = .ok (.iload_n 1, 1) := by decide +kernel
theorem dJ9_min_7cf53_2 : decode cJ9_min_7cf53 2 = .ok (.if_icmp .gt 7, 3) := by decide +kernel
theorem dJ9_min_7cf53_5 : decode cJ9_min_7cf53 5 = .ok (.iload_n 0, 1) := by decide +kernel
theorem dJ9_min_7cf53_6 : decode cJ9_min_7cf53 6 = .ok (.goto 4, 3) := by decide +kernel
theorem dJ9_min_7cf53_9 : decode cJ9_min_7cf53 9 = .ok (.iload_n 1, 1) := by decide +kernel
theorem dJ9_min_7cf53_10 : decode cJ9_min_7cf53 10 = .ok (.ireturn, 1) := by decide +kernel
abbrev vwCl : List vw_C := [(RX0, TX0, 3), (RX1, TX1, 3), (RX2, TX2, 8), (RX3, TX3, 3), (RX4, TX4, 10), (RX5, TX5, 2), (RX6, TX6, 5), (RX7, TX7, 2), (RX8, TX8, 6), (RX9, TX9, 4), (RX10, TX10, 14), (RX11, TX11, 22)]
