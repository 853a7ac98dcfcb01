theorem dX11_odds_38 : decode cX11_odds 38 = .ok (.istore 6, 2) := by decide +kernel
theorem dX11_odds_40 : decode cX11_odds 40 = .ok (.iload 6, 2) := by decide +kernel
theorem dX11_odds_42 : decode cX11_odds 42 = .ok (.aload_n 0, 1) := by decide +kernel
theorem dX11_odds_43 : decode cX11_odds 43 = .ok (.getfield 13, 3) := by decide +kernel
theorem dX11_odds_46 : decode cX11_odds 46 = .ok (.iconst 1, 1) := by decide +kernel
theorem dX11_odds_47 : decode cX11_odds 47 = .ok (.iaload, 1) := by decide +kernel
theorem dX11_odds_48 : decode cX11_odds 48 = .ok (.if_icmp .ge 48, 3) := by decide +kernel
theorem dX11_odds_51 : decode cX11_odds 51 = .ok (.iload 4, 2) := by decide +kernel
theorem dX11_odds_53 : decode cX11_odds 53 = .ok (.aload_n 0, 1) := by decide +kernel
theorem dX11_odds_54 : decode cX11_odds 54 = .ok (.iload 6, 2) := by decide +kernel
theorem dX11_odds_56 : decode cX11_odds 56 = .ok (.invokevirtual 113, 3) := by decide +kernel
theorem dX11_odds_59 : decode cX11_odds 59 = .ok (.ifCond .eq 7, 3) := by decide +kernel
theorem dX11_odds_62 : decode cX11_odds 62 = .ok (.iconst 0, 1) := by decide +kernel
theorem dX11_odds_63 : decode cX11_odds 63 = .ok (.goto 4, 3) := by decide +kernel
theorem dX11_odds_66 : decode cX11_odds 66 = .ok (.iconst 1, 1) := by decide +kernel
theorem dX11_odds_67 : decode cX11_odds 67 = .ok (.iadd, 1) := by decide +kernel
theorem dX11_odds_68 : decode cX11_odds 68 = .ok (.istore 4, 2) := by decide +kernel
theorem dX11_odds_70 : decode cX11_odds 70 = .ok (.iload 5, 2) := by decide +kernel
theorem dX11_odds_72 : decode cX11_odds 72 = .ok (.aload_n 0, 1) := by decide +kernel
theorem dX11_odds_73 : decode cX11_odds 73 = .ok (.iload 6, 2) := by decide +kernel
theorem dX11_odds_75 : decode cX11_odds 75 = .ok (.invokevirtual 113, 3) := by decide +kernel
theorem dX11_odds_78 : decode cX11_odds 78 = .ok (.ifCond .eq 7, 3) := by decide +kernel
theorem dX11_odds_81 : decode cX11_odds 81 = .ok (.iconst 1, 1) := by decide +kernel
theorem dX11_odds_82 : decode cX11_odds 82 = .ok (.goto 5, 3) := by decide +kernel
theorem dX11_odds_85 : decode cX11_odds 85 = .ok (.bipush 10, 2) := by decide +kernel
theorem dX11_odds_87 : decode cX11_odds 87 = .ok (.imul, 1) := by decide +kernel
theorem dX11_odds_88 : decode cX11_odds 88 = .ok (.istore 5, 2) := by decide +kernel
theorem dX11_odds_90 : decode cX11_odds 90 = .ok (.iinc 6 1, 3) := by decide +kernel
theorem dX11_odds_93 : decode cX11_odds 93 = .ok (.goto (-53), 3) := by decide +kernel
theorem dX11_odds_96 : decode cX11_odds 96 = .ok (.iconst 0, 1) := by decide +kernel
theorem dX11_odds_97 : decode cX11_odds 97 = .ok (.istore 6, 2) := by decide +kernel
theorem dX11_odds_99 : decode cX11_odds 99 = .ok (.iconst 0, 1) := by decide +kernel
theorem dX11_odds_100 : decode cX11_odds 100 = .ok (.istore 7, 2) := by decide +kernel
theorem dX11_odds_102 : decode cX11_odds 102 = .ok (.iload 7, 2) := by decide +kernel
theorem dX11_odds_104 : decode cX11_odds 104 = .ok (.iconst 1, 1) := by decide +kernel
theorem dX11_odds_105 : decode cX11_odds 105 = .ok (.iload 4, 2) := by decide +kernel
theorem dX11_odds_107 : decode cX11_odds 107 = .ok (.ishl, 1) := by decide +kernel
theorem dX11_odds_108 : decode cX11_odds 108 = .ok (.if_icmp .ge 83, 3) := by decide +kernel
theorem dX11_odds_111 : decode cX11_odds 111 = .ok (.iconst 1, 1) := by decide +kernel
theorem dX11_odds_112 : decode cX11_odds 112 = .ok (.istore 8, 2) := by decide +kernel
theorem dX11_odds_114 : decode cX11_odds 114 = .ok (.iconst 0, 1) := by decide +kernel
theorem dX11_odds_115 : decode cX11_odds 115 = .ok (.istore 9, 2) := by decide +kernel
theorem dX11_odds_117 : decode cX11_odds 117 = .ok (.iconst 0, 1) := by decide +kernel
theorem dX11_odds_118 : decode cX11_odds 118 = .ok (.istore 10, 2) := by decide +kernel
theorem dX11_odds_120 : decode cX11_odds 120 = .ok (.iload 10, 2) := by decide +kernel
theorem dX11_odds_122 : decode cX11_odds 122 = .ok (.iload 4, 2) := by decide +kernel
theorem dX11_odds_124 : decode cX11_odds 124 = .ok (.if_icmp .ge 44, 3) := by decide +kernel
theorem dX11_odds_127 : decode cX11_odds 127 = .ok (.iload 8, 2) := by decide +kernel
theorem dX11_odds_129 : decode cX11_odds 129 = .ok (.iload 7, 2) := by decide +kernel
theorem dX11_odds_131 : decode cX11_odds 131 = .ok (.iload 10, 2) := by decide +kernel
theorem dX11_odds_133 : decode cX11_odds 133 = .ok (.invokestatic 106, 3) := by decide +kernel
theorem dX11_odds_136 : decode cX11_odds 136 = .ok (.ifCond .eq 7, 3) := by decide +kernel
theorem dX11_odds_139 : decode cX11_odds 139 = .ok (.iload_n 1, 1) := by decide +kernel
theorem dX11_odds_140 : decode cX11_odds 140 = .ok (.goto 7, 3) := by decide +kernel
theorem dX11_odds_143 : decode cX11_odds 143 = .ok (.bipush 10, 2) := by decide +kernel
theorem dX11_odds_145 : decode cX11_odds 145 = .ok (.iload_n 1, 1) := by decide +kernel
theorem dX11_odds_146 : decode cX11_odds 146 = .ok (.isub, 1) := by decide +kernel
theorem dX11_odds_147 : decode cX11_odds 147 = .ok (.imul, 1) := by decide +kernel
theorem dX11_odds_148 : decode cX11_odds 148 = .ok (.istore 8, 2) := by decide +kernel
theorem dX11_odds_150 : decode cX11_odds 150 = .ok (.iload 9, 2) := by decide +kernel
theorem dX11_odds_152 : decode cX11_odds 152 = .ok (.iload 7, 2) := by decide +kernel
theorem dX11_odds_154 : decode cX11_odds 154 = .ok (.iload 10, 2) := by decide +kernel
theorem dX11_odds_156 : decode cX11_odds 156 = .ok (.ishr, 1) := by decide +kernel
theorem dX11_odds_157 : decode cX11_odds 157 = .ok (.iconst 1, 1) := by decide +kernel
theorem dX11_odds_158 : decode cX11_odds 158 = .ok (.iand, 1) := by decide +kernel
theorem dX11_odds_159 : decode cX11_odds 159 = .ok (.iadd, 1) := by decide +kernel
theorem dX11_odds_160 : decode cX11_odds 160 = .ok (.istore 9, 2) := by decide +kernel
theorem dX11_odds_162 : decode cX11_odds 162 = .ok (.iinc 10 1, 3) := by decide +kernel
theorem dX11_odds_165 : decode cX11_odds 165 = .ok (.goto (-45), 3) := by decide +kernel
theorem dX11_odds_168 : decode cX11_odds 168 = .ok (.iload 6, 2) := by decide +kernel
theorem dX11_odds_170 : decode cX11_odds 170 = .ok (.iload 9, 2) := by decide +kernel
theorem dX11_odds_172 : decode cX11_odds 172 = .ok (.iload_n 2, 1) := by decide +kernel
theorem dX11_odds_173 : decode cX11_odds 173 = .ok (.if_icmp .gt 8, 3) := by decide +kernel
theorem dX11_odds_176 : decode cX11_odds 176 = .ok (.iload 8, 2) := by decide +kernel
theorem dX11_odds_178 : decode cX11_odds 178 = .ok (.goto 4, 3) := by decide +kernel
theorem dX11_odds_181 : decode cX11_odds 181 = .ok (.iconst 0, 1) := by decide +kernel
theorem dX11_odds_182 : decode cX11_odds 182 = .ok (.iadd, 1) := by decide +kernel
theorem dX11_odds_183 : decode cX11_odds 183 = .ok (.istore 6, 2) := by decide +kernel
theorem dX11_odds_185 : decode cX11_odds 185 = .ok (.iinc 7 1, 3) := by decide +kernel
theorem dX11_odds_188 : decode cX11_odds 188 = .ok (.goto (-86), 3) := by decide +kernel
theorem dX11_odds_191 : decode cX11_odds 191 = .ok (.iload 6, 2) := by decide +kernel
theorem dX11_odds_193 : decode cX11_odds 193 = .ok (.istore 7, 2) := by decide +kernel
theorem dX11_odds_195 : decode cX11_odds 195 = .ok (.iload 5, 2) := by decide +kernel
theorem dX11_odds_197 : decode cX11_odds 197 = .ok (.istore 8, 2) := by decide +kernel
theorem dX11_odds_199 : decode cX11_odds 199 = .ok (.iload 8, 2) := by decide +kernel
theorem dX11_odds_201 : decode cX11_odds 201 = .ok (.ifCond .le 21, 3) := by decide +kernel
theorem dX11_odds_204 : decode cX11_odds 204 = .ok (.iload 7, 2) := by decide +kernel
theorem dX11_odds_206 : decode cX11_odds 206 = .ok (.iload 8, 2) := by decide +kernel
theorem dX11_odds_208 : decode cX11_odds 208 = .ok (.irem, 1) := by decide +kernel
theorem dX11_odds_209 : decode cX11_odds 209 = .ok (.istore 9, 2) := by decide +kernel
theorem dX11_odds_211 : decode cX11_odds 211 = .ok (.iload 8, 2) := by decide +kernel
theorem dX11_odds_213 : decode cX11_odds 213 = .ok (.istore 7, 2) := by decide +kernel
theorem dX11_odds_215 : decode cX11_odds 215 = .ok (.iload 9, 2) := by decide +kernel
theorem dX11_odds_217 : decode cX11_odds 217 = .ok (.istore 8, 2) := by decide +kernel
theorem dX11_odds_219 : decode cX11_odds 219 = .ok (.goto (-20), 3) := by decide +kernel
theorem dX11_odds_222 : decode cX11_odds 222 = .ok (.iload_n 3, 1) := by decide +kernel
theorem dX11_odds_223 : decode cX11_odds 223 = .ok (.ifCond .ne 11, 3) := by decide +kernel
theorem dX11_odds_226 : decode cX11_odds 226 = .ok (.iload 6, 2) := by decide +kernel
theorem dX11_odds_228 : decode cX11_odds 228 = .ok (.iload 7, 2) := by decide +kernel
theorem dX11_odds_230 : decode cX11_odds 230 = .ok (.idiv, 1) := by decide +kernel
theorem dX11_odds_231 : decode cX11_odds 231 = .ok (.goto 8, 3) := by decide +kernel
theorem dX11_odds_234 : decode cX11_odds 234 = .ok (.iload 5, 2) := by decide +kernel
theorem dX11_odds_236 : decode cX11_odds 236 = .ok (.iload 7, 2) := by decide +kernel
theorem dX11_odds_238 : decode cX11_odds 238 = .ok (.idiv, 1) := by decide +kernel
theorem dX11_odds_239 : decode cX11_odds 239 = .ok (.ireturn, 1) := by decide +kernel
set_option maxRecDepth 20000 in
theorem ggX11_hears_X11_isDeed : GoodIn wsX11_hears wsX11_isDeed := goodIn_r _ [8, 9, 10, 11, 7, 12, 13, 14, 15, 16, 17, 18, 19, 20, 21, 22, 23, 24, 25, 26, 27, 28, 29, 30, 31, 32, 33, 34] (by decide +kernel) (by decide +kernel)
set_option maxRecDepth 20000 in
theorem gX11_hears_X11_isDeed : GoodIn wsX11_hears (wsV RX11 110 RX11 yX11_isDeed wsX11_isDeed) := goodIn_app (goodIn_of _ (by decide +kernel)) ggX11_hears_X11_isDeed
set_option maxRecDepth 20000 in
theorem ggX11_hears_X11_in : GoodIn wsX11_hears wsX11_in := goodIn_r _ [12] (by decide +kernel) (by decide +kernel)
set_option maxRecDepth 20000 in
theorem gX11_hears_X11_in : GoodIn wsX11_hears (va_wsS RX11 54 yX11_in wsX11_in) := goodIn_app (goodIn_of _ (by decide +kernel)) ggX11_hears_X11_in
theorem dX11_hears_0 : decode cX11_hears 0 = .ok (.aload_n 0, 1) := by decide +kernel
theorem dX11_hears_1 : decode cX11_hears 1 = .ok (.iload_n 1, 1) := by decide +kernel
theorem dX11_hears_2 : decode cX11_hears 2 = .ok (.invokevirtual 110, 3) := by decide +kernel
theorem dX11_hears_5 : decode cX11_hears 5 = .ok (.ifCond .eq 13, 3) := by decide +kernel
theorem dX11_hears_8 : decode cX11_hears 8 = .ok (.iload_n 2, 1) := by decide +kernel
theorem dX11_hears_9 : decode cX11_hears 9 = .ok (.iconst 0, 1) := by decide +kernel
theorem dX11_hears_10 : decode cX11_hears 10 = .ok (.bipush 99, 2) := by decide +kernel
theorem dX11_hears_12 : decode cX11_hears 12 = .ok (.invokestatic 54, 3) := by decide +kernel
theorem dX11_hears_15 : decode cX11_hears 15 = .ok (.ifCond .ne 5, 3) := by decide +kernel
theorem dX11_hears_18 : decode cX11_hears 18 = .ok (.iconst (-1), 1) := by decide +kernel
theorem dX11_hears_19 : decode cX11_hears 19 = .ok (.ireturn, 1) := by decide +kernel
theorem dX11_hears_20 : decode cX11_hears 20 = .ok (.aload_n 0, 1) := by decide +kernel
theorem dX11_hears_21 : decode cX11_hears 21 = .ok (.getfield 97, 3) := by decide +kernel
theorem dX11_hears_24 : decode cX11_hears 24 = .ok (.bipush 6, 2) := by decide +kernel
theorem dX11_hears_26 : decode cX11_hears 26 = .ok (.if_icmp .ne 6, 3) := by decide +kernel
theorem dX11_hears_29 : decode cX11_hears 29 = .ok (.bipush (-3), 2) := by decide +kernel
theorem dX11_hears_31 : decode cX11_hears 31 = .ok (.ireturn, 1) := by decide +kernel
theorem dX11_hears_32 : decode cX11_hears 32 = .ok (.aload_n 0, 1) := by decide +kernel
theorem dX11_hears_33 : decode cX11_hears 33 = .ok (.getfield 97, 3) := by decide +kernel
theorem dX11_hears_36 : decode cX11_hears 36 = .ok (.istore_n 3, 1) := by decide +kernel
theorem dX11_hears_37 : decode cX11_hears 37 = .ok (.iload_n 3, 1) := by decide +kernel
theorem dX11_hears_38 : decode cX11_hears 38 = .ok (.ifCond .le 49, 3) := by decide +kernel
theorem dX11_hears_41 : decode cX11_hears 41 = .ok (.aload_n 0, 1) := by decide +kernel
theorem dX11_hears_42 : decode cX11_hears 42 = .ok (.getfield 32, 3) := by decide +kernel
theorem dX11_hears_45 : decode cX11_hears 45 = .ok (.iload_n 3, 1) := by decide +kernel
theorem dX11_hears_46 : decode cX11_hears 46 = .ok (.iconst 1, 1) := by decide +kernel
theorem dX11_hears_47 : decode cX11_hears 47 = .ok (.isub, 1) := by decide +kernel
theorem dX11_hears_48 : decode cX11_hears 48 = .ok (.iaload, 1) := by decide +kernel
theorem dX11_hears_49 : decode cX11_hears 49 = .ok (.iload_n 2, 1) := by decide +kernel
theorem dX11_hears_50 : decode cX11_hears 50 = .ok (.if_icmp .le 37, 3) := by decide +kernel
theorem dX11_hears_53 : decode cX11_hears 53 = .ok (.aload_n 0, 1) := by decide +kernel
theorem dX11_hears_54 : decode cX11_hears 54 = .ok (.getfield 29, 3) := by decide +kernel
theorem dX11_hears_57 : decode cX11_hears 57 = .ok (.iload_n 3, 1) := by decide +kernel
theorem dX11_hears_58 : decode cX11_hears 58 = .ok (.aload_n 0, 1) := by decide +kernel
theorem dX11_hears_59 : decode cX11_hears 59 = .ok (.getfield 29, 3) := by decide +kernel
theorem dX11_hears_62 : decode cX11_hears 62 = .ok (.iload_n 3, 1) := by decide +kernel
theorem dX11_hears_63 : decode cX11_hears 63 = .ok (.iconst 1, 1) := by decide +kernel
theorem dX11_hears_64 : decode cX11_hears 64 = .ok (.isub, 1) := by decide +kernel
theorem dX11_hears_65 : decode cX11_hears 65 = .ok (.iaload, 1) := by decide +kernel
theorem dX11_hears_66 : decode cX11_hears 66 = .ok (.iastore, 1) := by decide +kernel
theorem dX11_hears_67 : decode cX11_hears 67 = .ok (.aload_n 0, 1) := by decide +kernel
theorem dX11_hears_68 : decode cX11_hears 68 = .ok (.getfield 32, 3) := by decide +kernel
theorem dX11_hears_71 : decode cX11_hears 71 = .ok (.iload_n 3, 1) := by decide +kernel
theorem dX11_hears_72 : decode cX11_hears 72 = .ok (.aload_n 0, 1) := by decide +kernel
theorem dX11_hears_73 : decode cX11_hears 73 = .ok (.getfield 32, 3) := by decide +kernel
theorem dX11_hears_76 : decode cX11_hears 76 = .ok (.iload_n 3, 1) := by decide +kernel
theorem dX11_hears_77 : decode cX11_hears 77 = .ok (.iconst 1, 1) := by decide +kernel
theorem dX11_hears_78 : decode cX11_hears 78 = .ok (.isub, 1) := by decide +kernel
theorem dX11_hears_79 : decode cX11_hears 79 = .ok (.iaload, 1) := by decide +kernel
theorem dX11_hears_80 : decode cX11_hears 80 = .ok (.iastore, 1) := by decide +kernel
theorem dX11_hears_81 : decode cX11_hears 81 = .ok (.iinc 3 (-1), 3) := by decide +kernel
theorem dX11_hears_84 : decode cX11_hears 84 = .ok (.goto (-47), 3) := by decide +kernel
theorem dX11_hears_87 : decode cX11_hears 87 = .ok (.aload_n 0, 1) := by decide +kernel
theorem dX11_hears_88 : decode cX11_hears 88 = .ok (.getfield 29, 3) := by decide +kernel
theorem dX11_hears_91 : decode cX11_hears 91 = .ok (.iload_n 3, 1) := by decide +kernel
theorem dX11_hears_92 : decode cX11_hears 92 = .ok (.iload_n 1, 1) := by decide +kernel
theorem dX11_hears_93 : decode cX11_hears 93 = .ok (.iastore, 1) := by decide +kernel
theorem dX11_hears_94 : decode cX11_hears 94 = .ok (.aload_n 0, 1) := by decide +kernel
theorem dX11_hears_95 : decode cX11_hears 95 = .ok (.getfield 32, 3) := by decide +kernel
theorem dX11_hears_98 : decode cX11_hears 98 = .ok (.iload_n 3, 1) := by decide +kernel
theorem dX11_hears_99 : decode cX11_hears 99 = .ok (.iload_n 2, 1) := by decide +kernel
theorem dX11_hears_100 : decode cX11_hears 100 = .ok (.iastore, 1) := by decide +kernel
theorem dX11_hears_101 : decode cX11_hears 101 = .ok (.aload_n 0, 1) := by decide +kernel
theorem dX11_hears_102 : decode cX11_hears 102 = .ok (.dup, 1) := by decide +kernel
theorem dX11_hears_103 : decode cX11_hears 103 = .ok (.getfield 97, 3) := by decide +kernel
theorem dX11_hears_106 : decode cX11_hears 106 = .ok (.iconst 1, 1) := by decide +kernel
theorem dX11_hears_107 : decode cX11_hears 107 = .ok (.iadd, 1) := by decide +kernel
theorem dX11_hears_108 : decode cX11_hears 108 = .ok (.putfield 97, 3) := by decide +kernel
theorem dX11_hears_111 : decode cX11_hears 111 = .ok (.aload_n 0, 1) := by decide +kernel
theorem dX11_hears_112 : decode cX11_hears 112 = .ok (.getfield 97, 3) := by decide +kernel
theorem dX11_hears_115 : decode cX11_hears 115 = .ok (.ireturn, 1) := by decide +kernel
theorem dX11_forget_0 : decode cX11_forget 0 = .ok (.aload_n 0, 1) := by decide +kernel
theorem dX11_forget_1 : decode cX11_forget 1 = .ok (.getfield 97, 3) := by decide +kernel
theorem dX11_forget_4 : decode cX11_forget 4 = .ok (.istore_n 1, 1) := by decide +kernel
theorem dX11_forget_5 : decode cX11_forget 5 = .ok (.aload_n 0, 1) := by decide +kernel
theorem dX11_forget_6 : decode cX11_forget 6 = .ok (.iconst 0, 1) := by decide +kernel
theorem dX11_forget_7 : decode cX11_forget 7 = .ok (.putfield 97, 3) := by decide +kernel
theorem dX11_forget_10 : decode cX11_forget 10 = .ok (.iload_n 1, 1) := by decide +kernel
theorem dX11_forget_11 : decode cX11_forget 11 = .ok (.ireturn, 1) := by decide +kernel
set_option maxRecDepth 20000 in
theorem ggX11_lies_X11_far : GoodIn wsX11_lies wsX11_far := goodIn_r _ [8] (by decide +kernel) (by decide +kernel)
set_option maxRecDepth 20000 in
theorem gX11_lies_X11_far : GoodIn wsX11_lies (va_wsS RX11 129 yX11_far wsX11_far) := goodIn_app (goodIn_of _ (by decide +kernel)) ggX11_lies_X11_far
theorem dX11_lies_0 : decode cX11_lies 0 = .ok (.iconst 0, 1) := by decide +kernel
theorem dX11_lies_1 : decode cX11_lies 1 = .ok (.istore_n 1, 1) := by decide +kernel
theorem dX11_lies_2 : decode cX11_lies 2 = .ok (.iconst 1, 1) := by decide +kernel
theorem dX11_lies_3 : decode cX11_lies 3 = .ok (.istore_n 2, 1) := by decide +kernel
theorem dX11_lies_4 : decode cX11_lies 4 = .ok (.iload_n 2, 1) := by decide +kernel
theorem dX11_lies_5 : decode cX11_lies 5 = .ok (.aload_n 0, 1) := by decide +kernel
theorem dX11_lies_6 : decode cX11_lies 6 = .ok (.getfield 97, 3) := by decide +kernel
theorem dX11_lies_9 : decode cX11_lies 9 = .ok (.if_icmp .ge 68, 3) := by decide +kernel
theorem dX11_lies_12 : decode cX11_lies 12 = .ok (.iload_n 1, 1) := by decide +kernel
theorem dX11_lies_13 : decode cX11_lies 13 = .ok (.aload_n 0, 1) := by decide +kernel
theorem dX11_lies_14 : decode cX11_lies 14 = .ok (.getfield 13, 3) := by decide +kernel
theorem dX11_lies_17 : decode cX11_lies 17 = .ok (.bipush 20, 2) := by decide +kernel
theorem dX11_lies_19 : decode cX11_lies 19 = .ok (.aload_n 0, 1) := by decide +kernel
theorem dX11_lies_20 : decode cX11_lies 20 = .ok (.getfield 29, 3) := by decide +kernel
theorem dX11_lies_23 : decode cX11_lies 23 = .ok (.iload_n 2, 1) := by decide +kernel
theorem dX11_lies_24 : decode cX11_lies 24 = .ok (.iaload, 1) := by decide +kernel
theorem dX11_lies_25 : decode cX11_lies 25 = .ok (.iadd, 1) := by decide +kernel
theorem dX11_lies_26 : decode cX11_lies 26 = .ok (.iaload, 1) := by decide +kernel
theorem dX11_lies_27 : decode cX11_lies 27 = .ok (.aload_n 0, 1) := by decide +kernel
theorem dX11_lies_28 : decode cX11_lies 28 = .ok (.getfield 13, 3) := by decide +kernel
theorem dX11_lies_31 : decode cX11_lies 31 = .ok (.bipush 20, 2) := by decide +kernel
theorem dX11_lies_33 : decode cX11_lies 33 = .ok (.aload_n 0, 1) := by decide +kernel
theorem dX11_lies_34 : decode cX11_lies 34 = .ok (.getfield 29, 3) := by decide +kernel
theorem dX11_lies_37 : decode cX11_lies 37 = .ok (.iload_n 2, 1) := by decide +kernel
theorem dX11_lies_38 : decode cX11_lies 38 = .ok (.iconst 1, 1) := by decide +kernel
theorem dX11_lies_39 : decode cX11_lies 39 = .ok (.isub, 1) := by decide +kernel
theorem dX11_lies_40 : decode cX11_lies 40 = .ok (.iaload, 1) := by decide +kernel
theorem dX11_lies_41 : decode cX11_lies 41 = .ok (.iadd, 1) := by decide +kernel
theorem dX11_lies_42 : decode cX11_lies 42 = .ok (.iaload, 1) := by decide +kernel
theorem dX11_lies_43 : decode cX11_lies 43 = .ok (.invokestatic 129, 3) := by decide +kernel
theorem dX11_lies_46 : decode cX11_lies 46 = .ok (.aload_n 0, 1) := by decide +kernel
theorem dX11_lies_47 : decode cX11_lies 47 = .ok (.getfield 32, 3) := by decide +kernel
theorem dX11_lies_50 : decode cX11_lies 50 = .ok (.iload_n 2, 1) := by decide +kernel
theorem dX11_lies_51 : decode cX11_lies 51 = .ok (.iaload, 1) := by decide +kernel
theorem dX11_lies_52 : decode cX11_lies 52 = .ok (.aload_n 0, 1) := by decide +kernel
theorem dX11_lies_53 : decode cX11_lies 53 = .ok (.getfield 32, 3) := by decide +kernel
theorem dX11_lies_56 : decode cX11_lies 56 = .ok (.iload_n 2, 1) := by decide +kernel
theorem dX11_lies_57 : decode cX11_lies 57 = .ok (.iconst 1, 1) := by decide +kernel
theorem dX11_lies_58 : decode cX11_lies 58 = .ok (.isub, 1) := by decide +kernel
theorem dX11_lies_59 : decode cX11_lies 59 = .ok (.iaload, 1) := by decide +kernel
theorem dX11_lies_60 : decode cX11_lies 60 = .ok (.isub, 1) := by decide +kernel
theorem dX11_lies_61 : decode cX11_lies 61 = .ok (.if_icmp .le 7, 3) := by decide +kernel
theorem dX11_lies_64 : decode cX11_lies 64 = .ok (.iconst 1, 1) := by decide +kernel
theorem dX11_lies_65 : decode cX11_lies 65 = .ok (.goto 4, 3) := by decide +kernel
theorem dX11_lies_68 : decode cX11_lies 68 = .ok (.iconst 0, 1) := by decide +kernel
theorem dX11_lies_69 : decode cX11_lies 69 = .ok (.iadd, 1) := by decide +kernel
theorem dX11_lies_70 : decode cX11_lies 70 = .ok (.istore_n 1, 1) := by decide +kernel
theorem dX11_lies_71 : decode cX11_lies 71 = .ok (.iinc 2 1, 3) := by decide +kernel
theorem dX11_lies_74 : decode cX11_lies 74 = .ok (.goto (-70), 3) := by decide +kernel
theorem dX11_lies_77 : decode cX11_lies 77 = .ok (.iload_n 1, 1) := by decide +kernel
theorem dX11_lies_78 : decode cX11_lies 78 = .ok (.ireturn, 1) := by decide +kernel
set_option maxRecDepth 20000 in
theorem ggX11_had_X11_in : GoodIn wsX11_had wsX11_in := goodIn_r _ [8] (by decide +kernel) (by decide +kernel)
set_option maxRecDepth 20000 in
theorem gX11_had_X11_in : GoodIn wsX11_had (va_wsS RX11 54 yX11_in wsX11_in) := goodIn_app (goodIn_of _ (by decide +kernel)) ggX11_had_X11_in
set_option maxRecDepth 20000 in
theorem ggX11_had_X11_far : GoodIn wsX11_had wsX11_far := goodIn_r _ [11] (by decide +kernel) (by decide +kernel)
set_option maxRecDepth 20000 in
theorem gX11_had_X11_far : GoodIn wsX11_had (va_wsS RX11 129 yX11_far wsX11_far) := goodIn_app (goodIn_of _ (by decide +kernel)) ggX11_had_X11_far
theorem dX11_had_0 : decode cX11_had 0 = .ok (.iload_n 1, 1) := by decide +kernel
theorem dX11_had_1 : decode cX11_had 1 = .ok (.iconst 0, 1) := by decide +kernel
theorem dX11_had_2 : decode cX11_had 2 = .ok (.bipush 99, 2) := by decide +kernel
theorem dX11_had_4 : decode cX11_had 4 = .ok (.invokestatic 54, 3) := by decide +kernel
theorem dX11_had_7 : decode cX11_had 7 = .ok (.ifCond .ne 5, 3) := by decide +kernel
theorem dX11_had_10 : decode cX11_had 10 = .ok (.iconst (-1), 1) := by decide +kernel
theorem dX11_had_11 : decode cX11_had 11 = .ok (.ireturn, 1) := by decide +kernel
theorem dX11_had_12 : decode cX11_had 12 = .ok (.bipush (-9), 2) := by decide +kernel
theorem dX11_had_14 : decode cX11_had 14 = .ok (.istore_n 2, 1) := by decide +kernel
theorem dX11_had_15 : decode cX11_had 15 = .ok (.bipush (-9), 2) := by decide +kernel
theorem dX11_had_17 : decode cX11_had 17 = .ok (.istore_n 3, 1) := by decide +kernel
theorem dX11_had_18 : decode cX11_had 18 = .ok (.iconst 0, 1) := by decide +kernel
theorem dX11_had_19 : decode cX11_had 19 = .ok (.istore 4, 2) := by decide +kernel
theorem dX11_had_21 : decode cX11_had 21 = .ok (.iload 4, 2) := by decide +kernel
theorem dX11_had_23 : decode cX11_had 23 = .ok (.aload_n 0, 1) := by decide +kernel
theorem dX11_had_24 : decode cX11_had 24 = .ok (.getfield 97, 3) := by decide +kernel
theorem dX11_had_27 : decode cX11_had 27 = .ok (.if_icmp .ge 51, 3) := by decide +kernel
theorem dX11_had_30 : decode cX11_had 30 = .ok (.aload_n 0, 1) := by decide +kernel
theorem dX11_had_31 : decode cX11_had 31 = .ok (.getfield 32, 3) := by decide +kernel
theorem dX11_had_34 : decode cX11_had 34 = .ok (.iload 4, 2) := by decide +kernel
theorem dX11_had_36 : decode cX11_had 36 = .ok (.iaload, 1) := by decide +kernel
theorem dX11_had_37 : decode cX11_had 37 = .ok (.iload_n 1, 1) := by decide +kernel
theorem dX11_had_38 : decode cX11_had 38 = .ok (.if_icmp .gt 8, 3) := by decide +kernel
theorem dX11_had_41 : decode cX11_had 41 = .ok (.iload 4, 2) := by decide +kernel
theorem dX11_had_43 : decode cX11_had 43 = .ok (.goto 4, 3) := by decide +kernel
theorem dX11_had_46 : decode cX11_had 46 = .ok (.iload_n 2, 1) := by decide +kernel
theorem dX11_had_47 : decode cX11_had 47 = .ok (.istore_n 2, 1) := by decide +kernel
theorem dX11_had_48 : decode cX11_had 48 = .ok (.aload_n 0, 1) := by decide +kernel
theorem dX11_had_49 : decode cX11_had 49 = .ok (.getfield 32, 3) := by decide +kernel
theorem dX11_had_52 : decode cX11_had 52 = .ok (.iload 4, 2) := by decide +kernel
theorem dX11_had_54 : decode cX11_had 54 = .ok (.iaload, 1) := by decide +kernel
theorem dX11_had_55 : decode cX11_had 55 = .ok (.iload_n 1, 1) := by decide +kernel
theorem dX11_had_56 : decode cX11_had 56 = .ok (.if_icmp .lt 14, 3) := by decide +kernel
theorem dX11_had_59 : decode cX11_had 59 = .ok (.iload_n 3, 1) := by decide +kernel
theorem dX11_had_60 : decode cX11_had 60 = .ok (.bipush (-9), 2) := by decide +kernel
theorem dX11_had_62 : decode cX11_had 62 = .ok (.if_icmp .ne 8, 3) := by decide +kernel
theorem dX11_had_65 : decode cX11_had 65 = .ok (.iload 4, 2) := by decide +kernel
theorem dX11_had_67 : decode cX11_had 67 = .ok (.goto 4, 3) := by decide +kernel
theorem dX11_had_70 : decode cX11_had 70 = .ok (.iload_n 3, 1) := by decide +kernel
theorem dX11_had_71 : decode cX11_had 71 = .ok (.istore_n 3, 1) := by decide +kernel
theorem dX11_had_72 : decode cX11_had 72 = .ok (.iinc 4 1, 3) := by decide +kernel
theorem dX11_had_75 : decode cX11_had 75 = .ok (.goto (-54), 3) := by decide +kernel
theorem dX11_had_78 : decode cX11_had 78 = .ok (.iload_n 2, 1) := by decide +kernel
theorem dX11_had_79 : decode cX11_had 79 = .ok (.bipush (-9), 2) := by decide +kernel
theorem dX11_had_81 : decode cX11_had 81 = .ok (.if_icmp .ne 7, 3) := by decide +kernel
theorem dX11_had_84 : decode cX11_had 84 = .ok (.iconst 0, 1) := by decide +kernel
theorem dX11_had_85 : decode cX11_had 85 = .ok (.goto 19, 3) := by decide +kernel
theorem dX11_had_88 : decode cX11_had 88 = .ok (.iconst 1, 1) := by decide +kernel
theorem dX11_had_89 : decode cX11_had 89 = .ok (.aload_n 0, 1) := by decide +kernel
theorem dX11_had_90 : decode cX11_had 90 = .ok (.getfield 13, 3) := by decide +kernel
theorem dX11_had_93 : decode cX11_had 93 = .ok (.bipush 12, 2) := by decide +kernel
theorem dX11_had_95 : decode cX11_had 95 = .ok (.aload_n 0, 1) := by decide +kernel
theorem dX11_had_96 : decode cX11_had 96 = .ok (.getfield 29, 3) := by decide +kernel
theorem dX11_had_99 : decode cX11_had 99 = .ok (.iload_n 2, 1) := by decide +kernel
theorem dX11_had_100 : decode cX11_had 100 = .ok (.iaload, 1) := by decide +kernel
theorem dX11_had_101 : decode cX11_had 101 = .ok (.iadd, 1) := by decide +kernel
theorem dX11_had_102 : decode cX11_had 102 = .ok (.iaload, 1) := by decide +kernel
theorem dX11_had_103 : decode cX11_had 103 = .ok (.ishl, 1) := by decide +kernel
theorem dX11_had_104 : decode cX11_had 104 = .ok (.istore 4, 2) := by decide +kernel
theorem dX11_had_106 : decode cX11_had 106 = .ok (.iload 4, 2) := by decide +kernel
theorem dX11_had_108 : decode cX11_had 108 = .ok (.iload_n 3, 1) := by decide +kernel
theorem dX11_had_109 : decode cX11_had 109 = .ok (.bipush (-9), 2) := by decide +kernel
theorem dX11_had_111 : decode cX11_had 111 = .ok (.if_icmp .ne 7, 3) := by decide +kernel
theorem dX11_had_114 : decode cX11_had 114 = .ok (.iconst 0, 1) := by decide +kernel
theorem dX11_had_115 : decode cX11_had 115 = .ok (.goto 19, 3) := by decide +kernel
theorem dX11_had_118 : decode cX11_had 118 = .ok (.iconst 1, 1) := by decide +kernel
theorem dX11_had_119 : decode cX11_had 119 = .ok (.aload_n 0, 1) := by decide +kernel
theorem dX11_had_120 : decode cX11_had 120 = .ok (.getfield 13, 3) := by decide +kernel
theorem dX11_had_123 : decode cX11_had 123 = .ok (.bipush 12, 2) := by decide +kernel
theorem dX11_had_125 : decode cX11_had 125 = .ok (.aload_n 0, 1) := by decide +kernel
theorem dX11_had_126 : decode cX11_had 126 = .ok (.getfield 29, 3) := by decide +kernel
theorem dX11_had_129 : decode cX11_had 129 = .ok (.iload_n 3, 1) := by decide +kernel
theorem dX11_had_130 : decode cX11_had 130 = .ok (.iaload, 1) := by decide +kernel
theorem dX11_had_131 : decode cX11_had 131 = .ok (.iadd, 1) := by decide +kernel
theorem dX11_had_132 : decode cX11_had 132 = .ok (.iaload, 1) := by decide +kernel
theorem dX11_had_133 : decode cX11_had 133 = .ok (.ishl, 1) := by decide +kernel
theorem dX11_had_134 : decode cX11_had 134 = .ok (.ior, 1) := by decide +kernel
theorem dX11_had_135 : decode cX11_had 135 = .ok (.istore 4, 2) := by decide +kernel
theorem dX11_had_137 : decode cX11_had 137 = .ok (.iconst 0, 1) := by decide +kernel
theorem dX11_had_138 : decode cX11_had 138 = .ok (.istore 5, 2) := by decide +kernel
theorem dX11_had_140 : decode cX11_had 140 = .ok (.iload 5, 2) := by decide +kernel
theorem dX11_had_142 : decode cX11_had 142 = .ok (.aload_n 0, 1) := by decide +kernel
theorem dX11_had_143 : decode cX11_had 143 = .ok (.getfield 13, 3) := by decide +kernel
theorem dX11_had_146 : decode cX11_had 146 = .ok (.iconst 0, 1) := by decide +kernel
theorem dX11_had_147 : decode cX11_had 147 = .ok (.iaload, 1) := by decide +kernel
theorem dX11_had_148 : decode cX11_had 148 = .ok (.if_icmp .ge 134, 3) := by decide +kernel
theorem dX11_had_151 : decode cX11_had 151 = .ok (.iload_n 2, 1) := by decide +kernel
theorem dX11_had_152 : decode cX11_had 152 = .ok (.bipush (-9), 2) := by decide +kernel
theorem dX11_had_154 : decode cX11_had 154 = .ok (.if_icmp .eq 41, 3) := by decide +kernel
theorem dX11_had_157 : decode cX11_had 157 = .ok (.aload_n 0, 1) := by decide +kernel
theorem dX11_had_158 : decode cX11_had 158 = .ok (.getfield 13, 3) := by decide +kernel
theorem dX11_had_161 : decode cX11_had 161 = .ok (.bipush 20, 2) := by decide +kernel
theorem dX11_had_163 : decode cX11_had 163 = .ok (.aload_n 0, 1) := by decide +kernel
theorem dX11_had_164 : decode cX11_had 164 = .ok (.getfield 29, 3) := by decide +kernel
theorem dX11_had_167 : decode cX11_had 167 = .ok (.iload_n 2, 1) := by decide +kernel
theorem dX11_had_168 : decode cX11_had 168 = .ok (.iaload, 1) := by decide +kernel
theorem dX11_had_169 : decode cX11_had 169 = .ok (.iadd, 1) := by decide +kernel
theorem dX11_had_170 : decode cX11_had 170 = .ok (.iaload, 1) := by decide +kernel
theorem dX11_had_171 : decode cX11_had 171 = .ok (.aload_n 0, 1) := by decide +kernel
theorem dX11_had_172 : decode cX11_had 172 = .ok (.getfield 13, 3) := by decide +kernel
theorem dX11_had_175 : decode cX11_had 175 = .ok (.bipush 6, 2) := by decide +kernel
theorem dX11_had_177 : decode cX11_had 177 = .ok (.iload 5, 2) := by decide +kernel
theorem dX11_had_179 : decode cX11_had 179 = .ok (.iadd, 1) := by decide +kernel
theorem dX11_had_180 : decode cX11_had 180 = .ok (.iaload, 1) := by decide +kernel
theorem dX11_had_181 : decode cX11_had 181 = .ok (.invokestatic 129, 3) := by decide +kernel
theorem dX11_had_184 : decode cX11_had 184 = .ok (.iload_n 1, 1) := by decide +kernel
theorem dX11_had_185 : decode cX11_had 185 = .ok (.aload_n 0, 1) := by decide +kernel
theorem dX11_had_186 : decode cX11_had 186 = .ok (.getfield 32, 3) := by decide +kernel
theorem dX11_had_189 : decode cX11_had 189 = .ok (.iload_n 2, 1) := by decide +kernel
theorem dX11_had_190 : decode cX11_had 190 = .ok (.iaload, 1) := by decide +kernel
theorem dX11_had_191 : decode cX11_had 191 = .ok (.isub, 1) := by decide +kernel
theorem dX11_had_192 : decode cX11_had 192 = .ok (.if_icmp .gt 7, 3) := by decide +kernel
theorem dX11_had_195 : decode cX11_had 195 = .ok (.iconst 1, 1) := by decide +kernel
theorem dX11_had_196 : decode cX11_had 196 = .ok (.goto 4, 3) := by decide +kernel
theorem dX11_had_199 : decode cX11_had 199 = .ok (.iconst 0, 1) := by decide +kernel
theorem dX11_had_200 : decode cX11_had 200 = .ok (.istore 6, 2) := by decide +kernel
theorem dX11_had_202 : decode cX11_had 202 = .ok (.iload_n 3, 1) := by decide +kernel
theorem dX11_had_203 : decode cX11_had 203 = .ok (.bipush (-9), 2) := by decide +kernel
theorem dX11_had_205 : decode cX11_had 205 = .ok (.if_icmp .eq 41, 3) := by decide +kernel
theorem dX11_had_208 : decode cX11_had 208 = .ok (.aload_n 0, 1) := by decide +kernel
theorem dX11_had_209 : decode cX11_had 209 = .ok (.getfield 13, 3) := by decide +kernel
theorem dX11_had_212 : decode cX11_had 212 = .ok (.bipush 6, 2) := by decide +kernel
theorem dX11_had_214 : decode cX11_had 214 = .ok (.iload 5, 2) := by decide +kernel
theorem dX11_had_216 : decode cX11_had 216 = .ok (.iadd, 1) := by decide +kernel
theorem dX11_had_217 : decode cX11_had 217 = .ok (.iaload, 1) := by decide +kernel
theorem dX11_had_218 : decode cX11_had 218 = .ok (.aload_n 0, 1) := by decide +kernel
theorem dX11_had_219 : decode cX11_had 219 = .ok (.getfield 13, 3) := by decide +kernel
theorem dX11_had_222 : decode cX11_had 222 = .ok (.bipush 20, 2) := by decide +kernel
theorem dX11_had_224 : decode cX11_had 224 = .ok (.aload_n 0, 1) := by decide +kernel
theorem dX11_had_225 : decode cX11_had 225 = .ok (.getfield 29, 3) := by decide +kernel
theorem dX11_had_228 : decode cX11_had 228 = .ok (.iload_n 3, 1) := by decide +kernel
theorem dX11_had_229 : decode cX11_had 229 = .ok (.iaload, 1) := by decide +kernel
theorem dX11_had_230 : decode cX11_had 230 = .ok (.iadd, 1) := by decide +kernel
theorem dX11_had_231 : decode cX11_had 231 = .ok (.iaload, 1) := by decide +kernel
theorem dX11_had_232 : decode cX11_had 232 = .ok (.invokestatic 129, 3) := by decide +kernel
theorem dX11_had_235 : decode cX11_had 235 = .ok (.aload_n 0, 1) := by decide +kernel
theorem dX11_had_236 : decode cX11_had 236 = .ok (.getfield 32, 3) := by decide +kernel
theorem dX11_had_239 : decode cX11_had 239 = .ok (.iload_n 3, 1) := by decide +kernel
theorem dX11_had_240 : decode cX11_had 240 = .ok (.iaload, 1) := by decide +kernel
theorem dX11_had_241 : decode cX11_had 241 = .ok (.iload_n 1, 1) := by decide +kernel
theorem dX11_had_242 : decode cX11_had 242 = .ok (.isub, 1) := by decide +kernel
theorem dX11_had_243 : decode cX11_had 243 = .ok (.if_icmp .gt 7, 3) := by decide +kernel
theorem dX11_had_246 : decode cX11_had 246 = .ok (.iconst 1, 1) := by decide +kernel
theorem dX11_had_247 : decode cX11_had 247 = .ok (.goto 4, 3) := by decide +kernel
theorem dX11_had_250 : decode cX11_had 250 = .ok (.iconst 0, 1) := by decide +kernel
theorem dX11_had_251 : decode cX11_had 251 = .ok (.istore 7, 2) := by decide +kernel
theorem dX11_had_253 : decode cX11_had 253 = .ok (.iload 4, 2) := by decide +kernel
theorem dX11_had_255 : decode cX11_had 255 = .ok (.iload 6, 2) := by decide +kernel
theorem dX11_had_257 : decode cX11_had 257 = .ok (.ifCond .eq 15, 3) := by decide +kernel
theorem dX11_had_260 : decode cX11_had 260 = .ok (.iload 7, 2) := by decide +kernel
theorem dX11_had_262 : decode cX11_had 262 = .ok (.ifCond .eq 10, 3) := by decide +kernel
theorem dX11_had_265 : decode cX11_had 265 = .ok (.iconst 1, 1) := by decide +kernel
theorem dX11_had_266 : decode cX11_had 266 = .ok (.iload 5, 2) := by decide +kernel
theorem dX11_had_268 : decode cX11_had 268 = .ok (.ishl, 1) := by decide +kernel
theorem dX11_had_269 : decode cX11_had 269 = .ok (.goto 4, 3) := by decide +kernel
theorem dX11_had_272 : decode cX11_had 272 = .ok (.iconst 0, 1) := by decide +kernel
theorem dX11_had_273 : decode cX11_had 273 = .ok (.ior, 1) := by decide +kernel
theorem dX11_had_274 : decode cX11_had 274 = .ok (.istore 4, 2) := by decide +kernel
theorem dX11_had_276 : decode cX11_had 276 = .ok (.iinc 5 1, 3) := by decide +kernel
theorem dX11_had_279 : decode cX11_had 279 = .ok (.goto (-139), 3) := by decide +kernel
theorem dX11_had_282 : decode cX11_had 282 = .ok (.iload 4, 2) := by decide +kernel
theorem dX11_had_284 : decode cX11_had 284 = .ok (.ireturn, 1) := by decide +kernel
set_option maxRecDepth 20000 in
theorem ggX11_mark_X11_in : GoodIn wsX11_mark wsX11_in := goodIn_r _ [12] (by decide +kernel) (by decide +kernel)
set_option maxRecDepth 20000 in
theorem gX11_mark_X11_in : GoodIn wsX11_mark (va_wsS RX11 54 yX11_in wsX11_in) := goodIn_app (goodIn_of _ (by decide +kernel)) ggX11_mark_X11_in
set_option maxRecDepth 20000 in
theorem ggX11_mark_X11_isOne : GoodIn wsX11_mark wsX11_isOne := goodIn_r _ [16, 17, 9, 10, 11, 12, 22, 23, 24, 25, 26, 27, 28, 29, 30, 31, 32, 33, 34, 35, 36, 37, 38, 39, 40, 41, 42, 43] (by decide +kernel) (by decide +kernel)
set_option maxRecDepth 20000 in
theorem gX11_mark_X11_isOne : GoodIn wsX11_mark (wsV RX11 100 RX11 yX11_isOne wsX11_isOne) := goodIn_app (goodIn_of _ (by decide +kernel)) ggX11_mark_X11_isOne
set_option maxRecDepth 20000 in
theorem ggX11_mark_X11_care : GoodIn wsX11_mark wsX11_care := goodIn_r _ [21, 8, 22, 23, 24, 25, 26, 27, 28, 29, 30, 31, 32, 33, 34, 35, 36, 37, 38, 39, 40, 41, 42, 43] (by decide +kernel) (by decide +kernel)
set_option maxRecDepth 20000 in
theorem gX11_mark_X11_care : GoodIn wsX11_mark (wsV RX11 103 RX11 yX11_care wsX11_care) := goodIn_app (goodIn_of _ (by decide +kernel)) ggX11_mark_X11_care
theorem dX11_mark_0 : decode cX11_mark 0 = .ok (.iload_n 1, 1) := by decide +kernel
theorem dX11_mark_1 : decode cX11_mark 1 = .ok (.iconst 0, 1) := by decide +kernel
theorem dX11_mark_2 : decode cX11_mark 2 = .ok (.iconst 5, 1) := by decide +kernel
theorem dX11_mark_3 : decode cX11_mark 3 = .ok (.invokestatic 54, 3) := by decide +kernel
theorem dX11_mark_6 : decode cX11_mark 6 = .ok (.ifCond .eq 11, 3) := by decide +kernel
theorem dX11_mark_9 : decode cX11_mark 9 = .ok (.aload_n 0, 1) := by decide +kernel
theorem dX11_mark_10 : decode cX11_mark 10 = .ok (.iload_n 2, 1) := by decide +kernel
theorem dX11_mark_11 : decode cX11_mark 11 = .ok (.invokevirtual 100, 3) := by decide +kernel
theorem dX11_mark_14 : decode cX11_mark 14 = .ok (.ifCond .ne 6, 3) := by decide +kernel
theorem dX11_mark_17 : decode cX11_mark 17 = .ok (.ldc 167, 2) := by decide +kernel
theorem dX11_mark_19 : decode cX11_mark 19 = .ok (.ireturn, 1) := by decide +kernel
theorem dX11_mark_20 : decode cX11_mark 20 = .ok (.aload_n 0, 1) := by decide +kernel
theorem dX11_mark_21 : decode cX11_mark 21 = .ok (.dup, 1) := by decide +kernel
theorem dX11_mark_22 : decode cX11_mark 22 = .ok (.getfield 168, 3) := by decide +kernel
theorem dX11_mark_25 : decode cX11_mark 25 = .ok (.iload_n 1, 1) := by decide +kernel
theorem dX11_mark_26 : decode cX11_mark 26 = .ok (.ifCond .ne 7, 3) := by decide +kernel
theorem dX11_mark_29 : decode cX11_mark 29 = .ok (.lconst 1, 1) := by decide +kernel
theorem dX11_mark_30 : decode cX11_mark 30 = .ok (.goto 50, 3) := by decide +kernel
theorem dX11_mark_33 : decode cX11_mark 33 = .ok (.iload_n 1, 1) := by decide +kernel
theorem dX11_mark_34 : decode cX11_mark 34 = .ok (.iconst 1, 1) := by decide +kernel
theorem dX11_mark_35 : decode cX11_mark 35 = .ok (.if_icmp .ne 9, 3) := by decide +kernel
theorem dX11_mark_38 : decode cX11_mark 38 = .ok (.ldc2_w 172, 3) := by decide +kernel
theorem dX11_mark_41 : decode cX11_mark 41 = .ok (.goto 39, 3) := by decide +kernel
theorem dX11_mark_44 : decode cX11_mark 44 = .ok (.iload_n 1, 1) := by decide +kernel
theorem dX11_mark_45 : decode cX11_mark 45 = .ok (.iconst 2, 1) := by decide +kernel
theorem dX11_mark_46 : decode cX11_mark 46 = .ok (.if_icmp .ne 9, 3) := by decide +kernel
theorem dX11_mark_49 : decode cX11_mark 49 = .ok (.ldc2_w 174, 3) := by decide +kernel
theorem dX11_mark_52 : decode cX11_mark 52 = .ok (.goto 28, 3) := by decide +kernel
theorem dX11_mark_55 : decode cX11_mark 55 = .ok (.iload_n 1, 1) := by decide +kernel
theorem dX11_mark_56 : decode cX11_mark 56 = .ok (.iconst 3, 1) := by decide +kernel
theorem dX11_mark_57 : decode cX11_mark 57 = .ok (.if_icmp .ne 9, 3) := by decide +kernel
theorem dX11_mark_60 : decode cX11_mark 60 = .ok (.ldc2_w 176, 3) := by decide +kernel
theorem dX11_mark_63 : decode cX11_mark 63 = .ok (.goto 17, 3) := by decide +kernel
theorem dX11_mark_66 : decode cX11_mark 66 = .ok (.iload_n 1, 1) := by decide +kernel
theorem dX11_mark_67 : decode cX11_mark 67 = .ok (.iconst 4, 1) := by decide +kernel
theorem dX11_mark_68 : decode cX11_mark 68 = .ok (.if_icmp .ne 9, 3) := by decide +kernel
theorem dX11_mark_71 : decode cX11_mark 71 = .ok (.ldc2_w 178, 3) := by decide +kernel
theorem dX11_mark_74 : decode cX11_mark 74 = .ok (.goto 6, 3) := by decide +kernel
theorem dX11_mark_77 : decode cX11_mark 77 = .ok (.ldc2_w 180, 3) := by decide +kernel
theorem dX11_mark_80 : decode cX11_mark 80 = .ok (.ladd, 1) := by decide +kernel
theorem dX11_mark_81 : decode cX11_mark 81 = .ok (.putfield 168, 3) := by decide +kernel
theorem dX11_mark_84 : decode cX11_mark 84 = .ok (.aload_n 0, 1) := by decide +kernel
theorem dX11_mark_85 : decode cX11_mark 85 = .ok (.iload_n 2, 1) := by decide +kernel
theorem dX11_mark_86 : decode cX11_mark 86 = .ok (.invokevirtual 103, 3) := by decide +kernel
theorem dX11_mark_89 : decode cX11_mark 89 = .ok (.istore_n 3, 1) := by decide +kernel
theorem dX11_mark_90 : decode cX11_mark 90 = .ok (.iload_n 3, 1) := by decide +kernel
theorem dX11_mark_91 : decode cX11_mark 91 = .ok (.aload_n 0, 1) := by decide +kernel
theorem dX11_mark_92 : decode cX11_mark 92 = .ok (.getfield 19, 3) := by decide +kernel
theorem dX11_mark_95 : decode cX11_mark 95 = .ok (.bipush 16, 2) := by decide +kernel
theorem dX11_mark_97 : decode cX11_mark 97 = .ok (.iload_n 2, 1) := by decide +kernel
theorem dX11_mark_98 : decode cX11_mark 98 = .ok (.iadd, 1) := by decide +kernel
theorem dX11_mark_99 : decode cX11_mark 99 = .ok (.iaload, 1) := by decide +kernel
theorem dX11_mark_100 : decode cX11_mark 100 = .ok (.iadd, 1) := by decide +kernel
theorem dX11_mark_101 : decode cX11_mark 101 = .ok (.istore 4, 2) := by decide +kernel
theorem dX11_mark_103 : decode cX11_mark 103 = .ok (.iload_n 3, 1) := by decide +kernel
theorem dX11_mark_104 : decode cX11_mark 104 = .ok (.aload_n 0, 1) := by decide +kernel
theorem dX11_mark_105 : decode cX11_mark 105 = .ok (.getfield 19, 3) := by decide +kernel
theorem dX11_mark_108 : decode cX11_mark 108 = .ok (.iconst 4, 1) := by decide +kernel
theorem dX11_mark_109 : decode cX11_mark 109 = .ok (.iload_n 2, 1) := by decide +kernel
theorem dX11_mark_110 : decode cX11_mark 110 = .ok (.iadd, 1) := by decide +kernel
theorem dX11_mark_111 : decode cX11_mark 111 = .ok (.iaload, 1) := by decide +kernel
theorem dX11_mark_112 : decode cX11_mark 112 = .ok (.isub, 1) := by decide +kernel
theorem dX11_mark_113 : decode cX11_mark 113 = .ok (.istore 5, 2) := by decide +kernel
theorem dX11_mark_115 : decode cX11_mark 115 = .ok (.iload_n 1, 1) := by decide +kernel
theorem dX11_mark_116 : decode cX11_mark 116 = .ok (.ifCond .ne 7, 3) := by decide +kernel
theorem dX11_mark_119 : decode cX11_mark 119 = .ok (.iload_n 3, 1) := by decide +kernel
theorem dX11_mark_120 : decode cX11_mark 120 = .ok (.goto 55, 3) := by decide +kernel
theorem dX11_mark_123 : decode cX11_mark 123 = .ok (.iload_n 1, 1) := by decide +kernel
theorem dX11_mark_124 : decode cX11_mark 124 = .ok (.iconst 1, 1) := by decide +kernel
theorem dX11_mark_125 : decode cX11_mark 125 = .ok (.if_icmp .ne 8, 3) := by decide +kernel
theorem dX11_mark_128 : decode cX11_mark 128 = .ok (.iload 4, 2) := by decide +kernel
theorem dX11_mark_130 : decode cX11_mark 130 = .ok (.goto 45, 3) := by decide +kernel
theorem dX11_mark_133 : decode cX11_mark 133 = .ok (.iload_n 1, 1) := by decide +kernel
theorem dX11_mark_134 : decode cX11_mark 134 = .ok (.iconst 2, 1) := by decide +kernel
theorem dX11_mark_135 : decode cX11_mark 135 = .ok (.if_icmp .ne 8, 3) := by decide +kernel
theorem dX11_mark_138 : decode cX11_mark 138 = .ok (.iload 5, 2) := by decide +kernel
theorem dX11_mark_140 : decode cX11_mark 140 = .ok (.goto 35, 3) := by decide +kernel
theorem dX11_mark_143 : decode cX11_mark 143 = .ok (.iload_n 1, 1) := by decide +kernel
theorem dX11_mark_144 : decode cX11_mark 144 = .ok (.iconst 3, 1) := by decide +kernel
theorem dX11_mark_145 : decode cX11_mark 145 = .ok (.if_icmp .ne 10, 3) := by decide +kernel
theorem dX11_mark_148 : decode cX11_mark 148 = .ok (.iconst 2, 1) := by decide +kernel
theorem dX11_mark_149 : decode cX11_mark 149 = .ok (.iload 4, 2) := by decide +kernel
theorem dX11_mark_151 : decode cX11_mark 151 = .ok (.imul, 1) := by decide +kernel
theorem dX11_mark_152 : decode cX11_mark 152 = .ok (.goto 23, 3) := by decide +kernel
theorem dX11_mark_155 : decode cX11_mark 155 = .ok (.iload_n 1, 1) := by decide +kernel
theorem dX11_mark_156 : decode cX11_mark 156 = .ok (.iconst 4, 1) := by decide +kernel
theorem dX11_mark_157 : decode cX11_mark 157 = .ok (.if_icmp .ne 10, 3) := by decide +kernel
theorem dX11_mark_160 : decode cX11_mark 160 = .ok (.iload 5, 2) := by decide +kernel
theorem dX11_mark_162 : decode cX11_mark 162 = .ok (.iload_n 2, 1) := by decide +kernel
theorem dX11_mark_163 : decode cX11_mark 163 = .ok (.iadd, 1) := by decide +kernel
theorem dX11_mark_164 : decode cX11_mark 164 = .ok (.goto 11, 3) := by decide +kernel
theorem dX11_mark_167 : decode cX11_mark 167 = .ok (.iload_n 3, 1) := by decide +kernel
theorem dX11_mark_168 : decode cX11_mark 168 = .ok (.aload_n 0, 1) := by decide +kernel
theorem dX11_mark_169 : decode cX11_mark 169 = .ok (.getfield 19, 3) := by decide +kernel
theorem dX11_mark_172 : decode cX11_mark 172 = .ok (.iconst 0, 1) := by decide +kernel
theorem dX11_mark_173 : decode cX11_mark 173 = .ok (.iaload, 1) := by decide +kernel
theorem dX11_mark_174 : decode cX11_mark 174 = .ok (.iadd, 1) := by decide +kernel
theorem dX11_mark_175 : decode cX11_mark 175 = .ok (.ireturn, 1) := by decide +kernel
set_option maxRecDepth 20000 in
theorem ggX11_keep_X11_in : GoodIn wsX11_keep wsX11_in := goodIn_r _ [7] (by decide +kernel) (by decide +kernel)
set_option maxRecDepth 20000 in
theorem gX11_keep_X11_in : GoodIn wsX11_keep (va_wsS RX11 54 yX11_in wsX11_in) := goodIn_app (goodIn_of _ (by decide +kernel)) ggX11_keep_X11_in
theorem dX11_keep_0 : decode cX11_keep 0 = .ok (.iload_n 1, 1) := by decide +kernel
theorem dX11_keep_1 : decode cX11_keep 1 = .ok (.iconst 0, 1) := by decide +kernel
theorem dX11_keep_2 : decode cX11_keep 2 = .ok (.iconst 1, 1) := by decide +kernel
theorem dX11_keep_3 : decode cX11_keep 3 = .ok (.invokestatic 54, 3) := by decide +kernel
theorem dX11_keep_6 : decode cX11_keep 6 = .ok (.ifCond .ne 5, 3) := by decide +kernel
theorem dX11_keep_9 : decode cX11_keep 9 = .ok (.iconst (-1), 1) := by decide +kernel
theorem dX11_keep_10 : decode cX11_keep 10 = .ok (.ireturn, 1) := by decide +kernel
theorem dX11_keep_11 : decode cX11_keep 11 = .ok (.iconst 0, 1) := by decide +kernel
theorem dX11_keep_12 : decode cX11_keep 12 = .ok (.istore_n 2, 1) := by decide +kernel
theorem dX11_keep_13 : decode cX11_keep 13 = .ok (.iload_n 2, 1) := by decide +kernel
theorem dX11_keep_14 : decode cX11_keep 14 = .ok (.sipush 254, 3) := by decide +kernel
theorem dX11_keep_17 : decode cX11_keep 17 = .ok (.if_icmp .ge 27, 3) := by decide +kernel
theorem dX11_keep_20 : decode cX11_keep 20 = .ok (.aload_n 0, 1) := by decide +kernel
theorem dX11_keep_21 : decode cX11_keep 21 = .ok (.getfield 22, 3) := by decide +kernel
theorem dX11_keep_24 : decode cX11_keep 24 = .ok (.sipush 254, 3) := by decide +kernel
theorem dX11_keep_27 : decode cX11_keep 27 = .ok (.iload_n 1, 1) := by decide +kernel
theorem dX11_keep_28 : decode cX11_keep 28 = .ok (.imul, 1) := by decide +kernel
theorem dX11_keep_29 : decode cX11_keep 29 = .ok (.iload_n 2, 1) := by decide +kernel
theorem dX11_keep_30 : decode cX11_keep 30 = .ok (.iadd, 1) := by decide +kernel
theorem dX11_keep_31 : decode cX11_keep 31 = .ok (.aload_n 0, 1) := by decide +kernel
theorem dX11_keep_32 : decode cX11_keep 32 = .ok (.getfield 19, 3) := by decide +kernel
theorem dX11_keep_35 : decode cX11_keep 35 = .ok (.iload_n 2, 1) := by decide +kernel
theorem dX11_keep_36 : decode cX11_keep 36 = .ok (.iaload, 1) := by decide +kernel
theorem dX11_keep_37 : decode cX11_keep 37 = .ok (.iastore, 1) := by decide +kernel
theorem dX11_keep_38 : decode cX11_keep 38 = .ok (.iinc 2 1, 3) := by decide +kernel
theorem dX11_keep_41 : decode cX11_keep 41 = .ok (.goto (-28), 3) := by decide +kernel
theorem dX11_keep_44 : decode cX11_keep 44 = .ok (.aload_n 0, 1) := by decide +kernel
theorem dX11_keep_45 : decode cX11_keep 45 = .ok (.getfield 25, 3) := by decide +kernel
theorem dX11_keep_48 : decode cX11_keep 48 = .ok (.iload_n 1, 1) := by decide +kernel
theorem dX11_keep_49 : decode cX11_keep 49 = .ok (.iconst 1, 1) := by decide +kernel
theorem dX11_keep_50 : decode cX11_keep 50 = .ok (.bastore, 1) := by decide +kernel
theorem dX11_keep_51 : decode cX11_keep 51 = .ok (.aload_n 0, 1) := by decide +kernel
theorem dX11_keep_52 : decode cX11_keep 52 = .ok (.getfield 19, 3) := by decide +kernel
theorem dX11_keep_55 : decode cX11_keep 55 = .ok (.iconst 0, 1) := by decide +kernel
theorem dX11_keep_56 : decode cX11_keep 56 = .ok (.iaload, 1) := by decide +kernel
theorem dX11_keep_57 : decode cX11_keep 57 = .ok (.ireturn, 1) := by decide +kernel
set_option maxRecDepth 20000 in
theorem ggX11_back_X11_in : GoodIn wsX11_back wsX11_in := goodIn_r _ [7] (by decide +kernel) (by decide +kernel)
set_option maxRecDepth 20000 in
theorem gX11_back_X11_in : GoodIn wsX11_back (va_wsS RX11 54 yX11_in wsX11_in) := goodIn_app (goodIn_of _ (by decide +kernel)) ggX11_back_X11_in
theorem dX11_back_0 : decode cX11_back 0 = .ok (.iload_n 1, 1) := by decide +kernel
theorem dX11_back_1 : decode cX11_back 1 = .ok (.iconst 0, 1) := by decide +kernel
theorem dX11_back_2 : decode cX11_back 2 = .ok (.iconst 1, 1) := by decide +kernel
theorem dX11_back_3 : decode cX11_back 3 = .ok (.invokestatic 54, 3) := by decide +kernel
theorem dX11_back_6 : decode cX11_back 6 = .ok (.ifCond .ne 5, 3) := by decide +kernel
theorem dX11_back_9 : decode cX11_back 9 = .ok (.iconst (-1), 1) := by decide +kernel
theorem dX11_back_10 : decode cX11_back 10 = .ok (.ireturn, 1) := by decide +kernel
theorem dX11_back_11 : decode cX11_back 11 = .ok (.aload_n 0, 1) := by decide +kernel
theorem dX11_back_12 : decode cX11_back 12 = .ok (.getfield 25, 3) := by decide +kernel
theorem dX11_back_15 : decode cX11_back 15 = .ok (.iload_n 1, 1) := by decide +kernel
theorem dX11_back_16 : decode cX11_back 16 = .ok (.baload, 1) := by decide +kernel
theorem dX11_back_17 : decode cX11_back 17 = .ok (.ifCond .ne 6, 3) := by decide +kernel
theorem dX11_back_20 : decode cX11_back 20 = .ok (.bipush (-2), 2) := by decide +kernel
theorem dX11_back_22 : decode cX11_back 22 = .ok (.ireturn, 1) := by decide +kernel
theorem dX11_back_23 : decode cX11_back 23 = .ok (.iconst 0, 1) := by decide +kernel
theorem dX11_back_24 : decode cX11_back 24 = .ok (.istore_n 2, 1) := by decide +kernel
theorem dX11_back_25 : decode cX11_back 25 = .ok (.iload_n 2, 1) := by decide +kernel
theorem dX11_back_26 : decode cX11_back 26 = .ok (.sipush 254, 3) := by decide +kernel
theorem dX11_back_29 : decode cX11_back 29 = .ok (.if_icmp .ge 27, 3) := by decide +kernel
theorem dX11_back_32 : decode cX11_back 32 = .ok (.aload_n 0, 1) := by decide +kernel
theorem dX11_back_33 : decode cX11_back 33 = .ok (.getfield 19, 3) := by decide +kernel
theorem dX11_back_36 : decode cX11_back 36 = .ok (.iload_n 2, 1) := by decide +kernel
theorem dX11_back_37 : decode cX11_back 37 = .ok (.aload_n 0, 1) := by decide +kernel
theorem dX11_back_38 : decode cX11_back 38 = .ok (.getfield 22, 3) := by decide +kernel
theorem dX11_back_41 : decode cX11_back 41 = .ok (.sipush 254, 3) := by decide +kernel
theorem dX11_back_44 : decode cX11_back 44 = .ok (.iload_n 1, 1) := by decide +kernel
theorem dX11_back_45 : decode cX11_back 45 = .ok (.imul, 1) := by decide +kernel
theorem dX11_back_46 : decode cX11_back 46 = .ok (.iload_n 2, 1) := by decide +kernel
theorem dX11_back_47 : decode cX11_back 47 = .ok (.iadd, 1) := by decide +kernel
theorem dX11_back_48 : decode cX11_back 48 = .ok (.iaload, 1) := by decide +kernel
theorem dX11_back_49 : decode cX11_back 49 = .ok (.iastore, 1) := by decide +kernel
theorem dX11_back_50 : decode cX11_back 50 = .ok (.iinc 2 1, 3) := by decide +kernel
theorem dX11_back_53 : decode cX11_back 53 = .ok (.goto (-28), 3) := by decide +kernel
theorem dX11_back_56 : decode cX11_back 56 = .ok (.aload_n 0, 1) := by decide +kernel
theorem dX11_back_57 : decode cX11_back 57 = .ok (.getfield 19, 3) := by decide +kernel
theorem dX11_back_60 : decode cX11_back 60 = .ok (.iconst 0, 1) := by decide +kernel
theorem dX11_back_61 : decode cX11_back 61 = .ok (.iaload, 1) := by decide +kernel
theorem dX11_back_62 : decode cX11_back 62 = .ok (.ireturn, 1) := by decide +kernel
theorem dX11_count_0 : decode cX11_count 0 = .ok (.iload_n 1, 1) := by decide +kernel
theorem dX11_count_1 : decode cX11_count 1 = .ok (.tableswitch 89 0 6 #[43, 50, 57, 64, 71, 76, 84], 43) := by decide +kernel
theorem dX11_count_44 : decode cX11_count 44 = .ok (.aload_n 0, 1) := by decide +kernel
theorem dX11_count_45 : decode cX11_count 45 = .ok (.getfield 13, 3) := by decide +kernel
theorem dX11_count_48 : decode cX11_count 48 = .ok (.iconst 0, 1) := by decide +kernel
theorem dX11_count_49 : decode cX11_count 49 = .ok (.iaload, 1) := by decide +kernel
theorem dX11_count_50 : decode cX11_count 50 = .ok (.ireturn, 1) := by decide +kernel
theorem dX11_count_51 : decode cX11_count 51 = .ok (.aload_n 0, 1) := by decide +kernel
theorem dX11_count_52 : decode cX11_count 52 = .ok (.getfield 13, 3) := by decide +kernel
theorem dX11_count_55 : decode cX11_count 55 = .ok (.iconst 1, 1) := by decide +kernel
theorem dX11_count_56 : decode cX11_count 56 = .ok (.iaload, 1) := by decide +kernel
theorem dX11_count_57 : decode cX11_count 57 = .ok (.ireturn, 1) := by decide +kernel
theorem dX11_count_58 : decode cX11_count 58 = .ok (.aload_n 0, 1) := by decide +kernel
theorem dX11_count_59 : decode cX11_count 59 = .ok (.getfield 13, 3) := by decide +kernel
theorem dX11_count_62 : decode cX11_count 62 = .ok (.iconst 2, 1) := by decide +kernel
theorem dX11_count_63 : decode cX11_count 63 = .ok (.iaload, 1) := by decide +kernel
theorem dX11_count_64 : decode cX11_count 64 = .ok (.ireturn, 1) := by decide +kernel
theorem dX11_count_65 : decode cX11_count 65 = .ok (.aload_n 0, 1) := by decide +kernel
theorem dX11_count_66 : decode cX11_count 66 = .ok (.getfield 13, 3) := by decide +kernel
theorem dX11_count_69 : decode cX11_count 69 = .ok (.iconst 3, 1) := by decide +kernel
theorem dX11_count_70 : decode cX11_count 70 = .ok (.iaload, 1) := by decide +kernel
theorem dX11_count_71 : decode cX11_count 71 = .ok (.ireturn, 1) := by decide +kernel
theorem dX11_count_72 : decode cX11_count 72 = .ok (.aload_n 0, 1) := by decide +kernel
theorem dX11_count_73 : decode cX11_count 73 = .ok (.getfield 97, 3) := by decide +kernel
theorem dX11_count_76 : decode cX11_count 76 = .ok (.ireturn, 1) := by decide +kernel
theorem dX11_count_77 : decode cX11_count 77 = .ok (.aload_n 0, 1) := by decide +kernel
theorem dX11_count_78 : decode cX11_count 78 = .ok (.getfield 19, 3) := by decide +kernel
theorem dX11_count_81 : decode cX11_count 81 = .ok (.bipush 23, 2) := by decide +kernel
theorem dX11_count_83 : decode cX11_count 83 = .ok (.iaload, 1) := by decide +kernel
theorem dX11_count_84 : decode cX11_count 84 = .ok (.ireturn, 1) := by decide +kernel
theorem dX11_count_85 : decode cX11_count 85 = .ok (.aload_n 0, 1) := by decide +kernel
theorem dX11_count_86 : decode cX11_count 86 = .ok (.getfield 58, 3) := by decide +kernel
theorem dX11_count_89 : decode cX11_count 89 = .ok (.ireturn, 1) := by decide +kernel
theorem dX11_count_90 : decode cX11_count 90 = .ok (.iconst (-1), 1) := by decide +kernel
theorem dX11_count_91 : decode cX11_count 91 = .ok (.ireturn, 1) := by decide +kernel
theorem dX11_trace_0 : decode cX11_trace 0 = .ok (.aload_n 0, 1) := by decide +kernel
theorem dX11_trace_1 : decode cX11_trace 1 = .ok (.getfield 168, 3) := by decide +kernel
theorem dX11_trace_4 : decode cX11_trace 4 = .ok (.lreturn, 1) := by decide +kernel
theorem dJ6_bitCount_0f7a4_0 : decode cJ6_bitCount_0f7a4 0 = .ok (.iload_n 0, 1) := by decide +kernel
theorem dJ6_bitCount_0f7a4_1 : decode cJ6_bitCount_0f7a4 1 = .ok (.iload_n 0, 1) := by decide +kernel
theorem dJ6_bitCount_0f7a4_2 : decode cJ6_bitCount_0f7a4 2 = .ok (.iconst 1, 1) := by decide +kernel
theorem dJ6_bitCount_0f7a4_3 : decode cJ6_bitCount_0f7a4 3 = .ok (.iushr, 1) := by decide +kernel
theorem dJ6_bitCount_0f7a4_4 : decode cJ6_bitCount_0f7a4 4 = .ok (.ldc_w 265, 3) := by decide +kernel
theorem dJ6_bitCount_0f7a4_7 : decode cJ6_bitCount_0f7a4 7 = .ok (.iand, 1) := by decide +kernel
theorem dJ6_bitCount_0f7a4_8 : decode cJ6_bitCount_0f7a4 8 = .ok (.isub, 1) := by decide +kernel
theorem dJ6_bitCount_0f7a4_9 : decode cJ6_bitCount_0f7a4 9 = .ok (.istore_n 0, 1) := by decide +kernel
theorem dJ6_bitCount_0f7a4_10 : decode cJ6_bitCount_0f7a4 10 = .ok (.iload_n 0, 1) := by decide +kernel
theorem dJ6_bitCount_0f7a4_11 : decode cJ6_bitCount_0f7a4 11 = .ok (.ldc_w 266, 3) := by decide +kernel
theorem dJ6_bitCount_0f7a4_14 : decode cJ6_bitCount_0f7a4 14 = .ok (.iand, 1) := by decide +kernel
theorem dJ6_bitCount_0f7a4_15 : decode cJ6_bitCount_0f7a4 15 = .ok (.iload_n 0, 1) := by decide +kernel
theorem dJ6_bitCount_0f7a4_16 : decode cJ6_bitCount_0f7a4 16 = .ok (.iconst 2, 1) := by decide +kernel
theorem dJ6_bitCount_0f7a4_17 : decode cJ6_bitCount_0f7a4 17 = .ok (.iushr, 1) := by decide +kernel
theorem dJ6_bitCount_0f7a4_18 : decode cJ6_bitCount_0f7a4 18 = .ok (.ldc_w 266, 3) := by decide +kernel
theorem dJ6_bitCount_0f7a4_21 : decode cJ6_bitCount_0f7a4 21 = .ok (.iand, 1) := by decide +kernel
theorem dJ6_bitCount_0f7a4_22 : decode cJ6_bitCount_0f7a4 22 = .ok (.iadd, 1) := by decide +kernel
theorem dJ6_bitCount_0f7a4_23 : decode cJ6_bitCount_0f7a4 23 = .ok (.istore_n 0, 1) := by decide +kernel
theorem dJ6_bitCount_0f7a4_24 : decode cJ6_bitCount_0f7a4 24 = .ok (.iload_n 0, 1) := by decide +kernel
theorem dJ6_bitCount_0f7a4_25 : decode cJ6_bitCount_0f7a4 25 = .ok (.iload_n 0, 1) := by decide +kernel
theorem dJ6_bitCount_0f7a4_26 : decode cJ6_bitCount_0f7a4 26 = .ok (.iconst 4, 1) := by decide +kernel
theorem dJ6_bitCount_0f7a4_27 : decode cJ6_bitCount_0f7a4 27 = .ok (.iushr, 1) := by decide +kernel
theorem dJ6_bitCount_0f7a4_28 : decode cJ6_bitCount_0f7a4 28 = .ok (.iadd, 1) := by decide +kernel
theorem dJ6_bitCount_0f7a4_29 : decode cJ6_bitCount_0f7a4 29 = .ok (.ldc_w 267, 3) := by decide +kernel
theorem dJ6_bitCount_0f7a4_32 : decode cJ6_bitCount_0f7a4 32 = .ok (.iand, 1) := by decide +kernel
theorem dJ6_bitCount_0f7a4_33 : decode cJ6_bitCount_0f7a4 33 = .ok (.istore_n 0, 1) := by decide +kernel
theorem dJ6_bitCount_0f7a4_34 : decode cJ6_bitCount_0f7a4 34 = .ok (.iload_n 0, 1) := by decide +kernel
theorem dJ6_bitCount_0f7a4_35 : decode cJ6_bitCount_0f7a4 35 = .ok (.iload_n 0, 1) := by decide +kernel
theorem dJ6_bitCount_0f7a4_36 : decode cJ6_bitCount_0f7a4 36 = .ok (.bipush 8, 2) := by decide +kernel
theorem dJ6_bitCount_0f7a4_38 : decode cJ6_bitCount_0f7a4 38 = .ok (.iushr, 1) := by decide +kernel
theorem dJ6_bitCount_0f7a4_39 : decode cJ6_bitCount_0f7a4 39 = .ok (.iadd, 1) := by decide +kernel
theorem dJ6_bitCount_0f7a4_40 : decode cJ6_bitCount_0f7a4 40 = .ok (.istore_n 0, 1) := by decide +kernel
theorem dJ6_bitCount_0f7a4_41 : decode cJ6_bitCount_0f7a4 41 = .ok (.iload_n 0, 1) := by decide +kernel
theorem dJ6_bitCount_0f7a4_42 : decode cJ6_bitCount_0f7a4 42 = .ok (.iload_n 0, 1) := by decide +kernel
theorem dJ6_bitCount_0f7a4_43 : decode cJ6_bitCount_0f7a4 43 = .ok (.bipush 16, 2) := by decide +kernel
theorem dJ6_bitCount_0f7a4_45 : decode cJ6_bitCount_0f7a4 45 = .ok (.iushr, 1) := by decide +kernel
theorem dJ6_bitCount_0f7a4_46 : decode cJ6_bitCount_0f7a4 46 = .ok (.iadd, 1) := by decide +kernel
theorem dJ6_bitCount_0f7a4_47 : decode cJ6_bitCount_0f7a4 47 = .ok (.istore_n 0, 1) := by decide +kernel
theorem dJ6_bitCount_0f7a4_48 : decode cJ6_bitCount_0f7a4 48 = .ok (.iload_n 0, 1) := by decide +kernel
theorem dJ6_bitCount_0f7a4_49 : decode cJ6_bitCount_0f7a4 49 = .ok (.bipush 63, 2) := by decide +kernel
theorem dJ6_bitCount_0f7a4_51 : decode cJ6_bitCount_0f7a4 51 = .ok (.iand, 1) := by decide +kernel
theorem dJ6_bitCount_0f7a4_52 : decode cJ6_bitCount_0f7a4 52 = .ok (.ireturn, 1) := by decide +kernel
theorem dJ9_abs_0f7a4_0 : decode cJ9_abs_0f7a4 0 = .ok (.iload_n 0, 1) := by decide +kernel
theorem dJ9_abs_0f7a4_1 : decode cJ9_abs_0f7a4 1 = .ok (.ifCond .ge 8, 3) := by decide +kernel
theorem dJ9_abs_0f7a4_4 : decode cJ9_abs_0f7a4 4 = .ok (.iload_n 0, 1) := by decide +kernel
theorem dJ9_abs_0f7a4_5 : decode cJ9_abs_0f7a4 5 = .ok (.ineg, 1) := by decide +kernel
theorem dJ9_abs_0f7a4_6 : decode cJ9_abs_0f7a4 6 = .ok (.goto 4, 3) := by decide +kernel
theorem dJ9_abs_0f7a4_9 : decode cJ9_abs_0f7a4 9 = .ok (.iload_n 0, 1) := by decide +kernel
theorem dJ9_abs_0f7a4_10 : decode cJ9_abs_0f7a4 10 = .ok (.ireturn, 1) := by decide +kernel
theorem dJ9_max_7cf53_0 : decode cJ9_max_7cf53 0 = .ok (.iload_n 0, 1) := by decide +kernel
theorem dJ9_max_7cf53_1 : decode cJ9_max_7cf53 1 = .ok (.iload_n 1, 1) := by decide +kernel
theorem dJ9_max_7cf53_2 : decode cJ9_max_7cf53 2 = .ok (.if_icmp .lt 7, 3) := by decide +kernel
theorem dJ9_max_7cf53_5 : decode cJ9_max_7cf53 5 = .ok (.iload_n 0, 1) := by decide +kernel
theorem dJ9_max_7cf53_6 : decode cJ9_max_7cf53 6 = .ok (.goto 4, 3) := by decide +kernel
theorem dJ9_max_7cf53_9 : decode cJ9_max_7cf53 9 = .ok (.iload_n 1, 1) := by decide +kernel
theorem dJ9_max_7cf53_10 : decode cJ9_max_7cf53 10 = .ok (.ireturn, 1) := by decide +kernel
theorem dJ9_min_7cf53_0 : decode cJ9_min_7cf53 0 = .ok (.iload_n 0, 1) := by decide +kernel
theorem dJ9_min_7cf53_1 : decode cJ9_min_7cf53 1 = .ok (.iload_n 1, 1) := by decide +kernel
theorem dJ9_min_7cf53_2 : decode cJ9_min_7cf53 2 = .ok (.if_icmp .gt 7, 3) := by decide +kernel
theorem dJ9_min_7cf53_5 : decode cJ9_min_7cf53 5 = .ok (.iload_n 0, 1) := by decide +kernel
theorem dJ9_min_7cf53_6 : decode cJ9_min_7cf53 6 = .ok (.goto 4, 3) := by decide +kernel
theorem dJ9_min_7cf53_9 : decode cJ9_min_7cf53 9 = .ok (.iload_n 1, 1) := by decide +kernel
theorem dJ9_min_7cf53_10 : decode cJ9_min_7cf53 10 = .ok (.ireturn, 1) := by decide +kernel
set_option maxRecDepth 20000 in
theorem ggL_law_X10_init : GoodIn wsL_law wsX10_init := goodIn_r _ [8, 9, 10, 11, 12, 13, 14, 15, 16, 17, 18, 19, 20, 21, 22, 23, 24, 25, 26, 27, 28, 29, 30, 31, 32, 33, 34, 35, 36, 37, 38, 39, 40, 41, 42, 43, 44, 45, 46, 47, 48, 49, 50, 51, 52, 53, 54, 55, 56, 57, 58, 59, 60, 61, 62, 63, 64, 65, 66, 67, 68, 69, 70, 71, 72, 73, 74, 75, 76, 77, 78, 79, 80, 81, 82, 83, 84, 85, 86, 87, 88, 89, 90, 91, 92, 93, 94, 95, 96, 97, 98, 99, 100, 101, 102, 103, 104, 105, 106, 107, 108, 883, 884, 885, 886, 887, 888, 847, 848, 849, 850, 851, 852, 853, 854, 855, 856, 857, 858, 859, 860, 889, 890, 891, 892, 893, 894, 895, 896, 897, 898, 899, 900, 901, 902, 903, 904, 905, 906, 907, 908, 909, 910, 911, 912, 913, 914, 915, 916, 917, 918, 919, 920, 921, 922, 923, 924, 925, 926, 927, 928] (by decide +kernel) (by decide +kernel)
set_option maxRecDepth 20000 in
theorem gL_law_X10_init : GoodIn wsL_law (wsX10_init) := ggL_law_X10_init
set_option maxRecDepth 20000 in
theorem ggL_law_X11_init : GoodIn wsL_law wsX11_init := goodIn_r _ [111, 112, 10, 11, 55, 113, 114, 115, 116, 117, 30, 118, 119, 120, 121, 122, 123, 124, 125, 126, 127, 5, 128, 129, 130, 131, 132, 133, 134, 135, 136, 137, 138, 139, 140, 141, 142, 143, 144, 145, 146, 147, 148, 149, 150, 151, 152, 153, 154, 155, 156, 157, 158, 159, 160, 161, 162, 163, 164, 165, 166, 167, 861, 862, 863, 864, 865, 866, 867, 868, 869, 870, 871, 872, 873, 874, 875, 876, 877, 878, 879, 880, 881, 882] (by decide +kernel) (by decide +kernel)
set_option maxRecDepth 20000 in
theorem gL_law_X11_init : GoodIn wsL_law (wsX11_init) := ggL_law_X11_init
set_option maxRecDepth 20000 in
theorem ggL_law_X10_type : GoodIn wsL_law wsX10_type := goodIn_r _ [171, 15, 172, 173, 847, 848, 849, 850, 851, 852, 853, 854, 855, 856, 857, 858, 859, 860, 883, 884, 885, 886, 887, 888] (by decide +kernel) (by decide +kernel)
set_option maxRecDepth 20000 in
theorem gL_law_X10_type : GoodIn wsL_law (wsV RL 13 RX10 yX10_type wsX10_type) := goodIn_app (goodIn_of _ (by decide +kernel)) ggL_law_X10_type
set_option maxRecDepth 20000 in
theorem ggL_law_X11_type : GoodIn wsL_law wsX11_type := goodIn_r _ [177, 141, 113, 145, 146, 5, 147, 861, 862, 863, 864, 865, 866, 867, 868, 869, 870, 871, 872, 873, 874, 875, 876, 877, 878, 879, 880, 881, 882] (by decide +kernel) (by decide +kernel)
set_option maxRecDepth 20000 in
theorem gL_law_X11_type : GoodIn wsL_law (wsV RL 17 RX11 yX11_type wsX11_type) := goodIn_app (goodIn_of _ (by decide +kernel)) ggL_law_X11_type
set_option maxRecDepth 20000 in
theorem ggL_law_X10_clear : GoodIn wsL_law wsX10_clear := goodIn_r _ [181, 15, 172, 847, 848, 849, 850, 851, 852, 853, 854, 855, 856, 857, 858, 859, 860, 883, 884, 885, 886, 887, 888] (by decide +kernel) (by decide +kernel)
set_option maxRecDepth 20000 in
theorem gL_law_X10_clear : GoodIn wsL_law (wsV RL 18 RX10 yX10_clear wsX10_clear) := goodIn_app (goodIn_of _ (by decide +kernel)) ggL_law_X10_clear
set_option maxRecDepth 20000 in
theorem ggL_law_X11_clear : GoodIn wsL_law wsX11_clear := goodIn_r _ [185, 141, 861, 862, 863, 864, 865, 866, 867, 868, 869, 870, 871, 872, 873, 874, 875, 876, 877, 878, 879, 880, 881, 882] (by decide +kernel) (by decide +kernel)
set_option maxRecDepth 20000 in
theorem gL_law_X11_clear : GoodIn wsL_law (wsV RL 22 RX11 yX11_clear wsX11_clear) := goodIn_app (goodIn_of _ (by decide +kernel)) ggL_law_X11_clear
set_option maxRecDepth 20000 in
theorem ggL_law_X10_port : GoodIn wsL_law wsX10_port := goodIn_r _ [189, 19, 15, 24, 172, 23, 28, 35, 190, 31, 191, 192, 193, 194, 18, 195, 196, 197, 198, 199, 200, 201, 202, 14, 203, 204, 205, 206, 207, 22, 208, 63, 64, 209, 210, 211, 212, 213, 214, 215, 56, 216, 217, 218, 219, 220, 221, 222, 223, 224, 225, 226, 227, 228, 229, 230, 231, 232, 233, 234, 235, 236, 237, 238, 239, 240, 241, 242, 243, 244, 245, 246, 247, 248, 249, 250, 251, 252, 253, 254, 255, 256, 257, 258, 259, 260, 261, 262, 263, 264, 265, 266, 267, 268, 269, 270, 271, 272, 273, 65, 274, 275, 276, 277, 66, 67, 68, 69, 70, 278, 279, 280, 27, 281, 78, 282, 283, 284, 285, 77, 286, 287, 83, 288, 289, 290, 84, 291, 85, 86, 847, 848, 849, 850, 851, 852, 853, 854, 855, 856, 857, 858, 859, 860, 883, 884, 885, 886, 887, 888, 904, 905, 906, 889, 890, 891, 892, 893, 894, 895, 896, 897, 898, 899, 900, 901, 902, 903, 921, 922, 923, 924, 925, 926, 927, 928] (by decide +kernel) (by decide +kernel)
set_option maxRecDepth 20000 in
theorem gL_law_X10_port : GoodIn wsL_law (wsV RL 23 RX10 yX10_port wsX10_port) := goodIn_app (goodIn_of _ (by decide +kernel)) ggL_law_X10_port
set_option maxRecDepth 20000 in
theorem ggL_law_X11_port : GoodIn wsL_law wsX11_port := goodIn_r _ [295, 135, 141, 114, 125, 126, 127, 5, 128, 115, 129, 130, 131, 132, 133, 134, 136, 113, 137, 138, 139, 140, 142, 143, 144, 145, 146, 147, 148, 149, 150, 151, 152, 153, 154, 155, 156, 157, 158, 159, 160, 161, 162, 163, 164, 165, 166, 116, 167, 118, 861, 862, 863, 864, 865, 866, 867, 868, 869, 870, 871, 872, 873, 874, 875, 876, 877, 878, 879, 880, 881, 882] (by decide +kernel) (by decide +kernel)
set_option maxRecDepth 20000 in
theorem gL_law_X11_port : GoodIn wsL_law (wsV RL 26 RX11 yX11_port wsX11_port) := goodIn_app (goodIn_of _ (by decide +kernel)) ggL_law_X11_port
set_option maxRecDepth 20000 in
theorem ggL_law_X10_one : GoodIn wsL_law wsX10_one := goodIn_r _ [299, 23, 28, 300, 301, 302, 303, 304, 305, 306, 22, 307, 209, 308, 309, 310, 77, 311, 83, 287, 85, 847, 848, 849, 850, 851, 852, 853, 854, 855, 856, 857, 858, 859, 860, 901, 902, 903, 891, 892, 893, 894, 895, 896, 897, 898, 899, 900, 921, 922, 923, 924, 925, 926, 927, 928] (by decide +kernel) (by decide +kernel)
set_option maxRecDepth 20000 in
theorem gL_law_X10_one : GoodIn wsL_law (wsV RL 27 RX10 yX10_one wsX10_one) := goodIn_app (goodIn_of _ (by decide +kernel)) ggL_law_X10_one
set_option maxRecDepth 20000 in
theorem ggL_law_X11_one : GoodIn wsL_law wsX11_one := goodIn_r _ [315, 114, 116, 316, 317, 318, 5, 319, 145, 146, 147, 320, 321, 322, 323, 861, 862, 863, 864, 865, 866, 867, 868, 869, 870, 871, 872, 873, 874, 875, 876, 877, 878, 879, 880, 881, 882] (by decide +kernel) (by decide +kernel)
set_option maxRecDepth 20000 in
theorem gL_law_X11_one : GoodIn wsL_law (wsV RL 31 RX11 yX11_one wsX11_one) := goodIn_app (goodIn_of _ (by decide +kernel)) ggL_law_X11_one
set_option maxRecDepth 20000 in
theorem ggL_law_X10_deed : GoodIn wsL_law wsX10_deed := goodIn_r _ [327, 23, 328, 329, 330, 331, 332, 28, 300, 333, 334, 335, 22, 336, 210, 337, 338, 339, 77, 340, 290, 847, 848, 849, 850, 851, 852, 853, 854, 855, 856, 857, 858, 859, 860, 891, 892, 893, 894, 895, 896, 897, 898, 899, 900, 901, 902, 903, 921, 922, 923, 924, 925, 926, 927, 928] (by decide +kernel) (by decide +kernel)
set_option maxRecDepth 20000 in
theorem gL_law_X10_deed : GoodIn wsL_law (wsV RL 32 RX10 yX10_deed wsX10_deed) := goodIn_app (goodIn_of _ (by decide +kernel)) ggL_law_X10_deed
set_option maxRecDepth 20000 in
theorem ggL_law_X11_deed : GoodIn wsL_law wsX11_deed := goodIn_r _ [344, 114, 345, 346, 347, 5, 348, 145, 146, 147, 349, 350, 351, 352, 116, 353, 354, 355, 861, 862, 863, 864, 865, 866, 867, 868, 869, 870, 871, 872, 873, 874, 875, 876, 877, 878, 879, 880, 881, 882] (by decide +kernel) (by decide +kernel)
set_option maxRecDepth 20000 in
theorem gL_law_X11_deed : GoodIn wsL_law (wsV RL 35 RX11 yX11_deed wsX11_deed) := goodIn_app (goodIn_of _ (by decide +kernel)) ggL_law_X11_deed
set_option maxRecDepth 20000 in
theorem ggL_law_X10_lends : GoodIn wsL_law wsX10_lends := goodIn_r _ [359, 23, 28, 300, 360, 302, 361, 304, 305, 306, 22, 307, 209, 362, 363, 364, 77, 365, 84, 83, 366, 367, 368, 369, 370, 371, 372, 373, 2, 374, 191, 375, 376, 377, 27, 378, 282, 79, 78, 379, 380, 381, 382, 383, 384, 385, 386, 287, 288, 289, 290, 387, 275, 276, 277, 85, 86, 388, 389, 390, 391, 392, 393, 394, 395, 396, 397, 398, 399, 400, 401, 402, 403, 404, 405, 406, 847, 848, 849, 850, 851, 852, 853, 854, 855, 856, 857, 858, 859, 860, 901, 902, 903, 921, 922, 923, 924, 925, 926, 927, 928, 891, 892, 893, 894, 895, 896, 897, 898, 899, 900] (by decide +kernel) (by decide +kernel)
set_option maxRecDepth 20000 in
theorem gL_law_X10_lends : GoodIn wsL_law (wsV RL 36 RX10 yX10_lends wsX10_lends) := goodIn_app (goodIn_of _ (by decide +kernel)) ggL_law_X10_lends
set_option maxRecDepth 20000 in
theorem ggL_law_X11_lends : GoodIn wsL_law wsX11_lends := goodIn_r _ [410, 116, 316, 317, 318, 5, 319, 114, 145, 146, 147, 411, 412, 413, 414, 415, 416, 417, 418, 419, 420, 421, 422, 423, 424, 425, 426, 861, 862, 863, 864, 865, 866, 867, 868, 869, 870, 871, 872, 873, 874, 875, 876, 877, 878, 879, 880, 881, 882] (by decide +kernel) (by decide +kernel)
set_option maxRecDepth 20000 in
theorem gL_law_X11_lends : GoodIn wsL_law (wsV RL 39 RX11 yX11_lends wsX11_lends) := goodIn_app (goodIn_of _ (by decide +kernel)) ggL_law_X11_lends
set_option maxRecDepth 20000 in
theorem ggL_law_X10_brings : GoodIn wsL_law wsX10_brings := goodIn_r _ [430, 28, 300, 23, 431, 361, 432, 368, 369, 77, 370, 83, 362, 363, 364, 365, 84, 366, 367, 371, 372, 373, 2, 374, 191, 375, 376, 377, 27, 378, 282, 79, 78, 379, 380, 381, 382, 383, 384, 385, 386, 287, 288, 289, 290, 387, 275, 276, 277, 85, 86, 388, 389, 390, 391, 392, 393, 394, 395, 396, 397, 398, 399, 400, 401, 402, 847, 848, 849, 850, 851, 852, 853, 854, 855, 856, 857, 858, 859, 860, 901, 902, 903, 891, 892, 893, 894, 895, 896, 897, 898, 899, 900, 921, 922, 923, 924, 925, 926, 927, 928] (by decide +kernel) (by decide +kernel)
set_option maxRecDepth 20000 in
theorem gL_law_X10_brings : GoodIn wsL_law (wsV RL 40 RX10 yX10_brings wsX10_brings) := goodIn_app (goodIn_of _ (by decide +kernel)) ggL_law_X10_brings
set_option maxRecDepth 20000 in
theorem ggL_law_X11_brings : GoodIn wsL_law wsX11_brings := goodIn_r _ [436, 114, 116, 415, 416, 417, 5, 418, 411, 412, 413, 414, 419, 420, 421, 422, 423, 424, 425, 426, 861, 862, 863, 864, 865, 866, 867, 868, 869, 870, 871, 872, 873, 874, 875, 876, 877, 878, 879, 880, 881, 882] (by decide +kernel) (by decide +kernel)
set_option maxRecDepth 20000 in
theorem gL_law_X11_brings : GoodIn wsL_law (wsV RL 43 RX11 yX11_brings wsX11_brings) := goodIn_app (goodIn_of _ (by decide +kernel)) ggL_law_X11_brings
set_option maxRecDepth 20000 in
theorem ggL_law_X10_walks : GoodIn wsL_law wsX10_walks := goodIn_r _ [440, 28, 300, 23, 441, 442, 394, 443, 444, 362, 363, 364, 77, 365, 84, 83, 366, 367, 368, 369, 370, 432, 371, 372, 373, 2, 374, 191, 375, 376, 377, 27, 378, 282, 79, 78, 379, 380, 381, 382, 383, 384, 385, 386, 287, 288, 289, 290, 387, 275, 276, 277, 85, 86, 445, 446, 447, 448, 847, 848, 849, 850, 851, 852, 853, 854, 855, 856, 857, 858, 859, 860, 901, 902, 903, 921, 922, 923, 924, 925, 926, 927, 928, 891, 892, 893, 894, 895, 896, 897, 898, 899, 900] (by decide +kernel) (by decide +kernel)
set_option maxRecDepth 20000 in
theorem gL_law_X10_walks : GoodIn wsL_law (wsV RL 44 RX10 yX10_walks wsX10_walks) := goodIn_app (goodIn_of _ (by decide +kernel)) ggL_law_X10_walks
set_option maxRecDepth 20000 in
theorem ggL_law_X11_walks : GoodIn wsL_law wsX11_walks := goodIn_r _ [452, 116, 145, 146, 5, 147, 411, 412, 413, 414, 114, 415, 416, 417, 418, 453, 454, 455, 419, 420, 421, 422, 861, 862, 863, 864, 865, 866, 867, 868, 869, 870, 871, 872, 873, 874, 875, 876, 877, 878, 879, 880, 881, 882] (by decide +kernel) (by decide +kernel)
set_option maxRecDepth 20000 in
theorem gL_law_X11_walks : GoodIn wsL_law (wsV RL 47 RX11 yX11_walks wsX11_walks) := goodIn_app (goodIn_of _ (by decide +kernel)) ggL_law_X11_walks
set_option maxRecDepth 20000 in
theorem ggL_law_X10_keeps : GoodIn wsL_law wsX10_keeps := goodIn_r _ [459, 28, 300, 444, 432, 368, 369, 77, 370, 83, 371, 372, 373, 2, 374, 191, 375, 376, 377, 27, 378, 282, 79, 78, 379, 380, 381, 382, 383, 384, 385, 386, 287, 288, 289, 290, 84, 387, 275, 276, 277, 85, 86, 847, 848, 849, 850, 851, 852, 853, 854, 855, 856, 857, 858, 859, 860, 901, 902, 903, 921, 922, 923, 924, 925, 926, 927, 928] (by decide +kernel) (by decide +kernel)
set_option maxRecDepth 20000 in
theorem gL_law_X10_keeps : GoodIn wsL_law (wsV RL 48 RX10 yX10_keeps wsX10_keeps) := goodIn_app (goodIn_of _ (by decide +kernel)) ggL_law_X10_keeps
set_option maxRecDepth 20000 in
theorem ggL_law_X11_keeps : GoodIn wsL_law wsX11_keeps := goodIn_r _ [463, 116, 145, 146, 5, 147, 415, 416, 417, 418, 419, 420, 421, 422, 861, 862, 863, 864, 865, 866, 867, 868, 869, 870, 871, 872, 873, 874, 875, 876, 877, 878, 879, 880, 881, 882] (by decide +kernel) (by decide +kernel)
set_option maxRecDepth 20000 in
theorem gL_law_X11_keeps : GoodIn wsL_law (wsV RL 51 RX11 yX11_keeps wsX11_keeps) := goodIn_app (goodIn_of _ (by decide +kernel)) ggL_law_X11_keeps
set_option maxRecDepth 20000 in
theorem ggL_law_X10_does : GoodIn wsL_law wsX10_does := goodIn_r _ [467, 23, 28, 300, 468, 469, 333, 334, 335, 22, 336, 210, 470, 471, 472, 77, 473, 289, 474, 83, 84, 475, 287, 476, 477, 367, 368, 369, 370, 478, 338, 339, 340, 290, 371, 372, 373, 2, 374, 191, 375, 376, 377, 27, 378, 282, 79, 78, 379, 380, 381, 382, 383, 384, 385, 386, 288, 387, 275, 276, 277, 85, 86, 479, 480, 481, 482, 483, 484, 847, 848, 849, 850, 851, 852, 853, 854, 855, 856, 857, 858, 859, 860, 901, 902, 903, 921, 922, 923, 924, 925, 926, 927, 928, 891, 892, 893, 894, 895, 896, 897, 898, 899, 900] (by decide +kernel) (by decide +kernel)
set_option maxRecDepth 20000 in
theorem gL_law_X10_does : GoodIn wsL_law (wsV RL 52 RX10 yX10_does wsX10_does) := goodIn_app (goodIn_of _ (by decide +kernel)) ggL_law_X10_does
set_option maxRecDepth 20000 in
theorem ggL_law_X11_does : GoodIn wsL_law wsX11_does := goodIn_r _ [488, 116, 114, 345, 346, 347, 5, 348, 145, 146, 147, 415, 416, 417, 418, 411, 412, 413, 414, 349, 350, 351, 352, 353, 354, 355, 419, 420, 421, 422, 489, 490, 491, 492, 861, 862, 863, 864, 865, 866, 867, 868, 869, 870, 871, 872, 873, 874, 875, 876, 877, 878, 879, 880, 881, 882] (by decide +kernel) (by decide +kernel)
set_option maxRecDepth 20000 in
theorem gL_law_X11_does : GoodIn wsL_law (wsV RL 55 RX11 yX11_does wsX11_does) := goodIn_app (goodIn_of _ (by decide +kernel)) ggL_law_X11_does
set_option maxRecDepth 20000 in
theorem ggL_law_X10_undo : GoodIn wsL_law wsX10_undo := goodIn_r _ [496, 28, 497, 191, 498, 499, 500, 27, 501, 282, 78, 79, 383, 384, 385, 77, 386, 287, 83, 288, 289, 290, 84, 387, 275, 276, 277, 85, 86, 847, 848, 849, 850, 851, 852, 853, 854, 855, 856, 857, 858, 859, 860, 901, 902, 903, 921, 922, 923, 924, 925, 926, 927, 928] (by decide +kernel) (by decide +kernel)
set_option maxRecDepth 20000 in
theorem gL_law_X10_undo : GoodIn wsL_law (wsV RL 56 RX10 yX10_undo wsX10_undo) := goodIn_app (goodIn_of _ (by decide +kernel)) ggL_law_X10_undo
set_option maxRecDepth 20000 in
theorem ggL_law_X11_undo : GoodIn wsL_law wsX11_undo := goodIn_r _ [505, 116, 861, 862, 863, 864, 865, 866, 867, 868, 869, 870, 871, 872, 873, 874, 875, 876, 877, 878, 879, 880, 881, 882] (by decide +kernel) (by decide +kernel)
set_option maxRecDepth 20000 in
theorem gL_law_X11_undo : GoodIn wsL_law (wsV RL 59 RX11 yX11_undo wsX11_undo) := goodIn_app (goodIn_of _ (by decide +kernel)) ggL_law_X11_undo
set_option maxRecDepth 20000 in
theorem ggL_law_X10_now : GoodIn wsL_law wsX10_now := goodIn_r _ [509, 28, 300, 444, 360, 469, 468, 23, 510, 400, 401, 77, 402, 287, 288, 367, 368, 369, 370, 83, 479, 480, 481, 482, 483, 484, 478, 338, 339, 340, 290, 511, 512, 513, 514, 86, 847, 848, 849, 850, 851, 852, 853, 854, 855, 856, 857, 858, 859, 860, 901, 902, 903, 921, 922, 923, 924, 925, 926, 927, 928, 891, 892, 893, 894, 895, 896, 897, 898, 899, 900] (by decide +kernel) (by decide +kernel)
set_option maxRecDepth 20000 in
theorem gL_law_X10_now : GoodIn wsL_law (wsV RL 60 RX10 yX10_now wsX10_now) := goodIn_app (goodIn_of _ (by decide +kernel)) ggL_law_X10_now
set_option maxRecDepth 20000 in
theorem ggL_law_X11_now : GoodIn wsL_law wsX11_now := goodIn_r _ [518, 116, 415, 416, 417, 5, 418, 489, 490, 491, 492, 114, 349, 350, 351, 352, 353, 354, 355, 861, 862, 863, 864, 865, 866, 867, 868, 869, 870, 871, 872, 873, 874, 875, 876, 877, 878, 879, 880, 881, 882] (by decide +kernel) (by decide +kernel)
set_option maxRecDepth 20000 in
theorem gL_law_X11_now : GoodIn wsL_law (wsV RL 63 RX11 yX11_now wsX11_now) := goodIn_app (goodIn_of _ (by decide +kernel)) ggL_law_X11_now
set_option maxRecDepth 20000 in
theorem ggL_law_X10_round : GoodIn wsL_law wsX10_round := goodIn_r _ [522, 191, 43, 23, 28, 300, 39, 523, 524, 525, 526, 527, 528, 529, 42, 530, 531, 532, 533, 534, 535, 536, 537, 38, 538, 539, 95, 540, 275, 276, 277, 541, 542, 543, 544, 545, 546, 547, 363, 364, 77, 365, 84, 83, 366, 367, 368, 369, 370, 548, 549, 550, 551, 483, 290, 552, 553, 554, 555, 556, 557, 558, 559, 560, 561, 100, 562, 563, 564, 565, 566, 99, 567, 568, 569, 570, 571, 572, 573, 442, 394, 443, 574, 575, 393, 395, 576, 577, 578, 579, 580, 581, 582, 583, 584, 585, 586, 587, 588, 589, 590, 847, 848, 849, 850, 851, 852, 853, 854, 855, 856, 857, 858, 859, 860, 901, 902, 903, 911, 912, 913, 914, 915, 921, 922, 923, 924, 925, 926, 927, 928, 907, 908, 909, 910, 891, 892, 893, 894, 895, 896, 897, 898, 899, 900] (by decide +kernel) (by decide +kernel)
set_option maxRecDepth 20000 in
theorem gL_law_X10_round : GoodIn wsL_law (wsV RL 64 RX10 yX10_round wsX10_round) := goodIn_app (goodIn_of _ (by decide +kernel)) ggL_law_X10_round
set_option maxRecDepth 20000 in
theorem ggL_law_X11_round : GoodIn wsL_law wsX11_round := goodIn_r _ [594, 595, 596, 597, 122, 145, 146, 5, 147, 598, 599, 600, 601, 116, 114, 121, 602, 603, 604, 605, 349, 350, 351, 352, 353, 354, 355, 606, 607, 608, 609, 123, 411, 412, 413, 414, 415, 416, 417, 418, 453, 454, 455, 610, 611, 612, 613, 861, 862, 863, 864, 865, 866, 867, 868, 869, 870, 871, 872, 873, 874, 875, 876, 877, 878, 879, 880, 881, 882] (by decide +kernel) (by decide +kernel)
set_option maxRecDepth 20000 in
theorem gL_law_X11_round : GoodIn wsL_law (wsV RL 67 RX11 yX11_round wsX11_round) := goodIn_app (goodIn_of _ (by decide +kernel)) ggL_law_X11_round
set_option maxRecDepth 20000 in
theorem ggL_law_X10_spoons : GoodIn wsL_law wsX10_spoons := goodIn_r _ [617, 47, 23, 618, 619, 620, 46, 621, 622, 623, 104, 624, 625, 626, 627, 628, 629, 630, 442, 394, 443, 631, 632, 633, 634, 635, 636, 637, 638, 639, 847, 848, 849, 850, 851, 852, 853, 854, 855, 856, 857, 858, 859, 860, 891, 892, 893, 894, 895, 896, 897, 898, 899, 900, 916, 917] (by decide +kernel) (by decide +kernel)
set_option maxRecDepth 20000 in
theorem gL_law_X10_spoons : GoodIn wsL_law (wsV RL 68 RX10 yX10_spoons wsX10_spoons) := goodIn_app (goodIn_of _ (by decide +kernel)) ggL_law_X10_spoons
set_option maxRecDepth 20000 in
theorem ggL_law_X11_spoons : GoodIn wsL_law wsX11_spoons := goodIn_r _ [643, 114, 124, 644, 645, 646, 5, 647, 453, 454, 455, 353, 354, 355, 861, 862, 863, 864, 865, 866, 867, 868, 869, 870, 871, 872, 873, 874, 875, 876, 877, 878, 879, 880, 881, 882] (by decide +kernel) (by decide +kernel)
set_option maxRecDepth 20000 in
theorem gL_law_X11_spoons : GoodIn wsL_law (wsV RL 71 RX11 yX11_spoons wsX11_spoons) := goodIn_app (goodIn_of _ (by decide +kernel)) ggL_law_X11_spoons
set_option maxRecDepth 20000 in
theorem ggL_law_X10_drawn : GoodIn wsL_law wsX10_drawn := goodIn_r _ [651, 652, 23, 653, 39, 28, 300, 654, 332, 655, 536, 537, 38, 538, 539, 95, 540, 275, 276, 277, 541, 542, 543, 544, 545, 546, 547, 363, 364, 77, 365, 84, 83, 366, 367, 368, 369, 370, 656, 549, 550, 551, 483, 290, 657, 578, 579, 580, 581, 582, 442, 394, 443, 583, 584, 585, 393, 395, 586, 658, 588, 589, 590, 847, 848, 849, 850, 851, 852, 853, 854, 855, 856, 857, 858, 859, 860, 891, 892, 893, 894, 895, 896, 897, 898, 899, 900, 901, 902, 903, 921, 922, 923, 924, 925, 926, 927, 928, 907, 908, 909, 910] (by decide +kernel) (by decide +kernel)
set_option maxRecDepth 20000 in
theorem gL_law_X10_drawn : GoodIn wsL_law (wsV RL 72 RX10 yX10_drawn wsX10_drawn) := goodIn_app (goodIn_of _ (by decide +kernel)) ggL_law_X10_drawn
set_option maxRecDepth 20000 in
theorem ggL_law_X11_drawn : GoodIn wsL_law wsX11_drawn := goodIn_r _ [662, 663, 114, 664, 665, 666, 145, 146, 5, 147, 602, 603, 604, 605, 121, 349, 350, 351, 352, 116, 353, 354, 355, 606, 607, 608, 609, 123, 411, 412, 413, 414, 415, 416, 417, 418, 453, 454, 455, 610, 611, 612, 613, 861, 862, 863, 864, 865, 866, 867, 868, 869, 870, 871, 872, 873, 874, 875, 876, 877, 878, 879, 880, 881, 882] (by decide +kernel) (by decide +kernel)
set_option maxRecDepth 20000 in
theorem gL_law_X11_drawn : GoodIn wsL_law (wsV RL 75 RX11 yX11_drawn wsX11_drawn) := goodIn_app (goodIn_of _ (by decide +kernel)) ggL_law_X11_drawn
set_option maxRecDepth 20000 in
theorem ggL_law_X10_odds : GoodIn wsL_law wsX10_odds := goodIn_r _ [670, 28, 300, 23, 51, 671, 672, 656, 549, 550, 77, 551, 483, 290, 673, 674, 675, 676, 677, 678, 679, 680, 681, 682, 50, 683, 684, 108, 685, 686, 687, 688, 689, 690, 691, 692, 693, 847, 848, 849, 850, 851, 852, 853, 854, 855, 856, 857, 858, 859, 860, 901, 902, 903, 918, 919, 920, 891, 892, 893, 894, 895, 896, 897, 898, 899, 900, 921, 922, 923, 924, 925, 926, 927, 928] (by decide +kernel) (by decide +kernel)
set_option maxRecDepth 20000 in
theorem gL_law_X10_odds : GoodIn wsL_law (wsV RL 76 RX10 yX10_odds wsX10_odds) := goodIn_app (goodIn_of _ (by decide +kernel)) ggL_law_X10_odds
set_option maxRecDepth 20000 in
theorem ggL_law_X11_odds : GoodIn wsL_law wsX11_odds := goodIn_r _ [697, 114, 145, 146, 5, 147, 349, 350, 351, 352, 116, 353, 354, 355, 861, 862, 863, 864, 865, 866, 867, 868, 869, 870, 871, 872, 873, 874, 875, 876, 877, 878, 879, 880, 881, 882] (by decide +kernel) (by decide +kernel)
set_option maxRecDepth 20000 in
theorem gL_law_X11_odds : GoodIn wsL_law (wsV RL 80 RX11 yX11_odds wsX11_odds) := goodIn_app (goodIn_of _ (by decide +kernel)) ggL_law_X11_odds
set_option maxRecDepth 20000 in
theorem ggL_law_X10_hears : GoodIn wsL_law wsX10_hears := goodIn_r _ [701, 23, 35, 190, 333, 334, 335, 22, 336, 210, 702, 703, 704, 34, 705, 706, 91, 90, 847, 848, 849, 850, 851, 852, 853, 854, 855, 856, 857, 858, 859, 860, 904, 905, 906, 891, 892, 893, 894, 895, 896, 897, 898, 899, 900] (by decide +kernel) (by decide +kernel)
set_option maxRecDepth 20000 in
theorem gL_law_X10_hears : GoodIn wsL_law (wsV RL 81 RX10 yX10_hears wsX10_hears) := goodIn_app (goodIn_of _ (by decide +kernel)) ggL_law_X10_hears
set_option maxRecDepth 20000 in
theorem ggL_law_X11_hears : GoodIn wsL_law wsX11_hears := goodIn_r _ [710, 167, 120, 119, 345, 346, 347, 5, 348, 114, 145, 146, 147, 861, 862, 863, 864, 865, 866, 867, 868, 869, 870, 871, 872, 873, 874, 875, 876, 877, 878, 879, 880, 881, 882] (by decide +kernel) (by decide +kernel)
set_option maxRecDepth 20000 in
theorem gL_law_X11_hears : GoodIn wsL_law (wsV RL 84 RX11 yX11_hears wsX11_hears) := goodIn_app (goodIn_of _ (by decide +kernel)) ggL_law_X11_hears
set_option maxRecDepth 20000 in
theorem ggL_law_X10_forget : GoodIn wsL_law wsX10_forget := goodIn_r _ [714, 35, 190, 847, 848, 849, 850, 851, 852, 853, 854, 855, 856, 857, 858, 859, 860, 904, 905, 906] (by decide +kernel) (by decide +kernel)
set_option maxRecDepth 20000 in
theorem gL_law_X10_forget : GoodIn wsL_law (wsV RL 85 RX10 yX10_forget wsX10_forget) := goodIn_app (goodIn_of _ (by decide +kernel)) ggL_law_X10_forget
set_option maxRecDepth 20000 in
theorem ggL_law_X11_forget : GoodIn wsL_law wsX11_forget := goodIn_r _ [718, 167, 861, 862, 863, 864, 865, 866, 867, 868, 869, 870, 871, 872, 873, 874, 875, 876, 877, 878, 879, 880, 881, 882] (by decide +kernel) (by decide +kernel)
set_option maxRecDepth 20000 in
theorem gL_law_X11_forget : GoodIn wsL_law (wsV RL 88 RX11 yX11_forget wsX11_forget) := goodIn_app (goodIn_of _ (by decide +kernel)) ggL_law_X11_forget
set_option maxRecDepth 20000 in
theorem ggL_law_X10_lies : GoodIn wsL_law wsX10_lies := goodIn_r _ [722, 35, 23, 723, 724, 725, 34, 726, 706, 727, 90, 728, 442, 394, 443, 91, 847, 848, 849, 850, 851, 852, 853, 854, 855, 856, 857, 858, 859, 860, 904, 905, 906, 891, 892, 893, 894, 895, 896, 897, 898, 899, 900] (by decide +kernel) (by decide +kernel)
set_option maxRecDepth 20000 in
theorem gL_law_X10_lies : GoodIn wsL_law (wsV RL 89 RX10 yX10_lies wsX10_lies) := goodIn_app (goodIn_of _ (by decide +kernel)) ggL_law_X10_lies
set_option maxRecDepth 20000 in
theorem ggL_law_X11_lies : GoodIn wsL_law wsX11_lies := goodIn_r _ [732, 167, 114, 119, 120, 453, 454, 5, 455, 861, 862, 863, 864, 865, 866, 867, 868, 869, 870, 871, 872, 873, 874, 875, 876, 877, 878, 879, 880, 881, 882] (by decide +kernel) (by decide +kernel)
set_option maxRecDepth 20000 in
theorem gL_law_X11_lies : GoodIn wsL_law (wsV RL 92 RX11 yX11_lies wsX11_lies) := goodIn_app (goodIn_of _ (by decide +kernel)) ggL_law_X11_lies
set_option maxRecDepth 20000 in
theorem ggL_law_X10_had : GoodIn wsL_law wsX10_had := goodIn_r _ [736, 35, 23, 737, 738, 739, 34, 740, 741, 742, 743, 744, 745, 746, 706, 91, 747, 748, 749, 750, 751, 752, 753, 754, 755, 90, 756, 757, 758, 759, 727, 728, 442, 394, 443, 847, 848, 849, 850, 851, 852, 853, 854, 855, 856, 857, 858, 859, 860, 891, 892, 893, 894, 895, 896, 897, 898, 899, 900, 904, 905, 906] (by decide +kernel) (by decide +kernel)
set_option maxRecDepth 20000 in
theorem gL_law_X10_had : GoodIn wsL_law (wsV RL 93 RX10 yX10_had wsX10_had) := goodIn_app (goodIn_of _ (by decide +kernel)) ggL_law_X10_had
set_option maxRecDepth 20000 in
theorem ggL_law_X11_had : GoodIn wsL_law wsX11_had := goodIn_r _ [763, 167, 120, 114, 119, 145, 146, 5, 147, 453, 454, 455, 861, 862, 863, 864, 865, 866, 867, 868, 869, 870, 871, 872, 873, 874, 875, 876, 877, 878, 879, 880, 881, 882] (by decide +kernel) (by decide +kernel)
set_option maxRecDepth 20000 in
theorem gL_law_X11_had : GoodIn wsL_law (wsV RL 96 RX11 yX11_had wsX11_had) := goodIn_app (goodIn_of _ (by decide +kernel)) ggL_law_X11_had
set_option maxRecDepth 20000 in
theorem ggL_law_X10_mark : GoodIn wsL_law wsX10_mark := goodIn_r _ [767, 23, 768, 304, 305, 306, 22, 307, 209, 769, 770, 771, 2, 772, 773, 28, 300, 308, 309, 310, 77, 311, 83, 287, 85, 774, 775, 776, 777, 778, 303, 779, 780, 781, 782, 783, 302, 784, 785, 786, 787, 788, 789, 790, 791, 792, 793, 794, 795, 796, 797, 798, 444, 847, 848, 849, 850, 851, 852, 853, 854, 855, 856, 857, 858, 859, 860, 891, 892, 893, 894, 895, 896, 897, 898, 899, 900, 901, 902, 903, 921, 922, 923, 924, 925, 926, 927, 928] (by decide +kernel) (by decide +kernel)
set_option maxRecDepth 20000 in
theorem gL_law_X10_mark : GoodIn wsL_law (wsV RL 97 RX10 yX10_mark wsX10_mark) := goodIn_app (goodIn_of _ (by decide +kernel)) ggL_law_X10_mark
set_option maxRecDepth 20000 in
theorem ggL_law_X11_mark : GoodIn wsL_law wsX11_mark := goodIn_r _ [802, 803, 804, 805, 806, 807, 808, 809, 116, 145, 146, 5, 147, 316, 317, 318, 319, 114, 320, 321, 322, 323, 861, 862, 863, 864, 865, 866, 867, 868, 869, 870, 871, 872, 873, 874, 875, 876, 877, 878, 879, 880, 881, 882] (by decide +kernel) (by decide +kernel)
set_option maxRecDepth 20000 in
theorem gL_law_X11_mark : GoodIn wsL_law (wsV RL 100 RX11 yX11_mark wsX11_mark) := goodIn_app (goodIn_of _ (by decide +kernel)) ggL_law_X11_mark
set_option maxRecDepth 20000 in
theorem ggL_law_X10_keep : GoodIn wsL_law wsX10_keep := goodIn_r _ [813, 29, 28, 31, 300, 444, 814, 815, 816, 27, 817, 78, 282, 79, 383, 384, 385, 77, 386, 287, 83, 288, 289, 290, 84, 387, 275, 276, 277, 85, 86, 847, 848, 849, 850, 851, 852, 853, 854, 855, 856, 857, 858, 859, 860, 901, 902, 903, 921, 922, 923, 924, 925, 926, 927, 928] (by decide +kernel) (by decide +kernel)
set_option maxRecDepth 20000 in
theorem gL_law_X10_keep : GoodIn wsL_law (wsV RL 101 RX10 yX10_keep wsX10_keep) := goodIn_app (goodIn_of _ (by decide +kernel)) ggL_law_X10_keep
set_option maxRecDepth 20000 in
theorem ggL_law_X11_keep : GoodIn wsL_law wsX11_keep := goodIn_r _ [821, 117, 116, 118, 145, 146, 5, 147, 861, 862, 863, 864, 865, 866, 867, 868, 869, 870, 871, 872, 873, 874, 875, 876, 877, 878, 879, 880, 881, 882] (by decide +kernel) (by decide +kernel)
set_option maxRecDepth 20000 in
theorem gL_law_X11_keep : GoodIn wsL_law (wsV RL 104 RX11 yX11_keep wsX11_keep) := goodIn_app (goodIn_of _ (by decide +kernel)) ggL_law_X11_keep
set_option maxRecDepth 20000 in
theorem ggL_law_X10_back : GoodIn wsL_law wsX10_back := goodIn_r _ [825, 31, 28, 29, 191, 300, 444, 814, 815, 816, 27, 817, 78, 282, 79, 383, 384, 385, 77, 386, 287, 83, 288, 289, 290, 84, 387, 275, 276, 277, 85, 86, 847, 848, 849, 850, 851, 852, 853, 854, 855, 856, 857, 858, 859, 860, 901, 902, 903, 921, 922, 923, 924, 925, 926, 927, 928] (by decide +kernel) (by decide +kernel)
set_option maxRecDepth 20000 in
theorem gL_law_X10_back : GoodIn wsL_law (wsV RL 105 RX10 yX10_back wsX10_back) := goodIn_app (goodIn_of _ (by decide +kernel)) ggL_law_X10_back
set_option maxRecDepth 20000 in
theorem ggL_law_X11_back : GoodIn wsL_law wsX11_back := goodIn_r _ [829, 118, 116, 117, 145, 146, 5, 147, 861, 862, 863, 864, 865, 866, 867, 868, 869, 870, 871, 872, 873, 874, 875, 876, 877, 878, 879, 880, 881, 882] (by decide +kernel) (by decide +kernel)
set_option maxRecDepth 20000 in
theorem gL_law_X11_back : GoodIn wsL_law (wsV RL 108 RX11 yX11_back wsX11_back) := goodIn_app (goodIn_of _ (by decide +kernel)) ggL_law_X11_back
set_option maxRecDepth 20000 in
theorem ggL_law_X10_count : GoodIn wsL_law wsX10_count := goodIn_r _ [833, 23, 834, 653, 431, 361, 35, 190, 28, 497, 15, 172, 847, 848, 849, 850, 851, 852, 853, 854, 855, 856, 857, 858, 859, 860, 891, 892, 893, 894, 895, 896, 897, 898, 899, 900, 904, 905, 906, 901, 902, 903, 883, 884, 885, 886, 887, 888] (by decide +kernel) (by decide +kernel)
set_option maxRecDepth 20000 in
theorem gL_law_X10_count : GoodIn wsL_law (wsV RL 109 RX10 yX10_count wsX10_count) := goodIn_app (goodIn_of _ (by decide +kernel)) ggL_law_X10_count
set_option maxRecDepth 20000 in
theorem ggL_law_X11_count : GoodIn wsL_law wsX11_count := goodIn_r _ [838, 114, 167, 116, 141, 861, 862, 863, 864, 865, 866, 867, 868, 869, 870, 871, 872, 873, 874, 875, 876, 877, 878, 879, 880, 881, 882] (by decide +kernel) (by decide +kernel)
set_option maxRecDepth 20000 in
theorem gL_law_X11_count : GoodIn wsL_law (wsV RL 112 RX11 yX11_count wsX11_count) := goodIn_app (goodIn_of _ (by decide +kernel)) ggL_law_X11_count
set_option maxRecDepth 20000 in
theorem ggL_law_X10_trace : GoodIn wsL_law wsX10_trace := goodIn_r _ [842, 773, 847, 848, 849, 850, 851, 852, 853, 854, 855, 856, 857, 858, 859, 860] (by decide +kernel) (by decide +kernel)
set_option maxRecDepth 20000 in
theorem gL_law_X10_trace : GoodIn wsL_law (wsV RL 113 RX10 yX10_trace wsX10_trace) := goodIn_app (goodIn_of _ (by decide +kernel)) ggL_law_X10_trace
set_option maxRecDepth 20000 in
theorem ggL_law_X11_trace : GoodIn wsL_law wsX11_trace := goodIn_r _ [846, 804, 861, 862, 863, 864, 865, 866, 867, 868, 869, 870, 871, 872, 873, 874, 875, 876, 877, 878, 879, 880, 881, 882] (by decide +kernel) (by decide +kernel)
set_option maxRecDepth 20000 in
theorem gL_law_X11_trace : GoodIn wsL_law (wsV RL 117 RX11 yX11_trace wsX11_trace) := goodIn_app (goodIn_of _ (by decide +kernel)) ggL_law_X11_trace
theorem dL_law_0 : decode cL_law 0 = .ok (.new 7, 3) := by decide +kernel
theorem dL_law_3 : decode cL_law 3 = .ok (.dup, 1) := by decide +kernel
theorem dL_law_4 : decode cL_law 4 = .ok (.invokespecial 9, 3) := by decide +kernel
theorem dL_law_7 : decode cL_law 7 = .ok (.astore_n 1, 1) := by decide +kernel
theorem dL_law_8 : decode cL_law 8 = .ok (.new 10, 3) := by decide +kernel
theorem dL_law_11 : decode cL_law 11 = .ok (.dup, 1) := by decide +kernel
theorem dL_law_12 : decode cL_law 12 = .ok (.invokespecial 12, 3) := by decide +kernel
theorem dL_law_15 : decode cL_law 15 = .ok (.astore_n 2, 1) := by decide +kernel
theorem dL_law_16 : decode cL_law 16 = .ok (.iconst 0, 1) := by decide +kernel
theorem dL_law_17 : decode cL_law 17 = .ok (.istore_n 3, 1) := by decide +kernel
theorem dL_law_18 : decode cL_law 18 = .ok (.iload_n 3, 1) := by decide +kernel
theorem dL_law_19 : decode cL_law 19 = .ok (.aload_n 0, 1) := by decide +kernel
theorem dL_law_20 : decode cL_law 20 = .ok (.arraylength, 1) := by decide +kernel
theorem dL_law_21 : decode cL_law 21 = .ok (.iconst 4, 1) := by decide +kernel
theorem dL_law_22 : decode cL_law 22 = .ok (.isub, 1) := by decide +kernel
theorem dL_law_23 : decode cL_law 23 = .ok (.if_icmp .gt 697, 3) := by decide +kernel
theorem dL_law_26 : decode cL_law 26 = .ok (.aload_n 0, 1) := by decide +kernel
theorem dL_law_27 : decode cL_law 27 = .ok (.iload_n 3, 1) := by decide +kernel
theorem dL_law_28 : decode cL_law 28 = .ok (.iaload, 1) := by decide +kernel
theorem dL_law_29 : decode cL_law 29 = .ok (.bipush 31, 2) := by decide +kernel
theorem dL_law_31 : decode cL_law 31 = .ok (.iand, 1) := by decide +kernel
theorem dL_law_32 : decode cL_law 32 = .ok (.tableswitch 682 0 24 #[116, 139, 152, 165, 198, 231, 254, 267, 290, 313, 336, 349, 372, 395, 408, 441, 484, 517, 530, 543, 566, 599, 622, 645, 668], 116) := by decide +kernel
theorem dL_law_148 : decode cL_law 148 = .ok (.aload_n 1, 1) := by decide +kernel
theorem dL_law_149 : decode cL_law 149 = .ok (.aload_n 0, 1) := by decide +kernel
theorem dL_law_150 : decode cL_law 150 = .ok (.iload_n 3, 1) := by decide +kernel
theorem dL_law_151 : decode cL_law 151 = .ok (.iconst 1, 1) := by decide +kernel
theorem dL_law_152 : decode cL_law 152 = .ok (.iadd, 1) := by decide +kernel
theorem dL_law_153 : decode cL_law 153 = .ok (.iaload, 1) := by decide +kernel
theorem dL_law_154 : decode cL_law 154 = .ok (.invokevirtual 13, 3) := by decide +kernel
theorem dL_law_157 : decode cL_law 157 = .ok (.aload_n 2, 1) := by decide +kernel
theorem dL_law_158 : decode cL_law 158 = .ok (.aload_n 0, 1) := by decide +kernel
theorem dL_law_159 : decode cL_law 159 = .ok (.iload_n 3, 1) := by decide +kernel
theorem dL_law_160 : decode cL_law 160 = .ok (.iconst 1, 1) := by decide +kernel
theorem dL_law_161 : decode cL_law 161 = .ok (.iadd, 1) := by decide +kernel
theorem dL_law_162 : decode cL_law 162 = .ok (.iaload, 1) := by decide +kernel
theorem dL_law_163 : decode cL_law 163 = .ok (.invokevirtual 17, 3) := by decide +kernel
theorem dL_law_166 : decode cL_law 166 = .ok (.if_icmp .eq 548, 3) := by decide +kernel
theorem dL_law_169 : decode cL_law 169 = .ok (.iconst 0, 1) := by decide +kernel
theorem dL_law_170 : decode cL_law 170 = .ok (.ireturn, 1) := by decide +kernel
theorem dL_law_171 : decode cL_law 171 = .ok (.aload_n 1, 1) := by decide +kernel
theorem dL_law_172 : decode cL_law 172 = .ok (.invokevirtual 18, 3) := by decide +kernel
theorem dL_law_175 : decode cL_law 175 = .ok (.aload_n 2, 1) := by decide +kernel
theorem dL_law_176 : decode cL_law 176 = .ok (.invokevirtual 22, 3) := by decide +kernel
theorem dL_law_179 : decode cL_law 179 = .ok (.if_icmp .eq 535, 3) := by decide +kernel
theorem dL_law_182 : decode cL_law 182 = .ok (.iconst 0, 1) := by decide +kernel
theorem dL_law_183 : decode cL_law 183 = .ok (.ireturn, 1) := by decide +kernel
theorem dL_law_184 : decode cL_law 184 = .ok (.aload_n 1, 1) := by decide +kernel
theorem dL_law_185 : decode cL_law 185 = .ok (.invokevirtual 23, 3) := by decide +kernel
theorem dL_law_188 : decode cL_law 188 = .ok (.aload_n 2, 1) := by decide +kernel
theorem dL_law_189 : decode cL_law 189 = .ok (.invokevirtual 26, 3) := by decide +kernel
theorem dL_law_192 : decode cL_law 192 = .ok (.if_icmp .eq 522, 3) := by decide +kernel
theorem dL_law_195 : decode cL_law 195 = .ok (.iconst 0, 1) := by decide +kernel
theorem dL_law_196 : decode cL_law 196 = .ok (.ireturn, 1) := by decide +kernel
theorem dL_law_197 : decode cL_law 197 = .ok (.aload_n 1, 1) := by decide +kernel
theorem dL_law_198 : decode cL_law 198 = .ok (.aload_n 0, 1) := by decide +kernel
theorem dL_law_199 : decode cL_law 199 = .ok (.iload_n 3, 1) := by decide +kernel
theorem dL_law_200 : decode cL_law 200 = .ok (.iconst 1, 1) := by decide +kernel
theorem dL_law_201 : decode cL_law 201 = .ok (.iadd, 1) := by decide +kernel
theorem dL_law_202 : decode cL_law 202 = .ok (.iaload, 1) := by decide +kernel
theorem dL_law_203 : decode cL_law 203 = .ok (.aload_n 0, 1) := by decide +kernel
theorem dL_law_204 : decode cL_law 204 = .ok (.iload_n 3, 1) := by decide +kernel
theorem dL_law_205 : decode cL_law 205 = .ok (.iconst 2, 1) := by decide +kernel
theorem dL_law_206 : decode cL_law 206 = .ok (.iadd, 1) := by decide +kernel
theorem dL_law_207 : decode cL_law 207 = .ok (.iaload, 1) := by decide +kernel
theorem dL_law_208 : decode cL_law 208 = .ok (.invokevirtual 27, 3) := by decide +kernel
theorem dL_law_211 : decode cL_law 211 = .ok (.aload_n 2, 1) := by decide +kernel
theorem dL_law_212 : decode cL_law 212 = .ok (.aload_n 0, 1) := by decide +kernel
theorem dL_law_213 : decode cL_law 213 = .ok (.iload_n 3, 1) := by decide +kernel
theorem dL_law_214 : decode cL_law 214 = .ok (.iconst 1, 1) := by decide +kernel
theorem dL_law_215 : decode cL_law 215 = .ok (.iadd, 1) := by decide +kernel
theorem dL_law_216 : decode cL_law 216 = .ok (.iaload, 1) := by decide +kernel
theorem dL_law_217 : decode cL_law 217 = .ok (.aload_n 0, 1) := by decide +kernel
theorem dL_law_218 : decode cL_law 218 = .ok (.iload_n 3, 1) := by decide +kernel
theorem dL_law_219 : decode cL_law 219 = .ok (.iconst 2, 1) := by decide +kernel
theorem dL_law_220 : decode cL_law 220 = .ok (.iadd, 1) := by decide +kernel
theorem dL_law_221 : decode cL_law 221 = .ok (.iaload, 1) := by decide +kernel
theorem dL_law_222 : decode cL_law 222 = .ok (.invokevirtual 31, 3) := by decide +kernel
theorem dL_law_225 : decode cL_law 225 = .ok (.if_icmp .eq 489, 3) := by decide +kernel
theorem dL_law_228 : decode cL_law 228 = .ok (.iconst 0, 1) := by decide +kernel
theorem dL_law_229 : decode cL_law 229 = .ok (.ireturn, 1) := by decide +kernel
theorem dL_law_230 : decode cL_law 230 = .ok (.aload_n 1, 1) := by decide +kernel
theorem dL_law_231 : decode cL_law 231 = .ok (.aload_n 0, 1) := by decide +kernel
theorem dL_law_232 : decode cL_law 232 = .ok (.iload_n 3, 1) := by decide +kernel
theorem dL_law_233 : decode cL_law 233 = .ok (.iconst 1, 1) := by decide +kernel
theorem dL_law_234 : decode cL_law 234 = .ok (.iadd, 1) := by decide +kernel
theorem dL_law_235 : decode cL_law 235 = .ok (.iaload, 1) := by decide +kernel
theorem dL_law_236 : decode cL_law 236 = .ok (.aload_n 0, 1) := by decide +kernel
theorem dL_law_237 : decode cL_law 237 = .ok (.iload_n 3, 1) := by decide +kernel
theorem dL_law_238 : decode cL_law 238 = .ok (.iconst 2, 1) := by decide +kernel
theorem dL_law_239 : decode cL_law 239 = .ok (.iadd, 1) := by decide +kernel
theorem dL_law_240 : decode cL_law 240 = .ok (.iaload, 1) := by decide +kernel
theorem dL_law_241 : decode cL_law 241 = .ok (.invokevirtual 32, 3) := by decide +kernel
theorem dL_law_244 : decode cL_law 244 = .ok (.aload_n 2, 1) := by decide +kernel
theorem dL_law_245 : decode cL_law 245 = .ok (.aload_n 0, 1) := by decide +kernel
theorem dL_law_246 : decode cL_law 246 = .ok (.iload_n 3, 1) := by decide +kernel
theorem dL_law_247 : decode cL_law 247 = .ok (.iconst 1, 1) := by decide +kernel
theorem dL_law_248 : decode cL_law 248 = .ok (.iadd, 1) := by decide +kernel
theorem dL_law_249 : decode cL_law 249 = .ok (.iaload, 1) := by decide +kernel
theorem dL_law_250 : decode cL_law 250 = .ok (.aload_n 0, 1) := by decide +kernel
theorem dL_law_251 : decode cL_law 251 = .ok (.iload_n 3, 1) := by decide +kernel
theorem dL_law_252 : decode cL_law 252 = .ok (.iconst 2, 1) := by decide +kernel
theorem dL_law_253 : decode cL_law 253 = .ok (.iadd, 1) := by decide +kernel
theorem dL_law_254 : decode cL_law 254 = .ok (.iaload, 1) := by decide +kernel
theorem dL_law_255 : decode cL_law 255 = .ok (.invokevirtual 35, 3) := by decide +kernel
theorem dL_law_258 : decode cL_law 258 = .ok (.if_icmp .eq 456, 3) := by decide +kernel
theorem dL_law_261 : decode cL_law 261 = .ok (.iconst 0, 1) := by decide +kernel
theorem dL_law_262 : decode cL_law 262 = .ok (.ireturn, 1) := by decide +kernel
theorem dL_law_263 : decode cL_law 263 = .ok (.aload_n 1, 1) := by decide +kernel
theorem dL_law_264 : decode cL_law 264 = .ok (.aload_n 0, 1) := by decide +kernel
theorem dL_law_265 : decode cL_law 265 = .ok (.iload_n 3, 1) := by decide +kernel
theorem dL_law_266 : decode cL_law 266 = .ok (.iconst 1, 1) := by decide +kernel
theorem dL_law_267 : decode cL_law 267 = .ok (.iadd, 1) := by decide +kernel
theorem dL_law_268 : decode cL_law 268 = .ok (.iaload, 1) := by decide +kernel
theorem dL_law_269 : decode cL_law 269 = .ok (.invokevirtual 36, 3) := by decide +kernel
theorem dL_law_272 : decode cL_law 272 = .ok (.aload_n 2, 1) := by decide +kernel
theorem dL_law_273 : decode cL_law 273 = .ok (.aload_n 0, 1) := by decide +kernel
theorem dL_law_274 : decode cL_law 274 = .ok (.iload_n 3, 1) := by decide +kernel
theorem dL_law_275 : decode cL_law 275 = .ok (.iconst 1, 1) := by decide +kernel
theorem dL_law_276 : decode cL_law 276 = .ok (.iadd, 1) := by decide +kernel
theorem dL_law_277 : decode cL_law 277 = .ok (.iaload, 1) := by decide +kernel
theorem dL_law_278 : decode cL_law 278 = .ok (.invokevirtual 39, 3) := by decide +kernel
theorem dL_law_281 : decode cL_law 281 = .ok (.if_icmp .eq 433, 3) := by decide +kernel
theorem dL_law_284 : decode cL_law 284 = .ok (.iconst 0, 1) := by decide +kernel
theorem dL_law_285 : decode cL_law 285 = .ok (.ireturn, 1) := by decide +kernel
theorem dL_law_286 : decode cL_law 286 = .ok (.aload_n 1, 1) := by decide +kernel
theorem dL_law_287 : decode cL_law 287 = .ok (.invokevirtual 40, 3) := by decide +kernel
theorem dL_law_290 : decode cL_law 290 = .ok (.aload_n 2, 1) := by decide +kernel
theorem dL_law_291 : decode cL_law 291 = .ok (.invokevirtual 43, 3) := by decide +kernel
theorem dL_law_294 : decode cL_law 294 = .ok (.if_icmp .eq 420, 3) := by decide +kernel
theorem dL_law_297 : decode cL_law 297 = .ok (.iconst 0, 1) := by decide +kernel
theorem dL_law_298 : decode cL_law 298 = .ok (.ireturn, 1) := by decide +kernel
theorem dL_law_299 : decode cL_law 299 = .ok (.aload_n 1, 1) := by decide +kernel
theorem dL_law_300 : decode cL_law 300 = .ok (.aload_n 0, 1) := by decide +kernel
theorem dL_law_301 : decode cL_law 301 = .ok (.iload_n 3, 1) := by decide +kernel
theorem dL_law_302 : decode cL_law 302 = .ok (.iconst 1, 1) := by decide +kernel
theorem dL_law_303 : decode cL_law 303 = .ok (.iadd, 1) := by decide +kernel
theorem dL_law_304 : decode cL_law 304 = .ok (.iaload, 1) := by decide +kernel
theorem dL_law_305 : decode cL_law 305 = .ok (.invokevirtual 44, 3) := by decide +kernel
theorem dL_law_308 : decode cL_law 308 = .ok (.aload_n 2, 1) := by decide +kernel
theorem dL_law_309 : decode cL_law 309 = .ok (.aload_n 0, 1) := by decide +kernel
theorem dL_law_310 : decode cL_law 310 = .ok (.iload_n 3, 1) := by decide +kernel
theorem dL_law_311 : decode cL_law 311 = .ok (.iconst 1, 1) := by decide +kernel
theorem dL_law_312 : decode cL_law 312 = .ok (.iadd, 1) := by decide +kernel
theorem dL_law_313 : decode cL_law 313 = .ok (.iaload, 1) := by decide +kernel
theorem dL_law_314 : decode cL_law 314 = .ok (.invokevirtual 47, 3) := by decide +kernel
theorem dL_law_317 : decode cL_law 317 = .ok (.if_icmp .eq 397, 3) := by decide +kernel
theorem dL_law_320 : decode cL_law 320 = .ok (.iconst 0, 1) := by decide +kernel
theorem dL_law_321 : decode cL_law 321 = .ok (.ireturn, 1) := by decide +kernel
theorem dL_law_322 : decode cL_law 322 = .ok (.aload_n 1, 1) := by decide +kernel
theorem dL_law_323 : decode cL_law 323 = .ok (.aload_n 0, 1) := by decide +kernel
theorem dL_law_324 : decode cL_law 324 = .ok (.iload_n 3, 1) := by decide +kernel
theorem dL_law_325 : decode cL_law 325 = .ok (.iconst 1, 1) := by decide +kernel
theorem dL_law_326 : decode cL_law 326 = .ok (.iadd, 1) := by decide +kernel
theorem dL_law_327 : decode cL_law 327 = .ok (.iaload, 1) := by decide +kernel
theorem dL_law_328 : decode cL_law 328 = .ok (.invokevirtual 48, 3) := by decide +kernel
theorem dL_law_331 : decode cL_law 331 = .ok (.aload_n 2, 1) := by decide +kernel
theorem dL_law_332 : decode cL_law 332 = .ok (.aload_n 0, 1) := by decide +kernel
theorem dL_law_333 : decode cL_law 333 = .ok (.iload_n 3, 1) := by decide +kernel
theorem dL_law_334 : decode cL_law 334 = .ok (.iconst 1, 1) := by decide +kernel
theorem dL_law_335 : decode cL_law 335 = .ok (.iadd, 1) := by decide +kernel
theorem dL_law_336 : decode cL_law 336 = .ok (.iaload, 1) := by decide +kernel
theorem dL_law_337 : decode cL_law 337 = .ok (.invokevirtual 51, 3) := by decide +kernel
theorem dL_law_340 : decode cL_law 340 = .ok (.if_icmp .eq 374, 3) := by decide +kernel
theorem dL_law_343 : decode cL_law 343 = .ok (.iconst 0, 1) := by decide +kernel
theorem dL_law_344 : decode cL_law 344 = .ok (.ireturn, 1) := by decide +kernel
theorem dL_law_345 : decode cL_law 345 = .ok (.aload_n 1, 1) := by decide +kernel
theorem dL_law_346 : decode cL_law 346 = .ok (.aload_n 0, 1) := by decide +kernel
theorem dL_law_347 : decode cL_law 347 = .ok (.iload_n 3, 1) := by decide +kernel
theorem dL_law_348 : decode cL_law 348 = .ok (.iconst 1, 1) := by decide +kernel
theorem dL_law_349 : decode cL_law 349 = .ok (.iadd, 1) := by decide +kernel
theorem dL_law_350 : decode cL_law 350 = .ok (.iaload, 1) := by decide +kernel
theorem dL_law_351 : decode cL_law 351 = .ok (.invokevirtual 52, 3) := by decide +kernel
theorem dL_law_354 : decode cL_law 354 = .ok (.aload_n 2, 1) := by decide +kernel
theorem dL_law_355 : decode cL_law 355 = .ok (.aload_n 0, 1) := by decide +kernel
theorem dL_law_356 : decode cL_law 356 = .ok (.iload_n 3, 1) := by decide +kernel
theorem dL_law_357 : decode cL_law 357 = .ok (.iconst 1, 1) := by decide +kernel
theorem dL_law_358 : decode cL_law 358 = .ok (.iadd, 1) := by decide +kernel
theorem dL_law_359 : decode cL_law 359 = .ok (.iaload, 1) := by decide +kernel
theorem dL_law_360 : decode cL_law 360 = .ok (.invokevirtual 55, 3) := by decide +kernel
theorem dL_law_363 : decode cL_law 363 = .ok (.if_icmp .eq 351, 3) := by decide +kernel
theorem dL_law_366 : decode cL_law 366 = .ok (.iconst 0, 1) := by decide +kernel
theorem dL_law_367 : decode cL_law 367 = .ok (.ireturn, 1) := by decide +kernel
