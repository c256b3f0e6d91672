theorem dX11_men_55 : decode cX11_men 55 = .ok (.invokevirtual 207, 3) := by decide +kernel
theorem dX11_men_58 : decode cX11_men 58 = .ok (.iinc 2 1, 3) := by decide +kernel
theorem dX11_men_61 : decode cX11_men 61 = .ok (.goto 43, 3) := by decide +kernel
theorem dX11_men_64 : decode cX11_men 64 = .ok (.iconst 1, 1) := by decide +kernel
theorem dX11_men_65 : decode cX11_men 65 = .ok (.istore 4, 2) := by decide +kernel
theorem dX11_men_67 : decode cX11_men 67 = .ok (.iload_n 3, 1) := by decide +kernel
theorem dX11_men_68 : decode cX11_men 68 = .ok (.iconst 1, 1) := by decide +kernel
theorem dX11_men_69 : decode cX11_men 69 = .ok (.iadd, 1) := by decide +kernel
theorem dX11_men_70 : decode cX11_men 70 = .ok (.istore 5, 2) := by decide +kernel
theorem dX11_men_72 : decode cX11_men 72 = .ok (.iload 5, 2) := by decide +kernel
theorem dX11_men_74 : decode cX11_men 74 = .ok (.aload_n 0, 1) := by decide +kernel
theorem dX11_men_75 : decode cX11_men 75 = .ok (.getfield 156, 3) := by decide +kernel
theorem dX11_men_78 : decode cX11_men 78 = .ok (.if_icmp .ge 16, 3) := by decide +kernel
theorem dX11_men_81 : decode cX11_men 81 = .ok (.iload 4, 2) := by decide +kernel
theorem dX11_men_83 : decode cX11_men 83 = .ok (.bipush 7, 2) := by decide +kernel
theorem dX11_men_85 : decode cX11_men 85 = .ok (.imul, 1) := by decide +kernel
theorem dX11_men_86 : decode cX11_men 86 = .ok (.istore 4, 2) := by decide +kernel
theorem dX11_men_88 : decode cX11_men 88 = .ok (.iinc 5 1, 3) := by decide +kernel
theorem dX11_men_91 : decode cX11_men 91 = .ok (.goto (-19), 3) := by decide +kernel
theorem dX11_men_94 : decode cX11_men 94 = .ok (.iload_n 2, 1) := by decide +kernel
theorem dX11_men_95 : decode cX11_men 95 = .ok (.iload 4, 2) := by decide +kernel
theorem dX11_men_97 : decode cX11_men 97 = .ok (.idiv, 1) := by decide +kernel
theorem dX11_men_98 : decode cX11_men 98 = .ok (.iconst 1, 1) := by decide +kernel
theorem dX11_men_99 : decode cX11_men 99 = .ok (.iadd, 1) := by decide +kernel
theorem dX11_men_100 : decode cX11_men 100 = .ok (.iload 4, 2) := by decide +kernel
theorem dX11_men_102 : decode cX11_men 102 = .ok (.imul, 1) := by decide +kernel
theorem dX11_men_103 : decode cX11_men 103 = .ok (.istore_n 2, 1) := by decide +kernel
theorem dX11_men_104 : decode cX11_men 104 = .ok (.goto (-65), 3) := by decide +kernel
theorem dX11_men_107 : decode cX11_men 107 = .ok (.aload_n 0, 1) := by decide +kernel
theorem dX11_men_108 : decode cX11_men 108 = .ok (.getfield 201, 3) := by decide +kernel
theorem dX11_men_111 : decode cX11_men 111 = .ok (.iconst 3, 1) := by decide +kernel
theorem dX11_men_112 : decode cX11_men 112 = .ok (.if_icmp .le 8, 3) := by decide +kernel
theorem dX11_men_115 : decode cX11_men 115 = .ok (.bipush (-9), 2) := by decide +kernel
theorem dX11_men_117 : decode cX11_men 117 = .ok (.goto 7, 3) := by decide +kernel
theorem dX11_men_120 : decode cX11_men 120 = .ok (.aload_n 0, 1) := by decide +kernel
theorem dX11_men_121 : decode cX11_men 121 = .ok (.getfield 201, 3) := by decide +kernel
theorem dX11_men_124 : decode cX11_men 124 = .ok (.ireturn, 1) := by decide +kernel
set_option maxRecDepth 20000 in
theorem ggX11_wrongAt_X11_comesOf : GoodIn wsX11_wrongAt wsX11_comesOf := goodIn_r _ [12, 3, 13, 14, 15, 16, 11, 17, 18, 19, 20, 21, 22, 23, 24, 25, 26, 27, 28, 29, 30, 31, 32, 33, 34, 35, 36, 37, 38, 39, 40, 41, 42, 43, 44, 45, 46, 47, 48, 49, 50, 51, 52, 53, 54, 55, 56, 57, 58, 59, 60] (by decide +kernel) (by decide +kernel)
set_option maxRecDepth 20000 in
theorem gX11_wrongAt_X11_comesOf : GoodIn wsX11_wrongAt (wsV RX11 188 RX11 yX11_comesOf wsX11_comesOf) := goodIn_app (goodIn_of _ (by decide +kernel)) ggX11_wrongAt_X11_comesOf
theorem dX11_wrongAt_0 : decode cX11_wrongAt 0 = .ok (.iload_n 1, 1) := by decide +kernel
theorem dX11_wrongAt_1 : decode cX11_wrongAt 1 = .ok (.istore_n 2, 1) := by decide +kernel
theorem dX11_wrongAt_2 : decode cX11_wrongAt 2 = .ok (.aload_n 0, 1) := by decide +kernel
theorem dX11_wrongAt_3 : decode cX11_wrongAt 3 = .ok (.getfield 156, 3) := by decide +kernel
theorem dX11_wrongAt_6 : decode cX11_wrongAt 6 = .ok (.iconst 1, 1) := by decide +kernel
theorem dX11_wrongAt_7 : decode cX11_wrongAt 7 = .ok (.isub, 1) := by decide +kernel
theorem dX11_wrongAt_8 : decode cX11_wrongAt 8 = .ok (.istore_n 3, 1) := by decide +kernel
theorem dX11_wrongAt_9 : decode cX11_wrongAt 9 = .ok (.iload_n 3, 1) := by decide +kernel
theorem dX11_wrongAt_10 : decode cX11_wrongAt 10 = .ok (.ifCond .lt 26, 3) := by decide +kernel
theorem dX11_wrongAt_13 : decode cX11_wrongAt 13 = .ok (.aload_n 0, 1) := by decide +kernel
theorem dX11_wrongAt_14 : decode cX11_wrongAt 14 = .ok (.getfield 49, 3) := by decide +kernel
theorem dX11_wrongAt_17 : decode cX11_wrongAt 17 = .ok (.iload_n 3, 1) := by decide +kernel
theorem dX11_wrongAt_18 : decode cX11_wrongAt 18 = .ok (.iload_n 2, 1) := by decide +kernel
theorem dX11_wrongAt_19 : decode cX11_wrongAt 19 = .ok (.bipush 7, 2) := by decide +kernel
theorem dX11_wrongAt_21 : decode cX11_wrongAt 21 = .ok (.irem, 1) := by decide +kernel
theorem dX11_wrongAt_22 : decode cX11_wrongAt 22 = .ok (.iconst 1, 1) := by decide +kernel
theorem dX11_wrongAt_23 : decode cX11_wrongAt 23 = .ok (.isub, 1) := by decide +kernel
theorem dX11_wrongAt_24 : decode cX11_wrongAt 24 = .ok (.iastore, 1) := by decide +kernel
theorem dX11_wrongAt_25 : decode cX11_wrongAt 25 = .ok (.iload_n 2, 1) := by decide +kernel
theorem dX11_wrongAt_26 : decode cX11_wrongAt 26 = .ok (.bipush 7, 2) := by decide +kernel
theorem dX11_wrongAt_28 : decode cX11_wrongAt 28 = .ok (.idiv, 1) := by decide +kernel
theorem dX11_wrongAt_29 : decode cX11_wrongAt 29 = .ok (.istore_n 2, 1) := by decide +kernel
theorem dX11_wrongAt_30 : decode cX11_wrongAt 30 = .ok (.iinc 3 (-1), 3) := by decide +kernel
theorem dX11_wrongAt_33 : decode cX11_wrongAt 33 = .ok (.goto (-24), 3) := by decide +kernel
theorem dX11_wrongAt_36 : decode cX11_wrongAt 36 = .ok (.iconst 0, 1) := by decide +kernel
theorem dX11_wrongAt_37 : decode cX11_wrongAt 37 = .ok (.istore_n 3, 1) := by decide +kernel
theorem dX11_wrongAt_38 : decode cX11_wrongAt 38 = .ok (.iconst 0, 1) := by decide +kernel
theorem dX11_wrongAt_39 : decode cX11_wrongAt 39 = .ok (.istore 4, 2) := by decide +kernel
theorem dX11_wrongAt_41 : decode cX11_wrongAt 41 = .ok (.iload 4, 2) := by decide +kernel
theorem dX11_wrongAt_43 : decode cX11_wrongAt 43 = .ok (.aload_n 0, 1) := by decide +kernel
theorem dX11_wrongAt_44 : decode cX11_wrongAt 44 = .ok (.getfield 147, 3) := by decide +kernel
theorem dX11_wrongAt_47 : decode cX11_wrongAt 47 = .ok (.if_icmp .ge 22, 3) := by decide +kernel
theorem dX11_wrongAt_50 : decode cX11_wrongAt 50 = .ok (.iload_n 3, 1) := by decide +kernel
theorem dX11_wrongAt_51 : decode cX11_wrongAt 51 = .ok (.aload_n 0, 1) := by decide +kernel
theorem dX11_wrongAt_52 : decode cX11_wrongAt 52 = .ok (.getfield 28, 3) := by decide +kernel
theorem dX11_wrongAt_55 : decode cX11_wrongAt 55 = .ok (.iload 4, 2) := by decide +kernel
theorem dX11_wrongAt_57 : decode cX11_wrongAt 57 = .ok (.iaload, 1) := by decide +kernel
theorem dX11_wrongAt_58 : decode cX11_wrongAt 58 = .ok (.iload 4, 2) := by decide +kernel
theorem dX11_wrongAt_60 : decode cX11_wrongAt 60 = .ok (.ishl, 1) := by decide +kernel
theorem dX11_wrongAt_61 : decode cX11_wrongAt 61 = .ok (.ior, 1) := by decide +kernel
theorem dX11_wrongAt_62 : decode cX11_wrongAt 62 = .ok (.istore_n 3, 1) := by decide +kernel
theorem dX11_wrongAt_63 : decode cX11_wrongAt 63 = .ok (.iinc 4 1, 3) := by decide +kernel
theorem dX11_wrongAt_66 : decode cX11_wrongAt 66 = .ok (.goto (-25), 3) := by decide +kernel
theorem dX11_wrongAt_69 : decode cX11_wrongAt 69 = .ok (.iconst 0, 1) := by decide +kernel
theorem dX11_wrongAt_70 : decode cX11_wrongAt 70 = .ok (.istore 4, 2) := by decide +kernel
theorem dX11_wrongAt_72 : decode cX11_wrongAt 72 = .ok (.iload 4, 2) := by decide +kernel
theorem dX11_wrongAt_74 : decode cX11_wrongAt 74 = .ok (.aload_n 0, 1) := by decide +kernel
theorem dX11_wrongAt_75 : decode cX11_wrongAt 75 = .ok (.getfield 156, 3) := by decide +kernel
theorem dX11_wrongAt_78 : decode cX11_wrongAt 78 = .ok (.if_icmp .ge 126, 3) := by decide +kernel
theorem dX11_wrongAt_81 : decode cX11_wrongAt 81 = .ok (.aload_n 0, 1) := by decide +kernel
theorem dX11_wrongAt_82 : decode cX11_wrongAt 82 = .ok (.aload_n 0, 1) := by decide +kernel
theorem dX11_wrongAt_83 : decode cX11_wrongAt 83 = .ok (.getfield 40, 3) := by decide +kernel
theorem dX11_wrongAt_86 : decode cX11_wrongAt 86 = .ok (.iload 4, 2) := by decide +kernel
theorem dX11_wrongAt_88 : decode cX11_wrongAt 88 = .ok (.iaload, 1) := by decide +kernel
theorem dX11_wrongAt_89 : decode cX11_wrongAt 89 = .ok (.invokevirtual 188, 3) := by decide +kernel
theorem dX11_wrongAt_92 : decode cX11_wrongAt 92 = .ok (.istore 5, 2) := by decide +kernel
theorem dX11_wrongAt_94 : decode cX11_wrongAt 94 = .ok (.aload_n 0, 1) := by decide +kernel
theorem dX11_wrongAt_95 : decode cX11_wrongAt 95 = .ok (.getfield 49, 3) := by decide +kernel
theorem dX11_wrongAt_98 : decode cX11_wrongAt 98 = .ok (.iload 4, 2) := by decide +kernel
theorem dX11_wrongAt_100 : decode cX11_wrongAt 100 = .ok (.iaload, 1) := by decide +kernel
theorem dX11_wrongAt_101 : decode cX11_wrongAt 101 = .ok (.istore 6, 2) := by decide +kernel
theorem dX11_wrongAt_103 : decode cX11_wrongAt 103 = .ok (.aload_n 0, 1) := by decide +kernel
theorem dX11_wrongAt_104 : decode cX11_wrongAt 104 = .ok (.getfield 52, 3) := by decide +kernel
theorem dX11_wrongAt_107 : decode cX11_wrongAt 107 = .ok (.iload 4, 2) := by decide +kernel
theorem dX11_wrongAt_109 : decode cX11_wrongAt 109 = .ok (.iload 5, 2) := by decide +kernel
theorem dX11_wrongAt_111 : decode cX11_wrongAt 111 = .ok (.iastore, 1) := by decide +kernel
theorem dX11_wrongAt_112 : decode cX11_wrongAt 112 = .ok (.iload 6, 2) := by decide +kernel
theorem dX11_wrongAt_114 : decode cX11_wrongAt 114 = .ok (.iload 4, 2) := by decide +kernel
theorem dX11_wrongAt_116 : decode cX11_wrongAt 116 = .ok (.if_icmp .ge 37, 3) := by decide +kernel
theorem dX11_wrongAt_119 : decode cX11_wrongAt 119 = .ok (.iload 6, 2) := by decide +kernel
theorem dX11_wrongAt_121 : decode cX11_wrongAt 121 = .ok (.ifCond .lt 35, 3) := by decide +kernel
theorem dX11_wrongAt_124 : decode cX11_wrongAt 124 = .ok (.aload_n 0, 1) := by decide +kernel
theorem dX11_wrongAt_125 : decode cX11_wrongAt 125 = .ok (.getfield 49, 3) := by decide +kernel
theorem dX11_wrongAt_128 : decode cX11_wrongAt 128 = .ok (.iload 6, 2) := by decide +kernel
theorem dX11_wrongAt_130 : decode cX11_wrongAt 130 = .ok (.iaload, 1) := by decide +kernel
theorem dX11_wrongAt_131 : decode cX11_wrongAt 131 = .ok (.ifCond .ge 22, 3) := by decide +kernel
theorem dX11_wrongAt_134 : decode cX11_wrongAt 134 = .ok (.aload_n 0, 1) := by decide +kernel
theorem dX11_wrongAt_135 : decode cX11_wrongAt 135 = .ok (.getfield 37, 3) := by decide +kernel
theorem dX11_wrongAt_138 : decode cX11_wrongAt 138 = .ok (.iload 4, 2) := by decide +kernel
theorem dX11_wrongAt_140 : decode cX11_wrongAt 140 = .ok (.iaload, 1) := by decide +kernel
theorem dX11_wrongAt_141 : decode cX11_wrongAt 141 = .ok (.aload_n 0, 1) := by decide +kernel
theorem dX11_wrongAt_142 : decode cX11_wrongAt 142 = .ok (.getfield 37, 3) := by decide +kernel
theorem dX11_wrongAt_145 : decode cX11_wrongAt 145 = .ok (.iload 6, 2) := by decide +kernel
theorem dX11_wrongAt_147 : decode cX11_wrongAt 147 = .ok (.iaload, 1) := by decide +kernel
theorem dX11_wrongAt_148 : decode cX11_wrongAt 148 = .ok (.isub, 1) := by decide +kernel
theorem dX11_wrongAt_149 : decode cX11_wrongAt 149 = .ok (.iconst 2, 1) := by decide +kernel
theorem dX11_wrongAt_150 : decode cX11_wrongAt 150 = .ok (.if_icmp .eq 6, 3) := by decide +kernel
theorem dX11_wrongAt_153 : decode cX11_wrongAt 153 = .ok (.iload 4, 2) := by decide +kernel
theorem dX11_wrongAt_155 : decode cX11_wrongAt 155 = .ok (.ireturn, 1) := by decide +kernel
theorem dX11_wrongAt_156 : decode cX11_wrongAt 156 = .ok (.iload 6, 2) := by decide +kernel
theorem dX11_wrongAt_158 : decode cX11_wrongAt 158 = .ok (.ifCond .lt 17, 3) := by decide +kernel
theorem dX11_wrongAt_161 : decode cX11_wrongAt 161 = .ok (.aload_n 0, 1) := by decide +kernel
theorem dX11_wrongAt_162 : decode cX11_wrongAt 162 = .ok (.getfield 52, 3) := by decide +kernel
theorem dX11_wrongAt_165 : decode cX11_wrongAt 165 = .ok (.iload 6, 2) := by decide +kernel
theorem dX11_wrongAt_167 : decode cX11_wrongAt 167 = .ok (.dup2, 1) := by decide +kernel
theorem dX11_wrongAt_168 : decode cX11_wrongAt 168 = .ok (.iaload, 1) := by decide +kernel
theorem dX11_wrongAt_169 : decode cX11_wrongAt 169 = .ok (.iload 5, 2) := by decide +kernel
theorem dX11_wrongAt_171 : decode cX11_wrongAt 171 = .ok (.iload_n 3, 1) := by decide +kernel
theorem dX11_wrongAt_172 : decode cX11_wrongAt 172 = .ok (.iand, 1) := by decide +kernel
theorem dX11_wrongAt_173 : decode cX11_wrongAt 173 = .ok (.iand, 1) := by decide +kernel
theorem dX11_wrongAt_174 : decode cX11_wrongAt 174 = .ok (.iastore, 1) := by decide +kernel
theorem dX11_wrongAt_175 : decode cX11_wrongAt 175 = .ok (.aload_n 0, 1) := by decide +kernel
theorem dX11_wrongAt_176 : decode cX11_wrongAt 176 = .ok (.getfield 52, 3) := by decide +kernel
theorem dX11_wrongAt_179 : decode cX11_wrongAt 179 = .ok (.iload 6, 2) := by decide +kernel
theorem dX11_wrongAt_181 : decode cX11_wrongAt 181 = .ok (.ifCond .ge 8, 3) := by decide +kernel
theorem dX11_wrongAt_184 : decode cX11_wrongAt 184 = .ok (.iload 4, 2) := by decide +kernel
theorem dX11_wrongAt_186 : decode cX11_wrongAt 186 = .ok (.goto 5, 3) := by decide +kernel
theorem dX11_wrongAt_189 : decode cX11_wrongAt 189 = .ok (.iload 6, 2) := by decide +kernel
theorem dX11_wrongAt_191 : decode cX11_wrongAt 191 = .ok (.iaload, 1) := by decide +kernel
theorem dX11_wrongAt_192 : decode cX11_wrongAt 192 = .ok (.ifCond .ne 6, 3) := by decide +kernel
theorem dX11_wrongAt_195 : decode cX11_wrongAt 195 = .ok (.iload 4, 2) := by decide +kernel
theorem dX11_wrongAt_197 : decode cX11_wrongAt 197 = .ok (.ireturn, 1) := by decide +kernel
theorem dX11_wrongAt_198 : decode cX11_wrongAt 198 = .ok (.iinc 4 1, 3) := by decide +kernel
theorem dX11_wrongAt_201 : decode cX11_wrongAt 201 = .ok (.goto (-129), 3) := by decide +kernel
theorem dX11_wrongAt_204 : decode cX11_wrongAt 204 = .ok (.iconst (-1), 1) := by decide +kernel
theorem dX11_wrongAt_205 : decode cX11_wrongAt 205 = .ok (.ireturn, 1) := by decide +kernel
theorem dX11_state_0 : decode cX11_state 0 = .ok (.sipush 2500, 3) := by decide +kernel
theorem dX11_state_3 : decode cX11_state 3 = .ok (.iload_n 0, 1) := by decide +kernel
theorem dX11_state_4 : decode cX11_state 4 = .ok (.imul, 1) := by decide +kernel
theorem dX11_state_5 : decode cX11_state 5 = .ok (.bipush 50, 2) := by decide +kernel
theorem dX11_state_7 : decode cX11_state 7 = .ok (.iload_n 1, 1) := by decide +kernel
theorem dX11_state_8 : decode cX11_state 8 = .ok (.iload_n 2, 1) := by decide +kernel
theorem dX11_state_9 : decode cX11_state 9 = .ok (.if_icmp .ge 7, 3) := by decide +kernel
theorem dX11_state_12 : decode cX11_state 12 = .ok (.iload_n 1, 1) := by decide +kernel
theorem dX11_state_13 : decode cX11_state 13 = .ok (.goto 4, 3) := by decide +kernel
theorem dX11_state_16 : decode cX11_state 16 = .ok (.iload_n 2, 1) := by decide +kernel
theorem dX11_state_17 : decode cX11_state 17 = .ok (.imul, 1) := by decide +kernel
theorem dX11_state_18 : decode cX11_state 18 = .ok (.iadd, 1) := by decide +kernel
theorem dX11_state_19 : decode cX11_state 19 = .ok (.iload_n 1, 1) := by decide +kernel
theorem dX11_state_20 : decode cX11_state 20 = .ok (.iload_n 2, 1) := by decide +kernel
theorem dX11_state_21 : decode cX11_state 21 = .ok (.if_icmp .ge 7, 3) := by decide +kernel
theorem dX11_state_24 : decode cX11_state 24 = .ok (.iload_n 2, 1) := by decide +kernel
theorem dX11_state_25 : decode cX11_state 25 = .ok (.goto 4, 3) := by decide +kernel
theorem dX11_state_28 : decode cX11_state 28 = .ok (.iload_n 1, 1) := by decide +kernel
theorem dX11_state_29 : decode cX11_state 29 = .ok (.iadd, 1) := by decide +kernel
theorem dX11_state_30 : decode cX11_state 30 = .ok (.ireturn, 1) := by decide +kernel
set_option maxRecDepth 20000 in
theorem ggX11_looks_X11_goes : GoodIn wsX11_looks wsX11_goes := goodIn_r _ [6, 7, 8, 9, 10, 11, 12, 13, 5, 14, 15, 16, 17, 18, 19, 20, 21, 22, 23, 24, 25, 26, 27, 28, 29, 30, 31, 32, 33, 34, 35, 36, 37, 38, 39, 40, 41, 42, 43, 44, 45, 46, 47, 48, 49, 50, 51, 52, 53, 54, 55, 56, 57, 58, 59, 60, 61, 62, 63, 64, 65, 66, 67, 68, 69, 70, 71, 72] (by decide +kernel) (by decide +kernel)
set_option maxRecDepth 20000 in
theorem gX11_looks_X11_goes : GoodIn wsX11_looks (wsV RX11 210 RX11 yX11_goes wsX11_goes) := goodIn_app (goodIn_of _ (by decide +kernel)) ggX11_looks_X11_goes
theorem dX11_looks_0 : decode cX11_looks 0 = .ok (.iconst 1, 1) := by decide +kernel
theorem dX11_looks_1 : decode cX11_looks 1 = .ok (.istore_n 1, 1) := by decide +kernel
theorem dX11_looks_2 : decode cX11_looks 2 = .ok (.iload_n 1, 1) := by decide +kernel
theorem dX11_looks_3 : decode cX11_looks 3 = .ok (.iconst 4, 1) := by decide +kernel
theorem dX11_looks_4 : decode cX11_looks 4 = .ok (.if_icmp .ge 30, 3) := by decide +kernel
theorem dX11_looks_7 : decode cX11_looks 7 = .ok (.iload_n 1, 1) := by decide +kernel
theorem dX11_looks_8 : decode cX11_looks 8 = .ok (.aload_n 0, 1) := by decide +kernel
theorem dX11_looks_9 : decode cX11_looks 9 = .ok (.getfield 201, 3) := by decide +kernel
theorem dX11_looks_12 : decode cX11_looks 12 = .ok (.if_icmp .ge 22, 3) := by decide +kernel
theorem dX11_looks_15 : decode cX11_looks 15 = .ok (.aload_n 0, 1) := by decide +kernel
theorem dX11_looks_16 : decode cX11_looks 16 = .ok (.iload_n 1, 1) := by decide +kernel
theorem dX11_looks_17 : decode cX11_looks 17 = .ok (.invokevirtual 210, 3) := by decide +kernel
theorem dX11_looks_20 : decode cX11_looks 20 = .ok (.ifCond .eq 8, 3) := by decide +kernel
theorem dX11_looks_23 : decode cX11_looks 23 = .ok (.aload_n 0, 1) := by decide +kernel
theorem dX11_looks_24 : decode cX11_looks 24 = .ok (.iload_n 1, 1) := by decide +kernel
theorem dX11_looks_25 : decode cX11_looks 25 = .ok (.putfield 201, 3) := by decide +kernel
theorem dX11_looks_28 : decode cX11_looks 28 = .ok (.iinc 1 1, 3) := by decide +kernel
theorem dX11_looks_31 : decode cX11_looks 31 = .ok (.goto (-29), 3) := by decide +kernel
theorem dX11_looks_34 : decode cX11_looks 34 = .ok (.return_, 1) := by decide +kernel
set_option maxRecDepth 20000 in
theorem ggX11_goes_X11_begins : GoodIn wsX11_goes wsX11_begins := goodIn_r _ [9, 10, 11, 3, 12, 13, 8, 14, 32, 33, 34, 35, 36, 37, 38, 39, 40, 41, 42, 43, 44, 45, 46, 47, 48, 49, 50, 51, 52, 53, 54, 55, 56, 57, 58, 59, 60, 61, 62, 63, 64, 65, 66, 67] (by decide +kernel) (by decide +kernel)
set_option maxRecDepth 20000 in
theorem gX11_goes_X11_begins : GoodIn wsX11_goes (wsV RX11 213 RX11 yX11_begins wsX11_begins) := goodIn_app (goodIn_of _ (by decide +kernel)) ggX11_goes_X11_begins
set_option maxRecDepth 20000 in
theorem ggX11_goes_X11_goesOn : GoodIn wsX11_goes wsX11_goesOn := goodIn_r _ [18, 4, 10, 11, 19, 20, 21, 8, 22, 3, 23, 24, 25, 26, 27, 28, 29, 30, 31, 12, 13, 14, 32, 33, 34, 35, 36, 37, 38, 39, 40, 41, 42, 43, 44, 45, 46, 47, 48, 49, 50, 51, 52, 53, 54, 55, 56, 57, 58, 59, 60, 61, 62, 63, 64, 65, 66, 67] (by decide +kernel) (by decide +kernel)
set_option maxRecDepth 20000 in
theorem gX11_goes_X11_goesOn : GoodIn wsX11_goes (wsV RX11 217 RX11 yX11_goesOn wsX11_goesOn) := goodIn_app (goodIn_of _ (by decide +kernel)) ggX11_goes_X11_goesOn
theorem dX11_goes_0 : decode cX11_goes 0 = .ok (.iconst (-1), 1) := by decide +kernel
theorem dX11_goes_1 : decode cX11_goes 1 = .ok (.istore_n 2, 1) := by decide +kernel
theorem dX11_goes_2 : decode cX11_goes 2 = .ok (.iconst 0, 1) := by decide +kernel
theorem dX11_goes_3 : decode cX11_goes 3 = .ok (.istore_n 3, 1) := by decide +kernel
theorem dX11_goes_4 : decode cX11_goes 4 = .ok (.iload_n 3, 1) := by decide +kernel
theorem dX11_goes_5 : decode cX11_goes 5 = .ok (.aload_n 0, 1) := by decide +kernel
theorem dX11_goes_6 : decode cX11_goes 6 = .ok (.getfield 156, 3) := by decide +kernel
theorem dX11_goes_9 : decode cX11_goes 9 = .ok (.if_icmp .ge 95, 3) := by decide +kernel
theorem dX11_goes_12 : decode cX11_goes 12 = .ok (.aload_n 0, 1) := by decide +kernel
theorem dX11_goes_13 : decode cX11_goes 13 = .ok (.getfield 49, 3) := by decide +kernel
theorem dX11_goes_16 : decode cX11_goes 16 = .ok (.iload_n 3, 1) := by decide +kernel
theorem dX11_goes_17 : decode cX11_goes 17 = .ok (.iaload, 1) := by decide +kernel
theorem dX11_goes_18 : decode cX11_goes 18 = .ok (.ifCond .ge 80, 3) := by decide +kernel
theorem dX11_goes_21 : decode cX11_goes 21 = .ok (.iconst 0, 1) := by decide +kernel
theorem dX11_goes_22 : decode cX11_goes 22 = .ok (.istore 4, 2) := by decide +kernel
theorem dX11_goes_24 : decode cX11_goes 24 = .ok (.iload 4, 2) := by decide +kernel
theorem dX11_goes_26 : decode cX11_goes 26 = .ok (.sipush 20000, 3) := by decide +kernel
theorem dX11_goes_29 : decode cX11_goes 29 = .ok (.if_icmp .ge 17, 3) := by decide +kernel
theorem dX11_goes_32 : decode cX11_goes 32 = .ok (.aload_n 0, 1) := by decide +kernel
theorem dX11_goes_33 : decode cX11_goes 33 = .ok (.getfield 59, 3) := by decide +kernel
theorem dX11_goes_36 : decode cX11_goes 36 = .ok (.iload 4, 2) := by decide +kernel
theorem dX11_goes_38 : decode cX11_goes 38 = .ok (.iconst 0, 1) := by decide +kernel
theorem dX11_goes_39 : decode cX11_goes 39 = .ok (.bastore, 1) := by decide +kernel
theorem dX11_goes_40 : decode cX11_goes 40 = .ok (.iinc 4 1, 3) := by decide +kernel
theorem dX11_goes_43 : decode cX11_goes 43 = .ok (.goto (-19), 3) := by decide +kernel
theorem dX11_goes_46 : decode cX11_goes 46 = .ok (.iload_n 2, 1) := by decide +kernel
theorem dX11_goes_47 : decode cX11_goes 47 = .ok (.ifCond .ge 12, 3) := by decide +kernel
theorem dX11_goes_50 : decode cX11_goes 50 = .ok (.aload_n 0, 1) := by decide +kernel
theorem dX11_goes_51 : decode cX11_goes 51 = .ok (.iload_n 3, 1) := by decide +kernel
theorem dX11_goes_52 : decode cX11_goes 52 = .ok (.iload_n 1, 1) := by decide +kernel
theorem dX11_goes_53 : decode cX11_goes 53 = .ok (.invokevirtual 213, 3) := by decide +kernel
theorem dX11_goes_56 : decode cX11_goes 56 = .ok (.goto 9, 3) := by decide +kernel
theorem dX11_goes_59 : decode cX11_goes 59 = .ok (.aload_n 0, 1) := by decide +kernel
theorem dX11_goes_60 : decode cX11_goes 60 = .ok (.iload_n 2, 1) := by decide +kernel
theorem dX11_goes_61 : decode cX11_goes 61 = .ok (.iload_n 3, 1) := by decide +kernel
theorem dX11_goes_62 : decode cX11_goes 62 = .ok (.invokevirtual 217, 3) := by decide +kernel
theorem dX11_goes_65 : decode cX11_goes 65 = .ok (.iconst 0, 1) := by decide +kernel
theorem dX11_goes_66 : decode cX11_goes 66 = .ok (.istore 4, 2) := by decide +kernel
theorem dX11_goes_68 : decode cX11_goes 68 = .ok (.iload 4, 2) := by decide +kernel
theorem dX11_goes_70 : decode cX11_goes 70 = .ok (.sipush 20000, 3) := by decide +kernel
theorem dX11_goes_73 : decode cX11_goes 73 = .ok (.if_icmp .ge 23, 3) := by decide +kernel
theorem dX11_goes_76 : decode cX11_goes 76 = .ok (.aload_n 0, 1) := by decide +kernel
theorem dX11_goes_77 : decode cX11_goes 77 = .ok (.getfield 55, 3) := by decide +kernel
theorem dX11_goes_80 : decode cX11_goes 80 = .ok (.iload 4, 2) := by decide +kernel
theorem dX11_goes_82 : decode cX11_goes 82 = .ok (.aload_n 0, 1) := by decide +kernel
theorem dX11_goes_83 : decode cX11_goes 83 = .ok (.getfield 59, 3) := by decide +kernel
theorem dX11_goes_86 : decode cX11_goes 86 = .ok (.iload 4, 2) := by decide +kernel
theorem dX11_goes_88 : decode cX11_goes 88 = .ok (.baload, 1) := by decide +kernel
theorem dX11_goes_89 : decode cX11_goes 89 = .ok (.bastore, 1) := by decide +kernel
theorem dX11_goes_90 : decode cX11_goes 90 = .ok (.iinc 4 1, 3) := by decide +kernel
theorem dX11_goes_93 : decode cX11_goes 93 = .ok (.goto (-25), 3) := by decide +kernel
theorem dX11_goes_96 : decode cX11_goes 96 = .ok (.iload_n 3, 1) := by decide +kernel
theorem dX11_goes_97 : decode cX11_goes 97 = .ok (.istore_n 2, 1) := by decide +kernel
theorem dX11_goes_98 : decode cX11_goes 98 = .ok (.iinc 3 1, 3) := by decide +kernel
theorem dX11_goes_101 : decode cX11_goes 101 = .ok (.goto (-97), 3) := by decide +kernel
theorem dX11_goes_104 : decode cX11_goes 104 = .ok (.iconst 0, 1) := by decide +kernel
theorem dX11_goes_105 : decode cX11_goes 105 = .ok (.istore_n 3, 1) := by decide +kernel
theorem dX11_goes_106 : decode cX11_goes 106 = .ok (.iconst 0, 1) := by decide +kernel
theorem dX11_goes_107 : decode cX11_goes 107 = .ok (.istore 4, 2) := by decide +kernel
theorem dX11_goes_109 : decode cX11_goes 109 = .ok (.iload 4, 2) := by decide +kernel
theorem dX11_goes_111 : decode cX11_goes 111 = .ok (.sipush 20000, 3) := by decide +kernel
theorem dX11_goes_114 : decode cX11_goes 114 = .ok (.if_icmp .ge 29, 3) := by decide +kernel
theorem dX11_goes_117 : decode cX11_goes 117 = .ok (.iload_n 3, 1) := by decide +kernel
theorem dX11_goes_118 : decode cX11_goes 118 = .ok (.ifCond .ne 13, 3) := by decide +kernel
theorem dX11_goes_121 : decode cX11_goes 121 = .ok (.aload_n 0, 1) := by decide +kernel
theorem dX11_goes_122 : decode cX11_goes 122 = .ok (.getfield 55, 3) := by decide +kernel
theorem dX11_goes_125 : decode cX11_goes 125 = .ok (.iload 4, 2) := by decide +kernel
theorem dX11_goes_127 : decode cX11_goes 127 = .ok (.baload, 1) := by decide +kernel
theorem dX11_goes_128 : decode cX11_goes 128 = .ok (.ifCond .eq 7, 3) := by decide +kernel
theorem dX11_goes_131 : decode cX11_goes 131 = .ok (.iconst 1, 1) := by decide +kernel
theorem dX11_goes_132 : decode cX11_goes 132 = .ok (.goto 4, 3) := by decide +kernel
theorem dX11_goes_135 : decode cX11_goes 135 = .ok (.iconst 0, 1) := by decide +kernel
theorem dX11_goes_136 : decode cX11_goes 136 = .ok (.istore_n 3, 1) := by decide +kernel
theorem dX11_goes_137 : decode cX11_goes 137 = .ok (.iinc 4 1, 3) := by decide +kernel
theorem dX11_goes_140 : decode cX11_goes 140 = .ok (.goto (-31), 3) := by decide +kernel
theorem dX11_goes_143 : decode cX11_goes 143 = .ok (.iload_n 3, 1) := by decide +kernel
theorem dX11_goes_144 : decode cX11_goes 144 = .ok (.ireturn, 1) := by decide +kernel
set_option maxRecDepth 20000 in
theorem ggX11_begins_X11_state : GoodIn wsX11_begins wsX11_state := goodIn_r _ [7] (by decide +kernel) (by decide +kernel)
set_option maxRecDepth 20000 in
theorem gX11_begins_X11_state : GoodIn wsX11_begins (va_wsS RX11 220 yX11_state wsX11_state) := goodIn_app (goodIn_of _ (by decide +kernel)) ggX11_begins_X11_state
theorem dX11_begins_0 : decode cX11_begins 0 = .ok (.iconst 0, 1) := by decide +kernel
theorem dX11_begins_1 : decode cX11_begins 1 = .ok (.istore_n 3, 1) := by decide +kernel
theorem dX11_begins_2 : decode cX11_begins 2 = .ok (.iload_n 3, 1) := by decide +kernel
theorem dX11_begins_3 : decode cX11_begins 3 = .ok (.aload_n 0, 1) := by decide +kernel
theorem dX11_begins_4 : decode cX11_begins 4 = .ok (.getfield 147, 3) := by decide +kernel
theorem dX11_begins_7 : decode cX11_begins 7 = .ok (.if_icmp .ge 57, 3) := by decide +kernel
theorem dX11_begins_10 : decode cX11_begins 10 = .ok (.aload_n 0, 1) := by decide +kernel
theorem dX11_begins_11 : decode cX11_begins 11 = .ok (.getfield 52, 3) := by decide +kernel
theorem dX11_begins_14 : decode cX11_begins 14 = .ok (.iload_n 1, 1) := by decide +kernel
theorem dX11_begins_15 : decode cX11_begins 15 = .ok (.iaload, 1) := by decide +kernel
theorem dX11_begins_16 : decode cX11_begins 16 = .ok (.iload_n 3, 1) := by decide +kernel
theorem dX11_begins_17 : decode cX11_begins 17 = .ok (.ishr, 1) := by decide +kernel
theorem dX11_begins_18 : decode cX11_begins 18 = .ok (.iconst 1, 1) := by decide +kernel
theorem dX11_begins_19 : decode cX11_begins 19 = .ok (.iand, 1) := by decide +kernel
theorem dX11_begins_20 : decode cX11_begins 20 = .ok (.iconst 1, 1) := by decide +kernel
theorem dX11_begins_21 : decode cX11_begins 21 = .ok (.if_icmp .ne 37, 3) := by decide +kernel
theorem dX11_begins_24 : decode cX11_begins 24 = .ok (.aload_n 0, 1) := by decide +kernel
theorem dX11_begins_25 : decode cX11_begins 25 = .ok (.getfield 59, 3) := by decide +kernel
theorem dX11_begins_28 : decode cX11_begins 28 = .ok (.iload_n 3, 1) := by decide +kernel
theorem dX11_begins_29 : decode cX11_begins 29 = .ok (.iload_n 2, 1) := by decide +kernel
theorem dX11_begins_30 : decode cX11_begins 30 = .ok (.iconst 1, 1) := by decide +kernel
theorem dX11_begins_31 : decode cX11_begins 31 = .ok (.if_icmp .le 8, 3) := by decide +kernel
theorem dX11_begins_34 : decode cX11_begins 34 = .ok (.bipush 48, 2) := by decide +kernel
theorem dX11_begins_36 : decode cX11_begins 36 = .ok (.goto 5, 3) := by decide +kernel
theorem dX11_begins_39 : decode cX11_begins 39 = .ok (.bipush 49, 2) := by decide +kernel
theorem dX11_begins_41 : decode cX11_begins 41 = .ok (.iload_n 2, 1) := by decide +kernel
theorem dX11_begins_42 : decode cX11_begins 42 = .ok (.iconst 2, 1) := by decide +kernel
theorem dX11_begins_43 : decode cX11_begins 43 = .ok (.if_icmp .le 8, 3) := by decide +kernel
theorem dX11_begins_46 : decode cX11_begins 46 = .ok (.bipush 48, 2) := by decide +kernel
theorem dX11_begins_48 : decode cX11_begins 48 = .ok (.goto 5, 3) := by decide +kernel
theorem dX11_begins_51 : decode cX11_begins 51 = .ok (.bipush 49, 2) := by decide +kernel
theorem dX11_begins_53 : decode cX11_begins 53 = .ok (.invokestatic 220, 3) := by decide +kernel
theorem dX11_begins_56 : decode cX11_begins 56 = .ok (.iconst 1, 1) := by decide +kernel
theorem dX11_begins_57 : decode cX11_begins 57 = .ok (.bastore, 1) := by decide +kernel
theorem dX11_begins_58 : decode cX11_begins 58 = .ok (.iinc 3 1, 3) := by decide +kernel
theorem dX11_begins_61 : decode cX11_begins 61 = .ok (.goto (-59), 3) := by decide +kernel
theorem dX11_begins_64 : decode cX11_begins 64 = .ok (.return_, 1) := by decide +kernel
set_option maxRecDepth 20000 in
theorem ggX11_goesOn_X11_moves : GoodIn wsX11_goesOn wsX11_moves := goodIn_r _ [8, 9, 10, 11, 12, 7, 13, 14, 15, 16, 17, 18, 19, 20, 21, 22, 23, 24, 25, 26, 27, 28, 29, 30, 31, 32, 33, 34, 35, 36, 37, 38, 39, 40, 41, 42, 43, 44, 45, 46, 47, 48, 49, 50, 51, 52, 53, 54, 55, 56, 57] (by decide +kernel) (by decide +kernel)
set_option maxRecDepth 20000 in
theorem gX11_goesOn_X11_moves : GoodIn wsX11_goesOn (wsV RX11 223 RX11 yX11_moves wsX11_moves) := goodIn_app (goodIn_of _ (by decide +kernel)) ggX11_goesOn_X11_moves
theorem dX11_goesOn_0 : decode cX11_goesOn 0 = .ok (.iconst 0, 1) := by decide +kernel
theorem dX11_goesOn_1 : decode cX11_goesOn 1 = .ok (.istore_n 3, 1) := by decide +kernel
theorem dX11_goesOn_2 : decode cX11_goesOn 2 = .ok (.iload_n 3, 1) := by decide +kernel
theorem dX11_goesOn_3 : decode cX11_goesOn 3 = .ok (.sipush 20000, 3) := by decide +kernel
theorem dX11_goesOn_6 : decode cX11_goesOn 6 = .ok (.if_icmp .ge 87, 3) := by decide +kernel
theorem dX11_goesOn_9 : decode cX11_goesOn 9 = .ok (.aload_n 0, 1) := by decide +kernel
theorem dX11_goesOn_10 : decode cX11_goesOn 10 = .ok (.getfield 55, 3) := by decide +kernel
theorem dX11_goesOn_13 : decode cX11_goesOn 13 = .ok (.iload_n 3, 1) := by decide +kernel
theorem dX11_goesOn_14 : decode cX11_goesOn 14 = .ok (.baload, 1) := by decide +kernel
theorem dX11_goesOn_15 : decode cX11_goesOn 15 = .ok (.ifCond .eq 72, 3) := by decide +kernel
theorem dX11_goesOn_18 : decode cX11_goesOn 18 = .ok (.iload_n 3, 1) := by decide +kernel
theorem dX11_goesOn_19 : decode cX11_goesOn 19 = .ok (.sipush 2500, 3) := by decide +kernel
theorem dX11_goesOn_22 : decode cX11_goesOn 22 = .ok (.idiv, 1) := by decide +kernel
theorem dX11_goesOn_23 : decode cX11_goesOn 23 = .ok (.istore 4, 2) := by decide +kernel
theorem dX11_goesOn_25 : decode cX11_goesOn 25 = .ok (.iload_n 3, 1) := by decide +kernel
theorem dX11_goesOn_26 : decode cX11_goesOn 26 = .ok (.bipush 50, 2) := by decide +kernel
theorem dX11_goesOn_28 : decode cX11_goesOn 28 = .ok (.idiv, 1) := by decide +kernel
theorem dX11_goesOn_29 : decode cX11_goesOn 29 = .ok (.bipush 50, 2) := by decide +kernel
theorem dX11_goesOn_31 : decode cX11_goesOn 31 = .ok (.irem, 1) := by decide +kernel
theorem dX11_goesOn_32 : decode cX11_goesOn 32 = .ok (.istore 5, 2) := by decide +kernel
theorem dX11_goesOn_34 : decode cX11_goesOn 34 = .ok (.iload_n 3, 1) := by decide +kernel
theorem dX11_goesOn_35 : decode cX11_goesOn 35 = .ok (.bipush 50, 2) := by decide +kernel
theorem dX11_goesOn_37 : decode cX11_goesOn 37 = .ok (.irem, 1) := by decide +kernel
theorem dX11_goesOn_38 : decode cX11_goesOn 38 = .ok (.istore 6, 2) := by decide +kernel
theorem dX11_goesOn_40 : decode cX11_goesOn 40 = .ok (.iconst 0, 1) := by decide +kernel
theorem dX11_goesOn_41 : decode cX11_goesOn 41 = .ok (.istore 7, 2) := by decide +kernel
theorem dX11_goesOn_43 : decode cX11_goesOn 43 = .ok (.iload 7, 2) := by decide +kernel
theorem dX11_goesOn_45 : decode cX11_goesOn 45 = .ok (.aload_n 0, 1) := by decide +kernel
theorem dX11_goesOn_46 : decode cX11_goesOn 46 = .ok (.getfield 147, 3) := by decide +kernel
theorem dX11_goesOn_49 : decode cX11_goesOn 49 = .ok (.if_icmp .ge 38, 3) := by decide +kernel
theorem dX11_goesOn_52 : decode cX11_goesOn 52 = .ok (.aload_n 0, 1) := by decide +kernel
theorem dX11_goesOn_53 : decode cX11_goesOn 53 = .ok (.getfield 52, 3) := by decide +kernel
theorem dX11_goesOn_56 : decode cX11_goesOn 56 = .ok (.iload_n 2, 1) := by decide +kernel
theorem dX11_goesOn_57 : decode cX11_goesOn 57 = .ok (.iaload, 1) := by decide +kernel
theorem dX11_goesOn_58 : decode cX11_goesOn 58 = .ok (.iload 7, 2) := by decide +kernel
theorem dX11_goesOn_60 : decode cX11_goesOn 60 = .ok (.ishr, 1) := by decide +kernel
theorem dX11_goesOn_61 : decode cX11_goesOn 61 = .ok (.iconst 1, 1) := by decide +kernel
theorem dX11_goesOn_62 : decode cX11_goesOn 62 = .ok (.iand, 1) := by decide +kernel
theorem dX11_goesOn_63 : decode cX11_goesOn 63 = .ok (.iconst 1, 1) := by decide +kernel
theorem dX11_goesOn_64 : decode cX11_goesOn 64 = .ok (.if_icmp .ne 17, 3) := by decide +kernel
theorem dX11_goesOn_67 : decode cX11_goesOn 67 = .ok (.aload_n 0, 1) := by decide +kernel
theorem dX11_goesOn_68 : decode cX11_goesOn 68 = .ok (.iload_n 1, 1) := by decide +kernel
theorem dX11_goesOn_69 : decode cX11_goesOn 69 = .ok (.iload_n 2, 1) := by decide +kernel
theorem dX11_goesOn_70 : decode cX11_goesOn 70 = .ok (.iload 4, 2) := by decide +kernel
theorem dX11_goesOn_72 : decode cX11_goesOn 72 = .ok (.iload 5, 2) := by decide +kernel
theorem dX11_goesOn_74 : decode cX11_goesOn 74 = .ok (.iload 6, 2) := by decide +kernel
theorem dX11_goesOn_76 : decode cX11_goesOn 76 = .ok (.iload 7, 2) := by decide +kernel
theorem dX11_goesOn_78 : decode cX11_goesOn 78 = .ok (.invokevirtual 223, 3) := by decide +kernel
theorem dX11_goesOn_81 : decode cX11_goesOn 81 = .ok (.iinc 7 1, 3) := by decide +kernel
theorem dX11_goesOn_84 : decode cX11_goesOn 84 = .ok (.goto (-41), 3) := by decide +kernel
theorem dX11_goesOn_87 : decode cX11_goesOn 87 = .ok (.iinc 3 1, 3) := by decide +kernel
theorem dX11_goesOn_90 : decode cX11_goesOn 90 = .ok (.goto (-88), 3) := by decide +kernel
theorem dX11_goesOn_93 : decode cX11_goesOn 93 = .ok (.return_, 1) := by decide +kernel
set_option maxRecDepth 20000 in
theorem ggX11_moves_X11_mayGo : GoodIn wsX11_moves wsX11_mayGo := goodIn_r _ [6, 7, 8, 9, 10, 5, 11, 15, 16, 17, 18, 19, 20, 21, 22, 23, 24, 25, 26, 27, 28, 29, 30, 31, 32, 33, 34, 35, 36, 37, 38, 39, 40, 41, 42, 43, 44, 45, 46, 47, 48, 49, 50] (by decide +kernel) (by decide +kernel)
set_option maxRecDepth 20000 in
theorem gX11_moves_X11_mayGo : GoodIn wsX11_moves (wsV RX11 194 RX11 yX11_mayGo wsX11_mayGo) := goodIn_app (goodIn_of _ (by decide +kernel)) ggX11_moves_X11_mayGo
set_option maxRecDepth 20000 in
theorem ggX11_moves_X11_state : GoodIn wsX11_moves wsX11_state := goodIn_r _ [14] (by decide +kernel) (by decide +kernel)
set_option maxRecDepth 20000 in
theorem gX11_moves_X11_state : GoodIn wsX11_moves (va_wsS RX11 220 yX11_state wsX11_state) := goodIn_app (goodIn_of _ (by decide +kernel)) ggX11_moves_X11_state
theorem dX11_moves_0 : decode cX11_moves 0 = .ok (.bipush 6, 2) := by decide +kernel
theorem dX11_moves_2 : decode cX11_moves 2 = .ok (.iload_n 3, 1) := by decide +kernel
theorem dX11_moves_3 : decode cX11_moves 3 = .ok (.imul, 1) := by decide +kernel
theorem dX11_moves_4 : decode cX11_moves 4 = .ok (.iload_n 1, 1) := by decide +kernel
theorem dX11_moves_5 : decode cX11_moves 5 = .ok (.iadd, 1) := by decide +kernel
theorem dX11_moves_6 : decode cX11_moves 6 = .ok (.istore 7, 2) := by decide +kernel
theorem dX11_moves_8 : decode cX11_moves 8 = .ok (.aload_n 0, 1) := by decide +kernel
theorem dX11_moves_9 : decode cX11_moves 9 = .ok (.iload_n 1, 1) := by decide +kernel
theorem dX11_moves_10 : decode cX11_moves 10 = .ok (.iload_n 2, 1) := by decide +kernel
theorem dX11_moves_11 : decode cX11_moves 11 = .ok (.iload_n 3, 1) := by decide +kernel
theorem dX11_moves_12 : decode cX11_moves 12 = .ok (.iload 6, 2) := by decide +kernel
theorem dX11_moves_14 : decode cX11_moves 14 = .ok (.invokevirtual 194, 3) := by decide +kernel
theorem dX11_moves_17 : decode cX11_moves 17 = .ok (.ifCond .eq 18, 3) := by decide +kernel
theorem dX11_moves_20 : decode cX11_moves 20 = .ok (.aload_n 0, 1) := by decide +kernel
theorem dX11_moves_21 : decode cX11_moves 21 = .ok (.getfield 59, 3) := by decide +kernel
theorem dX11_moves_24 : decode cX11_moves 24 = .ok (.iload 6, 2) := by decide +kernel
theorem dX11_moves_26 : decode cX11_moves 26 = .ok (.iload 4, 2) := by decide +kernel
theorem dX11_moves_28 : decode cX11_moves 28 = .ok (.iload 5, 2) := by decide +kernel
theorem dX11_moves_30 : decode cX11_moves 30 = .ok (.invokestatic 220, 3) := by decide +kernel
theorem dX11_moves_33 : decode cX11_moves 33 = .ok (.iconst 1, 1) := by decide +kernel
theorem dX11_moves_34 : decode cX11_moves 34 = .ok (.bastore, 1) := by decide +kernel
theorem dX11_moves_35 : decode cX11_moves 35 = .ok (.iload 4, 2) := by decide +kernel
theorem dX11_moves_37 : decode cX11_moves 37 = .ok (.bipush 48, 2) := by decide +kernel
theorem dX11_moves_39 : decode cX11_moves 39 = .ok (.if_icmp .eq 30, 3) := by decide +kernel
theorem dX11_moves_42 : decode cX11_moves 42 = .ok (.iload 4, 2) := by decide +kernel
theorem dX11_moves_44 : decode cX11_moves 44 = .ok (.bipush 48, 2) := by decide +kernel
theorem dX11_moves_46 : decode cX11_moves 46 = .ok (.if_icmp .ge 38, 3) := by decide +kernel
theorem dX11_moves_49 : decode cX11_moves 49 = .ok (.aload_n 0, 1) := by decide +kernel
theorem dX11_moves_50 : decode cX11_moves 50 = .ok (.iload 4, 2) := by decide +kernel
theorem dX11_moves_52 : decode cX11_moves 52 = .ok (.bipush 6, 2) := by decide +kernel
theorem dX11_moves_54 : decode cX11_moves 54 = .ok (.irem, 1) := by decide +kernel
theorem dX11_moves_55 : decode cX11_moves 55 = .ok (.iload_n 2, 1) := by decide +kernel
theorem dX11_moves_56 : decode cX11_moves 56 = .ok (.iload 4, 2) := by decide +kernel
theorem dX11_moves_58 : decode cX11_moves 58 = .ok (.bipush 6, 2) := by decide +kernel
theorem dX11_moves_60 : decode cX11_moves 60 = .ok (.idiv, 1) := by decide +kernel
theorem dX11_moves_61 : decode cX11_moves 61 = .ok (.iload 6, 2) := by decide +kernel
theorem dX11_moves_63 : decode cX11_moves 63 = .ok (.invokevirtual 194, 3) := by decide +kernel
theorem dX11_moves_66 : decode cX11_moves 66 = .ok (.ifCond .eq 18, 3) := by decide +kernel
theorem dX11_moves_69 : decode cX11_moves 69 = .ok (.aload_n 0, 1) := by decide +kernel
theorem dX11_moves_70 : decode cX11_moves 70 = .ok (.getfield 59, 3) := by decide +kernel
theorem dX11_moves_73 : decode cX11_moves 73 = .ok (.iload 6, 2) := by decide +kernel
theorem dX11_moves_75 : decode cX11_moves 75 = .ok (.iload 7, 2) := by decide +kernel
theorem dX11_moves_77 : decode cX11_moves 77 = .ok (.iload 5, 2) := by decide +kernel
theorem dX11_moves_79 : decode cX11_moves 79 = .ok (.invokestatic 220, 3) := by decide +kernel
theorem dX11_moves_82 : decode cX11_moves 82 = .ok (.iconst 1, 1) := by decide +kernel
theorem dX11_moves_83 : decode cX11_moves 83 = .ok (.bastore, 1) := by decide +kernel
theorem dX11_moves_84 : decode cX11_moves 84 = .ok (.iload 5, 2) := by decide +kernel
theorem dX11_moves_86 : decode cX11_moves 86 = .ok (.bipush 48, 2) := by decide +kernel
theorem dX11_moves_88 : decode cX11_moves 88 = .ok (.if_icmp .eq 30, 3) := by decide +kernel
theorem dX11_moves_91 : decode cX11_moves 91 = .ok (.iload 5, 2) := by decide +kernel
theorem dX11_moves_93 : decode cX11_moves 93 = .ok (.bipush 48, 2) := by decide +kernel
theorem dX11_moves_95 : decode cX11_moves 95 = .ok (.if_icmp .ge 38, 3) := by decide +kernel
theorem dX11_moves_98 : decode cX11_moves 98 = .ok (.aload_n 0, 1) := by decide +kernel
theorem dX11_moves_99 : decode cX11_moves 99 = .ok (.iload 5, 2) := by decide +kernel
theorem dX11_moves_101 : decode cX11_moves 101 = .ok (.bipush 6, 2) := by decide +kernel
theorem dX11_moves_103 : decode cX11_moves 103 = .ok (.irem, 1) := by decide +kernel
theorem dX11_moves_104 : decode cX11_moves 104 = .ok (.iload_n 2, 1) := by decide +kernel
theorem dX11_moves_105 : decode cX11_moves 105 = .ok (.iload 5, 2) := by decide +kernel
theorem dX11_moves_107 : decode cX11_moves 107 = .ok (.bipush 6, 2) := by decide +kernel
theorem dX11_moves_109 : decode cX11_moves 109 = .ok (.idiv, 1) := by decide +kernel
theorem dX11_moves_110 : decode cX11_moves 110 = .ok (.iload 6, 2) := by decide +kernel
theorem dX11_moves_112 : decode cX11_moves 112 = .ok (.invokevirtual 194, 3) := by decide +kernel
theorem dX11_moves_115 : decode cX11_moves 115 = .ok (.ifCond .eq 18, 3) := by decide +kernel
theorem dX11_moves_118 : decode cX11_moves 118 = .ok (.aload_n 0, 1) := by decide +kernel
theorem dX11_moves_119 : decode cX11_moves 119 = .ok (.getfield 59, 3) := by decide +kernel
theorem dX11_moves_122 : decode cX11_moves 122 = .ok (.iload 6, 2) := by decide +kernel
theorem dX11_moves_124 : decode cX11_moves 124 = .ok (.iload 4, 2) := by decide +kernel
theorem dX11_moves_126 : decode cX11_moves 126 = .ok (.iload 7, 2) := by decide +kernel
theorem dX11_moves_128 : decode cX11_moves 128 = .ok (.invokestatic 220, 3) := by decide +kernel
theorem dX11_moves_131 : decode cX11_moves 131 = .ok (.iconst 1, 1) := by decide +kernel
theorem dX11_moves_132 : decode cX11_moves 132 = .ok (.bastore, 1) := by decide +kernel
theorem dX11_moves_133 : decode cX11_moves 133 = .ok (.return_, 1) := by decide +kernel
set_option maxRecDepth 20000 in
theorem ggX11_isTaken_X11_sound : GoodIn wsX11_isTaken wsX11_sound := goodIn_r _ [6] (by decide +kernel) (by decide +kernel)
set_option maxRecDepth 20000 in
theorem gX11_isTaken_X11_sound : GoodIn wsX11_isTaken (va_wsS RX11 166 yX11_sound wsX11_sound) := goodIn_app (goodIn_of _ (by decide +kernel)) ggX11_isTaken_X11_sound
set_option maxRecDepth 20000 in
theorem ggX11_isTaken_X11_away : GoodIn wsX11_isTaken wsX11_away := goodIn_r _ [9] (by decide +kernel) (by decide +kernel)
set_option maxRecDepth 20000 in
theorem gX11_isTaken_X11_away : GoodIn wsX11_isTaken (va_wsS RX11 185 yX11_away wsX11_away) := goodIn_app (goodIn_of _ (by decide +kernel)) ggX11_isTaken_X11_away
theorem dX11_isTaken_0 : decode cX11_isTaken 0 = .ok (.iconst 0, 1) := by decide +kernel
theorem dX11_isTaken_1 : decode cX11_isTaken 1 = .ok (.istore_n 3, 1) := by decide +kernel
theorem dX11_isTaken_2 : decode cX11_isTaken 2 = .ok (.iconst 0, 1) := by decide +kernel
theorem dX11_isTaken_3 : decode cX11_isTaken 3 = .ok (.istore 4, 2) := by decide +kernel
theorem dX11_isTaken_5 : decode cX11_isTaken 5 = .ok (.iload 4, 2) := by decide +kernel
theorem dX11_isTaken_7 : decode cX11_isTaken 7 = .ok (.bipush 10, 2) := by decide +kernel
theorem dX11_isTaken_9 : decode cX11_isTaken 9 = .ok (.if_icmp .ge 55, 3) := by decide +kernel
theorem dX11_isTaken_12 : decode cX11_isTaken 12 = .ok (.iload_n 3, 1) := by decide +kernel
theorem dX11_isTaken_13 : decode cX11_isTaken 13 = .ok (.ifCond .ne 39, 3) := by decide +kernel
theorem dX11_isTaken_16 : decode cX11_isTaken 16 = .ok (.aload_n 0, 1) := by decide +kernel
theorem dX11_isTaken_17 : decode cX11_isTaken 17 = .ok (.getfield 22, 3) := by decide +kernel
theorem dX11_isTaken_20 : decode cX11_isTaken 20 = .ok (.iload_n 1, 1) := by decide +kernel
theorem dX11_isTaken_21 : decode cX11_isTaken 21 = .ok (.iaload, 1) := by decide +kernel
theorem dX11_isTaken_22 : decode cX11_isTaken 22 = .ok (.iload_n 1, 1) := by decide +kernel
theorem dX11_isTaken_23 : decode cX11_isTaken 23 = .ok (.iload 4, 2) := by decide +kernel
theorem dX11_isTaken_25 : decode cX11_isTaken 25 = .ok (.invokestatic 166, 3) := by decide +kernel
theorem dX11_isTaken_28 : decode cX11_isTaken 28 = .ok (.aload_n 0, 1) := by decide +kernel
theorem dX11_isTaken_29 : decode cX11_isTaken 29 = .ok (.getfield 22, 3) := by decide +kernel
theorem dX11_isTaken_32 : decode cX11_isTaken 32 = .ok (.iload_n 2, 1) := by decide +kernel
theorem dX11_isTaken_33 : decode cX11_isTaken 33 = .ok (.iaload, 1) := by decide +kernel
theorem dX11_isTaken_34 : decode cX11_isTaken 34 = .ok (.iload_n 2, 1) := by decide +kernel
theorem dX11_isTaken_35 : decode cX11_isTaken 35 = .ok (.iload 4, 2) := by decide +kernel
theorem dX11_isTaken_37 : decode cX11_isTaken 37 = .ok (.invokestatic 166, 3) := by decide +kernel
theorem dX11_isTaken_40 : decode cX11_isTaken 40 = .ok (.invokestatic 185, 3) := by decide +kernel
theorem dX11_isTaken_43 : decode cX11_isTaken 43 = .ok (.aload_n 0, 1) := by decide +kernel
theorem dX11_isTaken_44 : decode cX11_isTaken 44 = .ok (.getfield 34, 3) := by decide +kernel
theorem dX11_isTaken_47 : decode cX11_isTaken 47 = .ok (.iconst 0, 1) := by decide +kernel
theorem dX11_isTaken_48 : decode cX11_isTaken 48 = .ok (.iaload, 1) := by decide +kernel
theorem dX11_isTaken_49 : decode cX11_isTaken 49 = .ok (.if_icmp .gt 7, 3) := by decide +kernel
theorem dX11_isTaken_52 : decode cX11_isTaken 52 = .ok (.iconst 1, 1) := by decide +kernel
theorem dX11_isTaken_53 : decode cX11_isTaken 53 = .ok (.goto 4, 3) := by decide +kernel
theorem dX11_isTaken_56 : decode cX11_isTaken 56 = .ok (.iconst 0, 1) := by decide +kernel
theorem dX11_isTaken_57 : decode cX11_isTaken 57 = .ok (.istore_n 3, 1) := by decide +kernel
theorem dX11_isTaken_58 : decode cX11_isTaken 58 = .ok (.iinc 4 1, 3) := by decide +kernel
theorem dX11_isTaken_61 : decode cX11_isTaken 61 = .ok (.goto (-56), 3) := by decide +kernel
theorem dX11_isTaken_64 : decode cX11_isTaken 64 = .ok (.iload_n 3, 1) := by decide +kernel
theorem dX11_isTaken_65 : decode cX11_isTaken 65 = .ok (.ireturn, 1) := by decide +kernel
theorem dX11_many_0 : decode cX11_many 0 = .ok (.iconst 0, 1) := by decide +kernel
theorem dX11_many_1 : decode cX11_many 1 = .ok (.istore_n 1, 1) := by decide +kernel
theorem dX11_many_2 : decode cX11_many 2 = .ok (.iload_n 0, 1) := by decide +kernel
theorem dX11_many_3 : decode cX11_many 3 = .ok (.istore_n 2, 1) := by decide +kernel
theorem dX11_many_4 : decode cX11_many 4 = .ok (.iload_n 2, 1) := by decide +kernel
theorem dX11_many_5 : decode cX11_many 5 = .ok (.ifCond .eq 15, 3) := by decide +kernel
theorem dX11_many_8 : decode cX11_many 8 = .ok (.iinc 1 1, 3) := by decide +kernel
theorem dX11_many_11 : decode cX11_many 11 = .ok (.iload_n 2, 1) := by decide +kernel
theorem dX11_many_12 : decode cX11_many 12 = .ok (.iload_n 2, 1) := by decide +kernel
theorem dX11_many_13 : decode cX11_many 13 = .ok (.iconst 1, 1) := by decide +kernel
theorem dX11_many_14 : decode cX11_many 14 = .ok (.isub, 1) := by decide +kernel
theorem dX11_many_15 : decode cX11_many 15 = .ok (.iand, 1) := by decide +kernel
theorem dX11_many_16 : decode cX11_many 16 = .ok (.istore_n 2, 1) := by decide +kernel
theorem dX11_many_17 : decode cX11_many 17 = .ok (.goto (-13), 3) := by decide +kernel
theorem dX11_many_20 : decode cX11_many 20 = .ok (.iload_n 1, 1) := by decide +kernel
theorem dX11_many_21 : decode cX11_many 21 = .ok (.ireturn, 1) := by decide +kernel
set_option maxRecDepth 20000 in
theorem ggX11_keeps_X11_in : GoodIn wsX11_keeps wsX11_in := goodIn_r _ [5] (by decide +kernel) (by decide +kernel)
set_option maxRecDepth 20000 in
theorem gX11_keeps_X11_in : GoodIn wsX11_keeps (va_wsS RX11 77 yX11_in wsX11_in) := goodIn_app (goodIn_of _ (by decide +kernel)) ggX11_keeps_X11_in
set_option maxRecDepth 20000 in
theorem ggX11_keeps_X11_many : GoodIn wsX11_keeps wsX11_many := goodIn_r _ [8] (by decide +kernel) (by decide +kernel)
set_option maxRecDepth 20000 in
theorem gX11_keeps_X11_many : GoodIn wsX11_keeps (va_wsS RX11 227 yX11_many wsX11_many) := goodIn_app (goodIn_of _ (by decide +kernel)) ggX11_keeps_X11_many
set_option maxRecDepth 20000 in
theorem ggX11_keeps_X11_isTaken : GoodIn wsX11_keeps wsX11_isTaken := goodIn_r _ [12, 13, 14, 15, 16, 4, 17, 18, 19, 20, 21, 22, 23, 24, 25, 26, 27, 28, 29, 30, 31, 32, 33, 34, 35, 36, 37, 38, 39, 40, 41, 42, 43, 44, 45, 46, 47, 48, 49, 50, 51, 52, 53, 54, 55, 56] (by decide +kernel) (by decide +kernel)
set_option maxRecDepth 20000 in
theorem gX11_keeps_X11_isTaken : GoodIn wsX11_keeps (wsV RX11 230 RX11 yX11_isTaken wsX11_isTaken) := goodIn_app (goodIn_of _ (by decide +kernel)) ggX11_keeps_X11_isTaken
theorem dX11_keeps_0 : decode cX11_keeps 0 = .ok (.iload_n 1, 1) := by decide +kernel
theorem dX11_keeps_1 : decode cX11_keeps 1 = .ok (.i2l, 1) := by decide +kernel
theorem dX11_keeps_2 : decode cX11_keeps 2 = .ok (.lconst 0, 1) := by decide +kernel
theorem dX11_keeps_3 : decode cX11_keeps 3 = .ok (.lconst 1, 1) := by decide +kernel
theorem dX11_keeps_4 : decode cX11_keeps 4 = .ok (.invokestatic 77, 3) := by decide +kernel
theorem dX11_keeps_7 : decode cX11_keeps 7 = .ok (.ifCond .ne 5, 3) := by decide +kernel
theorem dX11_keeps_10 : decode cX11_keeps 10 = .ok (.iconst (-1), 1) := by decide +kernel
theorem dX11_keeps_11 : decode cX11_keeps 11 = .ok (.ireturn, 1) := by decide +kernel
theorem dX11_keeps_12 : decode cX11_keeps 12 = .ok (.iconst 0, 1) := by decide +kernel
theorem dX11_keeps_13 : decode cX11_keeps 13 = .ok (.istore_n 2, 1) := by decide +kernel
theorem dX11_keeps_14 : decode cX11_keeps 14 = .ok (.iconst 0, 1) := by decide +kernel
theorem dX11_keeps_15 : decode cX11_keeps 15 = .ok (.istore_n 3, 1) := by decide +kernel
theorem dX11_keeps_16 : decode cX11_keeps 16 = .ok (.iload_n 3, 1) := by decide +kernel
theorem dX11_keeps_17 : decode cX11_keeps 17 = .ok (.iconst 1, 1) := by decide +kernel
theorem dX11_keeps_18 : decode cX11_keeps 18 = .ok (.aload_n 0, 1) := by decide +kernel
theorem dX11_keeps_19 : decode cX11_keeps 19 = .ok (.getfield 147, 3) := by decide +kernel
theorem dX11_keeps_22 : decode cX11_keeps 22 = .ok (.ishl, 1) := by decide +kernel
theorem dX11_keeps_23 : decode cX11_keeps 23 = .ok (.if_icmp .ge 118, 3) := by decide +kernel
theorem dX11_keeps_26 : decode cX11_keeps 26 = .ok (.iload_n 3, 1) := by decide +kernel
theorem dX11_keeps_27 : decode cX11_keeps 27 = .ok (.invokestatic 227, 3) := by decide +kernel
theorem dX11_keeps_30 : decode cX11_keeps 30 = .ok (.iload_n 2, 1) := by decide +kernel
theorem dX11_keeps_31 : decode cX11_keeps 31 = .ok (.invokestatic 227, 3) := by decide +kernel
theorem dX11_keeps_34 : decode cX11_keeps 34 = .ok (.if_icmp .le 7, 3) := by decide +kernel
theorem dX11_keeps_37 : decode cX11_keeps 37 = .ok (.iconst 1, 1) := by decide +kernel
theorem dX11_keeps_38 : decode cX11_keeps 38 = .ok (.goto 4, 3) := by decide +kernel
theorem dX11_keeps_41 : decode cX11_keeps 41 = .ok (.iconst 0, 1) := by decide +kernel
theorem dX11_keeps_42 : decode cX11_keeps 42 = .ok (.istore 4, 2) := by decide +kernel
theorem dX11_keeps_44 : decode cX11_keeps 44 = .ok (.iconst 0, 1) := by decide +kernel
theorem dX11_keeps_45 : decode cX11_keeps 45 = .ok (.istore 5, 2) := by decide +kernel
theorem dX11_keeps_47 : decode cX11_keeps 47 = .ok (.iload 5, 2) := by decide +kernel
theorem dX11_keeps_49 : decode cX11_keeps 49 = .ok (.aload_n 0, 1) := by decide +kernel
theorem dX11_keeps_50 : decode cX11_keeps 50 = .ok (.getfield 147, 3) := by decide +kernel
theorem dX11_keeps_53 : decode cX11_keeps 53 = .ok (.if_icmp .ge 71, 3) := by decide +kernel
theorem dX11_keeps_56 : decode cX11_keeps 56 = .ok (.iload 4, 2) := by decide +kernel
theorem dX11_keeps_58 : decode cX11_keeps 58 = .ok (.ifCond .eq 66, 3) := by decide +kernel
theorem dX11_keeps_61 : decode cX11_keeps 61 = .ok (.iconst 0, 1) := by decide +kernel
theorem dX11_keeps_62 : decode cX11_keeps 62 = .ok (.istore 6, 2) := by decide +kernel
theorem dX11_keeps_64 : decode cX11_keeps 64 = .ok (.iload 6, 2) := by decide +kernel
theorem dX11_keeps_66 : decode cX11_keeps 66 = .ok (.iload 5, 2) := by decide +kernel
theorem dX11_keeps_68 : decode cX11_keeps 68 = .ok (.if_icmp .ge 50, 3) := by decide +kernel
theorem dX11_keeps_71 : decode cX11_keeps 71 = .ok (.iload 4, 2) := by decide +kernel
theorem dX11_keeps_73 : decode cX11_keeps 73 = .ok (.ifCond .eq 45, 3) := by decide +kernel
theorem dX11_keeps_76 : decode cX11_keeps 76 = .ok (.iload_n 3, 1) := by decide +kernel
theorem dX11_keeps_77 : decode cX11_keeps 77 = .ok (.iload 5, 2) := by decide +kernel
theorem dX11_keeps_79 : decode cX11_keeps 79 = .ok (.ishr, 1) := by decide +kernel
theorem dX11_keeps_80 : decode cX11_keeps 80 = .ok (.iconst 1, 1) := by decide +kernel
theorem dX11_keeps_81 : decode cX11_keeps 81 = .ok (.iand, 1) := by decide +kernel
theorem dX11_keeps_82 : decode cX11_keeps 82 = .ok (.ifCond .eq 23, 3) := by decide +kernel
theorem dX11_keeps_85 : decode cX11_keeps 85 = .ok (.iload_n 3, 1) := by decide +kernel
theorem dX11_keeps_86 : decode cX11_keeps 86 = .ok (.iload 6, 2) := by decide +kernel
theorem dX11_keeps_88 : decode cX11_keeps 88 = .ok (.ishr, 1) := by decide +kernel
theorem dX11_keeps_89 : decode cX11_keeps 89 = .ok (.iconst 1, 1) := by decide +kernel
theorem dX11_keeps_90 : decode cX11_keeps 90 = .ok (.iand, 1) := by decide +kernel
theorem dX11_keeps_91 : decode cX11_keeps 91 = .ok (.ifCond .eq 14, 3) := by decide +kernel
theorem dX11_keeps_94 : decode cX11_keeps 94 = .ok (.aload_n 0, 1) := by decide +kernel
theorem dX11_keeps_95 : decode cX11_keeps 95 = .ok (.iload 5, 2) := by decide +kernel
theorem dX11_keeps_97 : decode cX11_keeps 97 = .ok (.iload 6, 2) := by decide +kernel
theorem dX11_keeps_99 : decode cX11_keeps 99 = .ok (.invokevirtual 230, 3) := by decide +kernel
theorem dX11_keeps_102 : decode cX11_keeps 102 = .ok (.ifCond .ne 7, 3) := by decide +kernel
theorem dX11_keeps_105 : decode cX11_keeps 105 = .ok (.iconst 1, 1) := by decide +kernel
theorem dX11_keeps_106 : decode cX11_keeps 106 = .ok (.goto 4, 3) := by decide +kernel
theorem dX11_keeps_109 : decode cX11_keeps 109 = .ok (.iconst 0, 1) := by decide +kernel
theorem dX11_keeps_110 : decode cX11_keeps 110 = .ok (.istore 4, 2) := by decide +kernel
theorem dX11_keeps_112 : decode cX11_keeps 112 = .ok (.iinc 6 1, 3) := by decide +kernel
theorem dX11_keeps_115 : decode cX11_keeps 115 = .ok (.goto (-51), 3) := by decide +kernel
theorem dX11_keeps_118 : decode cX11_keeps 118 = .ok (.iinc 5 1, 3) := by decide +kernel
theorem dX11_keeps_121 : decode cX11_keeps 121 = .ok (.goto (-74), 3) := by decide +kernel
theorem dX11_keeps_124 : decode cX11_keeps 124 = .ok (.iload 4, 2) := by decide +kernel
theorem dX11_keeps_126 : decode cX11_keeps 126 = .ok (.ifCond .eq 7, 3) := by decide +kernel
theorem dX11_keeps_129 : decode cX11_keeps 129 = .ok (.iload_n 3, 1) := by decide +kernel
theorem dX11_keeps_130 : decode cX11_keeps 130 = .ok (.goto 4, 3) := by decide +kernel
theorem dX11_keeps_133 : decode cX11_keeps 133 = .ok (.iload_n 2, 1) := by decide +kernel
theorem dX11_keeps_134 : decode cX11_keeps 134 = .ok (.istore_n 2, 1) := by decide +kernel
theorem dX11_keeps_135 : decode cX11_keeps 135 = .ok (.iinc 3 1, 3) := by decide +kernel
theorem dX11_keeps_138 : decode cX11_keeps 138 = .ok (.goto (-122), 3) := by decide +kernel
theorem dX11_keeps_141 : decode cX11_keeps 141 = .ok (.iload_n 1, 1) := by decide +kernel
theorem dX11_keeps_142 : decode cX11_keeps 142 = .ok (.ifCond .ne 15, 3) := by decide +kernel
theorem dX11_keeps_145 : decode cX11_keeps 145 = .ok (.aload_n 0, 1) := by decide +kernel
theorem dX11_keeps_146 : decode cX11_keeps 146 = .ok (.getfield 147, 3) := by decide +kernel
theorem dX11_keeps_149 : decode cX11_keeps 149 = .ok (.iload_n 2, 1) := by decide +kernel
theorem dX11_keeps_150 : decode cX11_keeps 150 = .ok (.invokestatic 227, 3) := by decide +kernel
theorem dX11_keeps_153 : decode cX11_keeps 153 = .ok (.isub, 1) := by decide +kernel
theorem dX11_keeps_154 : decode cX11_keeps 154 = .ok (.goto 4, 3) := by decide +kernel
theorem dX11_keeps_157 : decode cX11_keeps 157 = .ok (.iload_n 2, 1) := by decide +kernel
theorem dX11_keeps_158 : decode cX11_keeps 158 = .ok (.ireturn, 1) := by decide +kernel
set_option maxRecDepth 20000 in
theorem ggX11_meets_X11_sound : GoodIn wsX11_meets wsX11_sound := goodIn_r _ [7] (by decide +kernel) (by decide +kernel)
set_option maxRecDepth 20000 in
theorem gX11_meets_X11_sound : GoodIn wsX11_meets (va_wsS RX11 166 yX11_sound wsX11_sound) := goodIn_app (goodIn_of _ (by decide +kernel)) ggX11_meets_X11_sound
set_option maxRecDepth 20000 in
theorem ggX11_meets_X11_away : GoodIn wsX11_meets wsX11_away := goodIn_r _ [10] (by decide +kernel) (by decide +kernel)
set_option maxRecDepth 20000 in
theorem gX11_meets_X11_away : GoodIn wsX11_meets (va_wsS RX11 185 yX11_away wsX11_away) := goodIn_app (goodIn_of _ (by decide +kernel)) ggX11_meets_X11_away
theorem dX11_meets_0 : decode cX11_meets 0 = .ok (.iconst 0, 1) := by decide +kernel
theorem dX11_meets_1 : decode cX11_meets 1 = .ok (.istore_n 3, 1) := by decide +kernel
theorem dX11_meets_2 : decode cX11_meets 2 = .ok (.iload_n 3, 1) := by decide +kernel
theorem dX11_meets_3 : decode cX11_meets 3 = .ok (.bipush 100, 2) := by decide +kernel
theorem dX11_meets_5 : decode cX11_meets 5 = .ok (.if_icmp .ge 123, 3) := by decide +kernel
theorem dX11_meets_8 : decode cX11_meets 8 = .ok (.aload_n 0, 1) := by decide +kernel
theorem dX11_meets_9 : decode cX11_meets 9 = .ok (.getfield 22, 3) := by decide +kernel
theorem dX11_meets_12 : decode cX11_meets 12 = .ok (.iload_n 1, 1) := by decide +kernel
theorem dX11_meets_13 : decode cX11_meets 13 = .ok (.iaload, 1) := by decide +kernel
theorem dX11_meets_14 : decode cX11_meets 14 = .ok (.iload_n 3, 1) := by decide +kernel
theorem dX11_meets_15 : decode cX11_meets 15 = .ok (.aload_n 0, 1) := by decide +kernel
theorem dX11_meets_16 : decode cX11_meets 16 = .ok (.getfield 25, 3) := by decide +kernel
theorem dX11_meets_19 : decode cX11_meets 19 = .ok (.iload_n 1, 1) := by decide +kernel
theorem dX11_meets_20 : decode cX11_meets 20 = .ok (.iaload, 1) := by decide +kernel
theorem dX11_meets_21 : decode cX11_meets 21 = .ok (.imul, 1) := by decide +kernel
theorem dX11_meets_22 : decode cX11_meets 22 = .ok (.if_icmp .le 21, 3) := by decide +kernel
theorem dX11_meets_25 : decode cX11_meets 25 = .ok (.aload_n 0, 1) := by decide +kernel
theorem dX11_meets_26 : decode cX11_meets 26 = .ok (.getfield 22, 3) := by decide +kernel
theorem dX11_meets_29 : decode cX11_meets 29 = .ok (.iload_n 1, 1) := by decide +kernel
theorem dX11_meets_30 : decode cX11_meets 30 = .ok (.iaload, 1) := by decide +kernel
theorem dX11_meets_31 : decode cX11_meets 31 = .ok (.iload_n 3, 1) := by decide +kernel
theorem dX11_meets_32 : decode cX11_meets 32 = .ok (.aload_n 0, 1) := by decide +kernel
theorem dX11_meets_33 : decode cX11_meets 33 = .ok (.getfield 25, 3) := by decide +kernel
theorem dX11_meets_36 : decode cX11_meets 36 = .ok (.iload_n 1, 1) := by decide +kernel
theorem dX11_meets_37 : decode cX11_meets 37 = .ok (.iaload, 1) := by decide +kernel
theorem dX11_meets_38 : decode cX11_meets 38 = .ok (.imul, 1) := by decide +kernel
theorem dX11_meets_39 : decode cX11_meets 39 = .ok (.isub, 1) := by decide +kernel
theorem dX11_meets_40 : decode cX11_meets 40 = .ok (.goto 4, 3) := by decide +kernel
theorem dX11_meets_43 : decode cX11_meets 43 = .ok (.iconst 0, 1) := by decide +kernel
theorem dX11_meets_44 : decode cX11_meets 44 = .ok (.istore 4, 2) := by decide +kernel
theorem dX11_meets_46 : decode cX11_meets 46 = .ok (.aload_n 0, 1) := by decide +kernel
theorem dX11_meets_47 : decode cX11_meets 47 = .ok (.getfield 22, 3) := by decide +kernel
theorem dX11_meets_50 : decode cX11_meets 50 = .ok (.iload_n 2, 1) := by decide +kernel
theorem dX11_meets_51 : decode cX11_meets 51 = .ok (.iaload, 1) := by decide +kernel
theorem dX11_meets_52 : decode cX11_meets 52 = .ok (.iload_n 3, 1) := by decide +kernel
theorem dX11_meets_53 : decode cX11_meets 53 = .ok (.aload_n 0, 1) := by decide +kernel
theorem dX11_meets_54 : decode cX11_meets 54 = .ok (.getfield 25, 3) := by decide +kernel
theorem dX11_meets_57 : decode cX11_meets 57 = .ok (.iload_n 2, 1) := by decide +kernel
theorem dX11_meets_58 : decode cX11_meets 58 = .ok (.iaload, 1) := by decide +kernel
theorem dX11_meets_59 : decode cX11_meets 59 = .ok (.imul, 1) := by decide +kernel
theorem dX11_meets_60 : decode cX11_meets 60 = .ok (.if_icmp .le 21, 3) := by decide +kernel
theorem dX11_meets_63 : decode cX11_meets 63 = .ok (.aload_n 0, 1) := by decide +kernel
theorem dX11_meets_64 : decode cX11_meets 64 = .ok (.getfield 22, 3) := by decide +kernel
theorem dX11_meets_67 : decode cX11_meets 67 = .ok (.iload_n 2, 1) := by decide +kernel
theorem dX11_meets_68 : decode cX11_meets 68 = .ok (.iaload, 1) := by decide +kernel
theorem dX11_meets_69 : decode cX11_meets 69 = .ok (.iload_n 3, 1) := by decide +kernel
theorem dX11_meets_70 : decode cX11_meets 70 = .ok (.aload_n 0, 1) := by decide +kernel
theorem dX11_meets_71 : decode cX11_meets 71 = .ok (.getfield 25, 3) := by decide +kernel
theorem dX11_meets_74 : decode cX11_meets 74 = .ok (.iload_n 2, 1) := by decide +kernel
theorem dX11_meets_75 : decode cX11_meets 75 = .ok (.iaload, 1) := by decide +kernel
theorem dX11_meets_76 : decode cX11_meets 76 = .ok (.imul, 1) := by decide +kernel
theorem dX11_meets_77 : decode cX11_meets 77 = .ok (.isub, 1) := by decide +kernel
theorem dX11_meets_78 : decode cX11_meets 78 = .ok (.goto 4, 3) := by decide +kernel
theorem dX11_meets_81 : decode cX11_meets 81 = .ok (.iconst 0, 1) := by decide +kernel
theorem dX11_meets_82 : decode cX11_meets 82 = .ok (.istore 5, 2) := by decide +kernel
theorem dX11_meets_84 : decode cX11_meets 84 = .ok (.iload 4, 2) := by decide +kernel
theorem dX11_meets_86 : decode cX11_meets 86 = .ok (.iload_n 1, 1) := by decide +kernel
theorem dX11_meets_87 : decode cX11_meets 87 = .ok (.aload_n 0, 1) := by decide +kernel
theorem dX11_meets_88 : decode cX11_meets 88 = .ok (.getfield 34, 3) := by decide +kernel
theorem dX11_meets_91 : decode cX11_meets 91 = .ok (.iconst 1, 1) := by decide +kernel
theorem dX11_meets_92 : decode cX11_meets 92 = .ok (.iaload, 1) := by decide +kernel
theorem dX11_meets_93 : decode cX11_meets 93 = .ok (.invokestatic 166, 3) := by decide +kernel
theorem dX11_meets_96 : decode cX11_meets 96 = .ok (.iload 5, 2) := by decide +kernel
theorem dX11_meets_98 : decode cX11_meets 98 = .ok (.iload_n 2, 1) := by decide +kernel
theorem dX11_meets_99 : decode cX11_meets 99 = .ok (.aload_n 0, 1) := by decide +kernel
theorem dX11_meets_100 : decode cX11_meets 100 = .ok (.getfield 34, 3) := by decide +kernel
theorem dX11_meets_103 : decode cX11_meets 103 = .ok (.iconst 1, 1) := by decide +kernel
theorem dX11_meets_104 : decode cX11_meets 104 = .ok (.iaload, 1) := by decide +kernel
theorem dX11_meets_105 : decode cX11_meets 105 = .ok (.invokestatic 166, 3) := by decide +kernel
theorem dX11_meets_108 : decode cX11_meets 108 = .ok (.invokestatic 185, 3) := by decide +kernel
theorem dX11_meets_111 : decode cX11_meets 111 = .ok (.aload_n 0, 1) := by decide +kernel
theorem dX11_meets_112 : decode cX11_meets 112 = .ok (.getfield 34, 3) := by decide +kernel
theorem dX11_meets_115 : decode cX11_meets 115 = .ok (.iconst 0, 1) := by decide +kernel
theorem dX11_meets_116 : decode cX11_meets 116 = .ok (.iaload, 1) := by decide +kernel
theorem dX11_meets_117 : decode cX11_meets 117 = .ok (.if_icmp .gt 5, 3) := by decide +kernel
theorem dX11_meets_120 : decode cX11_meets 120 = .ok (.iload_n 3, 1) := by decide +kernel
theorem dX11_meets_121 : decode cX11_meets 121 = .ok (.ireturn, 1) := by decide +kernel
theorem dX11_meets_122 : decode cX11_meets 122 = .ok (.iinc 3 1, 3) := by decide +kernel
theorem dX11_meets_125 : decode cX11_meets 125 = .ok (.goto (-123), 3) := by decide +kernel
theorem dX11_meets_128 : decode cX11_meets 128 = .ok (.bipush (-9), 2) := by decide +kernel
theorem dX11_meets_130 : decode cX11_meets 130 = .ok (.ireturn, 1) := by decide +kernel
set_option maxRecDepth 20000 in
theorem ggX11_meet_X11_isLevel : GoodIn wsX11_meet wsX11_isLevel := goodIn_r _ [5, 6, 7, 8, 4, 9, 23, 24, 25, 26, 27, 28, 29, 30, 31, 32, 33, 34, 35, 36, 37, 38, 39, 40, 41, 42, 43, 44, 45, 46, 47, 48, 49, 50, 51, 52, 53, 54, 55, 56, 57, 58] (by decide +kernel) (by decide +kernel)
set_option maxRecDepth 20000 in
theorem gX11_meet_X11_isLevel : GoodIn wsX11_meet (wsV RX11 170 RX11 yX11_isLevel wsX11_isLevel) := goodIn_app (goodIn_of _ (by decide +kernel)) ggX11_meet_X11_isLevel
set_option maxRecDepth 20000 in
theorem ggX11_meet_X11_meets : GoodIn wsX11_meet wsX11_meets := goodIn_r _ [13, 14, 15, 16, 17, 18, 4, 19, 20, 21, 22, 23, 24, 25, 26, 27, 28, 29, 30, 31, 32, 33, 34, 35, 36, 37, 38, 39, 40, 41, 42, 43, 44, 45, 46, 47, 48, 49, 50, 51, 52, 53, 54, 55, 56, 57, 58] (by decide +kernel) (by decide +kernel)
set_option maxRecDepth 20000 in
theorem gX11_meet_X11_meets : GoodIn wsX11_meet (wsV RX11 234 RX11 yX11_meets wsX11_meets) := goodIn_app (goodIn_of _ (by decide +kernel)) ggX11_meet_X11_meets
theorem dX11_meet_0 : decode cX11_meet 0 = .ok (.aload_n 0, 1) := by decide +kernel
theorem dX11_meet_1 : decode cX11_meet 1 = .ok (.iload_n 1, 1) := by decide +kernel
theorem dX11_meet_2 : decode cX11_meet 2 = .ok (.invokevirtual 170, 3) := by decide +kernel
theorem dX11_meet_5 : decode cX11_meet 5 = .ok (.ifCond .eq 25, 3) := by decide +kernel
theorem dX11_meet_8 : decode cX11_meet 8 = .ok (.aload_n 0, 1) := by decide +kernel
theorem dX11_meet_9 : decode cX11_meet 9 = .ok (.iload_n 2, 1) := by decide +kernel
theorem dX11_meet_10 : decode cX11_meet 10 = .ok (.invokevirtual 170, 3) := by decide +kernel
theorem dX11_meet_13 : decode cX11_meet 13 = .ok (.ifCond .eq 17, 3) := by decide +kernel
theorem dX11_meet_16 : decode cX11_meet 16 = .ok (.iload_n 1, 1) := by decide +kernel
theorem dX11_meet_17 : decode cX11_meet 17 = .ok (.iload_n 2, 1) := by decide +kernel
theorem dX11_meet_18 : decode cX11_meet 18 = .ok (.if_icmp .eq 12, 3) := by decide +kernel
theorem dX11_meet_21 : decode cX11_meet 21 = .ok (.aload_n 0, 1) := by decide +kernel
theorem dX11_meet_22 : decode cX11_meet 22 = .ok (.iload_n 1, 1) := by decide +kernel
theorem dX11_meet_23 : decode cX11_meet 23 = .ok (.iload_n 2, 1) := by decide +kernel
theorem dX11_meet_24 : decode cX11_meet 24 = .ok (.invokevirtual 234, 3) := by decide +kernel
theorem dX11_meet_27 : decode cX11_meet 27 = .ok (.goto 4, 3) := by decide +kernel
theorem dX11_meet_30 : decode cX11_meet 30 = .ok (.iconst (-1), 1) := by decide +kernel
theorem dX11_meet_31 : decode cX11_meet 31 = .ok (.ireturn, 1) := by decide +kernel
set_option maxRecDepth 20000 in
theorem ggX11_first_X11_meets : GoodIn wsX11_first wsX11_meets := goodIn_r _ [6, 7, 8, 9, 10, 11, 5, 12, 13, 14, 15, 16, 17, 18, 19, 20, 21, 22, 23, 24, 25, 26, 27, 28, 29, 30, 31, 32, 33, 34, 35, 36, 37, 38, 39, 40, 41, 42, 43, 44, 45, 46, 47, 48, 49, 50, 51] (by decide +kernel) (by decide +kernel)
set_option maxRecDepth 20000 in
theorem gX11_first_X11_meets : GoodIn wsX11_first (wsV RX11 234 RX11 yX11_meets wsX11_meets) := goodIn_app (goodIn_of _ (by decide +kernel)) ggX11_first_X11_meets
theorem dX11_first_0 : decode cX11_first 0 = .ok (.bipush (-9), 2) := by decide +kernel
theorem dX11_first_2 : decode cX11_first 2 = .ok (.istore_n 1, 1) := by decide +kernel
theorem dX11_first_3 : decode cX11_first 3 = .ok (.bipush 100, 2) := by decide +kernel
theorem dX11_first_5 : decode cX11_first 5 = .ok (.istore_n 2, 1) := by decide +kernel
theorem dX11_first_6 : decode cX11_first 6 = .ok (.iconst 0, 1) := by decide +kernel
theorem dX11_first_7 : decode cX11_first 7 = .ok (.istore_n 3, 1) := by decide +kernel
theorem dX11_first_8 : decode cX11_first 8 = .ok (.iload_n 3, 1) := by decide +kernel
theorem dX11_first_9 : decode cX11_first 9 = .ok (.aload_n 0, 1) := by decide +kernel
theorem dX11_first_10 : decode cX11_first 10 = .ok (.getfield 147, 3) := by decide +kernel
theorem dX11_first_13 : decode cX11_first 13 = .ok (.if_icmp .ge 87, 3) := by decide +kernel
theorem dX11_first_16 : decode cX11_first 16 = .ok (.iload_n 3, 1) := by decide +kernel
theorem dX11_first_17 : decode cX11_first 17 = .ok (.iconst 1, 1) := by decide +kernel
theorem dX11_first_18 : decode cX11_first 18 = .ok (.iadd, 1) := by decide +kernel
theorem dX11_first_19 : decode cX11_first 19 = .ok (.istore 4, 2) := by decide +kernel
theorem dX11_first_21 : decode cX11_first 21 = .ok (.iload 4, 2) := by decide +kernel
theorem dX11_first_23 : decode cX11_first 23 = .ok (.aload_n 0, 1) := by decide +kernel
theorem dX11_first_24 : decode cX11_first 24 = .ok (.getfield 147, 3) := by decide +kernel
theorem dX11_first_27 : decode cX11_first 27 = .ok (.if_icmp .ge 67, 3) := by decide +kernel
theorem dX11_first_30 : decode cX11_first 30 = .ok (.aload_n 0, 1) := by decide +kernel
theorem dX11_first_31 : decode cX11_first 31 = .ok (.iload_n 3, 1) := by decide +kernel
theorem dX11_first_32 : decode cX11_first 32 = .ok (.iload 4, 2) := by decide +kernel
theorem dX11_first_34 : decode cX11_first 34 = .ok (.invokevirtual 234, 3) := by decide +kernel
theorem dX11_first_37 : decode cX11_first 37 = .ok (.istore 5, 2) := by decide +kernel
theorem dX11_first_39 : decode cX11_first 39 = .ok (.iload 5, 2) := by decide +kernel
theorem dX11_first_41 : decode cX11_first 41 = .ok (.bipush (-9), 2) := by decide +kernel
theorem dX11_first_43 : decode cX11_first 43 = .ok (.if_icmp .eq 13, 3) := by decide +kernel
theorem dX11_first_46 : decode cX11_first 46 = .ok (.iload 5, 2) := by decide +kernel
theorem dX11_first_48 : decode cX11_first 48 = .ok (.iload_n 2, 1) := by decide +kernel
theorem dX11_first_49 : decode cX11_first 49 = .ok (.if_icmp .ge 7, 3) := by decide +kernel
theorem dX11_first_52 : decode cX11_first 52 = .ok (.iconst 1, 1) := by decide +kernel
theorem dX11_first_53 : decode cX11_first 53 = .ok (.goto 4, 3) := by decide +kernel
theorem dX11_first_56 : decode cX11_first 56 = .ok (.iconst 0, 1) := by decide +kernel
theorem dX11_first_57 : decode cX11_first 57 = .ok (.istore 6, 2) := by decide +kernel
theorem dX11_first_59 : decode cX11_first 59 = .ok (.iload 6, 2) := by decide +kernel
theorem dX11_first_61 : decode cX11_first 61 = .ok (.ifCond .eq 13, 3) := by decide +kernel
theorem dX11_first_64 : decode cX11_first 64 = .ok (.bipush 10, 2) := by decide +kernel
theorem dX11_first_66 : decode cX11_first 66 = .ok (.iload_n 3, 1) := by decide +kernel
theorem dX11_first_67 : decode cX11_first 67 = .ok (.imul, 1) := by decide +kernel
theorem dX11_first_68 : decode cX11_first 68 = .ok (.iload 4, 2) := by decide +kernel
theorem dX11_first_70 : decode cX11_first 70 = .ok (.iadd, 1) := by decide +kernel
theorem dX11_first_71 : decode cX11_first 71 = .ok (.goto 4, 3) := by decide +kernel
theorem dX11_first_74 : decode cX11_first 74 = .ok (.iload_n 1, 1) := by decide +kernel
theorem dX11_first_75 : decode cX11_first 75 = .ok (.istore_n 1, 1) := by decide +kernel
theorem dX11_first_76 : decode cX11_first 76 = .ok (.iload 6, 2) := by decide +kernel
theorem dX11_first_78 : decode cX11_first 78 = .ok (.ifCond .eq 8, 3) := by decide +kernel
theorem dX11_first_81 : decode cX11_first 81 = .ok (.iload 5, 2) := by decide +kernel
theorem dX11_first_83 : decode cX11_first 83 = .ok (.goto 4, 3) := by decide +kernel
theorem dX11_first_86 : decode cX11_first 86 = .ok (.iload_n 2, 1) := by decide +kernel
theorem dX11_first_87 : decode cX11_first 87 = .ok (.istore_n 2, 1) := by decide +kernel
theorem dX11_first_88 : decode cX11_first 88 = .ok (.iinc 4 1, 3) := by decide +kernel
theorem dX11_first_91 : decode cX11_first 91 = .ok (.goto (-70), 3) := by decide +kernel
theorem dX11_first_94 : decode cX11_first 94 = .ok (.iinc 3 1, 3) := by decide +kernel
theorem dX11_first_97 : decode cX11_first 97 = .ok (.goto (-89), 3) := by decide +kernel
theorem dX11_first_100 : decode cX11_first 100 = .ok (.iload_n 1, 1) := by decide +kernel
theorem dX11_first_101 : decode cX11_first 101 = .ok (.ireturn, 1) := by decide +kernel
set_option maxRecDepth 20000 in
theorem ggX11_sing_X11_isNote : GoodIn wsX11_sing wsX11_isNote := goodIn_r _ [6, 7, 8, 9, 10, 5, 11] (by decide +kernel) (by decide +kernel)
set_option maxRecDepth 20000 in
theorem gX11_sing_X11_isNote : GoodIn wsX11_sing (va_wsS RX11 191 yX11_isNote wsX11_isNote) := goodIn_app (goodIn_of _ (by decide +kernel)) ggX11_sing_X11_isNote
theorem dX11_sing_0 : decode cX11_sing 0 = .ok (.iload_n 1, 1) := by decide +kernel
theorem dX11_sing_1 : decode cX11_sing 1 = .ok (.invokestatic 191, 3) := by decide +kernel
theorem dX11_sing_4 : decode cX11_sing 4 = .ok (.ifCond .ne 5, 3) := by decide +kernel
theorem dX11_sing_7 : decode cX11_sing 7 = .ok (.iconst (-1), 1) := by decide +kernel
theorem dX11_sing_8 : decode cX11_sing 8 = .ok (.ireturn, 1) := by decide +kernel
theorem dX11_sing_9 : decode cX11_sing 9 = .ok (.aload_n 0, 1) := by decide +kernel
theorem dX11_sing_10 : decode cX11_sing 10 = .ok (.getfield 159, 3) := by decide +kernel
theorem dX11_sing_13 : decode cX11_sing 13 = .ok (.bipush 8, 2) := by decide +kernel
theorem dX11_sing_15 : decode cX11_sing 15 = .ok (.if_icmp .ne 6, 3) := by decide +kernel
theorem dX11_sing_18 : decode cX11_sing 18 = .ok (.bipush (-3), 2) := by decide +kernel
theorem dX11_sing_20 : decode cX11_sing 20 = .ok (.ireturn, 1) := by decide +kernel
theorem dX11_sing_21 : decode cX11_sing 21 = .ok (.aload_n 0, 1) := by decide +kernel
theorem dX11_sing_22 : decode cX11_sing 22 = .ok (.getfield 62, 3) := by decide +kernel
theorem dX11_sing_25 : decode cX11_sing 25 = .ok (.aload_n 0, 1) := by decide +kernel
theorem dX11_sing_26 : decode cX11_sing 26 = .ok (.getfield 159, 3) := by decide +kernel
theorem dX11_sing_29 : decode cX11_sing 29 = .ok (.iload_n 1, 1) := by decide +kernel
theorem dX11_sing_30 : decode cX11_sing 30 = .ok (.iastore, 1) := by decide +kernel
theorem dX11_sing_31 : decode cX11_sing 31 = .ok (.aload_n 0, 1) := by decide +kernel
theorem dX11_sing_32 : decode cX11_sing 32 = .ok (.dup, 1) := by decide +kernel
theorem dX11_sing_33 : decode cX11_sing 33 = .ok (.getfield 159, 3) := by decide +kernel
theorem dX11_sing_36 : decode cX11_sing 36 = .ok (.iconst 1, 1) := by decide +kernel
theorem dX11_sing_37 : decode cX11_sing 37 = .ok (.iadd, 1) := by decide +kernel
theorem dX11_sing_38 : decode cX11_sing 38 = .ok (.putfield 159, 3) := by decide +kernel
theorem dX11_sing_41 : decode cX11_sing 41 = .ok (.aload_n 0, 1) := by decide +kernel
theorem dX11_sing_42 : decode cX11_sing 42 = .ok (.getfield 159, 3) := by decide +kernel
theorem dX11_sing_45 : decode cX11_sing 45 = .ok (.ireturn, 1) := by decide +kernel
theorem dX11_hush_0 : decode cX11_hush 0 = .ok (.aload_n 0, 1) := by decide +kernel
theorem dX11_hush_1 : decode cX11_hush 1 = .ok (.getfield 159, 3) := by decide +kernel
theorem dX11_hush_4 : decode cX11_hush 4 = .ok (.istore_n 1, 1) := by decide +kernel
theorem dX11_hush_5 : decode cX11_hush 5 = .ok (.aload_n 0, 1) := by decide +kernel
theorem dX11_hush_6 : decode cX11_hush 6 = .ok (.iconst 0, 1) := by decide +kernel
theorem dX11_hush_7 : decode cX11_hush 7 = .ok (.putfield 159, 3) := by decide +kernel
theorem dX11_hush_10 : decode cX11_hush 10 = .ok (.iload_n 1, 1) := by decide +kernel
theorem dX11_hush_11 : decode cX11_hush 11 = .ok (.ireturn, 1) := by decide +kernel
theorem dX11_place_0 : decode cX11_place 0 = .ok (.iload_n 0, 1) := by decide +kernel
theorem dX11_place_1 : decode cX11_place 1 = .ok (.iconst 3, 1) := by decide +kernel
theorem dX11_place_2 : decode cX11_place 2 = .ok (.iload_n 1, 1) := by decide +kernel
theorem dX11_place_3 : decode cX11_place 3 = .ok (.imul, 1) := by decide +kernel
theorem dX11_place_4 : decode cX11_place 4 = .ok (.ishr, 1) := by decide +kernel
theorem dX11_place_5 : decode cX11_place 5 = .ok (.bipush 7, 2) := by decide +kernel
theorem dX11_place_7 : decode cX11_place 7 = .ok (.iand, 1) := by decide +kernel
theorem dX11_place_8 : decode cX11_place 8 = .ok (.ireturn, 1) := by decide +kernel
set_option maxRecDepth 20000 in
theorem ggX11_moved_X11_place : GoodIn wsX11_moved wsX11_place := goodIn_r _ [4] (by decide +kernel) (by decide +kernel)
set_option maxRecDepth 20000 in
theorem gX11_moved_X11_place : GoodIn wsX11_moved (va_wsS RX11 237 yX11_place wsX11_place) := goodIn_app (goodIn_of _ (by decide +kernel)) ggX11_moved_X11_place
theorem dX11_moved_0 : decode cX11_moved 0 = .ok (.iload_n 0, 1) := by decide +kernel
theorem dX11_moved_1 : decode cX11_moved 1 = .ok (.iload_n 2, 1) := by decide +kernel
theorem dX11_moved_2 : decode cX11_moved 2 = .ok (.iload_n 0, 1) := by decide +kernel
theorem dX11_moved_3 : decode cX11_moved 3 = .ok (.iload_n 1, 1) := by decide +kernel
theorem dX11_moved_4 : decode cX11_moved 4 = .ok (.invokestatic 237, 3) := by decide +kernel
theorem dX11_moved_7 : decode cX11_moved 7 = .ok (.isub, 1) := by decide +kernel
theorem dX11_moved_8 : decode cX11_moved 8 = .ok (.iconst 3, 1) := by decide +kernel
theorem dX11_moved_9 : decode cX11_moved 9 = .ok (.iload_n 1, 1) := by decide +kernel
theorem dX11_moved_10 : decode cX11_moved 10 = .ok (.imul, 1) := by decide +kernel
theorem dX11_moved_11 : decode cX11_moved 11 = .ok (.ishl, 1) := by decide +kernel
theorem dX11_moved_12 : decode cX11_moved 12 = .ok (.iadd, 1) := by decide +kernel
theorem dX11_moved_13 : decode cX11_moved 13 = .ok (.ireturn, 1) := by decide +kernel
set_option maxRecDepth 20000 in
theorem ggX11_costs_X11_moved : GoodIn wsX11_costs wsX11_moved := goodIn_r _ [5, 6, 7, 4, 8] (by decide +kernel) (by decide +kernel)
set_option maxRecDepth 20000 in
theorem gX11_costs_X11_moved : GoodIn wsX11_costs (va_wsS RX11 240 yX11_moved wsX11_moved) := goodIn_app (goodIn_of _ (by decide +kernel)) ggX11_costs_X11_moved
set_option maxRecDepth 20000 in
theorem ggX11_costs_X11_place : GoodIn wsX11_costs wsX11_place := goodIn_r _ [8] (by decide +kernel) (by decide +kernel)
set_option maxRecDepth 20000 in
theorem gX11_costs_X11_place : GoodIn wsX11_costs (va_wsS RX11 237 yX11_place wsX11_place) := goodIn_app (goodIn_of _ (by decide +kernel)) ggX11_costs_X11_place
set_option maxRecDepth 20000 in
theorem ggX11_costs_X11_away : GoodIn wsX11_costs wsX11_away := goodIn_r _ [11] (by decide +kernel) (by decide +kernel)
set_option maxRecDepth 20000 in
theorem gX11_costs_X11_away : GoodIn wsX11_costs (va_wsS RX11 185 yX11_away wsX11_away) := goodIn_app (goodIn_of _ (by decide +kernel)) ggX11_costs_X11_away
theorem dX11_costs_0 : decode cX11_costs 0 = .ok (.aload_n 0, 1) := by decide +kernel
theorem dX11_costs_1 : decode cX11_costs 1 = .ok (.getfield 65, 3) := by decide +kernel
theorem dX11_costs_4 : decode cX11_costs 4 = .ok (.sipush 512, 3) := by decide +kernel
theorem dX11_costs_7 : decode cX11_costs 7 = .ok (.iload_n 1, 1) := by decide +kernel
theorem dX11_costs_8 : decode cX11_costs 8 = .ok (.imul, 1) := by decide +kernel
theorem dX11_costs_9 : decode cX11_costs 9 = .ok (.sipush 512, 3) := by decide +kernel
theorem dX11_costs_12 : decode cX11_costs 12 = .ok (.iadd, 1) := by decide +kernel
theorem dX11_costs_13 : decode cX11_costs 13 = .ok (.iload_n 2, 1) := by decide +kernel
theorem dX11_costs_14 : decode cX11_costs 14 = .ok (.iload_n 3, 1) := by decide +kernel
theorem dX11_costs_15 : decode cX11_costs 15 = .ok (.iload 4, 2) := by decide +kernel
theorem dX11_costs_17 : decode cX11_costs 17 = .ok (.invokestatic 240, 3) := by decide +kernel
theorem dX11_costs_20 : decode cX11_costs 20 = .ok (.iadd, 1) := by decide +kernel
theorem dX11_costs_21 : decode cX11_costs 21 = .ok (.iaload, 1) := by decide +kernel
theorem dX11_costs_22 : decode cX11_costs 22 = .ok (.istore 5, 2) := by decide +kernel
theorem dX11_costs_24 : decode cX11_costs 24 = .ok (.iload 5, 2) := by decide +kernel
theorem dX11_costs_26 : decode cX11_costs 26 = .ok (.bipush (-9), 2) := by decide +kernel
theorem dX11_costs_28 : decode cX11_costs 28 = .ok (.if_icmp .ne 8, 3) := by decide +kernel
theorem dX11_costs_31 : decode cX11_costs 31 = .ok (.bipush (-9), 2) := by decide +kernel
theorem dX11_costs_33 : decode cX11_costs 33 = .ok (.goto 16, 3) := by decide +kernel
theorem dX11_costs_36 : decode cX11_costs 36 = .ok (.iload 5, 2) := by decide +kernel
theorem dX11_costs_38 : decode cX11_costs 38 = .ok (.iload_n 2, 1) := by decide +kernel
theorem dX11_costs_39 : decode cX11_costs 39 = .ok (.iload_n 3, 1) := by decide +kernel
theorem dX11_costs_40 : decode cX11_costs 40 = .ok (.invokestatic 237, 3) := by decide +kernel
theorem dX11_costs_43 : decode cX11_costs 43 = .ok (.iload 4, 2) := by decide +kernel
theorem dX11_costs_45 : decode cX11_costs 45 = .ok (.invokestatic 185, 3) := by decide +kernel
theorem dX11_costs_48 : decode cX11_costs 48 = .ok (.iadd, 1) := by decide +kernel
theorem dX11_costs_49 : decode cX11_costs 49 = .ok (.ireturn, 1) := by decide +kernel
set_option maxRecDepth 20000 in
theorem ggX11_plays_X11_comesOf : GoodIn wsX11_plays wsX11_comesOf := goodIn_r _ [9, 10, 11, 12, 13, 14, 8, 15, 16, 17, 18, 19, 20, 21, 22, 33, 34, 35, 36, 37, 38, 39, 40, 41, 42, 43, 44, 45, 46, 47, 48, 49, 50, 51, 52, 53, 54, 55, 56, 57, 58, 59, 60, 61, 62, 63, 64, 65, 66, 67, 68] (by decide +kernel) (by decide +kernel)
set_option maxRecDepth 20000 in
theorem gX11_plays_X11_comesOf : GoodIn wsX11_plays (wsV RX11 188 RX11 yX11_comesOf wsX11_comesOf) := goodIn_app (goodIn_of _ (by decide +kernel)) ggX11_plays_X11_comesOf
set_option maxRecDepth 20000 in
theorem ggX11_plays_X11_costs : GoodIn wsX11_plays wsX11_costs := goodIn_r _ [26, 1, 27, 28, 8, 29, 30, 31, 32, 20, 21, 22, 33, 34, 35, 36, 37, 38, 39, 40, 41, 42, 43, 44, 45, 46, 47, 48, 49, 50, 51, 52, 53, 54, 55, 56, 57, 58, 59, 60, 61, 62, 63, 64, 65, 66, 67, 68] (by decide +kernel) (by decide +kernel)
set_option maxRecDepth 20000 in
theorem gX11_plays_X11_costs : GoodIn wsX11_plays (wsV RX11 243 RX11 yX11_costs wsX11_costs) := goodIn_app (goodIn_of _ (by decide +kernel)) ggX11_plays_X11_costs
theorem dX11_plays_0 : decode cX11_plays 0 = .ok (.iconst 0, 1) := by decide +kernel
theorem dX11_plays_1 : decode cX11_plays 1 = .ok (.istore_n 1, 1) := by decide +kernel
theorem dX11_plays_2 : decode cX11_plays 2 = .ok (.iload_n 1, 1) := by decide +kernel
theorem dX11_plays_3 : decode cX11_plays 3 = .ok (.sipush 512, 3) := by decide +kernel
theorem dX11_plays_6 : decode cX11_plays 6 = .ok (.if_icmp .ge 25, 3) := by decide +kernel
theorem dX11_plays_9 : decode cX11_plays 9 = .ok (.aload_n 0, 1) := by decide +kernel
theorem dX11_plays_10 : decode cX11_plays 10 = .ok (.getfield 65, 3) := by decide +kernel
theorem dX11_plays_13 : decode cX11_plays 13 = .ok (.sipush 512, 3) := by decide +kernel
theorem dX11_plays_16 : decode cX11_plays 16 = .ok (.aload_n 0, 1) := by decide +kernel
theorem dX11_plays_17 : decode cX11_plays 17 = .ok (.getfield 159, 3) := by decide +kernel
theorem dX11_plays_20 : decode cX11_plays 20 = .ok (.imul, 1) := by decide +kernel
theorem dX11_plays_21 : decode cX11_plays 21 = .ok (.iload_n 1, 1) := by decide +kernel
theorem dX11_plays_22 : decode cX11_plays 22 = .ok (.iadd, 1) := by decide +kernel
theorem dX11_plays_23 : decode cX11_plays 23 = .ok (.iconst 0, 1) := by decide +kernel
theorem dX11_plays_24 : decode cX11_plays 24 = .ok (.iastore, 1) := by decide +kernel
theorem dX11_plays_25 : decode cX11_plays 25 = .ok (.iinc 1 1, 3) := by decide +kernel
theorem dX11_plays_28 : decode cX11_plays 28 = .ok (.goto (-26), 3) := by decide +kernel
theorem dX11_plays_31 : decode cX11_plays 31 = .ok (.aload_n 0, 1) := by decide +kernel
theorem dX11_plays_32 : decode cX11_plays 32 = .ok (.getfield 159, 3) := by decide +kernel
theorem dX11_plays_35 : decode cX11_plays 35 = .ok (.iconst 1, 1) := by decide +kernel
theorem dX11_plays_36 : decode cX11_plays 36 = .ok (.isub, 1) := by decide +kernel
theorem dX11_plays_37 : decode cX11_plays 37 = .ok (.istore_n 1, 1) := by decide +kernel
theorem dX11_plays_38 : decode cX11_plays 38 = .ok (.iload_n 1, 1) := by decide +kernel
theorem dX11_plays_39 : decode cX11_plays 39 = .ok (.ifCond .lt 140, 3) := by decide +kernel
theorem dX11_plays_42 : decode cX11_plays 42 = .ok (.aload_n 0, 1) := by decide +kernel
theorem dX11_plays_43 : decode cX11_plays 43 = .ok (.aload_n 0, 1) := by decide +kernel
theorem dX11_plays_44 : decode cX11_plays 44 = .ok (.getfield 62, 3) := by decide +kernel
theorem dX11_plays_47 : decode cX11_plays 47 = .ok (.iload_n 1, 1) := by decide +kernel
theorem dX11_plays_48 : decode cX11_plays 48 = .ok (.iaload, 1) := by decide +kernel
theorem dX11_plays_49 : decode cX11_plays 49 = .ok (.invokevirtual 188, 3) := by decide +kernel
theorem dX11_plays_52 : decode cX11_plays 52 = .ok (.istore_n 2, 1) := by decide +kernel
theorem dX11_plays_53 : decode cX11_plays 53 = .ok (.iconst 0, 1) := by decide +kernel
theorem dX11_plays_54 : decode cX11_plays 54 = .ok (.istore_n 3, 1) := by decide +kernel
theorem dX11_plays_55 : decode cX11_plays 55 = .ok (.iload_n 3, 1) := by decide +kernel
theorem dX11_plays_56 : decode cX11_plays 56 = .ok (.sipush 512, 3) := by decide +kernel
theorem dX11_plays_59 : decode cX11_plays 59 = .ok (.if_icmp .ge 114, 3) := by decide +kernel
theorem dX11_plays_62 : decode cX11_plays 62 = .ok (.bipush (-9), 2) := by decide +kernel
theorem dX11_plays_64 : decode cX11_plays 64 = .ok (.istore 4, 2) := by decide +kernel
theorem dX11_plays_66 : decode cX11_plays 66 = .ok (.iconst 0, 1) := by decide +kernel
theorem dX11_plays_67 : decode cX11_plays 67 = .ok (.istore 5, 2) := by decide +kernel
theorem dX11_plays_69 : decode cX11_plays 69 = .ok (.iload 5, 2) := by decide +kernel
theorem dX11_plays_71 : decode cX11_plays 71 = .ok (.bipush 8, 2) := by decide +kernel
theorem dX11_plays_73 : decode cX11_plays 73 = .ok (.aload_n 0, 1) := by decide +kernel
theorem dX11_plays_74 : decode cX11_plays 74 = .ok (.getfield 150, 3) := by decide +kernel
theorem dX11_plays_77 : decode cX11_plays 77 = .ok (.imul, 1) := by decide +kernel
theorem dX11_plays_78 : decode cX11_plays 78 = .ok (.if_icmp .ge 75, 3) := by decide +kernel
theorem dX11_plays_81 : decode cX11_plays 81 = .ok (.iload_n 2, 1) := by decide +kernel
theorem dX11_plays_82 : decode cX11_plays 82 = .ok (.iload 5, 2) := by decide +kernel
theorem dX11_plays_84 : decode cX11_plays 84 = .ok (.bipush 8, 2) := by decide +kernel
theorem dX11_plays_86 : decode cX11_plays 86 = .ok (.irem, 1) := by decide +kernel
theorem dX11_plays_87 : decode cX11_plays 87 = .ok (.ishr, 1) := by decide +kernel
theorem dX11_plays_88 : decode cX11_plays 88 = .ok (.iconst 1, 1) := by decide +kernel
theorem dX11_plays_89 : decode cX11_plays 89 = .ok (.iand, 1) := by decide +kernel
theorem dX11_plays_90 : decode cX11_plays 90 = .ok (.iconst 1, 1) := by decide +kernel
theorem dX11_plays_91 : decode cX11_plays 91 = .ok (.if_icmp .ne 22, 3) := by decide +kernel
theorem dX11_plays_94 : decode cX11_plays 94 = .ok (.aload_n 0, 1) := by decide +kernel
theorem dX11_plays_95 : decode cX11_plays 95 = .ok (.iload_n 1, 1) := by decide +kernel
theorem dX11_plays_96 : decode cX11_plays 96 = .ok (.iload_n 3, 1) := by decide +kernel
theorem dX11_plays_97 : decode cX11_plays 97 = .ok (.iload 5, 2) := by decide +kernel
theorem dX11_plays_99 : decode cX11_plays 99 = .ok (.bipush 8, 2) := by decide +kernel
theorem dX11_plays_101 : decode cX11_plays 101 = .ok (.idiv, 1) := by decide +kernel
theorem dX11_plays_102 : decode cX11_plays 102 = .ok (.iload 5, 2) := by decide +kernel
theorem dX11_plays_104 : decode cX11_plays 104 = .ok (.bipush 8, 2) := by decide +kernel
theorem dX11_plays_106 : decode cX11_plays 106 = .ok (.irem, 1) := by decide +kernel
theorem dX11_plays_107 : decode cX11_plays 107 = .ok (.invokevirtual 243, 3) := by decide +kernel
theorem dX11_plays_110 : decode cX11_plays 110 = .ok (.goto 5, 3) := by decide +kernel
theorem dX11_plays_113 : decode cX11_plays 113 = .ok (.bipush (-9), 2) := by decide +kernel
theorem dX11_plays_115 : decode cX11_plays 115 = .ok (.istore 6, 2) := by decide +kernel
theorem dX11_plays_117 : decode cX11_plays 117 = .ok (.iload 6, 2) := by decide +kernel
theorem dX11_plays_119 : decode cX11_plays 119 = .ok (.bipush (-9), 2) := by decide +kernel
theorem dX11_plays_121 : decode cX11_plays 121 = .ok (.if_icmp .eq 22, 3) := by decide +kernel
theorem dX11_plays_124 : decode cX11_plays 124 = .ok (.iload 4, 2) := by decide +kernel
theorem dX11_plays_126 : decode cX11_plays 126 = .ok (.bipush (-9), 2) := by decide +kernel
theorem dX11_plays_128 : decode cX11_plays 128 = .ok (.if_icmp .eq 10, 3) := by decide +kernel
theorem dX11_plays_131 : decode cX11_plays 131 = .ok (.iload 6, 2) := by decide +kernel
theorem dX11_plays_133 : decode cX11_plays 133 = .ok (.iload 4, 2) := by decide +kernel
theorem dX11_plays_135 : decode cX11_plays 135 = .ok (.if_icmp .ge 8, 3) := by decide +kernel
theorem dX11_plays_138 : decode cX11_plays 138 = .ok (.iload 6, 2) := by decide +kernel
theorem dX11_plays_140 : decode cX11_plays 140 = .ok (.goto 5, 3) := by decide +kernel
theorem dX11_plays_143 : decode cX11_plays 143 = .ok (.iload 4, 2) := by decide +kernel
theorem dX11_plays_145 : decode cX11_plays 145 = .ok (.istore 4, 2) := by decide +kernel
theorem dX11_plays_147 : decode cX11_plays 147 = .ok (.iinc 5 1, 3) := by decide +kernel
theorem dX11_plays_150 : decode cX11_plays 150 = .ok (.goto (-81), 3) := by decide +kernel
theorem dX11_plays_153 : decode cX11_plays 153 = .ok (.aload_n 0, 1) := by decide +kernel
theorem dX11_plays_154 : decode cX11_plays 154 = .ok (.getfield 65, 3) := by decide +kernel
theorem dX11_plays_157 : decode cX11_plays 157 = .ok (.sipush 512, 3) := by decide +kernel
theorem dX11_plays_160 : decode cX11_plays 160 = .ok (.iload_n 1, 1) := by decide +kernel
theorem dX11_plays_161 : decode cX11_plays 161 = .ok (.imul, 1) := by decide +kernel
theorem dX11_plays_162 : decode cX11_plays 162 = .ok (.iload_n 3, 1) := by decide +kernel
theorem dX11_plays_163 : decode cX11_plays 163 = .ok (.iadd, 1) := by decide +kernel
theorem dX11_plays_164 : decode cX11_plays 164 = .ok (.iload 4, 2) := by decide +kernel
theorem dX11_plays_166 : decode cX11_plays 166 = .ok (.iastore, 1) := by decide +kernel
theorem dX11_plays_167 : decode cX11_plays 167 = .ok (.iinc 3 1, 3) := by decide +kernel
theorem dX11_plays_170 : decode cX11_plays 170 = .ok (.goto (-115), 3) := by decide +kernel
theorem dX11_plays_173 : decode cX11_plays 173 = .ok (.iinc 1 (-1), 3) := by decide +kernel
theorem dX11_plays_176 : decode cX11_plays 176 = .ok (.goto (-138), 3) := by decide +kernel
theorem dX11_plays_179 : decode cX11_plays 179 = .ok (.return_, 1) := by decide +kernel
theorem dX11_now_0 : decode cX11_now 0 = .ok (.aload_n 0, 1) := by decide +kernel
theorem dX11_now_1 : decode cX11_now 1 = .ok (.getfield 31, 3) := by decide +kernel
theorem dX11_now_4 : decode cX11_now 4 = .ok (.iconst 0, 1) := by decide +kernel
theorem dX11_now_5 : decode cX11_now 5 = .ok (.iaload, 1) := by decide +kernel
theorem dX11_now_6 : decode cX11_now 6 = .ok (.bipush 8, 2) := by decide +kernel
theorem dX11_now_8 : decode cX11_now 8 = .ok (.aload_n 0, 1) := by decide +kernel
theorem dX11_now_9 : decode cX11_now 9 = .ok (.getfield 31, 3) := by decide +kernel
theorem dX11_now_12 : decode cX11_now 12 = .ok (.iconst 1, 1) := by decide +kernel
theorem dX11_now_13 : decode cX11_now 13 = .ok (.iaload, 1) := by decide +kernel
theorem dX11_now_14 : decode cX11_now 14 = .ok (.imul, 1) := by decide +kernel
theorem dX11_now_15 : decode cX11_now 15 = .ok (.iadd, 1) := by decide +kernel
theorem dX11_now_16 : decode cX11_now 16 = .ok (.bipush 64, 2) := by decide +kernel
theorem dX11_now_18 : decode cX11_now 18 = .ok (.aload_n 0, 1) := by decide +kernel
theorem dX11_now_19 : decode cX11_now 19 = .ok (.getfield 31, 3) := by decide +kernel
theorem dX11_now_22 : decode cX11_now 22 = .ok (.iconst 2, 1) := by decide +kernel
theorem dX11_now_23 : decode cX11_now 23 = .ok (.iaload, 1) := by decide +kernel
theorem dX11_now_24 : decode cX11_now 24 = .ok (.imul, 1) := by decide +kernel
theorem dX11_now_25 : decode cX11_now 25 = .ok (.iadd, 1) := by decide +kernel
theorem dX11_now_26 : decode cX11_now 26 = .ok (.ireturn, 1) := by decide +kernel
set_option maxRecDepth 20000 in
theorem ggX11_climbing_X11_plays : GoodIn wsX11_climbing wsX11_plays := goodIn_r _ [6, 1, 7, 8, 9, 10, 11, 12, 5, 13, 14, 15, 16, 17, 18, 19, 20, 21, 22, 23, 24, 25, 26, 27, 28, 29, 30, 31, 32, 33, 34, 35, 36, 42, 43, 44, 45, 46, 47, 48, 49, 50, 51, 52, 53, 54, 55, 56, 57, 58, 59, 60, 61, 62, 63, 64, 65, 66, 67, 68, 69, 70, 71, 72, 73, 74, 75, 76, 77] (by decide +kernel) (by decide +kernel)
set_option maxRecDepth 20000 in
theorem gX11_climbing_X11_plays : GoodIn wsX11_climbing (wsV RX11 247 RX11 yX11_plays wsX11_plays) := goodIn_app (goodIn_of _ (by decide +kernel)) ggX11_climbing_X11_plays
set_option maxRecDepth 20000 in
theorem ggX11_climbing_X11_now : GoodIn wsX11_climbing wsX11_now := goodIn_r _ [40, 41, 42, 43, 44, 45, 46, 47, 48, 49, 50, 51, 52, 53, 54, 55, 56, 57, 58, 59, 60, 61, 62, 63, 64, 65, 66, 67, 68, 69, 70, 71, 72, 73, 74, 75, 76, 77] (by decide +kernel) (by decide +kernel)
set_option maxRecDepth 20000 in
theorem gX11_climbing_X11_now : GoodIn wsX11_climbing (wsV RX11 250 RX11 yX11_now wsX11_now) := goodIn_app (goodIn_of _ (by decide +kernel)) ggX11_climbing_X11_now
theorem dX11_climbing_0 : decode cX11_climbing 0 = .ok (.aload_n 0, 1) := by decide +kernel
theorem dX11_climbing_1 : decode cX11_climbing 1 = .ok (.invokevirtual 247, 3) := by decide +kernel
theorem dX11_climbing_4 : decode cX11_climbing 4 = .ok (.aload_n 0, 1) := by decide +kernel
theorem dX11_climbing_5 : decode cX11_climbing 5 = .ok (.getfield 65, 3) := by decide +kernel
theorem dX11_climbing_8 : decode cX11_climbing 8 = .ok (.aload_n 0, 1) := by decide +kernel
theorem dX11_climbing_9 : decode cX11_climbing 9 = .ok (.invokevirtual 250, 3) := by decide +kernel
theorem dX11_climbing_12 : decode cX11_climbing 12 = .ok (.iaload, 1) := by decide +kernel
theorem dX11_climbing_13 : decode cX11_climbing 13 = .ok (.ireturn, 1) := by decide +kernel
set_option maxRecDepth 20000 in
theorem ggX11_by_X11_in : GoodIn wsX11_by wsX11_in := goodIn_r _ [7] (by decide +kernel) (by decide +kernel)
set_option maxRecDepth 20000 in
theorem gX11_by_X11_in : GoodIn wsX11_by (va_wsS RX11 77 yX11_in wsX11_in) := goodIn_app (goodIn_of _ (by decide +kernel)) ggX11_by_X11_in
set_option maxRecDepth 20000 in
theorem ggX11_by_X11_plays : GoodIn wsX11_by wsX11_plays := goodIn_r _ [11, 2, 1, 3, 12, 13, 14, 15, 6, 16, 17, 18, 19, 20, 21, 22, 23, 24, 25, 26, 27, 28, 29, 30, 31, 32, 33, 34, 35, 36, 37, 38, 39, 45, 46, 47, 48, 49, 50, 51, 52, 53, 54, 55, 56, 57, 58, 59, 60, 61, 62, 63, 64, 65, 66, 67, 68, 69, 70, 71, 72, 73, 74, 75, 76, 77, 78, 79, 80] (by decide +kernel) (by decide +kernel)
set_option maxRecDepth 20000 in
theorem gX11_by_X11_plays : GoodIn wsX11_by (wsV RX11 247 RX11 yX11_plays wsX11_plays) := goodIn_app (goodIn_of _ (by decide +kernel)) ggX11_by_X11_plays
set_option maxRecDepth 20000 in
theorem ggX11_by_X11_now : GoodIn wsX11_by wsX11_now := goodIn_r _ [43, 44, 45, 46, 47, 48, 49, 50, 51, 52, 53, 54, 55, 56, 57, 58, 59, 60, 61, 62, 63, 64, 65, 66, 67, 68, 69, 70, 71, 72, 73, 74, 75, 76, 77, 78, 79, 80] (by decide +kernel) (by decide +kernel)
set_option maxRecDepth 20000 in
theorem gX11_by_X11_now : GoodIn wsX11_by (wsV RX11 250 RX11 yX11_now wsX11_now) := goodIn_app (goodIn_of _ (by decide +kernel)) ggX11_by_X11_now
set_option maxRecDepth 20000 in
theorem ggX11_by_X11_comesOf : GoodIn wsX11_by wsX11_comesOf := goodIn_r _ [16, 17, 18, 19, 20, 21, 6, 22, 23, 24, 25, 26, 27, 28, 29, 45, 46, 47, 48, 49, 50, 51, 52, 53, 54, 55, 56, 57, 58, 59, 60, 61, 62, 63, 64, 65, 66, 67, 68, 69, 70, 71, 72, 73, 74, 75, 76, 77, 78, 79, 80] (by decide +kernel) (by decide +kernel)
set_option maxRecDepth 20000 in
theorem gX11_by_X11_comesOf : GoodIn wsX11_by (wsV RX11 188 RX11 yX11_comesOf wsX11_comesOf) := goodIn_app (goodIn_of _ (by decide +kernel)) ggX11_by_X11_comesOf
set_option maxRecDepth 20000 in
theorem ggX11_by_X11_costs : GoodIn wsX11_by wsX11_costs := goodIn_r _ [33, 2, 34, 35, 6, 36, 37, 38, 39, 27, 28, 29, 45, 46, 47, 48, 49, 50, 51, 52, 53, 54, 55, 56, 57, 58, 59, 60, 61, 62, 63, 64, 65, 66, 67, 68, 69, 70, 71, 72, 73, 74, 75, 76, 77, 78, 79, 80] (by decide +kernel) (by decide +kernel)
set_option maxRecDepth 20000 in
theorem gX11_by_X11_costs : GoodIn wsX11_by (wsV RX11 243 RX11 yX11_costs wsX11_costs) := goodIn_app (goodIn_of _ (by decide +kernel)) ggX11_by_X11_costs
set_option maxRecDepth 20000 in
theorem ggX11_by_X11_moved : GoodIn wsX11_by wsX11_moved := goodIn_r _ [36, 37, 38, 6, 39] (by decide +kernel) (by decide +kernel)
set_option maxRecDepth 20000 in
theorem gX11_by_X11_moved : GoodIn wsX11_by (va_wsS RX11 240 yX11_moved wsX11_moved) := goodIn_app (goodIn_of _ (by decide +kernel)) ggX11_by_X11_moved
theorem dX11_by_0 : decode cX11_by 0 = .ok (.iload_n 1, 1) := by decide +kernel
theorem dX11_by_1 : decode cX11_by 1 = .ok (.i2l, 1) := by decide +kernel
theorem dX11_by_2 : decode cX11_by 2 = .ok (.lconst 0, 1) := by decide +kernel
theorem dX11_by_3 : decode cX11_by 3 = .ok (.aload_n 0, 1) := by decide +kernel
theorem dX11_by_4 : decode cX11_by 4 = .ok (.getfield 159, 3) := by decide +kernel
theorem dX11_by_7 : decode cX11_by 7 = .ok (.iconst 1, 1) := by decide +kernel
theorem dX11_by_8 : decode cX11_by 8 = .ok (.isub, 1) := by decide +kernel
theorem dX11_by_9 : decode cX11_by 9 = .ok (.i2l, 1) := by decide +kernel
theorem dX11_by_10 : decode cX11_by 10 = .ok (.invokestatic 77, 3) := by decide +kernel
theorem dX11_by_13 : decode cX11_by 13 = .ok (.ifCond .eq 13, 3) := by decide +kernel
theorem dX11_by_16 : decode cX11_by 16 = .ok (.iload_n 2, 1) := by decide +kernel
theorem dX11_by_17 : decode cX11_by 17 = .ok (.i2l, 1) := by decide +kernel
theorem dX11_by_18 : decode cX11_by 18 = .ok (.lconst 0, 1) := by decide +kernel
theorem dX11_by_19 : decode cX11_by 19 = .ok (.lconst 1, 1) := by decide +kernel
theorem dX11_by_20 : decode cX11_by 20 = .ok (.invokestatic 77, 3) := by decide +kernel
theorem dX11_by_23 : decode cX11_by 23 = .ok (.ifCond .ne 5, 3) := by decide +kernel
theorem dX11_by_26 : decode cX11_by 26 = .ok (.iconst (-1), 1) := by decide +kernel
theorem dX11_by_27 : decode cX11_by 27 = .ok (.ireturn, 1) := by decide +kernel
theorem dX11_by_28 : decode cX11_by 28 = .ok (.aload_n 0, 1) := by decide +kernel
theorem dX11_by_29 : decode cX11_by 29 = .ok (.invokevirtual 247, 3) := by decide +kernel
theorem dX11_by_32 : decode cX11_by 32 = .ok (.aload_n 0, 1) := by decide +kernel
theorem dX11_by_33 : decode cX11_by 33 = .ok (.invokevirtual 250, 3) := by decide +kernel
theorem dX11_by_36 : decode cX11_by 36 = .ok (.istore_n 3, 1) := by decide +kernel
theorem dX11_by_37 : decode cX11_by 37 = .ok (.aload_n 0, 1) := by decide +kernel
theorem dX11_by_38 : decode cX11_by 38 = .ok (.getfield 65, 3) := by decide +kernel
theorem dX11_by_41 : decode cX11_by 41 = .ok (.iload_n 3, 1) := by decide +kernel
theorem dX11_by_42 : decode cX11_by 42 = .ok (.iaload, 1) := by decide +kernel
theorem dX11_by_43 : decode cX11_by 43 = .ok (.bipush (-9), 2) := by decide +kernel
theorem dX11_by_45 : decode cX11_by 45 = .ok (.if_icmp .ne 6, 3) := by decide +kernel
theorem dX11_by_48 : decode cX11_by 48 = .ok (.bipush (-9), 2) := by decide +kernel
theorem dX11_by_50 : decode cX11_by 50 = .ok (.ireturn, 1) := by decide +kernel
theorem dX11_by_51 : decode cX11_by 51 = .ok (.iconst 0, 1) := by decide +kernel
theorem dX11_by_52 : decode cX11_by 52 = .ok (.istore 4, 2) := by decide +kernel
theorem dX11_by_54 : decode cX11_by 54 = .ok (.iconst 0, 1) := by decide +kernel
theorem dX11_by_55 : decode cX11_by 55 = .ok (.istore 5, 2) := by decide +kernel
theorem dX11_by_57 : decode cX11_by 57 = .ok (.iload 5, 2) := by decide +kernel
theorem dX11_by_59 : decode cX11_by 59 = .ok (.iload_n 1, 1) := by decide +kernel
theorem dX11_by_60 : decode cX11_by 60 = .ok (.if_icmp .gt 92, 3) := by decide +kernel
theorem dX11_by_63 : decode cX11_by 63 = .ok (.aload_n 0, 1) := by decide +kernel
theorem dX11_by_64 : decode cX11_by 64 = .ok (.aload_n 0, 1) := by decide +kernel
theorem dX11_by_65 : decode cX11_by 65 = .ok (.getfield 62, 3) := by decide +kernel
theorem dX11_by_68 : decode cX11_by 68 = .ok (.iload 5, 2) := by decide +kernel
theorem dX11_by_70 : decode cX11_by 70 = .ok (.iaload, 1) := by decide +kernel
theorem dX11_by_71 : decode cX11_by 71 = .ok (.invokevirtual 188, 3) := by decide +kernel
theorem dX11_by_74 : decode cX11_by 74 = .ok (.istore 6, 2) := by decide +kernel
theorem dX11_by_76 : decode cX11_by 76 = .ok (.iconst 0, 1) := by decide +kernel
theorem dX11_by_77 : decode cX11_by 77 = .ok (.istore 4, 2) := by decide +kernel
theorem dX11_by_79 : decode cX11_by 79 = .ok (.iload 6, 2) := by decide +kernel
theorem dX11_by_81 : decode cX11_by 81 = .ok (.iload 4, 2) := by decide +kernel
theorem dX11_by_83 : decode cX11_by 83 = .ok (.bipush 8, 2) := by decide +kernel
theorem dX11_by_85 : decode cX11_by 85 = .ok (.irem, 1) := by decide +kernel
theorem dX11_by_86 : decode cX11_by 86 = .ok (.ishr, 1) := by decide +kernel
theorem dX11_by_87 : decode cX11_by 87 = .ok (.iconst 1, 1) := by decide +kernel
theorem dX11_by_88 : decode cX11_by 88 = .ok (.iand, 1) := by decide +kernel
theorem dX11_by_89 : decode cX11_by 89 = .ok (.ifCond .eq 36, 3) := by decide +kernel
theorem dX11_by_92 : decode cX11_by 92 = .ok (.aload_n 0, 1) := by decide +kernel
theorem dX11_by_93 : decode cX11_by 93 = .ok (.iload 5, 2) := by decide +kernel
theorem dX11_by_95 : decode cX11_by 95 = .ok (.iload_n 3, 1) := by decide +kernel
theorem dX11_by_96 : decode cX11_by 96 = .ok (.iload 4, 2) := by decide +kernel
theorem dX11_by_98 : decode cX11_by 98 = .ok (.bipush 8, 2) := by decide +kernel
theorem dX11_by_100 : decode cX11_by 100 = .ok (.idiv, 1) := by decide +kernel
theorem dX11_by_101 : decode cX11_by 101 = .ok (.iload 4, 2) := by decide +kernel
theorem dX11_by_103 : decode cX11_by 103 = .ok (.bipush 8, 2) := by decide +kernel
theorem dX11_by_105 : decode cX11_by 105 = .ok (.irem, 1) := by decide +kernel
theorem dX11_by_106 : decode cX11_by 106 = .ok (.invokevirtual 243, 3) := by decide +kernel
theorem dX11_by_109 : decode cX11_by 109 = .ok (.aload_n 0, 1) := by decide +kernel
theorem dX11_by_110 : decode cX11_by 110 = .ok (.getfield 65, 3) := by decide +kernel
theorem dX11_by_113 : decode cX11_by 113 = .ok (.sipush 512, 3) := by decide +kernel
theorem dX11_by_116 : decode cX11_by 116 = .ok (.iload 5, 2) := by decide +kernel
theorem dX11_by_118 : decode cX11_by 118 = .ok (.imul, 1) := by decide +kernel
theorem dX11_by_119 : decode cX11_by 119 = .ok (.iload_n 3, 1) := by decide +kernel
theorem dX11_by_120 : decode cX11_by 120 = .ok (.iadd, 1) := by decide +kernel
theorem dX11_by_121 : decode cX11_by 121 = .ok (.iaload, 1) := by decide +kernel
theorem dX11_by_122 : decode cX11_by 122 = .ok (.if_icmp .eq 9, 3) := by decide +kernel
theorem dX11_by_125 : decode cX11_by 125 = .ok (.iinc 4 1, 3) := by decide +kernel
theorem dX11_by_128 : decode cX11_by 128 = .ok (.goto (-49), 3) := by decide +kernel
theorem dX11_by_131 : decode cX11_by 131 = .ok (.iload_n 3, 1) := by decide +kernel
theorem dX11_by_132 : decode cX11_by 132 = .ok (.iload 4, 2) := by decide +kernel
theorem dX11_by_134 : decode cX11_by 134 = .ok (.bipush 8, 2) := by decide +kernel
theorem dX11_by_136 : decode cX11_by 136 = .ok (.idiv, 1) := by decide +kernel
theorem dX11_by_137 : decode cX11_by 137 = .ok (.iload 4, 2) := by decide +kernel
theorem dX11_by_139 : decode cX11_by 139 = .ok (.bipush 8, 2) := by decide +kernel
theorem dX11_by_141 : decode cX11_by 141 = .ok (.irem, 1) := by decide +kernel
theorem dX11_by_142 : decode cX11_by 142 = .ok (.invokestatic 240, 3) := by decide +kernel
theorem dX11_by_145 : decode cX11_by 145 = .ok (.istore_n 3, 1) := by decide +kernel
theorem dX11_by_146 : decode cX11_by 146 = .ok (.iinc 5 1, 3) := by decide +kernel
theorem dX11_by_149 : decode cX11_by 149 = .ok (.goto (-92), 3) := by decide +kernel
theorem dX11_by_152 : decode cX11_by 152 = .ok (.iload_n 2, 1) := by decide +kernel
theorem dX11_by_153 : decode cX11_by 153 = .ok (.ifCond .ne 11, 3) := by decide +kernel
theorem dX11_by_156 : decode cX11_by 156 = .ok (.iload 4, 2) := by decide +kernel
theorem dX11_by_158 : decode cX11_by 158 = .ok (.bipush 8, 2) := by decide +kernel
theorem dX11_by_160 : decode cX11_by 160 = .ok (.idiv, 1) := by decide +kernel
theorem dX11_by_161 : decode cX11_by 161 = .ok (.goto 8, 3) := by decide +kernel
theorem dX11_by_164 : decode cX11_by 164 = .ok (.iload 4, 2) := by decide +kernel
theorem dX11_by_166 : decode cX11_by 166 = .ok (.bipush 8, 2) := by decide +kernel
theorem dX11_by_168 : decode cX11_by 168 = .ok (.irem, 1) := by decide +kernel
theorem dX11_by_169 : decode cX11_by 169 = .ok (.ireturn, 1) := by decide +kernel
set_option maxRecDepth 20000 in
theorem ggX11_mark_X11_in : GoodIn wsX11_mark wsX11_in := goodIn_r _ [17] (by decide +kernel) (by decide +kernel)
set_option maxRecDepth 20000 in
theorem gX11_mark_X11_in : GoodIn wsX11_mark (va_wsS RX11 77 yX11_in wsX11_in) := goodIn_app (goodIn_of _ (by decide +kernel)) ggX11_mark_X11_in
set_option maxRecDepth 20000 in
theorem ggX11_mark_X11_isLevel : GoodIn wsX11_mark wsX11_isLevel := goodIn_r _ [21, 22, 14, 15, 16, 17, 23, 24, 25, 26, 27, 28, 29, 30, 31, 32, 33, 34, 35, 36, 37, 38, 39, 40, 41, 42, 43, 44, 45, 46, 47, 48, 49, 50, 51, 52, 53, 54, 55, 56, 57, 58] (by decide +kernel) (by decide +kernel)
set_option maxRecDepth 20000 in
theorem gX11_mark_X11_isLevel : GoodIn wsX11_mark (wsV RX11 170 RX11 yX11_isLevel wsX11_isLevel) := goodIn_app (goodIn_of _ (by decide +kernel)) ggX11_mark_X11_isLevel
theorem dX11_mark_0 : decode cX11_mark 0 = .ok (.iload_n 1, 1) := by decide +kernel
theorem dX11_mark_1 : decode cX11_mark 1 = .ok (.i2l, 1) := by decide +kernel
theorem dX11_mark_2 : decode cX11_mark 2 = .ok (.lconst 0, 1) := by decide +kernel
theorem dX11_mark_3 : decode cX11_mark 3 = .ok (.ldc2_w 254, 3) := by decide +kernel
theorem dX11_mark_6 : decode cX11_mark 6 = .ok (.invokestatic 77, 3) := by decide +kernel
theorem dX11_mark_9 : decode cX11_mark 9 = .ok (.ifCond .eq 11, 3) := by decide +kernel
theorem dX11_mark_12 : decode cX11_mark 12 = .ok (.aload_n 0, 1) := by decide +kernel
theorem dX11_mark_13 : decode cX11_mark 13 = .ok (.iload_n 2, 1) := by decide +kernel
theorem dX11_mark_14 : decode cX11_mark 14 = .ok (.invokevirtual 170, 3) := by decide +kernel
theorem dX11_mark_17 : decode cX11_mark 17 = .ok (.ifCond .ne 6, 3) := by decide +kernel
theorem dX11_mark_20 : decode cX11_mark 20 = .ok (.ldc 175, 2) := by decide +kernel
theorem dX11_mark_22 : decode cX11_mark 22 = .ok (.ireturn, 1) := by decide +kernel
theorem dX11_mark_23 : decode cX11_mark 23 = .ok (.aload_n 0, 1) := by decide +kernel
theorem dX11_mark_24 : decode cX11_mark 24 = .ok (.dup, 1) := by decide +kernel
theorem dX11_mark_25 : decode cX11_mark 25 = .ok (.getfield 256, 3) := by decide +kernel
theorem dX11_mark_28 : decode cX11_mark 28 = .ok (.iload_n 1, 1) := by decide +kernel
theorem dX11_mark_29 : decode cX11_mark 29 = .ok (.ifCond .ne 7, 3) := by decide +kernel
theorem dX11_mark_32 : decode cX11_mark 32 = .ok (.lconst 1, 1) := by decide +kernel
theorem dX11_mark_33 : decode cX11_mark 33 = .ok (.goto 50, 3) := by decide +kernel
theorem dX11_mark_36 : decode cX11_mark 36 = .ok (.iload_n 1, 1) := by decide +kernel
theorem dX11_mark_37 : decode cX11_mark 37 = .ok (.iconst 1, 1) := by decide +kernel
theorem dX11_mark_38 : decode cX11_mark 38 = .ok (.if_icmp .ne 9, 3) := by decide +kernel
theorem dX11_mark_41 : decode cX11_mark 41 = .ok (.ldc2_w 260, 3) := by decide +kernel
theorem dX11_mark_44 : decode cX11_mark 44 = .ok (.goto 39, 3) := by decide +kernel
theorem dX11_mark_47 : decode cX11_mark 47 = .ok (.iload_n 1, 1) := by decide +kernel
theorem dX11_mark_48 : decode cX11_mark 48 = .ok (.iconst 2, 1) := by decide +kernel
theorem dX11_mark_49 : decode cX11_mark 49 = .ok (.if_icmp .ne 9, 3) := by decide +kernel
theorem dX11_mark_52 : decode cX11_mark 52 = .ok (.ldc2_w 262, 3) := by decide +kernel
theorem dX11_mark_55 : decode cX11_mark 55 = .ok (.goto 28, 3) := by decide +kernel
theorem dX11_mark_58 : decode cX11_mark 58 = .ok (.iload_n 1, 1) := by decide +kernel
theorem dX11_mark_59 : decode cX11_mark 59 = .ok (.iconst 3, 1) := by decide +kernel
theorem dX11_mark_60 : decode cX11_mark 60 = .ok (.if_icmp .ne 9, 3) := by decide +kernel
theorem dX11_mark_63 : decode cX11_mark 63 = .ok (.ldc2_w 264, 3) := by decide +kernel
theorem dX11_mark_66 : decode cX11_mark 66 = .ok (.goto 17, 3) := by decide +kernel
theorem dX11_mark_69 : decode cX11_mark 69 = .ok (.iload_n 1, 1) := by decide +kernel
theorem dX11_mark_70 : decode cX11_mark 70 = .ok (.iconst 4, 1) := by decide +kernel
theorem dX11_mark_71 : decode cX11_mark 71 = .ok (.if_icmp .ne 9, 3) := by decide +kernel
theorem dX11_mark_74 : decode cX11_mark 74 = .ok (.ldc2_w 266, 3) := by decide +kernel
theorem dX11_mark_77 : decode cX11_mark 77 = .ok (.goto 6, 3) := by decide +kernel
theorem dX11_mark_80 : decode cX11_mark 80 = .ok (.ldc2_w 268, 3) := by decide +kernel
theorem dX11_mark_83 : decode cX11_mark 83 = .ok (.ladd, 1) := by decide +kernel
theorem dX11_mark_84 : decode cX11_mark 84 = .ok (.putfield 256, 3) := by decide +kernel
theorem dX11_mark_87 : decode cX11_mark 87 = .ok (.iconst 0, 1) := by decide +kernel
theorem dX11_mark_88 : decode cX11_mark 88 = .ok (.istore_n 3, 1) := by decide +kernel
theorem dX11_mark_89 : decode cX11_mark 89 = .ok (.iconst 0, 1) := by decide +kernel
theorem dX11_mark_90 : decode cX11_mark 90 = .ok (.istore 4, 2) := by decide +kernel
theorem dX11_mark_92 : decode cX11_mark 92 = .ok (.iload 4, 2) := by decide +kernel
theorem dX11_mark_94 : decode cX11_mark 94 = .ok (.aload_n 0, 1) := by decide +kernel
theorem dX11_mark_95 : decode cX11_mark 95 = .ok (.getfield 150, 3) := by decide +kernel
theorem dX11_mark_98 : decode cX11_mark 98 = .ok (.if_icmp .ge 28, 3) := by decide +kernel
theorem dX11_mark_101 : decode cX11_mark 101 = .ok (.iload_n 3, 1) := by decide +kernel
theorem dX11_mark_102 : decode cX11_mark 102 = .ok (.aload_n 0, 1) := by decide +kernel
theorem dX11_mark_103 : decode cX11_mark 103 = .ok (.getfield 31, 3) := by decide +kernel
theorem dX11_mark_106 : decode cX11_mark 106 = .ok (.iload 4, 2) := by decide +kernel
theorem dX11_mark_108 : decode cX11_mark 108 = .ok (.iaload, 1) := by decide +kernel
theorem dX11_mark_109 : decode cX11_mark 109 = .ok (.iload_n 2, 1) := by decide +kernel
theorem dX11_mark_110 : decode cX11_mark 110 = .ok (.if_icmp .ne 7, 3) := by decide +kernel
theorem dX11_mark_113 : decode cX11_mark 113 = .ok (.iconst 1, 1) := by decide +kernel
theorem dX11_mark_114 : decode cX11_mark 114 = .ok (.goto 4, 3) := by decide +kernel
theorem dX11_mark_117 : decode cX11_mark 117 = .ok (.iconst 0, 1) := by decide +kernel
theorem dX11_mark_118 : decode cX11_mark 118 = .ok (.iadd, 1) := by decide +kernel
theorem dX11_mark_119 : decode cX11_mark 119 = .ok (.istore_n 3, 1) := by decide +kernel
theorem dX11_mark_120 : decode cX11_mark 120 = .ok (.iinc 4 1, 3) := by decide +kernel
theorem dX11_mark_123 : decode cX11_mark 123 = .ok (.goto (-31), 3) := by decide +kernel
theorem dX11_mark_126 : decode cX11_mark 126 = .ok (.iload_n 1, 1) := by decide +kernel
theorem dX11_mark_127 : decode cX11_mark 127 = .ok (.tableswitch 100 0 4 #[33, 40, 54, 68, 84], 33) := by decide +kernel
theorem dX11_mark_160 : decode cX11_mark 160 = .ok (.aload_n 0, 1) := by decide +kernel
theorem dX11_mark_161 : decode cX11_mark 161 = .ok (.getfield 22, 3) := by decide +kernel
theorem dX11_mark_164 : decode cX11_mark 164 = .ok (.iload_n 2, 1) := by decide +kernel
theorem dX11_mark_165 : decode cX11_mark 165 = .ok (.iaload, 1) := by decide +kernel
theorem dX11_mark_166 : decode cX11_mark 166 = .ok (.ireturn, 1) := by decide +kernel
theorem dX11_mark_167 : decode cX11_mark 167 = .ok (.aload_n 0, 1) := by decide +kernel
theorem dX11_mark_168 : decode cX11_mark 168 = .ok (.getfield 22, 3) := by decide +kernel
theorem dX11_mark_171 : decode cX11_mark 171 = .ok (.iload_n 2, 1) := by decide +kernel
theorem dX11_mark_172 : decode cX11_mark 172 = .ok (.iaload, 1) := by decide +kernel
theorem dX11_mark_173 : decode cX11_mark 173 = .ok (.aload_n 0, 1) := by decide +kernel
theorem dX11_mark_174 : decode cX11_mark 174 = .ok (.getfield 28, 3) := by decide +kernel
theorem dX11_mark_177 : decode cX11_mark 177 = .ok (.iload_n 2, 1) := by decide +kernel
theorem dX11_mark_178 : decode cX11_mark 178 = .ok (.iaload, 1) := by decide +kernel
theorem dX11_mark_179 : decode cX11_mark 179 = .ok (.iadd, 1) := by decide +kernel
theorem dX11_mark_180 : decode cX11_mark 180 = .ok (.ireturn, 1) := by decide +kernel
theorem dX11_mark_181 : decode cX11_mark 181 = .ok (.aload_n 0, 1) := by decide +kernel
theorem dX11_mark_182 : decode cX11_mark 182 = .ok (.getfield 22, 3) := by decide +kernel
theorem dX11_mark_185 : decode cX11_mark 185 = .ok (.iload_n 2, 1) := by decide +kernel
theorem dX11_mark_186 : decode cX11_mark 186 = .ok (.iaload, 1) := by decide +kernel
theorem dX11_mark_187 : decode cX11_mark 187 = .ok (.aload_n 0, 1) := by decide +kernel
theorem dX11_mark_188 : decode cX11_mark 188 = .ok (.getfield 34, 3) := by decide +kernel
theorem dX11_mark_191 : decode cX11_mark 191 = .ok (.iconst 1, 1) := by decide +kernel
theorem dX11_mark_192 : decode cX11_mark 192 = .ok (.iaload, 1) := by decide +kernel
theorem dX11_mark_193 : decode cX11_mark 193 = .ok (.isub, 1) := by decide +kernel
theorem dX11_mark_194 : decode cX11_mark 194 = .ok (.ireturn, 1) := by decide +kernel
theorem dX11_mark_195 : decode cX11_mark 195 = .ok (.iconst 2, 1) := by decide +kernel
theorem dX11_mark_196 : decode cX11_mark 196 = .ok (.aload_n 0, 1) := by decide +kernel
theorem dX11_mark_197 : decode cX11_mark 197 = .ok (.getfield 22, 3) := by decide +kernel
theorem dX11_mark_200 : decode cX11_mark 200 = .ok (.iload_n 2, 1) := by decide +kernel
theorem dX11_mark_201 : decode cX11_mark 201 = .ok (.iaload, 1) := by decide +kernel
theorem dX11_mark_202 : decode cX11_mark 202 = .ok (.aload_n 0, 1) := by decide +kernel
theorem dX11_mark_203 : decode cX11_mark 203 = .ok (.getfield 28, 3) := by decide +kernel
theorem dX11_mark_206 : decode cX11_mark 206 = .ok (.iload_n 2, 1) := by decide +kernel
theorem dX11_mark_207 : decode cX11_mark 207 = .ok (.iaload, 1) := by decide +kernel
theorem dX11_mark_208 : decode cX11_mark 208 = .ok (.iadd, 1) := by decide +kernel
theorem dX11_mark_209 : decode cX11_mark 209 = .ok (.imul, 1) := by decide +kernel
theorem dX11_mark_210 : decode cX11_mark 210 = .ok (.ireturn, 1) := by decide +kernel
theorem dX11_mark_211 : decode cX11_mark 211 = .ok (.aload_n 0, 1) := by decide +kernel
theorem dX11_mark_212 : decode cX11_mark 212 = .ok (.getfield 22, 3) := by decide +kernel
theorem dX11_mark_215 : decode cX11_mark 215 = .ok (.iload_n 2, 1) := by decide +kernel
theorem dX11_mark_216 : decode cX11_mark 216 = .ok (.iaload, 1) := by decide +kernel
theorem dX11_mark_217 : decode cX11_mark 217 = .ok (.aload_n 0, 1) := by decide +kernel
theorem dX11_mark_218 : decode cX11_mark 218 = .ok (.getfield 34, 3) := by decide +kernel
theorem dX11_mark_221 : decode cX11_mark 221 = .ok (.iconst 1, 1) := by decide +kernel
theorem dX11_mark_222 : decode cX11_mark 222 = .ok (.iaload, 1) := by decide +kernel
theorem dX11_mark_223 : decode cX11_mark 223 = .ok (.isub, 1) := by decide +kernel
theorem dX11_mark_224 : decode cX11_mark 224 = .ok (.iload_n 2, 1) := by decide +kernel
theorem dX11_mark_225 : decode cX11_mark 225 = .ok (.iadd, 1) := by decide +kernel
theorem dX11_mark_226 : decode cX11_mark 226 = .ok (.ireturn, 1) := by decide +kernel
theorem dX11_mark_227 : decode cX11_mark 227 = .ok (.aload_n 0, 1) := by decide +kernel
theorem dX11_mark_228 : decode cX11_mark 228 = .ok (.getfield 22, 3) := by decide +kernel
theorem dX11_mark_231 : decode cX11_mark 231 = .ok (.iload_n 2, 1) := by decide +kernel
theorem dX11_mark_232 : decode cX11_mark 232 = .ok (.iaload, 1) := by decide +kernel
theorem dX11_mark_233 : decode cX11_mark 233 = .ok (.iload_n 3, 1) := by decide +kernel
theorem dX11_mark_234 : decode cX11_mark 234 = .ok (.iadd, 1) := by decide +kernel
theorem dX11_mark_235 : decode cX11_mark 235 = .ok (.ireturn, 1) := by decide +kernel
theorem dX11_trace_0 : decode cX11_trace 0 = .ok (.aload_n 0, 1) := by decide +kernel
theorem dX11_trace_1 : decode cX11_trace 1 = .ok (.getfield 256, 3) := by decide +kernel
theorem dX11_trace_4 : decode cX11_trace 4 = .ok (.lreturn, 1) := by decide +kernel
theorem dX11_lay_0 : decode cX11_lay 0 = .ok (.iconst 0, 1) := by decide +kernel
theorem dX11_lay_1 : decode cX11_lay 1 = .ok (.istore 4, 2) := by decide +kernel
theorem dX11_lay_3 : decode cX11_lay 3 = .ok (.iload 4, 2) := by decide +kernel
theorem dX11_lay_5 : decode cX11_lay 5 = .ok (.iload_n 2, 1) := by decide +kernel
theorem dX11_lay_6 : decode cX11_lay 6 = .ok (.if_icmp .ge 22, 3) := by decide +kernel
theorem dX11_lay_9 : decode cX11_lay 9 = .ok (.aload_n 0, 1) := by decide +kernel
theorem dX11_lay_10 : decode cX11_lay 10 = .ok (.getfield 68, 3) := by decide +kernel
theorem dX11_lay_13 : decode cX11_lay 13 = .ok (.iload_n 3, 1) := by decide +kernel
theorem dX11_lay_14 : decode cX11_lay 14 = .ok (.iload 4, 2) := by decide +kernel
theorem dX11_lay_16 : decode cX11_lay 16 = .ok (.iadd, 1) := by decide +kernel
theorem dX11_lay_17 : decode cX11_lay 17 = .ok (.aload_n 1, 1) := by decide +kernel
theorem dX11_lay_18 : decode cX11_lay 18 = .ok (.iload 4, 2) := by decide +kernel
theorem dX11_lay_20 : decode cX11_lay 20 = .ok (.iaload, 1) := by decide +kernel
theorem dX11_lay_21 : decode cX11_lay 21 = .ok (.iastore, 1) := by decide +kernel
theorem dX11_lay_22 : decode cX11_lay 22 = .ok (.iinc 4 1, 3) := by decide +kernel
theorem dX11_lay_25 : decode cX11_lay 25 = .ok (.goto (-22), 3) := by decide +kernel
theorem dX11_lay_28 : decode cX11_lay 28 = .ok (.iload_n 3, 1) := by decide +kernel
theorem dX11_lay_29 : decode cX11_lay 29 = .ok (.iload_n 2, 1) := by decide +kernel
theorem dX11_lay_30 : decode cX11_lay 30 = .ok (.iadd, 1) := by decide +kernel
theorem dX11_lay_31 : decode cX11_lay 31 = .ok (.ireturn, 1) := by decide +kernel
theorem dX11_gives_0 : decode cX11_gives 0 = .ok (.iconst 0, 1) := by decide +kernel
theorem dX11_gives_1 : decode cX11_gives 1 = .ok (.istore 4, 2) := by decide +kernel
theorem dX11_gives_3 : decode cX11_gives 3 = .ok (.iload 4, 2) := by decide +kernel
theorem dX11_gives_5 : decode cX11_gives 5 = .ok (.iload_n 3, 1) := by decide +kernel
theorem dX11_gives_6 : decode cX11_gives 6 = .ok (.if_icmp .ge 22, 3) := by decide +kernel
theorem dX11_gives_9 : decode cX11_gives 9 = .ok (.aload_n 2, 1) := by decide +kernel
theorem dX11_gives_10 : decode cX11_gives 10 = .ok (.iload 4, 2) := by decide +kernel
theorem dX11_gives_12 : decode cX11_gives 12 = .ok (.aload_n 0, 1) := by decide +kernel
theorem dX11_gives_13 : decode cX11_gives 13 = .ok (.getfield 68, 3) := by decide +kernel
theorem dX11_gives_16 : decode cX11_gives 16 = .ok (.iload_n 1, 1) := by decide +kernel
theorem dX11_gives_17 : decode cX11_gives 17 = .ok (.iload 4, 2) := by decide +kernel
theorem dX11_gives_19 : decode cX11_gives 19 = .ok (.iadd, 1) := by decide +kernel
theorem dX11_gives_20 : decode cX11_gives 20 = .ok (.iaload, 1) := by decide +kernel
theorem dX11_gives_21 : decode cX11_gives 21 = .ok (.iastore, 1) := by decide +kernel
theorem dX11_gives_22 : decode cX11_gives 22 = .ok (.iinc 4 1, 3) := by decide +kernel
theorem dX11_gives_25 : decode cX11_gives 25 = .ok (.goto (-22), 3) := by decide +kernel
theorem dX11_gives_28 : decode cX11_gives 28 = .ok (.iload_n 1, 1) := by decide +kernel
theorem dX11_gives_29 : decode cX11_gives 29 = .ok (.iload_n 3, 1) := by decide +kernel
theorem dX11_gives_30 : decode cX11_gives 30 = .ok (.iadd, 1) := by decide +kernel
theorem dX11_gives_31 : decode cX11_gives 31 = .ok (.ireturn, 1) := by decide +kernel
set_option maxRecDepth 20000 in
theorem ggX11_keep_X11_in : GoodIn wsX11_keep wsX11_in := goodIn_r _ [15] (by decide +kernel) (by decide +kernel)
set_option maxRecDepth 20000 in
theorem gX11_keep_X11_in : GoodIn wsX11_keep (va_wsS RX11 77 yX11_in wsX11_in) := goodIn_app (goodIn_of _ (by decide +kernel)) ggX11_keep_X11_in
set_option maxRecDepth 20000 in
theorem ggX11_keep_X11_lay : GoodIn wsX11_keep wsX11_lay := goodIn_r _ [19, 1, 20, 21, 22, 23, 24, 25, 26, 27, 28, 29, 30, 31, 32, 33, 34, 35, 36, 37, 38, 39, 40, 41, 42, 43, 44, 45, 46, 47, 48, 49, 50, 51, 52, 53, 54, 55] (by decide +kernel) (by decide +kernel)
set_option maxRecDepth 20000 in
theorem gX11_keep_X11_lay : GoodIn wsX11_keep (wsV RX11 270 RX11 yX11_lay wsX11_lay) := goodIn_app (goodIn_of _ (by decide +kernel)) ggX11_keep_X11_lay
theorem dX11_keep_0 : decode cX11_keep 0 = .ok (.iload_n 1, 1) := by decide +kernel
theorem dX11_keep_1 : decode cX11_keep 1 = .ok (.i2l, 1) := by decide +kernel
theorem dX11_keep_2 : decode cX11_keep 2 = .ok (.lconst 0, 1) := by decide +kernel
theorem dX11_keep_3 : decode cX11_keep 3 = .ok (.lconst 1, 1) := by decide +kernel
theorem dX11_keep_4 : decode cX11_keep 4 = .ok (.invokestatic 77, 3) := by decide +kernel
theorem dX11_keep_7 : decode cX11_keep 7 = .ok (.ifCond .ne 5, 3) := by decide +kernel
theorem dX11_keep_10 : decode cX11_keep 10 = .ok (.iconst (-1), 1) := by decide +kernel
theorem dX11_keep_11 : decode cX11_keep 11 = .ok (.ireturn, 1) := by decide +kernel
theorem dX11_keep_12 : decode cX11_keep 12 = .ok (.bipush 36, 2) := by decide +kernel
theorem dX11_keep_14 : decode cX11_keep 14 = .ok (.iload_n 1, 1) := by decide +kernel
theorem dX11_keep_15 : decode cX11_keep 15 = .ok (.imul, 1) := by decide +kernel
theorem dX11_keep_16 : decode cX11_keep 16 = .ok (.istore_n 2, 1) := by decide +kernel
theorem dX11_keep_17 : decode cX11_keep 17 = .ok (.aload_n 0, 1) := by decide +kernel
theorem dX11_keep_18 : decode cX11_keep 18 = .ok (.getfield 68, 3) := by decide +kernel
theorem dX11_keep_21 : decode cX11_keep 21 = .ok (.iload_n 2, 1) := by decide +kernel
theorem dX11_keep_22 : decode cX11_keep 22 = .ok (.aload_n 0, 1) := by decide +kernel
theorem dX11_keep_23 : decode cX11_keep 23 = .ok (.getfield 153, 3) := by decide +kernel
theorem dX11_keep_26 : decode cX11_keep 26 = .ok (.iastore, 1) := by decide +kernel
theorem dX11_keep_27 : decode cX11_keep 27 = .ok (.aload_n 0, 1) := by decide +kernel
theorem dX11_keep_28 : decode cX11_keep 28 = .ok (.getfield 68, 3) := by decide +kernel
theorem dX11_keep_31 : decode cX11_keep 31 = .ok (.iload_n 2, 1) := by decide +kernel
theorem dX11_keep_32 : decode cX11_keep 32 = .ok (.iconst 1, 1) := by decide +kernel
theorem dX11_keep_33 : decode cX11_keep 33 = .ok (.iadd, 1) := by decide +kernel
theorem dX11_keep_34 : decode cX11_keep 34 = .ok (.aload_n 0, 1) := by decide +kernel
theorem dX11_keep_35 : decode cX11_keep 35 = .ok (.getfield 34, 3) := by decide +kernel
theorem dX11_keep_38 : decode cX11_keep 38 = .ok (.iconst 1, 1) := by decide +kernel
theorem dX11_keep_39 : decode cX11_keep 39 = .ok (.iaload, 1) := by decide +kernel
theorem dX11_keep_40 : decode cX11_keep 40 = .ok (.iastore, 1) := by decide +kernel
theorem dX11_keep_41 : decode cX11_keep 41 = .ok (.aload_n 0, 1) := by decide +kernel
theorem dX11_keep_42 : decode cX11_keep 42 = .ok (.getfield 68, 3) := by decide +kernel
theorem dX11_keep_45 : decode cX11_keep 45 = .ok (.iload_n 2, 1) := by decide +kernel
theorem dX11_keep_46 : decode cX11_keep 46 = .ok (.iconst 2, 1) := by decide +kernel
theorem dX11_keep_47 : decode cX11_keep 47 = .ok (.iadd, 1) := by decide +kernel
theorem dX11_keep_48 : decode cX11_keep 48 = .ok (.aload_n 0, 1) := by decide +kernel
theorem dX11_keep_49 : decode cX11_keep 49 = .ok (.getfield 71, 3) := by decide +kernel
theorem dX11_keep_52 : decode cX11_keep 52 = .ok (.iastore, 1) := by decide +kernel
theorem dX11_keep_53 : decode cX11_keep 53 = .ok (.aload_n 0, 1) := by decide +kernel
theorem dX11_keep_54 : decode cX11_keep 54 = .ok (.getfield 68, 3) := by decide +kernel
theorem dX11_keep_57 : decode cX11_keep 57 = .ok (.iload_n 2, 1) := by decide +kernel
theorem dX11_keep_58 : decode cX11_keep 58 = .ok (.iconst 3, 1) := by decide +kernel
theorem dX11_keep_59 : decode cX11_keep 59 = .ok (.iadd, 1) := by decide +kernel
theorem dX11_keep_60 : decode cX11_keep 60 = .ok (.aload_n 0, 1) := by decide +kernel
theorem dX11_keep_61 : decode cX11_keep 61 = .ok (.getfield 156, 3) := by decide +kernel
theorem dX11_keep_64 : decode cX11_keep 64 = .ok (.iastore, 1) := by decide +kernel
theorem dX11_keep_65 : decode cX11_keep 65 = .ok (.aload_n 0, 1) := by decide +kernel
theorem dX11_keep_66 : decode cX11_keep 66 = .ok (.getfield 68, 3) := by decide +kernel
theorem dX11_keep_69 : decode cX11_keep 69 = .ok (.iload_n 2, 1) := by decide +kernel
theorem dX11_keep_70 : decode cX11_keep 70 = .ok (.iconst 4, 1) := by decide +kernel
theorem dX11_keep_71 : decode cX11_keep 71 = .ok (.iadd, 1) := by decide +kernel
theorem dX11_keep_72 : decode cX11_keep 72 = .ok (.aload_n 0, 1) := by decide +kernel
theorem dX11_keep_73 : decode cX11_keep 73 = .ok (.getfield 159, 3) := by decide +kernel
theorem dX11_keep_76 : decode cX11_keep 76 = .ok (.iastore, 1) := by decide +kernel
theorem dX11_keep_77 : decode cX11_keep 77 = .ok (.aload_n 0, 1) := by decide +kernel
theorem dX11_keep_78 : decode cX11_keep 78 = .ok (.aload_n 0, 1) := by decide +kernel
theorem dX11_keep_79 : decode cX11_keep 79 = .ok (.getfield 22, 3) := by decide +kernel
theorem dX11_keep_82 : decode cX11_keep 82 = .ok (.bipush 8, 2) := by decide +kernel
theorem dX11_keep_84 : decode cX11_keep 84 = .ok (.iload_n 2, 1) := by decide +kernel
theorem dX11_keep_85 : decode cX11_keep 85 = .ok (.iconst 5, 1) := by decide +kernel
theorem dX11_keep_86 : decode cX11_keep 86 = .ok (.iadd, 1) := by decide +kernel
theorem dX11_keep_87 : decode cX11_keep 87 = .ok (.invokevirtual 270, 3) := by decide +kernel
theorem dX11_keep_90 : decode cX11_keep 90 = .ok (.istore_n 2, 1) := by decide +kernel
theorem dX11_keep_91 : decode cX11_keep 91 = .ok (.aload_n 0, 1) := by decide +kernel
theorem dX11_keep_92 : decode cX11_keep 92 = .ok (.aload_n 0, 1) := by decide +kernel
theorem dX11_keep_93 : decode cX11_keep 93 = .ok (.getfield 31, 3) := by decide +kernel
theorem dX11_keep_96 : decode cX11_keep 96 = .ok (.iconst 3, 1) := by decide +kernel
theorem dX11_keep_97 : decode cX11_keep 97 = .ok (.iload_n 2, 1) := by decide +kernel
theorem dX11_keep_98 : decode cX11_keep 98 = .ok (.invokevirtual 270, 3) := by decide +kernel
theorem dX11_keep_101 : decode cX11_keep 101 = .ok (.istore_n 2, 1) := by decide +kernel
theorem dX11_keep_102 : decode cX11_keep 102 = .ok (.aload_n 0, 1) := by decide +kernel
theorem dX11_keep_103 : decode cX11_keep 103 = .ok (.aload_n 0, 1) := by decide +kernel
theorem dX11_keep_104 : decode cX11_keep 104 = .ok (.getfield 37, 3) := by decide +kernel
theorem dX11_keep_107 : decode cX11_keep 107 = .ok (.bipush 6, 2) := by decide +kernel
theorem dX11_keep_109 : decode cX11_keep 109 = .ok (.iload_n 2, 1) := by decide +kernel
theorem dX11_keep_110 : decode cX11_keep 110 = .ok (.invokevirtual 270, 3) := by decide +kernel
theorem dX11_keep_113 : decode cX11_keep 113 = .ok (.istore_n 2, 1) := by decide +kernel
theorem dX11_keep_114 : decode cX11_keep 114 = .ok (.aload_n 0, 1) := by decide +kernel
theorem dX11_keep_115 : decode cX11_keep 115 = .ok (.aload_n 0, 1) := by decide +kernel
theorem dX11_keep_116 : decode cX11_keep 116 = .ok (.getfield 40, 3) := by decide +kernel
theorem dX11_keep_119 : decode cX11_keep 119 = .ok (.bipush 6, 2) := by decide +kernel
theorem dX11_keep_121 : decode cX11_keep 121 = .ok (.iload_n 2, 1) := by decide +kernel
theorem dX11_keep_122 : decode cX11_keep 122 = .ok (.invokevirtual 270, 3) := by decide +kernel
theorem dX11_keep_125 : decode cX11_keep 125 = .ok (.istore_n 2, 1) := by decide +kernel
theorem dX11_keep_126 : decode cX11_keep 126 = .ok (.aload_n 0, 1) := by decide +kernel
theorem dX11_keep_127 : decode cX11_keep 127 = .ok (.aload_n 0, 1) := by decide +kernel
theorem dX11_keep_128 : decode cX11_keep 128 = .ok (.getfield 62, 3) := by decide +kernel
theorem dX11_keep_131 : decode cX11_keep 131 = .ok (.bipush 8, 2) := by decide +kernel
theorem dX11_keep_133 : decode cX11_keep 133 = .ok (.iload_n 2, 1) := by decide +kernel
theorem dX11_keep_134 : decode cX11_keep 134 = .ok (.invokevirtual 270, 3) := by decide +kernel
theorem dX11_keep_137 : decode cX11_keep 137 = .ok (.pop, 1) := by decide +kernel
theorem dX11_keep_138 : decode cX11_keep 138 = .ok (.aload_n 0, 1) := by decide +kernel
theorem dX11_keep_139 : decode cX11_keep 139 = .ok (.getfield 153, 3) := by decide +kernel
theorem dX11_keep_142 : decode cX11_keep 142 = .ok (.ireturn, 1) := by decide +kernel
set_option maxRecDepth 20000 in
theorem ggX11_back_X11_in : GoodIn wsX11_back wsX11_in := goodIn_r _ [15] (by decide +kernel) (by decide +kernel)
set_option maxRecDepth 20000 in
theorem gX11_back_X11_in : GoodIn wsX11_back (va_wsS RX11 77 yX11_in wsX11_in) := goodIn_app (goodIn_of _ (by decide +kernel)) ggX11_back_X11_in
set_option maxRecDepth 20000 in
theorem ggX11_back_X11_gives : GoodIn wsX11_back wsX11_gives := goodIn_r _ [19, 1, 20, 21, 22, 23, 24, 25, 26, 27, 28, 29, 30, 31, 32, 33, 34, 35, 36, 37, 38, 39, 40, 41, 42, 43, 44, 45, 46, 47, 48, 49, 50, 51, 52, 53, 54, 55] (by decide +kernel) (by decide +kernel)
set_option maxRecDepth 20000 in
theorem gX11_back_X11_gives : GoodIn wsX11_back (wsV RX11 274 RX11 yX11_gives wsX11_gives) := goodIn_app (goodIn_of _ (by decide +kernel)) ggX11_back_X11_gives
theorem dX11_back_0 : decode cX11_back 0 = .ok (.iload_n 1, 1) := by decide +kernel
theorem dX11_back_1 : decode cX11_back 1 = .ok (.i2l, 1) := by decide +kernel
theorem dX11_back_2 : decode cX11_back 2 = .ok (.lconst 0, 1) := by decide +kernel
theorem dX11_back_3 : decode cX11_back 3 = .ok (.lconst 1, 1) := by decide +kernel
theorem dX11_back_4 : decode cX11_back 4 = .ok (.invokestatic 77, 3) := by decide +kernel
theorem dX11_back_7 : decode cX11_back 7 = .ok (.ifCond .ne 5, 3) := by decide +kernel
theorem dX11_back_10 : decode cX11_back 10 = .ok (.iconst (-1), 1) := by decide +kernel
theorem dX11_back_11 : decode cX11_back 11 = .ok (.ireturn, 1) := by decide +kernel
theorem dX11_back_12 : decode cX11_back 12 = .ok (.bipush 36, 2) := by decide +kernel
theorem dX11_back_14 : decode cX11_back 14 = .ok (.iload_n 1, 1) := by decide +kernel
theorem dX11_back_15 : decode cX11_back 15 = .ok (.imul, 1) := by decide +kernel
theorem dX11_back_16 : decode cX11_back 16 = .ok (.istore_n 2, 1) := by decide +kernel
theorem dX11_back_17 : decode cX11_back 17 = .ok (.aload_n 0, 1) := by decide +kernel
theorem dX11_back_18 : decode cX11_back 18 = .ok (.getfield 68, 3) := by decide +kernel
theorem dX11_back_21 : decode cX11_back 21 = .ok (.iload_n 2, 1) := by decide +kernel
theorem dX11_back_22 : decode cX11_back 22 = .ok (.iaload, 1) := by decide +kernel
theorem dX11_back_23 : decode cX11_back 23 = .ok (.ifCond .ge 6, 3) := by decide +kernel
theorem dX11_back_26 : decode cX11_back 26 = .ok (.bipush (-2), 2) := by decide +kernel
theorem dX11_back_28 : decode cX11_back 28 = .ok (.ireturn, 1) := by decide +kernel
theorem dX11_back_29 : decode cX11_back 29 = .ok (.aload_n 0, 1) := by decide +kernel
theorem dX11_back_30 : decode cX11_back 30 = .ok (.aload_n 0, 1) := by decide +kernel
theorem dX11_back_31 : decode cX11_back 31 = .ok (.getfield 68, 3) := by decide +kernel
theorem dX11_back_34 : decode cX11_back 34 = .ok (.iload_n 2, 1) := by decide +kernel
theorem dX11_back_35 : decode cX11_back 35 = .ok (.iaload, 1) := by decide +kernel
theorem dX11_back_36 : decode cX11_back 36 = .ok (.putfield 153, 3) := by decide +kernel
theorem dX11_back_39 : decode cX11_back 39 = .ok (.aload_n 0, 1) := by decide +kernel
theorem dX11_back_40 : decode cX11_back 40 = .ok (.getfield 34, 3) := by decide +kernel
theorem dX11_back_43 : decode cX11_back 43 = .ok (.iconst 1, 1) := by decide +kernel
theorem dX11_back_44 : decode cX11_back 44 = .ok (.aload_n 0, 1) := by decide +kernel
theorem dX11_back_45 : decode cX11_back 45 = .ok (.getfield 68, 3) := by decide +kernel
theorem dX11_back_48 : decode cX11_back 48 = .ok (.iload_n 2, 1) := by decide +kernel
theorem dX11_back_49 : decode cX11_back 49 = .ok (.iconst 1, 1) := by decide +kernel
theorem dX11_back_50 : decode cX11_back 50 = .ok (.iadd, 1) := by decide +kernel
theorem dX11_back_51 : decode cX11_back 51 = .ok (.iaload, 1) := by decide +kernel
theorem dX11_back_52 : decode cX11_back 52 = .ok (.iastore, 1) := by decide +kernel
theorem dX11_back_53 : decode cX11_back 53 = .ok (.aload_n 0, 1) := by decide +kernel
theorem dX11_back_54 : decode cX11_back 54 = .ok (.aload_n 0, 1) := by decide +kernel
theorem dX11_back_55 : decode cX11_back 55 = .ok (.getfield 68, 3) := by decide +kernel
theorem dX11_back_58 : decode cX11_back 58 = .ok (.iload_n 2, 1) := by decide +kernel
theorem dX11_back_59 : decode cX11_back 59 = .ok (.iconst 2, 1) := by decide +kernel
theorem dX11_back_60 : decode cX11_back 60 = .ok (.iadd, 1) := by decide +kernel
theorem dX11_back_61 : decode cX11_back 61 = .ok (.iaload, 1) := by decide +kernel
theorem dX11_back_62 : decode cX11_back 62 = .ok (.putfield 71, 3) := by decide +kernel
theorem dX11_back_65 : decode cX11_back 65 = .ok (.aload_n 0, 1) := by decide +kernel
theorem dX11_back_66 : decode cX11_back 66 = .ok (.aload_n 0, 1) := by decide +kernel
theorem dX11_back_67 : decode cX11_back 67 = .ok (.getfield 68, 3) := by decide +kernel
theorem dX11_back_70 : decode cX11_back 70 = .ok (.iload_n 2, 1) := by decide +kernel
theorem dX11_back_71 : decode cX11_back 71 = .ok (.iconst 3, 1) := by decide +kernel
theorem dX11_back_72 : decode cX11_back 72 = .ok (.iadd, 1) := by decide +kernel
theorem dX11_back_73 : decode cX11_back 73 = .ok (.iaload, 1) := by decide +kernel
theorem dX11_back_74 : decode cX11_back 74 = .ok (.putfield 156, 3) := by decide +kernel
theorem dX11_back_77 : decode cX11_back 77 = .ok (.aload_n 0, 1) := by decide +kernel
theorem dX11_back_78 : decode cX11_back 78 = .ok (.aload_n 0, 1) := by decide +kernel
theorem dX11_back_79 : decode cX11_back 79 = .ok (.getfield 68, 3) := by decide +kernel
theorem dX11_back_82 : decode cX11_back 82 = .ok (.iload_n 2, 1) := by decide +kernel
theorem dX11_back_83 : decode cX11_back 83 = .ok (.iconst 4, 1) := by decide +kernel
theorem dX11_back_84 : decode cX11_back 84 = .ok (.iadd, 1) := by decide +kernel
theorem dX11_back_85 : decode cX11_back 85 = .ok (.iaload, 1) := by decide +kernel
theorem dX11_back_86 : decode cX11_back 86 = .ok (.putfield 159, 3) := by decide +kernel
theorem dX11_back_89 : decode cX11_back 89 = .ok (.aload_n 0, 1) := by decide +kernel
theorem dX11_back_90 : decode cX11_back 90 = .ok (.iload_n 2, 1) := by decide +kernel
theorem dX11_back_91 : decode cX11_back 91 = .ok (.iconst 5, 1) := by decide +kernel
theorem dX11_back_92 : decode cX11_back 92 = .ok (.iadd, 1) := by decide +kernel
theorem dX11_back_93 : decode cX11_back 93 = .ok (.aload_n 0, 1) := by decide +kernel
theorem dX11_back_94 : decode cX11_back 94 = .ok (.getfield 22, 3) := by decide +kernel
theorem dX11_back_97 : decode cX11_back 97 = .ok (.bipush 8, 2) := by decide +kernel
theorem dX11_back_99 : decode cX11_back 99 = .ok (.invokevirtual 274, 3) := by decide +kernel
theorem dX11_back_102 : decode cX11_back 102 = .ok (.istore_n 2, 1) := by decide +kernel
theorem dX11_back_103 : decode cX11_back 103 = .ok (.aload_n 0, 1) := by decide +kernel
theorem dX11_back_104 : decode cX11_back 104 = .ok (.iload_n 2, 1) := by decide +kernel
theorem dX11_back_105 : decode cX11_back 105 = .ok (.aload_n 0, 1) := by decide +kernel
theorem dX11_back_106 : decode cX11_back 106 = .ok (.getfield 31, 3) := by decide +kernel
theorem dX11_back_109 : decode cX11_back 109 = .ok (.iconst 3, 1) := by decide +kernel
theorem dX11_back_110 : decode cX11_back 110 = .ok (.invokevirtual 274, 3) := by decide +kernel
theorem dX11_back_113 : decode cX11_back 113 = .ok (.istore_n 2, 1) := by decide +kernel
theorem dX11_back_114 : decode cX11_back 114 = .ok (.aload_n 0, 1) := by decide +kernel
theorem dX11_back_115 : decode cX11_back 115 = .ok (.iload_n 2, 1) := by decide +kernel
theorem dX11_back_116 : decode cX11_back 116 = .ok (.aload_n 0, 1) := by decide +kernel
theorem dX11_back_117 : decode cX11_back 117 = .ok (.getfield 37, 3) := by decide +kernel
theorem dX11_back_120 : decode cX11_back 120 = .ok (.bipush 6, 2) := by decide +kernel
theorem dX11_back_122 : decode cX11_back 122 = .ok (.invokevirtual 274, 3) := by decide +kernel
theorem dX11_back_125 : decode cX11_back 125 = .ok (.istore_n 2, 1) := by decide +kernel
theorem dX11_back_126 : decode cX11_back 126 = .ok (.aload_n 0, 1) := by decide +kernel
theorem dX11_back_127 : decode cX11_back 127 = .ok (.iload_n 2, 1) := by decide +kernel
theorem dX11_back_128 : decode cX11_back 128 = .ok (.aload_n 0, 1) := by decide +kernel
theorem dX11_back_129 : decode cX11_back 129 = .ok (.getfield 40, 3) := by decide +kernel
theorem dX11_back_132 : decode cX11_back 132 = .ok (.bipush 6, 2) := by decide +kernel
theorem dX11_back_134 : decode cX11_back 134 = .ok (.invokevirtual 274, 3) := by decide +kernel
theorem dX11_back_137 : decode cX11_back 137 = .ok (.istore_n 2, 1) := by decide +kernel
theorem dX11_back_138 : decode cX11_back 138 = .ok (.aload_n 0, 1) := by decide +kernel
theorem dX11_back_139 : decode cX11_back 139 = .ok (.iload_n 2, 1) := by decide +kernel
theorem dX11_back_140 : decode cX11_back 140 = .ok (.aload_n 0, 1) := by decide +kernel
theorem dX11_back_141 : decode cX11_back 141 = .ok (.getfield 62, 3) := by decide +kernel
theorem dX11_back_144 : decode cX11_back 144 = .ok (.bipush 8, 2) := by decide +kernel
theorem dX11_back_146 : decode cX11_back 146 = .ok (.invokevirtual 274, 3) := by decide +kernel
theorem dX11_back_149 : decode cX11_back 149 = .ok (.pop, 1) := by decide +kernel
theorem dX11_back_150 : decode cX11_back 150 = .ok (.aload_n 0, 1) := by decide +kernel
theorem dX11_back_151 : decode cX11_back 151 = .ok (.getfield 153, 3) := by decide +kernel
theorem dX11_back_154 : decode cX11_back 154 = .ok (.ireturn, 1) := by decide +kernel
theorem dX11_count_0 : decode cX11_count 0 = .ok (.iload_n 1, 1) := by decide +kernel
theorem dX11_count_1 : decode cX11_count 1 = .ok (.tableswitch 90 0 8 #[51, 56, 61, 61, 61, 70, 75, 80, 85], 51) := by decide +kernel
theorem dX11_count_52 : decode cX11_count 52 = .ok (.aload_n 0, 1) := by decide +kernel
theorem dX11_count_53 : decode cX11_count 53 = .ok (.getfield 147, 3) := by decide +kernel
theorem dX11_count_56 : decode cX11_count 56 = .ok (.ireturn, 1) := by decide +kernel
theorem dX11_count_57 : decode cX11_count 57 = .ok (.aload_n 0, 1) := by decide +kernel
theorem dX11_count_58 : decode cX11_count 58 = .ok (.getfield 150, 3) := by decide +kernel
theorem dX11_count_61 : decode cX11_count 61 = .ok (.ireturn, 1) := by decide +kernel
theorem dX11_count_62 : decode cX11_count 62 = .ok (.aload_n 0, 1) := by decide +kernel
theorem dX11_count_63 : decode cX11_count 63 = .ok (.getfield 34, 3) := by decide +kernel
theorem dX11_count_66 : decode cX11_count 66 = .ok (.iload_n 1, 1) := by decide +kernel
theorem dX11_count_67 : decode cX11_count 67 = .ok (.iconst 2, 1) := by decide +kernel
theorem dX11_count_68 : decode cX11_count 68 = .ok (.isub, 1) := by decide +kernel
theorem dX11_count_69 : decode cX11_count 69 = .ok (.iaload, 1) := by decide +kernel
theorem dX11_count_70 : decode cX11_count 70 = .ok (.ireturn, 1) := by decide +kernel
theorem dX11_count_71 : decode cX11_count 71 = .ok (.aload_n 0, 1) := by decide +kernel
theorem dX11_count_72 : decode cX11_count 72 = .ok (.getfield 156, 3) := by decide +kernel
theorem dX11_count_75 : decode cX11_count 75 = .ok (.ireturn, 1) := by decide +kernel
theorem dX11_count_76 : decode cX11_count 76 = .ok (.aload_n 0, 1) := by decide +kernel
theorem dX11_count_77 : decode cX11_count 77 = .ok (.getfield 159, 3) := by decide +kernel
theorem dX11_count_80 : decode cX11_count 80 = .ok (.ireturn, 1) := by decide +kernel
theorem dX11_count_81 : decode cX11_count 81 = .ok (.aload_n 0, 1) := by decide +kernel
theorem dX11_count_82 : decode cX11_count 82 = .ok (.getfield 153, 3) := by decide +kernel
theorem dX11_count_85 : decode cX11_count 85 = .ok (.ireturn, 1) := by decide +kernel
theorem dX11_count_86 : decode cX11_count 86 = .ok (.aload_n 0, 1) := by decide +kernel
theorem dX11_count_87 : decode cX11_count 87 = .ok (.getfield 81, 3) := by decide +kernel
theorem dX11_count_90 : decode cX11_count 90 = .ok (.ireturn, 1) := by decide +kernel
theorem dX11_count_91 : decode cX11_count 91 = .ok (.iconst (-1), 1) := by decide +kernel
theorem dX11_count_92 : decode cX11_count 92 = .ok (.ireturn, 1) := by decide +kernel
theorem dJ6_bitCount_0f7a4_0 : decode cJ6_bitCount_0f7a4 0 = .ok (.iload_n 0, 1) := by decide +kernel
theorem dJ6_bitCount_0f7a4_1 : decode cJ6_bitCount_0f7a4 1 = .ok (.iload_n 0, 1) := by decide +kernel
theorem dJ6_bitCount_0f7a4_2 : decode cJ6_bitCount_0f7a4 2 = .ok (.iconst 1, 1) := by decide +kernel
theorem dJ6_bitCount_0f7a4_3 : decode cJ6_bitCount_0f7a4 3 = .ok (.iushr, 1) := by decide +kernel
theorem dJ6_bitCount_0f7a4_4 : decode cJ6_bitCount_0f7a4 4 = .ok (.ldc_w 265, 3) := by decide +kernel
theorem dJ6_bitCount_0f7a4_7 : decode cJ6_bitCount_0f7a4 7 = .ok (.iand, 1) := by decide +kernel
theorem dJ6_bitCount_0f7a4_8 : decode cJ6_bitCount_0f7a4 8 = .ok (.isub, 1) := by decide +kernel
theorem dJ6_bitCount_0f7a4_9 : decode cJ6_bitCount_0f7a4 9 = .ok (.istore_n 0, 1) := by decide +kernel
theorem dJ6_bitCount_0f7a4_10 : decode cJ6_bitCount_0f7a4 10 = .ok (.iload_n 0, 1) := by decide +kernel
theorem dJ6_bitCount_0f7a4_11 : decode cJ6_bitCount_0f7a4 11 = .ok (.ldc_w 266, 3) := by decide +kernel
theorem dJ6_bitCount_0f7a4_14 : decode cJ6_bitCount_0f7a4 14 = .ok (.iand, 1) := by decide +kernel
theorem dJ6_bitCount_0f7a4_15 : decode cJ6_bitCount_0f7a4 15 = .ok (.iload_n 0, 1) := by decide +kernel
theorem dJ6_bitCount_0f7a4_16 : decode cJ6_bitCount_0f7a4 16 = .ok (.iconst 2, 1) := by decide +kernel
theorem dJ6_bitCount_0f7a4_17 : decode cJ6_bitCount_0f7a4 17 = .ok (.iushr, 1) := by decide +kernel
theorem dJ6_bitCount_0f7a4_18 : decode cJ6_bitCount_0f7a4 18 = .ok (.ldc_w 266, 3) := by decide +kernel
theorem dJ6_bitCount_0f7a4_21 : decode cJ6_bitCount_0f7a4 21 = .ok (.iand, 1) := by decide +kernel
theorem dJ6_bitCount_0f7a4_22 : decode cJ6_bitCount_0f7a4 22 = .ok (.iadd, 1) := by decide +kernel
theorem dJ6_bitCount_0f7a4_23 : decode cJ6_bitCount_0f7a4 23 = .ok (.istore_n 0, 1) := by decide +kernel
theorem dJ6_bitCount_0f7a4_24 : decode cJ6_bitCount_0f7a4 24 = .ok (.iload_n 0, 1) := by decide +kernel
theorem dJ6_bitCount_0f7a4_25 : decode cJ6_bitCount_0f7a4 25 = .ok (.iload_n 0, 1) := by decide +kernel
theorem dJ6_bitCount_0f7a4_26 : decode cJ6_bitCount_0f7a4 26 = .ok (.iconst 4, 1) := by decide +kernel
theorem dJ6_bitCount_0f7a4_27 : decode cJ6_bitCount_0f7a4 27 = .ok (.iushr, 1) := by decide +kernel
theorem dJ6_bitCount_0f7a4_28 : decode cJ6_bitCount_0f7a4 28 = .ok (.iadd, 1) := by decide +kernel
theorem dJ6_bitCount_0f7a4_29 : decode cJ6_bitCount_0f7a4 29 = .ok (.ldc_w 267, 3) := by decide +kernel
theorem dJ6_bitCount_0f7a4_32 : decode cJ6_bitCount_0f7a4 32 = .ok (.iand, 1) := by decide +kernel
theorem dJ6_bitCount_0f7a4_33 : decode cJ6_bitCount_0f7a4 33 = .ok (.istore_n 0, 1) := by decide +kernel
theorem dJ6_bitCount_0f7a4_34 : decode cJ6_bitCount_0f7a4 34 = .ok (.iload_n 0, 1) := by decide +kernel
theorem dJ6_bitCount_0f7a4_35 : decode cJ6_bitCount_0f7a4 35 = .ok (.iload_n 0, 1) := by decide +kernel
theorem dJ6_bitCount_0f7a4_36 : decode cJ6_bitCount_0f7a4 36 = .ok (.bipush 8, 2) := by decide +kernel
theorem dJ6_bitCount_0f7a4_38 : decode cJ6_bitCount_0f7a4 38 = .ok (.iushr, 1) := by decide +kernel
theorem dJ6_bitCount_0f7a4_39 : decode cJ6_bitCount_0f7a4 39 = .ok (.iadd, 1) := by decide +kernel
theorem dJ6_bitCount_0f7a4_40 : decode cJ6_bitCount_0f7a4 40 = .ok (.istore_n 0, 1) := by decide +kernel
theorem dJ6_bitCount_0f7a4_41 : decode cJ6_bitCount_0f7a4 41 = .ok (.iload_n 0, 1) := by decide +kernel
theorem dJ6_bitCount_0f7a4_42 : decode cJ6_bitCount_0f7a4 42 = .ok (.iload_n 0, 1) := by decide +kernel
theorem dJ6_bitCount_0f7a4_43 : decode cJ6_bitCount_0f7a4 43 = .ok (.bipush 16, 2) := by decide +kernel
theorem dJ6_bitCount_0f7a4_45 : decode cJ6_bitCount_0f7a4 45 = .ok (.iushr, 1) := by decide +kernel
theorem dJ6_bitCount_0f7a4_46 : decode cJ6_bitCount_0f7a4 46 = .ok (.iadd, 1) := by decide +kernel
theorem dJ6_bitCount_0f7a4_47 : decode cJ6_bitCount_0f7a4 47 = .ok (.istore_n 0, 1) := by decide +kernel
theorem dJ6_bitCount_0f7a4_48 : decode cJ6_bitCount_0f7a4 48 = .ok (.iload_n 0, 1) := by decide +kernel
theorem dJ6_bitCount_0f7a4_49 : decode cJ6_bitCount_0f7a4 49 = .ok (.bipush 63, 2) := by decide +kernel
theorem dJ6_bitCount_0f7a4_51 : decode cJ6_bitCount_0f7a4 51 = .ok (.iand, 1) := by decide +kernel
theorem dJ6_bitCount_0f7a4_52 : decode cJ6_bitCount_0f7a4 52 = .ok (.ireturn, 1) := by decide +kernel
theorem dJ9_abs_0f7a4_0 : decode cJ9_abs_0f7a4 0 = .ok (.iload_n 0, 1) := by decide +kernel
theorem dJ9_abs_0f7a4_1 : decode cJ9_abs_0f7a4 1 = .ok (.ifCond .ge 8, 3) := by decide +kernel
theorem dJ9_abs_0f7a4_4 : decode cJ9_abs_0f7a4 4 = .ok (.iload_n 0, 1) := by decide +kernel
theorem dJ9_abs_0f7a4_5 : decode cJ9_abs_0f7a4 5 = .ok (.ineg, 1) := by decide +kernel
theorem dJ9_abs_0f7a4_6 : decode cJ9_abs_0f7a4 6 = .ok (.goto 4, 3) := by decide +kernel
theorem dJ9_abs_0f7a4_9 : decode cJ9_abs_0f7a4 9 = .ok (.iload_n 0, 1) := by decide +kernel
theorem dJ9_abs_0f7a4_10 : decode cJ9_abs_0f7a4 10 = .ok (.ireturn, 1) := by decide +kernel
theorem dJ9_max_7cf53_0 : decode cJ9_max_7cf53 0 = .ok (.iload_n 0, 1) := by decide +kernel
theorem dJ9_max_7cf53_1 : decode cJ9_max_7cf53 1 = .ok (.iload_n 1, 1) := by decide +kernel
theorem dJ9_max_7cf53_2 : decode cJ9_max_7cf53 2 = .ok (.if_icmp .lt 7, 3) := by decide +kernel
theorem dJ9_max_7cf53_5 : decode cJ9_max_7cf53 5 = .ok (.iload_n 0, 1) := by decide +kernel
theorem dJ9_max_7cf53_6 : decode cJ9_max_7cf53 6 = .ok (.goto 4, 3) := by decide +kernel
theorem dJ9_max_7cf53_9 : decode cJ9_max_7cf53 9 = .ok (.iload_n 1, 1) := by decide +kernel
theorem dJ9_max_7cf53_10 : decode cJ9_max_7cf53 10 = .ok (.ireturn, 1) := by decide +kernel
theorem dJ9_min_7cf53_0 : decode cJ9_min_7cf53 0 = .ok (.iload_n 0, 1) := by decide +kernel
theorem dJ9_min_7cf53_1 : decode cJ9_min_7cf53 1 = .ok (.iload_n 1, 1) := by decide +kernel
theorem dJ9_min_7cf53_2 : decode cJ9_min_7cf53 2 = .ok (.if_icmp .gt 7, 3) := by decide +kernel
theorem dJ9_min_7cf53_5 : decode cJ9_min_7cf53 5 = .ok (.iload_n 0, 1) := by decide +kernel
theorem dJ9_min_7cf53_6 : decode cJ9_min_7cf53 6 = .ok (.goto 4, 3) := by decide +kernel
theorem dJ9_min_7cf53_9 : decode cJ9_min_7cf53 9 = .ok (.iload_n 1, 1) := by decide +kernel
theorem dJ9_min_7cf53_10 : decode cJ9_min_7cf53 10 = .ok (.ireturn, 1) := by decide +kernel
set_option maxRecDepth 20000 in
theorem ggJ0_length_8abf5_J0_coder_7d493 : GoodIn wsJ0_length_8abf5 wsJ0_coder_7d493 := goodIn_r _ [6, 7, 8] (by decide +kernel) (by decide +kernel)
set_option maxRecDepth 20000 in
theorem gJ0_length_8abf5_J0_coder_7d493 : GoodIn wsJ0_length_8abf5 (wsV RJ0 335 RJ0 yJ0_coder_7d493 wsJ0_coder_7d493) := goodIn_app (goodIn_of _ (by decide +kernel)) ggJ0_length_8abf5_J0_coder_7d493
theorem dJ0_length_8abf5_0 : decode cJ0_length_8abf5 0 = .ok (.aload_n 0, 1) := by decide +kernel
theorem dJ0_length_8abf5_1 : decode cJ0_length_8abf5 1 = .ok (.getfield 9, 3) := by decide +kernel
theorem dJ0_length_8abf5_4 : decode cJ0_length_8abf5 4 = .ok (.arraylength, 1) := by decide +kernel
theorem dJ0_length_8abf5_5 : decode cJ0_length_8abf5 5 = .ok (.aload_n 0, 1) := by decide +kernel
theorem dJ0_length_8abf5_6 : decode cJ0_length_8abf5 6 = .ok (.invokevirtual 335, 3) := by decide +kernel
theorem dJ0_length_8abf5_9 : decode cJ0_length_8abf5 9 = .ok (.ishr, 1) := by decide +kernel
theorem dJ0_length_8abf5_10 : decode cJ0_length_8abf5 10 = .ok (.ireturn, 1) := by decide +kernel
set_option maxRecDepth 20000 in
theorem ggJ0_charAt_5068e_J0_isLatin1_aae02 : GoodIn wsJ0_charAt_5068e wsJ0_isLatin1_aae02 := goodIn_r _ [6, 7, 8] (by decide +kernel) (by decide +kernel)
set_option maxRecDepth 20000 in
theorem gJ0_charAt_5068e_J0_isLatin1_aae02 : GoodIn wsJ0_charAt_5068e (wsV RJ0 492 RJ0 yJ0_isLatin1_aae02 wsJ0_isLatin1_aae02) := goodIn_app (goodIn_of _ (by decide +kernel)) ggJ0_charAt_5068e_J0_isLatin1_aae02
set_option maxRecDepth 20000 in
theorem ggJ0_charAt_5068e_J1_charAt_3b067 : GoodIn wsJ0_charAt_5068e wsJ1_charAt_3b067 := goodIn_r _ [12, 13, 14, 5, 15, 16, 17, 18, 19, 20] (by decide +kernel) (by decide +kernel)
set_option maxRecDepth 20000 in
theorem gJ0_charAt_5068e_J1_charAt_3b067 : GoodIn wsJ0_charAt_5068e (va_wsS RJ0 495 yJ1_charAt_3b067 wsJ1_charAt_3b067) := goodIn_app (goodIn_of _ (by decide +kernel)) ggJ0_charAt_5068e_J1_charAt_3b067
set_option maxRecDepth 20000 in
theorem ggJ0_charAt_5068e_J2_charAt_3b067 : GoodIn wsJ0_charAt_5068e wsJ2_charAt_3b067 := goodIn_r _ [24, 25, 26, 23, 27, 28, 29, 30, 31, 14, 5, 15, 16, 17, 18, 19, 20, 32, 33, 34, 35, 36, 37] (by decide +kernel) (by decide +kernel)
set_option maxRecDepth 20000 in
theorem gJ0_charAt_5068e_J2_charAt_3b067 : GoodIn wsJ0_charAt_5068e (va_wsS RJ0 498 yJ2_charAt_3b067 wsJ2_charAt_3b067) := goodIn_app (goodIn_of _ (by decide +kernel)) ggJ0_charAt_5068e_J2_charAt_3b067
theorem dJ0_charAt_5068e_0 : decode cJ0_charAt_5068e 0 = .ok (.aload_n 0, 1) := by decide +kernel
theorem dJ0_charAt_5068e_1 : decode cJ0_charAt_5068e 1 = .ok (.invokevirtual 492, 3) := by decide +kernel
theorem dJ0_charAt_5068e_4 : decode cJ0_charAt_5068e 4 = .ok (.ifCond .eq 12, 3) := by decide +kernel
theorem dJ0_charAt_5068e_7 : decode cJ0_charAt_5068e 7 = .ok (.aload_n 0, 1) := by decide +kernel
theorem dJ0_charAt_5068e_8 : decode cJ0_charAt_5068e 8 = .ok (.getfield 9, 3) := by decide +kernel
theorem dJ0_charAt_5068e_11 : decode cJ0_charAt_5068e 11 = .ok (.iload_n 1, 1) := by decide +kernel
theorem dJ0_charAt_5068e_12 : decode cJ0_charAt_5068e 12 = .ok (.invokestatic 495, 3) := by decide +kernel
theorem dJ0_charAt_5068e_15 : decode cJ0_charAt_5068e 15 = .ok (.ireturn, 1) := by decide +kernel
theorem dJ0_charAt_5068e_16 : decode cJ0_charAt_5068e 16 = .ok (.aload_n 0, 1) := by decide +kernel
theorem dJ0_charAt_5068e_17 : decode cJ0_charAt_5068e 17 = .ok (.getfield 9, 3) := by decide +kernel
theorem dJ0_charAt_5068e_20 : decode cJ0_charAt_5068e 20 = .ok (.iload_n 1, 1) := by decide +kernel
theorem dJ0_charAt_5068e_21 : decode cJ0_charAt_5068e 21 = .ok (.invokestatic 498, 3) := by decide +kernel
theorem dJ0_charAt_5068e_24 : decode cJ0_charAt_5068e 24 = .ok (.ireturn, 1) := by decide +kernel
theorem dJ0_coder_7d493_0 : decode cJ0_coder_7d493 0 = .ok (.getstatic 38, 3) := by decide +kernel
theorem dJ0_coder_7d493_3 : decode cJ0_coder_7d493 3 = .ok (.ifCond .eq 10, 3) := by decide +kernel
theorem dJ0_coder_7d493_6 : decode cJ0_coder_7d493 6 = .ok (.aload_n 0, 1) := by decide +kernel
theorem dJ0_coder_7d493_7 : decode cJ0_coder_7d493 7 = .ok (.getfield 15, 3) := by decide +kernel
theorem dJ0_coder_7d493_10 : decode cJ0_coder_7d493 10 = .ok (.goto 4, 3) := by decide +kernel
theorem dJ0_coder_7d493_13 : decode cJ0_coder_7d493 13 = .ok (.iconst 1, 1) := by decide +kernel
theorem dJ0_coder_7d493_14 : decode cJ0_coder_7d493 14 = .ok (.ireturn, 1) := by decide +kernel
theorem dJ0_isLatin1_aae02_0 : decode cJ0_isLatin1_aae02 0 = .ok (.getstatic 38, 3) := by decide +kernel
theorem dJ0_isLatin1_aae02_3 : decode cJ0_isLatin1_aae02 3 = .ok (.ifCond .eq 14, 3) := by decide +kernel
theorem dJ0_isLatin1_aae02_6 : decode cJ0_isLatin1_aae02 6 = .ok (.aload_n 0, 1) := by decide +kernel
theorem dJ0_isLatin1_aae02_7 : decode cJ0_isLatin1_aae02 7 = .ok (.getfield 15, 3) := by decide +kernel
theorem dJ0_isLatin1_aae02_10 : decode cJ0_isLatin1_aae02 10 = .ok (.ifCond .ne 7, 3) := by decide +kernel
theorem dJ0_isLatin1_aae02_13 : decode cJ0_isLatin1_aae02 13 = .ok (.iconst 1, 1) := by decide +kernel
theorem dJ0_isLatin1_aae02_14 : decode cJ0_isLatin1_aae02 14 = .ok (.goto 4, 3) := by decide +kernel
theorem dJ0_isLatin1_aae02_17 : decode cJ0_isLatin1_aae02 17 = .ok (.iconst 0, 1) := by decide +kernel
theorem dJ0_isLatin1_aae02_18 : decode cJ0_isLatin1_aae02 18 = .ok (.ireturn, 1) := by decide +kernel
set_option maxRecDepth 20000 in
theorem ggJ0_checkIndex_df160_J3_checkIndex_8e157 : GoodIn wsJ0_checkIndex_df160 wsJ3_checkIndex_8e157 := goodIn_r _ [5] (by decide +kernel) (by decide +kernel)
set_option maxRecDepth 20000 in
theorem gJ0_checkIndex_df160_J3_checkIndex_8e157 : GoodIn wsJ0_checkIndex_df160 (va_wsS RJ0 1059 yJ3_checkIndex_8e157 wsJ3_checkIndex_8e157) := goodIn_app (goodIn_of _ (by decide +kernel)) ggJ0_checkIndex_df160_J3_checkIndex_8e157
theorem dJ0_checkIndex_df160_0 : decode cJ0_checkIndex_df160 0 = .ok (.iload_n 0, 1) := by decide +kernel
theorem dJ0_checkIndex_df160_1 : decode cJ0_checkIndex_df160 1 = .ok (.iload_n 1, 1) := by decide +kernel
theorem dJ0_checkIndex_df160_2 : decode cJ0_checkIndex_df160 2 = .ok (.getstatic 1053, 3) := by decide +kernel
theorem dJ0_checkIndex_df160_5 : decode cJ0_checkIndex_df160 5 = .ok (.invokestatic 1059, 3) := by decide +kernel
theorem dJ0_checkIndex_df160_8 : decode cJ0_checkIndex_df160 8 = .ok (.pop, 1) := by decide +kernel
theorem dJ0_checkIndex_df160_9 : decode cJ0_checkIndex_df160 9 = .ok (.return_, 1) := by decide +kernel
set_option maxRecDepth 20000 in
theorem ggJ1_charAt_3b067_J0_checkIndex_df160 : GoodIn wsJ1_charAt_3b067 wsJ0_checkIndex_df160 := goodIn_r _ [4, 5, 6, 7, 8, 9] (by decide +kernel) (by decide +kernel)
set_option maxRecDepth 20000 in
theorem gJ1_charAt_3b067_J0_checkIndex_df160 : GoodIn wsJ1_charAt_3b067 (va_wsS RJ1 9 yJ0_checkIndex_df160 wsJ0_checkIndex_df160) := goodIn_app (goodIn_of _ (by decide +kernel)) ggJ1_charAt_3b067_J0_checkIndex_df160
theorem dJ1_charAt_3b067_0 : decode cJ1_charAt_3b067 0 = .ok (.iload_n 1, 1) := by decide +kernel
theorem dJ1_charAt_3b067_1 : decode cJ1_charAt_3b067 1 = .ok (.aload_n 0, 1) := by decide +kernel
theorem dJ1_charAt_3b067_2 : decode cJ1_charAt_3b067 2 = .ok (.arraylength, 1) := by decide +kernel
theorem dJ1_charAt_3b067_3 : decode cJ1_charAt_3b067 3 = .ok (.invokestatic 9, 3) := by decide +kernel
theorem dJ1_charAt_3b067_6 : decode cJ1_charAt_3b067 6 = .ok (.aload_n 0, 1) := by decide +kernel
theorem dJ1_charAt_3b067_7 : decode cJ1_charAt_3b067 7 = .ok (.iload_n 1, 1) := by decide +kernel
theorem dJ1_charAt_3b067_8 : decode cJ1_charAt_3b067 8 = .ok (.baload, 1) := by decide +kernel
theorem dJ1_charAt_3b067_9 : decode cJ1_charAt_3b067 9 = .ok (.sipush 255, 3) := by decide +kernel
theorem dJ1_charAt_3b067_12 : decode cJ1_charAt_3b067 12 = .ok (.iand, 1) := by decide +kernel
theorem dJ1_charAt_3b067_13 : decode cJ1_charAt_3b067 13 = .ok (.i2c, 1) := by decide +kernel
theorem dJ1_charAt_3b067_14 : decode cJ1_charAt_3b067 14 = .ok (.ireturn, 1) := by decide +kernel
set_option maxRecDepth 20000 in
theorem ggJ2_getChar_3b067_J2_length_9d52b : GoodIn wsJ2_getChar_3b067 wsJ2_length_9d52b := goodIn_r _ [7] (by decide +kernel) (by decide +kernel)
set_option maxRecDepth 20000 in
theorem gJ2_getChar_3b067_J2_length_9d52b : GoodIn wsJ2_getChar_3b067 (va_wsS RJ2 48 yJ2_length_9d52b wsJ2_length_9d52b) := goodIn_app (goodIn_of _ (by decide +kernel)) ggJ2_getChar_3b067_J2_length_9d52b
theorem dJ2_getChar_3b067_0 : decode cJ2_getChar_3b067 0 = .ok (.getstatic 44, 3) := by decide +kernel
theorem dJ2_getChar_3b067_3 : decode cJ2_getChar_3b067 3 = .ok (.ifCond .ne 25, 3) := by decide +kernel
theorem dJ2_getChar_3b067_6 : decode cJ2_getChar_3b067 6 = .ok (.iload_n 1, 1) := by decide +kernel
theorem dJ2_getChar_3b067_7 : decode cJ2_getChar_3b067 7 = .ok (.ifCond .lt 11, 3) := by decide +kernel
theorem dJ2_getChar_3b067_10 : decode cJ2_getChar_3b067 10 = .ok (.iload_n 1, 1) := by decide +kernel
theorem dJ2_getChar_3b067_11 : decode cJ2_getChar_3b067 11 = .ok (.aload_n 0, 1) := by decide +kernel
theorem dJ2_getChar_3b067_12 : decode cJ2_getChar_3b067 12 = .ok (.invokestatic 48, 3) := by decide +kernel
theorem dJ2_getChar_3b067_15 : decode cJ2_getChar_3b067 15 = .ok (.if_icmp .lt 13, 3) := by decide +kernel
theorem dJ2_getChar_3b067_18 : decode cJ2_getChar_3b067 18 = .ok (.new 52, 3) := by decide +kernel
theorem dJ2_getChar_3b067_21 : decode cJ2_getChar_3b067 21 = .ok (.dup, 1) := by decide +kernel
theorem dJ2_getChar_3b067_22 : decode cJ2_getChar_3b067 22 = .ok (.ldc 54, 2) := by decide +kernel
theorem dJ2_getChar_3b067_24 : decode cJ2_getChar_3b067 24 = .ok (.invokespecial 56, 3) := by decide +kernel
theorem dJ2_getChar_3b067_27 : decode cJ2_getChar_3b067 27 = .ok (.athrow, 1) := by decide +kernel
theorem dJ2_getChar_3b067_28 : decode cJ2_getChar_3b067 28 = .ok (.iload_n 1, 1) := by decide +kernel
theorem dJ2_getChar_3b067_29 : decode cJ2_getChar_3b067 29 = .ok (.iconst 1, 1) := by decide +kernel
theorem dJ2_getChar_3b067_30 : decode cJ2_getChar_3b067 30 = .ok (.ishl, 1) := by decide +kernel
theorem dJ2_getChar_3b067_31 : decode cJ2_getChar_3b067 31 = .ok (.istore_n 1, 1) := by decide +kernel
theorem dJ2_getChar_3b067_32 : decode cJ2_getChar_3b067 32 = .ok (.aload_n 0, 1) := by decide +kernel
theorem dJ2_getChar_3b067_33 : decode cJ2_getChar_3b067 33 = .ok (.iload_n 1, 1) := by decide +kernel
theorem dJ2_getChar_3b067_34 : decode cJ2_getChar_3b067 34 = .ok (.iinc 1 1, 3) := by decide +kernel
theorem dJ2_getChar_3b067_37 : decode cJ2_getChar_3b067 37 = .ok (.baload, 1) := by decide +kernel
theorem dJ2_getChar_3b067_38 : decode cJ2_getChar_3b067 38 = .ok (.sipush 255, 3) := by decide +kernel
theorem dJ2_getChar_3b067_41 : decode cJ2_getChar_3b067 41 = .ok (.iand, 1) := by decide +kernel
theorem dJ2_getChar_3b067_42 : decode cJ2_getChar_3b067 42 = .ok (.getstatic 59, 3) := by decide +kernel
theorem dJ2_getChar_3b067_45 : decode cJ2_getChar_3b067 45 = .ok (.ishl, 1) := by decide +kernel
theorem dJ2_getChar_3b067_46 : decode cJ2_getChar_3b067 46 = .ok (.aload_n 0, 1) := by decide +kernel
theorem dJ2_getChar_3b067_47 : decode cJ2_getChar_3b067 47 = .ok (.iload_n 1, 1) := by decide +kernel
theorem dJ2_getChar_3b067_48 : decode cJ2_getChar_3b067 48 = .ok (.baload, 1) := by decide +kernel
theorem dJ2_getChar_3b067_49 : decode cJ2_getChar_3b067 49 = .ok (.sipush 255, 3) := by decide +kernel
theorem dJ2_getChar_3b067_52 : decode cJ2_getChar_3b067 52 = .ok (.iand, 1) := by decide +kernel
theorem dJ2_getChar_3b067_53 : decode cJ2_getChar_3b067 53 = .ok (.getstatic 63, 3) := by decide +kernel
theorem dJ2_getChar_3b067_56 : decode cJ2_getChar_3b067 56 = .ok (.ishl, 1) := by decide +kernel
theorem dJ2_getChar_3b067_57 : decode cJ2_getChar_3b067 57 = .ok (.ior, 1) := by decide +kernel
theorem dJ2_getChar_3b067_58 : decode cJ2_getChar_3b067 58 = .ok (.i2c, 1) := by decide +kernel
theorem dJ2_getChar_3b067_59 : decode cJ2_getChar_3b067 59 = .ok (.ireturn, 1) := by decide +kernel
theorem dJ2_length_9d52b_0 : decode cJ2_length_9d52b 0 = .ok (.aload_n 0, 1) := by decide +kernel
theorem dJ2_length_9d52b_1 : decode cJ2_length_9d52b 1 = .ok (.arraylength, 1) := by decide +kernel
theorem dJ2_length_9d52b_2 : decode cJ2_length_9d52b 2 = .ok (.iconst 1, 1) := by decide +kernel
theorem dJ2_length_9d52b_3 : decode cJ2_length_9d52b 3 = .ok (.ishr, 1) := by decide +kernel
theorem dJ2_length_9d52b_4 : decode cJ2_length_9d52b 4 = .ok (.ireturn, 1) := by decide +kernel
set_option maxRecDepth 20000 in
theorem ggJ2_charAt_3b067_J2_checkIndex_2214a : GoodIn wsJ2_charAt_3b067 wsJ2_checkIndex_2214a := goodIn_r _ [4, 5, 6, 3, 7, 8, 9, 10, 11, 12, 13, 14, 15, 16] (by decide +kernel) (by decide +kernel)
set_option maxRecDepth 20000 in
theorem gJ2_charAt_3b067_J2_checkIndex_2214a : GoodIn wsJ2_charAt_3b067 (va_wsS RJ2 67 yJ2_checkIndex_2214a wsJ2_checkIndex_2214a) := goodIn_app (goodIn_of _ (by decide +kernel)) ggJ2_charAt_3b067_J2_checkIndex_2214a
set_option maxRecDepth 20000 in
theorem ggJ2_charAt_3b067_J2_getChar_3b067 : GoodIn wsJ2_charAt_3b067 wsJ2_getChar_3b067 := goodIn_r _ [19, 20, 21, 22, 5, 6, 3, 7] (by decide +kernel) (by decide +kernel)
set_option maxRecDepth 20000 in
theorem gJ2_charAt_3b067_J2_getChar_3b067 : GoodIn wsJ2_charAt_3b067 (va_wsS RJ2 71 yJ2_getChar_3b067 wsJ2_getChar_3b067) := goodIn_app (goodIn_of _ (by decide +kernel)) ggJ2_charAt_3b067_J2_getChar_3b067
theorem dJ2_charAt_3b067_0 : decode cJ2_charAt_3b067 0 = .ok (.iload_n 1, 1) := by decide +kernel
theorem dJ2_charAt_3b067_1 : decode cJ2_charAt_3b067 1 = .ok (.aload_n 0, 1) := by decide +kernel
theorem dJ2_charAt_3b067_2 : decode cJ2_charAt_3b067 2 = .ok (.invokestatic 67, 3) := by decide +kernel
theorem dJ2_charAt_3b067_5 : decode cJ2_charAt_3b067 5 = .ok (.aload_n 0, 1) := by decide +kernel
theorem dJ2_charAt_3b067_6 : decode cJ2_charAt_3b067 6 = .ok (.iload_n 1, 1) := by decide +kernel
theorem dJ2_charAt_3b067_7 : decode cJ2_charAt_3b067 7 = .ok (.invokestatic 71, 3) := by decide +kernel
theorem dJ2_charAt_3b067_10 : decode cJ2_charAt_3b067 10 = .ok (.ireturn, 1) := by decide +kernel
set_option maxRecDepth 20000 in
theorem ggJ2_checkIndex_2214a_J2_length_9d52b : GoodIn wsJ2_checkIndex_2214a wsJ2_length_9d52b := goodIn_r _ [4] (by decide +kernel) (by decide +kernel)
set_option maxRecDepth 20000 in
theorem gJ2_checkIndex_2214a_J2_length_9d52b : GoodIn wsJ2_checkIndex_2214a (va_wsS RJ2 48 yJ2_length_9d52b wsJ2_length_9d52b) := goodIn_app (goodIn_of _ (by decide +kernel)) ggJ2_checkIndex_2214a_J2_length_9d52b
set_option maxRecDepth 20000 in
theorem ggJ2_checkIndex_2214a_J0_checkIndex_df160 : GoodIn wsJ2_checkIndex_2214a wsJ0_checkIndex_df160 := goodIn_r _ [8, 9, 10, 11, 12, 13] (by decide +kernel) (by decide +kernel)
set_option maxRecDepth 20000 in
theorem gJ2_checkIndex_2214a_J0_checkIndex_df160 : GoodIn wsJ2_checkIndex_2214a (va_wsS RJ2 414 yJ0_checkIndex_df160 wsJ0_checkIndex_df160) := goodIn_app (goodIn_of _ (by decide +kernel)) ggJ2_checkIndex_2214a_J0_checkIndex_df160
theorem dJ2_checkIndex_2214a_0 : decode cJ2_checkIndex_2214a 0 = .ok (.iload_n 0, 1) := by decide +kernel
theorem dJ2_checkIndex_2214a_1 : decode cJ2_checkIndex_2214a 1 = .ok (.aload_n 1, 1) := by decide +kernel
theorem dJ2_checkIndex_2214a_2 : decode cJ2_checkIndex_2214a 2 = .ok (.invokestatic 48, 3) := by decide +kernel
theorem dJ2_checkIndex_2214a_5 : decode cJ2_checkIndex_2214a 5 = .ok (.invokestatic 414, 3) := by decide +kernel
theorem dJ2_checkIndex_2214a_8 : decode cJ2_checkIndex_2214a 8 = .ok (.return_, 1) := by decide +kernel
theorem dJ7_fill_53178_0 : decode cJ7_fill_53178 0 = .ok (.iconst 0, 1) := by decide +kernel
theorem dJ7_fill_53178_1 : decode cJ7_fill_53178 1 = .ok (.istore_n 2, 1) := by decide +kernel
theorem dJ7_fill_53178_2 : decode cJ7_fill_53178 2 = .ok (.aload_n 0, 1) := by decide +kernel
theorem dJ7_fill_53178_3 : decode cJ7_fill_53178 3 = .ok (.arraylength, 1) := by decide +kernel
theorem dJ7_fill_53178_4 : decode cJ7_fill_53178 4 = .ok (.istore_n 3, 1) := by decide +kernel
theorem dJ7_fill_53178_5 : decode cJ7_fill_53178 5 = .ok (.iload_n 2, 1) := by decide +kernel
theorem dJ7_fill_53178_6 : decode cJ7_fill_53178 6 = .ok (.iload_n 3, 1) := by decide +kernel
theorem dJ7_fill_53178_7 : decode cJ7_fill_53178 7 = .ok (.if_icmp .ge 13, 3) := by decide +kernel
theorem dJ7_fill_53178_10 : decode cJ7_fill_53178 10 = .ok (.aload_n 0, 1) := by decide +kernel
theorem dJ7_fill_53178_11 : decode cJ7_fill_53178 11 = .ok (.iload_n 2, 1) := by decide +kernel
theorem dJ7_fill_53178_12 : decode cJ7_fill_53178 12 = .ok (.iload_n 1, 1) := by decide +kernel
theorem dJ7_fill_53178_13 : decode cJ7_fill_53178 13 = .ok (.iastore, 1) := by decide +kernel
theorem dJ7_fill_53178_14 : decode cJ7_fill_53178 14 = .ok (.iinc 2 1, 3) := by decide +kernel
theorem dJ7_fill_53178_17 : decode cJ7_fill_53178 17 = .ok (.goto (-12), 3) := by decide +kernel
theorem dJ7_fill_53178_20 : decode cJ7_fill_53178 20 = .ok (.return_, 1) := by decide +kernel
theorem dJ3_checkIndex_8e157_0 : decode cJ3_checkIndex_8e157 0 = .ok (.iload_n 0, 1) := by decide +kernel
theorem dJ3_checkIndex_8e157_1 : decode cJ3_checkIndex_8e157 1 = .ok (.ifCond .lt 8, 3) := by decide +kernel
theorem dJ3_checkIndex_8e157_4 : decode cJ3_checkIndex_8e157 4 = .ok (.iload_n 0, 1) := by decide +kernel
theorem dJ3_checkIndex_8e157_5 : decode cJ3_checkIndex_8e157 5 = .ok (.iload_n 1, 1) := by decide +kernel
theorem dJ3_checkIndex_8e157_6 : decode cJ3_checkIndex_8e157 6 = .ok (.if_icmp .lt 10, 3) := by decide +kernel
theorem dJ3_checkIndex_8e157_9 : decode cJ3_checkIndex_8e157 9 = .ok (.aload_n 2, 1) := by decide +kernel
theorem dJ3_checkIndex_8e157_10 : decode cJ3_checkIndex_8e157 10 = .ok (.iload_n 0, 1) := by decide +kernel
theorem dJ3_checkIndex_8e157_11 : decode cJ3_checkIndex_8e157 11 = .ok (.iload_n 1, 1) := by decide +kernel
theorem dJ3_checkIndex_8e157_12 : decode cJ3_checkIndex_8e157 12 = .ok (.invokestatic 95, 3) := by decide +kernel
theorem dJ3_checkIndex_8e157_15 : decode cJ3_checkIndex_8e157 15 = .ok (.athrow, 1) := by decide +kernel
theorem dJ3_checkIndex_8e157_16 : decode cJ3_checkIndex_8e157 16 = .ok (.iload_n 0, 1) := by decide +kernel
theorem dJ3_checkIndex_8e157_17 : decode cJ3_checkIndex_8e157 17 = .ok (.ireturn, 1) := by decide +kernel
theorem dL_law_0 : decode cL_law 0 = .ok (.new 7, 3) := by decide +kernel
theorem dL_law_3 : decode cL_law 3 = .ok (.dup, 1) := by decide +kernel
theorem dL_law_4 : decode cL_law 4 = .ok (.invokespecial 9, 3) := by decide +kernel
theorem dL_law_7 : decode cL_law 7 = .ok (.astore_n 1, 1) := by decide +kernel
theorem dL_law_8 : decode cL_law 8 = .ok (.new 10, 3) := by decide +kernel
theorem dL_law_11 : decode cL_law 11 = .ok (.dup, 1) := by decide +kernel
theorem dL_law_12 : decode cL_law 12 = .ok (.invokespecial 12, 3) := by decide +kernel
theorem dL_law_15 : decode cL_law 15 = .ok (.astore_n 2, 1) := by decide +kernel
theorem dL_law_16 : decode cL_law 16 = .ok (.iconst 0, 1) := by decide +kernel
theorem dL_law_17 : decode cL_law 17 = .ok (.istore_n 3, 1) := by decide +kernel
theorem dL_law_18 : decode cL_law 18 = .ok (.iload_n 3, 1) := by decide +kernel
theorem dL_law_19 : decode cL_law 19 = .ok (.aload_n 0, 1) := by decide +kernel
theorem dL_law_20 : decode cL_law 20 = .ok (.arraylength, 1) := by decide +kernel
theorem dL_law_21 : decode cL_law 21 = .ok (.iconst 4, 1) := by decide +kernel
theorem dL_law_22 : decode cL_law 22 = .ok (.isub, 1) := by decide +kernel
theorem dL_law_23 : decode cL_law 23 = .ok (.if_icmp .gt 832, 3) := by decide +kernel
theorem dL_law_26 : decode cL_law 26 = .ok (.aload_n 0, 1) := by decide +kernel
theorem dL_law_27 : decode cL_law 27 = .ok (.iload_n 3, 1) := by decide +kernel
theorem dL_law_28 : decode cL_law 28 = .ok (.iaload, 1) := by decide +kernel
theorem dL_law_29 : decode cL_law 29 = .ok (.bipush 31, 2) := by decide +kernel
theorem dL_law_31 : decode cL_law 31 = .ok (.iand, 1) := by decide +kernel
theorem dL_law_32 : decode cL_law 32 = .ok (.tableswitch 817 0 29 #[136, 199, 212, 225, 258, 281, 304, 327, 350, 383, 406, 429, 442, 455, 488, 501, 514, 537, 550, 573, 606, 619, 642, 655, 668, 701, 734, 757, 780, 803], 136) := by decide +kernel
theorem dL_law_168 : decode cL_law 168 = .ok (.aload_n 1, 1) := by decide +kernel
theorem dL_law_169 : decode cL_law 169 = .ok (.aload_n 0, 1) := by decide +kernel
theorem dL_law_170 : decode cL_law 170 = .ok (.iload_n 3, 1) := by decide +kernel
theorem dL_law_171 : decode cL_law 171 = .ok (.iconst 1, 1) := by decide +kernel
theorem dL_law_172 : decode cL_law 172 = .ok (.iadd, 1) := by decide +kernel
theorem dL_law_173 : decode cL_law 173 = .ok (.iaload, 1) := by decide +kernel
theorem dL_law_174 : decode cL_law 174 = .ok (.i2l, 1) := by decide +kernel
theorem dL_law_175 : decode cL_law 175 = .ok (.bipush 32, 2) := by decide +kernel
theorem dL_law_177 : decode cL_law 177 = .ok (.lshl, 1) := by decide +kernel
theorem dL_law_178 : decode cL_law 178 = .ok (.aload_n 0, 1) := by decide +kernel
theorem dL_law_179 : decode cL_law 179 = .ok (.iload_n 3, 1) := by decide +kernel
theorem dL_law_180 : decode cL_law 180 = .ok (.iconst 2, 1) := by decide +kernel
theorem dL_law_181 : decode cL_law 181 = .ok (.iadd, 1) := by decide +kernel
theorem dL_law_182 : decode cL_law 182 = .ok (.iaload, 1) := by decide +kernel
theorem dL_law_183 : decode cL_law 183 = .ok (.i2l, 1) := by decide +kernel
theorem dL_law_184 : decode cL_law 184 = .ok (.ldc2_w 13, 3) := by decide +kernel
theorem dL_law_187 : decode cL_law 187 = .ok (.land, 1) := by decide +kernel
theorem dL_law_188 : decode cL_law 188 = .ok (.lor, 1) := by decide +kernel
theorem dL_law_189 : decode cL_law 189 = .ok (.aload_n 0, 1) := by decide +kernel
theorem dL_law_190 : decode cL_law 190 = .ok (.iload_n 3, 1) := by decide +kernel
theorem dL_law_191 : decode cL_law 191 = .ok (.iconst 3, 1) := by decide +kernel
theorem dL_law_192 : decode cL_law 192 = .ok (.iadd, 1) := by decide +kernel
theorem dL_law_193 : decode cL_law 193 = .ok (.iaload, 1) := by decide +kernel
theorem dL_law_194 : decode cL_law 194 = .ok (.invokevirtual 15, 3) := by decide +kernel
theorem dL_law_197 : decode cL_law 197 = .ok (.aload_n 2, 1) := by decide +kernel
theorem dL_law_198 : decode cL_law 198 = .ok (.aload_n 0, 1) := by decide +kernel
theorem dL_law_199 : decode cL_law 199 = .ok (.iload_n 3, 1) := by decide +kernel
theorem dL_law_200 : decode cL_law 200 = .ok (.iconst 1, 1) := by decide +kernel
theorem dL_law_201 : decode cL_law 201 = .ok (.iadd, 1) := by decide +kernel
theorem dL_law_202 : decode cL_law 202 = .ok (.iaload, 1) := by decide +kernel
theorem dL_law_203 : decode cL_law 203 = .ok (.i2l, 1) := by decide +kernel
theorem dL_law_204 : decode cL_law 204 = .ok (.bipush 32, 2) := by decide +kernel
theorem dL_law_206 : decode cL_law 206 = .ok (.lshl, 1) := by decide +kernel
theorem dL_law_207 : decode cL_law 207 = .ok (.aload_n 0, 1) := by decide +kernel
theorem dL_law_208 : decode cL_law 208 = .ok (.iload_n 3, 1) := by decide +kernel
theorem dL_law_209 : decode cL_law 209 = .ok (.iconst 2, 1) := by decide +kernel
theorem dL_law_210 : decode cL_law 210 = .ok (.iadd, 1) := by decide +kernel
theorem dL_law_211 : decode cL_law 211 = .ok (.iaload, 1) := by decide +kernel
theorem dL_law_212 : decode cL_law 212 = .ok (.i2l, 1) := by decide +kernel
theorem dL_law_213 : decode cL_law 213 = .ok (.ldc2_w 13, 3) := by decide +kernel
theorem dL_law_216 : decode cL_law 216 = .ok (.land, 1) := by decide +kernel
theorem dL_law_217 : decode cL_law 217 = .ok (.lor, 1) := by decide +kernel
theorem dL_law_218 : decode cL_law 218 = .ok (.aload_n 0, 1) := by decide +kernel
theorem dL_law_219 : decode cL_law 219 = .ok (.iload_n 3, 1) := by decide +kernel
theorem dL_law_220 : decode cL_law 220 = .ok (.iconst 3, 1) := by decide +kernel
theorem dL_law_221 : decode cL_law 221 = .ok (.iadd, 1) := by decide +kernel
theorem dL_law_222 : decode cL_law 222 = .ok (.iaload, 1) := by decide +kernel
theorem dL_law_223 : decode cL_law 223 = .ok (.invokevirtual 19, 3) := by decide +kernel
theorem dL_law_226 : decode cL_law 226 = .ok (.if_icmp .eq 623, 3) := by decide +kernel
theorem dL_law_229 : decode cL_law 229 = .ok (.iconst 0, 1) := by decide +kernel
theorem dL_law_230 : decode cL_law 230 = .ok (.ireturn, 1) := by decide +kernel
theorem dL_law_231 : decode cL_law 231 = .ok (.aload_n 1, 1) := by decide +kernel
theorem dL_law_232 : decode cL_law 232 = .ok (.invokevirtual 20, 3) := by decide +kernel
theorem dL_law_235 : decode cL_law 235 = .ok (.aload_n 2, 1) := by decide +kernel
theorem dL_law_236 : decode cL_law 236 = .ok (.invokevirtual 24, 3) := by decide +kernel
theorem dL_law_239 : decode cL_law 239 = .ok (.if_icmp .eq 610, 3) := by decide +kernel
theorem dL_law_242 : decode cL_law 242 = .ok (.iconst 0, 1) := by decide +kernel
theorem dL_law_243 : decode cL_law 243 = .ok (.ireturn, 1) := by decide +kernel
theorem dL_law_244 : decode cL_law 244 = .ok (.aload_n 1, 1) := by decide +kernel
theorem dL_law_245 : decode cL_law 245 = .ok (.invokevirtual 25, 3) := by decide +kernel
theorem dL_law_248 : decode cL_law 248 = .ok (.aload_n 2, 1) := by decide +kernel
theorem dL_law_249 : decode cL_law 249 = .ok (.invokevirtual 28, 3) := by decide +kernel
theorem dL_law_252 : decode cL_law 252 = .ok (.if_icmp .eq 597, 3) := by decide +kernel
theorem dL_law_255 : decode cL_law 255 = .ok (.iconst 0, 1) := by decide +kernel
theorem dL_law_256 : decode cL_law 256 = .ok (.ireturn, 1) := by decide +kernel
theorem dL_law_257 : decode cL_law 257 = .ok (.aload_n 1, 1) := by decide +kernel
theorem dL_law_258 : decode cL_law 258 = .ok (.aload_n 0, 1) := by decide +kernel
theorem dL_law_259 : decode cL_law 259 = .ok (.iload_n 3, 1) := by decide +kernel
theorem dL_law_260 : decode cL_law 260 = .ok (.iconst 1, 1) := by decide +kernel
theorem dL_law_261 : decode cL_law 261 = .ok (.iadd, 1) := by decide +kernel
theorem dL_law_262 : decode cL_law 262 = .ok (.iaload, 1) := by decide +kernel
theorem dL_law_263 : decode cL_law 263 = .ok (.aload_n 0, 1) := by decide +kernel
theorem dL_law_264 : decode cL_law 264 = .ok (.iload_n 3, 1) := by decide +kernel
theorem dL_law_265 : decode cL_law 265 = .ok (.iconst 2, 1) := by decide +kernel
theorem dL_law_266 : decode cL_law 266 = .ok (.iadd, 1) := by decide +kernel
theorem dL_law_267 : decode cL_law 267 = .ok (.iaload, 1) := by decide +kernel
theorem dL_law_268 : decode cL_law 268 = .ok (.invokevirtual 29, 3) := by decide +kernel
theorem dL_law_271 : decode cL_law 271 = .ok (.aload_n 2, 1) := by decide +kernel
theorem dL_law_272 : decode cL_law 272 = .ok (.aload_n 0, 1) := by decide +kernel
theorem dL_law_273 : decode cL_law 273 = .ok (.iload_n 3, 1) := by decide +kernel
theorem dL_law_274 : decode cL_law 274 = .ok (.iconst 1, 1) := by decide +kernel
theorem dL_law_275 : decode cL_law 275 = .ok (.iadd, 1) := by decide +kernel
theorem dL_law_276 : decode cL_law 276 = .ok (.iaload, 1) := by decide +kernel
theorem dL_law_277 : decode cL_law 277 = .ok (.aload_n 0, 1) := by decide +kernel
theorem dL_law_278 : decode cL_law 278 = .ok (.iload_n 3, 1) := by decide +kernel
theorem dL_law_279 : decode cL_law 279 = .ok (.iconst 2, 1) := by decide +kernel
theorem dL_law_280 : decode cL_law 280 = .ok (.iadd, 1) := by decide +kernel
theorem dL_law_281 : decode cL_law 281 = .ok (.iaload, 1) := by decide +kernel
theorem dL_law_282 : decode cL_law 282 = .ok (.invokevirtual 33, 3) := by decide +kernel
theorem dL_law_285 : decode cL_law 285 = .ok (.if_icmp .eq 564, 3) := by decide +kernel
theorem dL_law_288 : decode cL_law 288 = .ok (.iconst 0, 1) := by decide +kernel
theorem dL_law_289 : decode cL_law 289 = .ok (.ireturn, 1) := by decide +kernel
theorem dL_law_290 : decode cL_law 290 = .ok (.aload_n 1, 1) := by decide +kernel
theorem dL_law_291 : decode cL_law 291 = .ok (.aload_n 0, 1) := by decide +kernel
theorem dL_law_292 : decode cL_law 292 = .ok (.iload_n 3, 1) := by decide +kernel
theorem dL_law_293 : decode cL_law 293 = .ok (.iconst 1, 1) := by decide +kernel
theorem dL_law_294 : decode cL_law 294 = .ok (.iadd, 1) := by decide +kernel
theorem dL_law_295 : decode cL_law 295 = .ok (.iaload, 1) := by decide +kernel
theorem dL_law_296 : decode cL_law 296 = .ok (.invokevirtual 34, 3) := by decide +kernel
theorem dL_law_299 : decode cL_law 299 = .ok (.aload_n 2, 1) := by decide +kernel
theorem dL_law_300 : decode cL_law 300 = .ok (.aload_n 0, 1) := by decide +kernel
theorem dL_law_301 : decode cL_law 301 = .ok (.iload_n 3, 1) := by decide +kernel
theorem dL_law_302 : decode cL_law 302 = .ok (.iconst 1, 1) := by decide +kernel
theorem dL_law_303 : decode cL_law 303 = .ok (.iadd, 1) := by decide +kernel
theorem dL_law_304 : decode cL_law 304 = .ok (.iaload, 1) := by decide +kernel
theorem dL_law_305 : decode cL_law 305 = .ok (.invokevirtual 38, 3) := by decide +kernel
theorem dL_law_308 : decode cL_law 308 = .ok (.if_icmp .eq 541, 3) := by decide +kernel
theorem dL_law_311 : decode cL_law 311 = .ok (.iconst 0, 1) := by decide +kernel
theorem dL_law_312 : decode cL_law 312 = .ok (.ireturn, 1) := by decide +kernel
theorem dL_law_313 : decode cL_law 313 = .ok (.aload_n 1, 1) := by decide +kernel
theorem dL_law_314 : decode cL_law 314 = .ok (.aload_n 0, 1) := by decide +kernel
theorem dL_law_315 : decode cL_law 315 = .ok (.iload_n 3, 1) := by decide +kernel
theorem dL_law_316 : decode cL_law 316 = .ok (.iconst 1, 1) := by decide +kernel
theorem dL_law_317 : decode cL_law 317 = .ok (.iadd, 1) := by decide +kernel
theorem dL_law_318 : decode cL_law 318 = .ok (.iaload, 1) := by decide +kernel
theorem dL_law_319 : decode cL_law 319 = .ok (.invokevirtual 39, 3) := by decide +kernel
theorem dL_law_322 : decode cL_law 322 = .ok (.aload_n 2, 1) := by decide +kernel
theorem dL_law_323 : decode cL_law 323 = .ok (.aload_n 0, 1) := by decide +kernel
theorem dL_law_324 : decode cL_law 324 = .ok (.iload_n 3, 1) := by decide +kernel
theorem dL_law_325 : decode cL_law 325 = .ok (.iconst 1, 1) := by decide +kernel
theorem dL_law_326 : decode cL_law 326 = .ok (.iadd, 1) := by decide +kernel
theorem dL_law_327 : decode cL_law 327 = .ok (.iaload, 1) := by decide +kernel
theorem dL_law_328 : decode cL_law 328 = .ok (.invokevirtual 42, 3) := by decide +kernel
theorem dL_law_331 : decode cL_law 331 = .ok (.if_icmp .eq 518, 3) := by decide +kernel
theorem dL_law_334 : decode cL_law 334 = .ok (.iconst 0, 1) := by decide +kernel
theorem dL_law_335 : decode cL_law 335 = .ok (.ireturn, 1) := by decide +kernel
theorem dL_law_336 : decode cL_law 336 = .ok (.aload_n 1, 1) := by decide +kernel
theorem dL_law_337 : decode cL_law 337 = .ok (.aload_n 0, 1) := by decide +kernel
theorem dL_law_338 : decode cL_law 338 = .ok (.iload_n 3, 1) := by decide +kernel
theorem dL_law_339 : decode cL_law 339 = .ok (.iconst 1, 1) := by decide +kernel
theorem dL_law_340 : decode cL_law 340 = .ok (.iadd, 1) := by decide +kernel
theorem dL_law_341 : decode cL_law 341 = .ok (.iaload, 1) := by decide +kernel
theorem dL_law_342 : decode cL_law 342 = .ok (.invokevirtual 43, 3) := by decide +kernel
theorem dL_law_345 : decode cL_law 345 = .ok (.aload_n 2, 1) := by decide +kernel
theorem dL_law_346 : decode cL_law 346 = .ok (.aload_n 0, 1) := by decide +kernel
theorem dL_law_347 : decode cL_law 347 = .ok (.iload_n 3, 1) := by decide +kernel
theorem dL_law_348 : decode cL_law 348 = .ok (.iconst 1, 1) := by decide +kernel
theorem dL_law_349 : decode cL_law 349 = .ok (.iadd, 1) := by decide +kernel
theorem dL_law_350 : decode cL_law 350 = .ok (.iaload, 1) := by decide +kernel
theorem dL_law_351 : decode cL_law 351 = .ok (.invokevirtual 46, 3) := by decide +kernel
theorem dL_law_354 : decode cL_law 354 = .ok (.if_icmp .eq 495, 3) := by decide +kernel
theorem dL_law_357 : decode cL_law 357 = .ok (.iconst 0, 1) := by decide +kernel
theorem dL_law_358 : decode cL_law 358 = .ok (.ireturn, 1) := by decide +kernel
theorem dL_law_359 : decode cL_law 359 = .ok (.aload_n 1, 1) := by decide +kernel
theorem dL_law_360 : decode cL_law 360 = .ok (.aload_n 0, 1) := by decide +kernel
theorem dL_law_361 : decode cL_law 361 = .ok (.iload_n 3, 1) := by decide +kernel
theorem dL_law_362 : decode cL_law 362 = .ok (.iconst 1, 1) := by decide +kernel
theorem dL_law_363 : decode cL_law 363 = .ok (.iadd, 1) := by decide +kernel
theorem dL_law_364 : decode cL_law 364 = .ok (.iaload, 1) := by decide +kernel
theorem dL_law_365 : decode cL_law 365 = .ok (.invokevirtual 47, 3) := by decide +kernel
theorem dL_law_368 : decode cL_law 368 = .ok (.aload_n 2, 1) := by decide +kernel
theorem dL_law_369 : decode cL_law 369 = .ok (.aload_n 0, 1) := by decide +kernel
theorem dL_law_370 : decode cL_law 370 = .ok (.iload_n 3, 1) := by decide +kernel
theorem dL_law_371 : decode cL_law 371 = .ok (.iconst 1, 1) := by decide +kernel
theorem dL_law_372 : decode cL_law 372 = .ok (.iadd, 1) := by decide +kernel
theorem dL_law_373 : decode cL_law 373 = .ok (.iaload, 1) := by decide +kernel
theorem dL_law_374 : decode cL_law 374 = .ok (.invokevirtual 50, 3) := by decide +kernel
theorem dL_law_377 : decode cL_law 377 = .ok (.if_icmp .eq 472, 3) := by decide +kernel
theorem dL_law_380 : decode cL_law 380 = .ok (.iconst 0, 1) := by decide +kernel
theorem dL_law_381 : decode cL_law 381 = .ok (.ireturn, 1) := by decide +kernel
theorem dL_law_382 : decode cL_law 382 = .ok (.aload_n 1, 1) := by decide +kernel
theorem dL_law_383 : decode cL_law 383 = .ok (.aload_n 0, 1) := by decide +kernel
theorem dL_law_384 : decode cL_law 384 = .ok (.iload_n 3, 1) := by decide +kernel
theorem dL_law_385 : decode cL_law 385 = .ok (.iconst 1, 1) := by decide +kernel
theorem dL_law_386 : decode cL_law 386 = .ok (.iadd, 1) := by decide +kernel
theorem dL_law_387 : decode cL_law 387 = .ok (.iaload, 1) := by decide +kernel
theorem dL_law_388 : decode cL_law 388 = .ok (.aload_n 0, 1) := by decide +kernel
theorem dL_law_389 : decode cL_law 389 = .ok (.iload_n 3, 1) := by decide +kernel
theorem dL_law_390 : decode cL_law 390 = .ok (.iconst 2, 1) := by decide +kernel
theorem dL_law_391 : decode cL_law 391 = .ok (.iadd, 1) := by decide +kernel
theorem dL_law_392 : decode cL_law 392 = .ok (.iaload, 1) := by decide +kernel
theorem dL_law_393 : decode cL_law 393 = .ok (.invokevirtual 51, 3) := by decide +kernel
theorem dL_law_396 : decode cL_law 396 = .ok (.aload_n 2, 1) := by decide +kernel
theorem dL_law_397 : decode cL_law 397 = .ok (.aload_n 0, 1) := by decide +kernel
theorem dL_law_398 : decode cL_law 398 = .ok (.iload_n 3, 1) := by decide +kernel
theorem dL_law_399 : decode cL_law 399 = .ok (.iconst 1, 1) := by decide +kernel
theorem dL_law_400 : decode cL_law 400 = .ok (.iadd, 1) := by decide +kernel
theorem dL_law_401 : decode cL_law 401 = .ok (.iaload, 1) := by decide +kernel
theorem dL_law_402 : decode cL_law 402 = .ok (.aload_n 0, 1) := by decide +kernel
theorem dL_law_403 : decode cL_law 403 = .ok (.iload_n 3, 1) := by decide +kernel
theorem dL_law_404 : decode cL_law 404 = .ok (.iconst 2, 1) := by decide +kernel
theorem dL_law_405 : decode cL_law 405 = .ok (.iadd, 1) := by decide +kernel
theorem dL_law_406 : decode cL_law 406 = .ok (.iaload, 1) := by decide +kernel
theorem dL_law_407 : decode cL_law 407 = .ok (.invokevirtual 54, 3) := by decide +kernel
theorem dL_law_410 : decode cL_law 410 = .ok (.if_icmp .eq 439, 3) := by decide +kernel
theorem dL_law_413 : decode cL_law 413 = .ok (.iconst 0, 1) := by decide +kernel
theorem dL_law_414 : decode cL_law 414 = .ok (.ireturn, 1) := by decide +kernel
theorem dL_law_415 : decode cL_law 415 = .ok (.aload_n 1, 1) := by decide +kernel
theorem dL_law_416 : decode cL_law 416 = .ok (.aload_n 0, 1) := by decide +kernel
theorem dL_law_417 : decode cL_law 417 = .ok (.iload_n 3, 1) := by decide +kernel
theorem dL_law_418 : decode cL_law 418 = .ok (.iconst 1, 1) := by decide +kernel
theorem dL_law_419 : decode cL_law 419 = .ok (.iadd, 1) := by decide +kernel
theorem dL_law_420 : decode cL_law 420 = .ok (.iaload, 1) := by decide +kernel
theorem dL_law_421 : decode cL_law 421 = .ok (.invokevirtual 55, 3) := by decide +kernel
theorem dL_law_424 : decode cL_law 424 = .ok (.aload_n 2, 1) := by decide +kernel
theorem dL_law_425 : decode cL_law 425 = .ok (.aload_n 0, 1) := by decide +kernel
theorem dL_law_426 : decode cL_law 426 = .ok (.iload_n 3, 1) := by decide +kernel
theorem dL_law_427 : decode cL_law 427 = .ok (.iconst 1, 1) := by decide +kernel
theorem dL_law_428 : decode cL_law 428 = .ok (.iadd, 1) := by decide +kernel
theorem dL_law_429 : decode cL_law 429 = .ok (.iaload, 1) := by decide +kernel
theorem dL_law_430 : decode cL_law 430 = .ok (.invokevirtual 58, 3) := by decide +kernel
theorem dL_law_433 : decode cL_law 433 = .ok (.if_icmp .eq 416, 3) := by decide +kernel
theorem dL_law_436 : decode cL_law 436 = .ok (.iconst 0, 1) := by decide +kernel
theorem dL_law_437 : decode cL_law 437 = .ok (.ireturn, 1) := by decide +kernel
theorem dL_law_438 : decode cL_law 438 = .ok (.aload_n 1, 1) := by decide +kernel
theorem dL_law_439 : decode cL_law 439 = .ok (.aload_n 0, 1) := by decide +kernel
theorem dL_law_440 : decode cL_law 440 = .ok (.iload_n 3, 1) := by decide +kernel
theorem dL_law_441 : decode cL_law 441 = .ok (.iconst 1, 1) := by decide +kernel
theorem dL_law_442 : decode cL_law 442 = .ok (.iadd, 1) := by decide +kernel
theorem dL_law_443 : decode cL_law 443 = .ok (.iaload, 1) := by decide +kernel
theorem dL_law_444 : decode cL_law 444 = .ok (.invokevirtual 59, 3) := by decide +kernel
theorem dL_law_447 : decode cL_law 447 = .ok (.aload_n 2, 1) := by decide +kernel
theorem dL_law_448 : decode cL_law 448 = .ok (.aload_n 0, 1) := by decide +kernel
theorem dL_law_449 : decode cL_law 449 = .ok (.iload_n 3, 1) := by decide +kernel
theorem dL_law_450 : decode cL_law 450 = .ok (.iconst 1, 1) := by decide +kernel
theorem dL_law_451 : decode cL_law 451 = .ok (.iadd, 1) := by decide +kernel
theorem dL_law_452 : decode cL_law 452 = .ok (.iaload, 1) := by decide +kernel
theorem dL_law_453 : decode cL_law 453 = .ok (.invokevirtual 62, 3) := by decide +kernel
theorem dL_law_456 : decode cL_law 456 = .ok (.if_icmp .eq 393, 3) := by decide +kernel
theorem dL_law_459 : decode cL_law 459 = .ok (.iconst 0, 1) := by decide +kernel
theorem dL_law_460 : decode cL_law 460 = .ok (.ireturn, 1) := by decide +kernel
theorem dL_law_461 : decode cL_law 461 = .ok (.aload_n 1, 1) := by decide +kernel
theorem dL_law_462 : decode cL_law 462 = .ok (.invokevirtual 63, 3) := by decide +kernel
theorem dL_law_465 : decode cL_law 465 = .ok (.aload_n 2, 1) := by decide +kernel
theorem dL_law_466 : decode cL_law 466 = .ok (.invokevirtual 66, 3) := by decide +kernel
theorem dL_law_469 : decode cL_law 469 = .ok (.if_icmp .eq 380, 3) := by decide +kernel
theorem dL_law_472 : decode cL_law 472 = .ok (.iconst 0, 1) := by decide +kernel
theorem dL_law_473 : decode cL_law 473 = .ok (.ireturn, 1) := by decide +kernel
theorem dL_law_474 : decode cL_law 474 = .ok (.aload_n 1, 1) := by decide +kernel
theorem dL_law_475 : decode cL_law 475 = .ok (.invokevirtual 67, 3) := by decide +kernel
theorem dL_law_478 : decode cL_law 478 = .ok (.aload_n 2, 1) := by decide +kernel
theorem dL_law_479 : decode cL_law 479 = .ok (.invokevirtual 70, 3) := by decide +kernel
theorem dL_law_482 : decode cL_law 482 = .ok (.if_icmp .eq 367, 3) := by decide +kernel
theorem dL_law_485 : decode cL_law 485 = .ok (.iconst 0, 1) := by decide +kernel
theorem dL_law_486 : decode cL_law 486 = .ok (.ireturn, 1) := by decide +kernel
theorem dL_law_487 : decode cL_law 487 = .ok (.aload_n 1, 1) := by decide +kernel
theorem dL_law_488 : decode cL_law 488 = .ok (.aload_n 0, 1) := by decide +kernel
theorem dL_law_489 : decode cL_law 489 = .ok (.iload_n 3, 1) := by decide +kernel
theorem dL_law_490 : decode cL_law 490 = .ok (.iconst 1, 1) := by decide +kernel
theorem dL_law_491 : decode cL_law 491 = .ok (.iadd, 1) := by decide +kernel
theorem dL_law_492 : decode cL_law 492 = .ok (.iaload, 1) := by decide +kernel
theorem dL_law_493 : decode cL_law 493 = .ok (.aload_n 0, 1) := by decide +kernel
theorem dL_law_494 : decode cL_law 494 = .ok (.iload_n 3, 1) := by decide +kernel
theorem dL_law_495 : decode cL_law 495 = .ok (.iconst 2, 1) := by decide +kernel
theorem dL_law_496 : decode cL_law 496 = .ok (.iadd, 1) := by decide +kernel
theorem dL_law_497 : decode cL_law 497 = .ok (.iaload, 1) := by decide +kernel
theorem dL_law_498 : decode cL_law 498 = .ok (.invokevirtual 71, 3) := by decide +kernel
theorem dL_law_501 : decode cL_law 501 = .ok (.aload_n 2, 1) := by decide +kernel
theorem dL_law_502 : decode cL_law 502 = .ok (.aload_n 0, 1) := by decide +kernel
theorem dL_law_503 : decode cL_law 503 = .ok (.iload_n 3, 1) := by decide +kernel
theorem dL_law_504 : decode cL_law 504 = .ok (.iconst 1, 1) := by decide +kernel
theorem dL_law_505 : decode cL_law 505 = .ok (.iadd, 1) := by decide +kernel
theorem dL_law_506 : decode cL_law 506 = .ok (.iaload, 1) := by decide +kernel
theorem dL_law_507 : decode cL_law 507 = .ok (.aload_n 0, 1) := by decide +kernel
theorem dL_law_508 : decode cL_law 508 = .ok (.iload_n 3, 1) := by decide +kernel
theorem dL_law_509 : decode cL_law 509 = .ok (.iconst 2, 1) := by decide +kernel
theorem dL_law_510 : decode cL_law 510 = .ok (.iadd, 1) := by decide +kernel
theorem dL_law_511 : decode cL_law 511 = .ok (.iaload, 1) := by decide +kernel
theorem dL_law_512 : decode cL_law 512 = .ok (.invokevirtual 74, 3) := by decide +kernel
theorem dL_law_515 : decode cL_law 515 = .ok (.if_icmp .eq 334, 3) := by decide +kernel
theorem dL_law_518 : decode cL_law 518 = .ok (.iconst 0, 1) := by decide +kernel
theorem dL_law_519 : decode cL_law 519 = .ok (.ireturn, 1) := by decide +kernel
theorem dL_law_520 : decode cL_law 520 = .ok (.aload_n 1, 1) := by decide +kernel
theorem dL_law_521 : decode cL_law 521 = .ok (.invokevirtual 75, 3) := by decide +kernel
theorem dL_law_524 : decode cL_law 524 = .ok (.aload_n 2, 1) := by decide +kernel
theorem dL_law_525 : decode cL_law 525 = .ok (.invokevirtual 78, 3) := by decide +kernel
theorem dL_law_528 : decode cL_law 528 = .ok (.if_icmp .eq 321, 3) := by decide +kernel
theorem dL_law_531 : decode cL_law 531 = .ok (.iconst 0, 1) := by decide +kernel
theorem dL_law_532 : decode cL_law 532 = .ok (.ireturn, 1) := by decide +kernel
theorem dL_law_533 : decode cL_law 533 = .ok (.aload_n 1, 1) := by decide +kernel
theorem dL_law_534 : decode cL_law 534 = .ok (.invokevirtual 79, 3) := by decide +kernel
theorem dL_law_537 : decode cL_law 537 = .ok (.aload_n 2, 1) := by decide +kernel
theorem dL_law_538 : decode cL_law 538 = .ok (.invokevirtual 82, 3) := by decide +kernel
theorem dL_law_541 : decode cL_law 541 = .ok (.if_icmp .eq 308, 3) := by decide +kernel
theorem dL_law_544 : decode cL_law 544 = .ok (.iconst 0, 1) := by decide +kernel
theorem dL_law_545 : decode cL_law 545 = .ok (.ireturn, 1) := by decide +kernel
theorem dL_law_546 : decode cL_law 546 = .ok (.aload_n 1, 1) := by decide +kernel
theorem dL_law_547 : decode cL_law 547 = .ok (.aload_n 0, 1) := by decide +kernel
theorem dL_law_548 : decode cL_law 548 = .ok (.iload_n 3, 1) := by decide +kernel
theorem dL_law_549 : decode cL_law 549 = .ok (.iconst 1, 1) := by decide +kernel
theorem dL_law_550 : decode cL_law 550 = .ok (.iadd, 1) := by decide +kernel
theorem dL_law_551 : decode cL_law 551 = .ok (.iaload, 1) := by decide +kernel
theorem dL_law_552 : decode cL_law 552 = .ok (.invokevirtual 83, 3) := by decide +kernel
theorem dL_law_555 : decode cL_law 555 = .ok (.aload_n 2, 1) := by decide +kernel
theorem dL_law_556 : decode cL_law 556 = .ok (.aload_n 0, 1) := by decide +kernel
theorem dL_law_557 : decode cL_law 557 = .ok (.iload_n 3, 1) := by decide +kernel
theorem dL_law_558 : decode cL_law 558 = .ok (.iconst 1, 1) := by decide +kernel
theorem dL_law_559 : decode cL_law 559 = .ok (.iadd, 1) := by decide +kernel
theorem dL_law_560 : decode cL_law 560 = .ok (.iaload, 1) := by decide +kernel
theorem dL_law_561 : decode cL_law 561 = .ok (.invokevirtual 86, 3) := by decide +kernel
theorem dL_law_564 : decode cL_law 564 = .ok (.if_icmp .eq 285, 3) := by decide +kernel
theorem dL_law_567 : decode cL_law 567 = .ok (.iconst 0, 1) := by decide +kernel
theorem dL_law_568 : decode cL_law 568 = .ok (.ireturn, 1) := by decide +kernel
theorem dL_law_569 : decode cL_law 569 = .ok (.aload_n 1, 1) := by decide +kernel
theorem dL_law_570 : decode cL_law 570 = .ok (.invokevirtual 87, 3) := by decide +kernel
theorem dL_law_573 : decode cL_law 573 = .ok (.aload_n 2, 1) := by decide +kernel
theorem dL_law_574 : decode cL_law 574 = .ok (.invokevirtual 90, 3) := by decide +kernel
theorem dL_law_577 : decode cL_law 577 = .ok (.if_icmp .eq 272, 3) := by decide +kernel
theorem dL_law_580 : decode cL_law 580 = .ok (.iconst 0, 1) := by decide +kernel
theorem dL_law_581 : decode cL_law 581 = .ok (.ireturn, 1) := by decide +kernel
theorem dL_law_582 : decode cL_law 582 = .ok (.aload_n 1, 1) := by decide +kernel
theorem dL_law_583 : decode cL_law 583 = .ok (.aload_n 0, 1) := by decide +kernel
theorem dL_law_584 : decode cL_law 584 = .ok (.iload_n 3, 1) := by decide +kernel
theorem dL_law_585 : decode cL_law 585 = .ok (.iconst 1, 1) := by decide +kernel
theorem dL_law_586 : decode cL_law 586 = .ok (.iadd, 1) := by decide +kernel
theorem dL_law_587 : decode cL_law 587 = .ok (.iaload, 1) := by decide +kernel
theorem dL_law_588 : decode cL_law 588 = .ok (.invokevirtual 91, 3) := by decide +kernel
theorem dL_law_591 : decode cL_law 591 = .ok (.aload_n 2, 1) := by decide +kernel
theorem dL_law_592 : decode cL_law 592 = .ok (.aload_n 0, 1) := by decide +kernel
theorem dL_law_593 : decode cL_law 593 = .ok (.iload_n 3, 1) := by decide +kernel
theorem dL_law_594 : decode cL_law 594 = .ok (.iconst 1, 1) := by decide +kernel
theorem dL_law_595 : decode cL_law 595 = .ok (.iadd, 1) := by decide +kernel
theorem dL_law_596 : decode cL_law 596 = .ok (.iaload, 1) := by decide +kernel
theorem dL_law_597 : decode cL_law 597 = .ok (.invokevirtual 94, 3) := by decide +kernel
theorem dL_law_600 : decode cL_law 600 = .ok (.if_icmp .eq 249, 3) := by decide +kernel
theorem dL_law_603 : decode cL_law 603 = .ok (.iconst 0, 1) := by decide +kernel
theorem dL_law_604 : decode cL_law 604 = .ok (.ireturn, 1) := by decide +kernel
theorem dL_law_605 : decode cL_law 605 = .ok (.aload_n 1, 1) := by decide +kernel
theorem dL_law_606 : decode cL_law 606 = .ok (.aload_n 0, 1) := by decide +kernel
theorem dL_law_607 : decode cL_law 607 = .ok (.iload_n 3, 1) := by decide +kernel
theorem dL_law_608 : decode cL_law 608 = .ok (.iconst 1, 1) := by decide +kernel
theorem dL_law_609 : decode cL_law 609 = .ok (.iadd, 1) := by decide +kernel
theorem dL_law_610 : decode cL_law 610 = .ok (.iaload, 1) := by decide +kernel
theorem dL_law_611 : decode cL_law 611 = .ok (.aload_n 0, 1) := by decide +kernel
theorem dL_law_612 : decode cL_law 612 = .ok (.iload_n 3, 1) := by decide +kernel
theorem dL_law_613 : decode cL_law 613 = .ok (.iconst 2, 1) := by decide +kernel
theorem dL_law_614 : decode cL_law 614 = .ok (.iadd, 1) := by decide +kernel
theorem dL_law_615 : decode cL_law 615 = .ok (.iaload, 1) := by decide +kernel
theorem dL_law_616 : decode cL_law 616 = .ok (.invokevirtual 95, 3) := by decide +kernel
theorem dL_law_619 : decode cL_law 619 = .ok (.aload_n 2, 1) := by decide +kernel
theorem dL_law_620 : decode cL_law 620 = .ok (.aload_n 0, 1) := by decide +kernel
theorem dL_law_621 : decode cL_law 621 = .ok (.iload_n 3, 1) := by decide +kernel
theorem dL_law_622 : decode cL_law 622 = .ok (.iconst 1, 1) := by decide +kernel
theorem dL_law_623 : decode cL_law 623 = .ok (.iadd, 1) := by decide +kernel
theorem dL_law_624 : decode cL_law 624 = .ok (.iaload, 1) := by decide +kernel
theorem dL_law_625 : decode cL_law 625 = .ok (.aload_n 0, 1) := by decide +kernel
theorem dL_law_626 : decode cL_law 626 = .ok (.iload_n 3, 1) := by decide +kernel
theorem dL_law_627 : decode cL_law 627 = .ok (.iconst 2, 1) := by decide +kernel
theorem dL_law_628 : decode cL_law 628 = .ok (.iadd, 1) := by decide +kernel
theorem dL_law_629 : decode cL_law 629 = .ok (.iaload, 1) := by decide +kernel
theorem dL_law_630 : decode cL_law 630 = .ok (.invokevirtual 98, 3) := by decide +kernel
theorem dL_law_633 : decode cL_law 633 = .ok (.if_icmp .eq 216, 3) := by decide +kernel
theorem dL_law_636 : decode cL_law 636 = .ok (.iconst 0, 1) := by decide +kernel
theorem dL_law_637 : decode cL_law 637 = .ok (.ireturn, 1) := by decide +kernel
theorem dL_law_638 : decode cL_law 638 = .ok (.aload_n 1, 1) := by decide +kernel
theorem dL_law_639 : decode cL_law 639 = .ok (.invokevirtual 99, 3) := by decide +kernel
theorem dL_law_642 : decode cL_law 642 = .ok (.aload_n 2, 1) := by decide +kernel
theorem dL_law_643 : decode cL_law 643 = .ok (.invokevirtual 102, 3) := by decide +kernel
theorem dL_law_646 : decode cL_law 646 = .ok (.if_icmp .eq 203, 3) := by decide +kernel
theorem dL_law_649 : decode cL_law 649 = .ok (.iconst 0, 1) := by decide +kernel
theorem dL_law_650 : decode cL_law 650 = .ok (.ireturn, 1) := by decide +kernel
theorem dL_law_651 : decode cL_law 651 = .ok (.aload_n 1, 1) := by decide +kernel
theorem dL_law_652 : decode cL_law 652 = .ok (.aload_n 0, 1) := by decide +kernel
theorem dL_law_653 : decode cL_law 653 = .ok (.iload_n 3, 1) := by decide +kernel
theorem dL_law_654 : decode cL_law 654 = .ok (.iconst 1, 1) := by decide +kernel
theorem dL_law_655 : decode cL_law 655 = .ok (.iadd, 1) := by decide +kernel
theorem dL_law_656 : decode cL_law 656 = .ok (.iaload, 1) := by decide +kernel
theorem dL_law_657 : decode cL_law 657 = .ok (.invokevirtual 103, 3) := by decide +kernel
theorem dL_law_660 : decode cL_law 660 = .ok (.aload_n 2, 1) := by decide +kernel
theorem dL_law_661 : decode cL_law 661 = .ok (.aload_n 0, 1) := by decide +kernel
theorem dL_law_662 : decode cL_law 662 = .ok (.iload_n 3, 1) := by decide +kernel
theorem dL_law_663 : decode cL_law 663 = .ok (.iconst 1, 1) := by decide +kernel
theorem dL_law_664 : decode cL_law 664 = .ok (.iadd, 1) := by decide +kernel
theorem dL_law_665 : decode cL_law 665 = .ok (.iaload, 1) := by decide +kernel
theorem dL_law_666 : decode cL_law 666 = .ok (.invokevirtual 106, 3) := by decide +kernel
theorem dL_law_669 : decode cL_law 669 = .ok (.if_icmp .eq 180, 3) := by decide +kernel
theorem dL_law_672 : decode cL_law 672 = .ok (.iconst 0, 1) := by decide +kernel
theorem dL_law_673 : decode cL_law 673 = .ok (.ireturn, 1) := by decide +kernel
theorem dL_law_674 : decode cL_law 674 = .ok (.aload_n 1, 1) := by decide +kernel
theorem dL_law_675 : decode cL_law 675 = .ok (.invokevirtual 107, 3) := by decide +kernel
theorem dL_law_678 : decode cL_law 678 = .ok (.aload_n 2, 1) := by decide +kernel
theorem dL_law_679 : decode cL_law 679 = .ok (.invokevirtual 110, 3) := by decide +kernel
theorem dL_law_682 : decode cL_law 682 = .ok (.if_icmp .eq 167, 3) := by decide +kernel
theorem dL_law_685 : decode cL_law 685 = .ok (.iconst 0, 1) := by decide +kernel
theorem dL_law_686 : decode cL_law 686 = .ok (.ireturn, 1) := by decide +kernel
theorem dL_law_687 : decode cL_law 687 = .ok (.aload_n 1, 1) := by decide +kernel
theorem dL_law_688 : decode cL_law 688 = .ok (.invokevirtual 111, 3) := by decide +kernel
theorem dL_law_691 : decode cL_law 691 = .ok (.aload_n 2, 1) := by decide +kernel
theorem dL_law_692 : decode cL_law 692 = .ok (.invokevirtual 114, 3) := by decide +kernel
theorem dL_law_695 : decode cL_law 695 = .ok (.if_icmp .eq 154, 3) := by decide +kernel
theorem dL_law_698 : decode cL_law 698 = .ok (.iconst 0, 1) := by decide +kernel
theorem dL_law_699 : decode cL_law 699 = .ok (.ireturn, 1) := by decide +kernel
theorem dL_law_700 : decode cL_law 700 = .ok (.aload_n 1, 1) := by decide +kernel
theorem dL_law_701 : decode cL_law 701 = .ok (.aload_n 0, 1) := by decide +kernel
theorem dL_law_702 : decode cL_law 702 = .ok (.iload_n 3, 1) := by decide +kernel
theorem dL_law_703 : decode cL_law 703 = .ok (.iconst 1, 1) := by decide +kernel
theorem dL_law_704 : decode cL_law 704 = .ok (.iadd, 1) := by decide +kernel
theorem dL_law_705 : decode cL_law 705 = .ok (.iaload, 1) := by decide +kernel
theorem dL_law_706 : decode cL_law 706 = .ok (.aload_n 0, 1) := by decide +kernel
theorem dL_law_707 : decode cL_law 707 = .ok (.iload_n 3, 1) := by decide +kernel
theorem dL_law_708 : decode cL_law 708 = .ok (.iconst 2, 1) := by decide +kernel
theorem dL_law_709 : decode cL_law 709 = .ok (.iadd, 1) := by decide +kernel
theorem dL_law_710 : decode cL_law 710 = .ok (.iaload, 1) := by decide +kernel
theorem dL_law_711 : decode cL_law 711 = .ok (.invokevirtual 115, 3) := by decide +kernel
theorem dL_law_714 : decode cL_law 714 = .ok (.aload_n 2, 1) := by decide +kernel
theorem dL_law_715 : decode cL_law 715 = .ok (.aload_n 0, 1) := by decide +kernel
theorem dL_law_716 : decode cL_law 716 = .ok (.iload_n 3, 1) := by decide +kernel
theorem dL_law_717 : decode cL_law 717 = .ok (.iconst 1, 1) := by decide +kernel
theorem dL_law_718 : decode cL_law 718 = .ok (.iadd, 1) := by decide +kernel
theorem dL_law_719 : decode cL_law 719 = .ok (.iaload, 1) := by decide +kernel
theorem dL_law_720 : decode cL_law 720 = .ok (.aload_n 0, 1) := by decide +kernel
theorem dL_law_721 : decode cL_law 721 = .ok (.iload_n 3, 1) := by decide +kernel
theorem dL_law_722 : decode cL_law 722 = .ok (.iconst 2, 1) := by decide +kernel
theorem dL_law_723 : decode cL_law 723 = .ok (.iadd, 1) := by decide +kernel
theorem dL_law_724 : decode cL_law 724 = .ok (.iaload, 1) := by decide +kernel
theorem dL_law_725 : decode cL_law 725 = .ok (.invokevirtual 118, 3) := by decide +kernel
theorem dL_law_728 : decode cL_law 728 = .ok (.if_icmp .eq 121, 3) := by decide +kernel
theorem dL_law_731 : decode cL_law 731 = .ok (.iconst 0, 1) := by decide +kernel
theorem dL_law_732 : decode cL_law 732 = .ok (.ireturn, 1) := by decide +kernel
theorem dL_law_733 : decode cL_law 733 = .ok (.aload_n 1, 1) := by decide +kernel
theorem dL_law_734 : decode cL_law 734 = .ok (.aload_n 0, 1) := by decide +kernel
theorem dL_law_735 : decode cL_law 735 = .ok (.iload_n 3, 1) := by decide +kernel
theorem dL_law_736 : decode cL_law 736 = .ok (.iconst 1, 1) := by decide +kernel
theorem dL_law_737 : decode cL_law 737 = .ok (.iadd, 1) := by decide +kernel
theorem dL_law_738 : decode cL_law 738 = .ok (.iaload, 1) := by decide +kernel
theorem dL_law_739 : decode cL_law 739 = .ok (.aload_n 0, 1) := by decide +kernel
theorem dL_law_740 : decode cL_law 740 = .ok (.iload_n 3, 1) := by decide +kernel
theorem dL_law_741 : decode cL_law 741 = .ok (.iconst 2, 1) := by decide +kernel
theorem dL_law_742 : decode cL_law 742 = .ok (.iadd, 1) := by decide +kernel
theorem dL_law_743 : decode cL_law 743 = .ok (.iaload, 1) := by decide +kernel
theorem dL_law_744 : decode cL_law 744 = .ok (.invokevirtual 119, 3) := by decide +kernel
theorem dL_law_747 : decode cL_law 747 = .ok (.aload_n 2, 1) := by decide +kernel
theorem dL_law_748 : decode cL_law 748 = .ok (.aload_n 0, 1) := by decide +kernel
theorem dL_law_749 : decode cL_law 749 = .ok (.iload_n 3, 1) := by decide +kernel
theorem dL_law_750 : decode cL_law 750 = .ok (.iconst 1, 1) := by decide +kernel
theorem dL_law_751 : decode cL_law 751 = .ok (.iadd, 1) := by decide +kernel
theorem dL_law_752 : decode cL_law 752 = .ok (.iaload, 1) := by decide +kernel
theorem dL_law_753 : decode cL_law 753 = .ok (.aload_n 0, 1) := by decide +kernel
theorem dL_law_754 : decode cL_law 754 = .ok (.iload_n 3, 1) := by decide +kernel
theorem dL_law_755 : decode cL_law 755 = .ok (.iconst 2, 1) := by decide +kernel
theorem dL_law_756 : decode cL_law 756 = .ok (.iadd, 1) := by decide +kernel
theorem dL_law_757 : decode cL_law 757 = .ok (.iaload, 1) := by decide +kernel
theorem dL_law_758 : decode cL_law 758 = .ok (.invokevirtual 122, 3) := by decide +kernel
theorem dL_law_761 : decode cL_law 761 = .ok (.if_icmp .eq 88, 3) := by decide +kernel
theorem dL_law_764 : decode cL_law 764 = .ok (.iconst 0, 1) := by decide +kernel
theorem dL_law_765 : decode cL_law 765 = .ok (.ireturn, 1) := by decide +kernel
theorem dL_law_766 : decode cL_law 766 = .ok (.aload_n 1, 1) := by decide +kernel
theorem dL_law_767 : decode cL_law 767 = .ok (.aload_n 0, 1) := by decide +kernel
theorem dL_law_768 : decode cL_law 768 = .ok (.iload_n 3, 1) := by decide +kernel
theorem dL_law_769 : decode cL_law 769 = .ok (.iconst 1, 1) := by decide +kernel
theorem dL_law_770 : decode cL_law 770 = .ok (.iadd, 1) := by decide +kernel
theorem dL_law_771 : decode cL_law 771 = .ok (.iaload, 1) := by decide +kernel
theorem dL_law_772 : decode cL_law 772 = .ok (.invokevirtual 123, 3) := by decide +kernel
theorem dL_law_775 : decode cL_law 775 = .ok (.aload_n 2, 1) := by decide +kernel
theorem dL_law_776 : decode cL_law 776 = .ok (.aload_n 0, 1) := by decide +kernel
theorem dL_law_777 : decode cL_law 777 = .ok (.iload_n 3, 1) := by decide +kernel
theorem dL_law_778 : decode cL_law 778 = .ok (.iconst 1, 1) := by decide +kernel
theorem dL_law_779 : decode cL_law 779 = .ok (.iadd, 1) := by decide +kernel
theorem dL_law_780 : decode cL_law 780 = .ok (.iaload, 1) := by decide +kernel
theorem dL_law_781 : decode cL_law 781 = .ok (.invokevirtual 126, 3) := by decide +kernel
theorem dL_law_784 : decode cL_law 784 = .ok (.if_icmp .eq 65, 3) := by decide +kernel
theorem dL_law_787 : decode cL_law 787 = .ok (.iconst 0, 1) := by decide +kernel
theorem dL_law_788 : decode cL_law 788 = .ok (.ireturn, 1) := by decide +kernel
theorem dL_law_789 : decode cL_law 789 = .ok (.aload_n 1, 1) := by decide +kernel
theorem dL_law_790 : decode cL_law 790 = .ok (.aload_n 0, 1) := by decide +kernel
theorem dL_law_791 : decode cL_law 791 = .ok (.iload_n 3, 1) := by decide +kernel
theorem dL_law_792 : decode cL_law 792 = .ok (.iconst 1, 1) := by decide +kernel
theorem dL_law_793 : decode cL_law 793 = .ok (.iadd, 1) := by decide +kernel
theorem dL_law_794 : decode cL_law 794 = .ok (.iaload, 1) := by decide +kernel
theorem dL_law_795 : decode cL_law 795 = .ok (.invokevirtual 127, 3) := by decide +kernel
theorem dL_law_798 : decode cL_law 798 = .ok (.aload_n 2, 1) := by decide +kernel
theorem dL_law_799 : decode cL_law 799 = .ok (.aload_n 0, 1) := by decide +kernel
theorem dL_law_800 : decode cL_law 800 = .ok (.iload_n 3, 1) := by decide +kernel
theorem dL_law_801 : decode cL_law 801 = .ok (.iconst 1, 1) := by decide +kernel
theorem dL_law_802 : decode cL_law 802 = .ok (.iadd, 1) := by decide +kernel
theorem dL_law_803 : decode cL_law 803 = .ok (.iaload, 1) := by decide +kernel
theorem dL_law_804 : decode cL_law 804 = .ok (.invokevirtual 130, 3) := by decide +kernel
theorem dL_law_807 : decode cL_law 807 = .ok (.if_icmp .eq 42, 3) := by decide +kernel
theorem dL_law_810 : decode cL_law 810 = .ok (.iconst 0, 1) := by decide +kernel
theorem dL_law_811 : decode cL_law 811 = .ok (.ireturn, 1) := by decide +kernel
theorem dL_law_812 : decode cL_law 812 = .ok (.aload_n 1, 1) := by decide +kernel
theorem dL_law_813 : decode cL_law 813 = .ok (.aload_n 0, 1) := by decide +kernel
theorem dL_law_814 : decode cL_law 814 = .ok (.iload_n 3, 1) := by decide +kernel
theorem dL_law_815 : decode cL_law 815 = .ok (.iconst 1, 1) := by decide +kernel
theorem dL_law_816 : decode cL_law 816 = .ok (.iadd, 1) := by decide +kernel
theorem dL_law_817 : decode cL_law 817 = .ok (.iaload, 1) := by decide +kernel
theorem dL_law_818 : decode cL_law 818 = .ok (.invokevirtual 131, 3) := by decide +kernel
theorem dL_law_821 : decode cL_law 821 = .ok (.aload_n 2, 1) := by decide +kernel
theorem dL_law_822 : decode cL_law 822 = .ok (.aload_n 0, 1) := by decide +kernel
theorem dL_law_823 : decode cL_law 823 = .ok (.iload_n 3, 1) := by decide +kernel
theorem dL_law_824 : decode cL_law 824 = .ok (.iconst 1, 1) := by decide +kernel
theorem dL_law_825 : decode cL_law 825 = .ok (.iadd, 1) := by decide +kernel
theorem dL_law_826 : decode cL_law 826 = .ok (.iaload, 1) := by decide +kernel
theorem dL_law_827 : decode cL_law 827 = .ok (.invokevirtual 134, 3) := by decide +kernel
theorem dL_law_830 : decode cL_law 830 = .ok (.if_icmp .eq 19, 3) := by decide +kernel
theorem dL_law_833 : decode cL_law 833 = .ok (.iconst 0, 1) := by decide +kernel
theorem dL_law_834 : decode cL_law 834 = .ok (.ireturn, 1) := by decide +kernel
theorem dL_law_835 : decode cL_law 835 = .ok (.aload_n 1, 1) := by decide +kernel
theorem dL_law_836 : decode cL_law 836 = .ok (.invokevirtual 135, 3) := by decide +kernel
theorem dL_law_839 : decode cL_law 839 = .ok (.aload_n 2, 1) := by decide +kernel
theorem dL_law_840 : decode cL_law 840 = .ok (.invokevirtual 139, 3) := by decide +kernel
theorem dL_law_843 : decode cL_law 843 = .ok (.lcmp, 1) := by decide +kernel
theorem dL_law_844 : decode cL_law 844 = .ok (.ifCond .eq 5, 3) := by decide +kernel
theorem dL_law_847 : decode cL_law 847 = .ok (.iconst 0, 1) := by decide +kernel
theorem dL_law_848 : decode cL_law 848 = .ok (.ireturn, 1) := by decide +kernel
theorem dL_law_849 : decode cL_law 849 = .ok (.iinc 3 4, 3) := by decide +kernel
theorem dL_law_852 : decode cL_law 852 = .ok (.goto (-834), 3) := by decide +kernel
theorem dL_law_855 : decode cL_law 855 = .ok (.iconst 1, 1) := by decide +kernel
theorem dL_law_856 : decode cL_law 856 = .ok (.ireturn, 1) := by decide +kernel
