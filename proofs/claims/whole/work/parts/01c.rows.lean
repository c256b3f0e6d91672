set_option maxRecDepth 20000 in
theorem ggX10_init_X3_init : GoodIn wsX10_init wsX3_init := goodIn_r _ [84, 85, 2, 3, 51, 86, 87, 88, 89, 90, 166, 167, 168, 169, 170] (by decide +kernel) (by decide +kernel)
set_option maxRecDepth 20000 in
theorem gX10_init_X3_init_n61 : GoodIn wsX10_init (wsX3_init) := ggX10_init_X3_init
set_option maxRecDepth 20000 in
theorem ggX10_init_X4_init : GoodIn wsX10_init wsX4_init := goodIn_r _ [92, 93, 2, 3, 51, 94, 22, 95, 96, 97, 98, 99, 100, 171, 172, 173, 174, 175, 176, 177, 178, 179] (by decide +kernel) (by decide +kernel)
set_option maxRecDepth 20000 in
theorem gX10_init_X4_init_n70 : GoodIn wsX10_init (wsX4_init) := ggX10_init_X4_init
set_option maxRecDepth 20000 in
theorem ggX10_init_X9_init : GoodIn wsX10_init wsX9_init := goodIn_r _ [102, 103, 2, 3, 51, 104, 105, 106, 180, 181, 182] (by decide +kernel) (by decide +kernel)
set_option maxRecDepth 20000 in
theorem gX10_init_X9_init_n77 : GoodIn wsX10_init (wsX9_init) := ggX10_init_X9_init
set_option maxRecDepth 20000 in
theorem ggX10_init_X0_init : GoodIn wsX10_init wsX0_init := goodIn_r _ [108, 109, 2, 3, 110, 51, 111, 112, 113, 114, 115, 183, 184, 185, 186, 187] (by decide +kernel) (by decide +kernel)
set_option maxRecDepth 20000 in
theorem gX10_init_X0_init_n84 : GoodIn wsX10_init (wsX0_init) := ggX10_init_X0_init
set_option maxRecDepth 20000 in
theorem ggX10_init_X1_init : GoodIn wsX10_init wsX1_init := goodIn_r _ [117, 118, 2, 3, 119, 120, 188, 189, 190] (by decide +kernel) (by decide +kernel)
set_option maxRecDepth 20000 in
theorem gX10_init_X1_init_n91 : GoodIn wsX10_init (wsX1_init) := ggX10_init_X1_init
theorem dX10_init_0 : decode cX10_init 0 = .ok (.aload_n 0, 1) := by decide +kernel
theorem dX10_init_1 : decode cX10_init 1 = .ok (.invokespecial 1, 3) := by decide +kernel
theorem dX10_init_4 : decode cX10_init 4 = .ok (.aload_n 0, 1) := by decide +kernel
theorem dX10_init_5 : decode cX10_init 5 = .ok (.new 7, 3) := by decide +kernel
theorem dX10_init_8 : decode cX10_init 8 = .ok (.dup, 1) := by decide +kernel
theorem dX10_init_9 : decode cX10_init 9 = .ok (.invokespecial 9, 3) := by decide +kernel
theorem dX10_init_12 : decode cX10_init 12 = .ok (.putfield 10, 3) := by decide +kernel
theorem dX10_init_15 : decode cX10_init 15 = .ok (.aload_n 0, 1) := by decide +kernel
theorem dX10_init_16 : decode cX10_init 16 = .ok (.new 16, 3) := by decide +kernel
theorem dX10_init_19 : decode cX10_init 19 = .ok (.dup, 1) := by decide +kernel
theorem dX10_init_20 : decode cX10_init 20 = .ok (.invokespecial 18, 3) := by decide +kernel
theorem dX10_init_23 : decode cX10_init 23 = .ok (.putfield 19, 3) := by decide +kernel
theorem dX10_init_26 : decode cX10_init 26 = .ok (.aload_n 0, 1) := by decide +kernel
theorem dX10_init_27 : decode cX10_init 27 = .ok (.new 16, 3) := by decide +kernel
theorem dX10_init_30 : decode cX10_init 30 = .ok (.dup, 1) := by decide +kernel
theorem dX10_init_31 : decode cX10_init 31 = .ok (.invokespecial 18, 3) := by decide +kernel
theorem dX10_init_34 : decode cX10_init 34 = .ok (.putfield 23, 3) := by decide +kernel
theorem dX10_init_37 : decode cX10_init 37 = .ok (.aload_n 0, 1) := by decide +kernel
theorem dX10_init_38 : decode cX10_init 38 = .ok (.new 26, 3) := by decide +kernel
theorem dX10_init_41 : decode cX10_init 41 = .ok (.dup, 1) := by decide +kernel
theorem dX10_init_42 : decode cX10_init 42 = .ok (.aload_n 0, 1) := by decide +kernel
theorem dX10_init_43 : decode cX10_init 43 = .ok (.getfield 10, 3) := by decide +kernel
theorem dX10_init_46 : decode cX10_init 46 = .ok (.aload_n 0, 1) := by decide +kernel
theorem dX10_init_47 : decode cX10_init 47 = .ok (.getfield 23, 3) := by decide +kernel
theorem dX10_init_50 : decode cX10_init 50 = .ok (.invokespecial 28, 3) := by decide +kernel
theorem dX10_init_53 : decode cX10_init 53 = .ok (.putfield 31, 3) := by decide +kernel
theorem dX10_init_56 : decode cX10_init 56 = .ok (.aload_n 0, 1) := by decide +kernel
theorem dX10_init_57 : decode cX10_init 57 = .ok (.new 35, 3) := by decide +kernel
theorem dX10_init_60 : decode cX10_init 60 = .ok (.dup, 1) := by decide +kernel
theorem dX10_init_61 : decode cX10_init 61 = .ok (.invokespecial 37, 3) := by decide +kernel
theorem dX10_init_64 : decode cX10_init 64 = .ok (.putfield 38, 3) := by decide +kernel
theorem dX10_init_67 : decode cX10_init 67 = .ok (.aload_n 0, 1) := by decide +kernel
theorem dX10_init_68 : decode cX10_init 68 = .ok (.iconst 2, 1) := by decide +kernel
theorem dX10_init_69 : decode cX10_init 69 = .ok (.anewarray 35, 3) := by decide +kernel
theorem dX10_init_72 : decode cX10_init 72 = .ok (.putfield 42, 3) := by decide +kernel
theorem dX10_init_75 : decode cX10_init 75 = .ok (.iconst 0, 1) := by decide +kernel
theorem dX10_init_76 : decode cX10_init 76 = .ok (.istore_n 1, 1) := by decide +kernel
theorem dX10_init_77 : decode cX10_init 77 = .ok (.iload_n 1, 1) := by decide +kernel
theorem dX10_init_78 : decode cX10_init 78 = .ok (.iconst 2, 1) := by decide +kernel
theorem dX10_init_79 : decode cX10_init 79 = .ok (.if_icmp .ge 22, 3) := by decide +kernel
theorem dX10_init_82 : decode cX10_init 82 = .ok (.aload_n 0, 1) := by decide +kernel
theorem dX10_init_83 : decode cX10_init 83 = .ok (.getfield 42, 3) := by decide +kernel
theorem dX10_init_86 : decode cX10_init 86 = .ok (.iload_n 1, 1) := by decide +kernel
theorem dX10_init_87 : decode cX10_init 87 = .ok (.new 35, 3) := by decide +kernel
theorem dX10_init_90 : decode cX10_init 90 = .ok (.dup, 1) := by decide +kernel
theorem dX10_init_91 : decode cX10_init 91 = .ok (.invokespecial 37, 3) := by decide +kernel
theorem dX10_init_94 : decode cX10_init 94 = .ok (.aastore, 1) := by decide +kernel
theorem dX10_init_95 : decode cX10_init 95 = .ok (.iinc 1 1, 3) := by decide +kernel
theorem dX10_init_98 : decode cX10_init 98 = .ok (.goto (-21), 3) := by decide +kernel
theorem dX10_init_101 : decode cX10_init 101 = .ok (.aload_n 0, 1) := by decide +kernel
theorem dX10_init_102 : decode cX10_init 102 = .ok (.iconst 2, 1) := by decide +kernel
theorem dX10_init_103 : decode cX10_init 103 = .ok (.newarray .boolean, 2) := by decide +kernel
theorem dX10_init_105 : decode cX10_init 105 = .ok (.putfield 46, 3) := by decide +kernel
theorem dX10_init_108 : decode cX10_init 108 = .ok (.aload_n 0, 1) := by decide +kernel
theorem dX10_init_109 : decode cX10_init 109 = .ok (.new 50, 3) := by decide +kernel
theorem dX10_init_112 : decode cX10_init 112 = .ok (.dup, 1) := by decide +kernel
theorem dX10_init_113 : decode cX10_init 113 = .ok (.aload_n 0, 1) := by decide +kernel
theorem dX10_init_114 : decode cX10_init 114 = .ok (.getfield 19, 3) := by decide +kernel
theorem dX10_init_117 : decode cX10_init 117 = .ok (.aload_n 0, 1) := by decide +kernel
theorem dX10_init_118 : decode cX10_init 118 = .ok (.getfield 38, 3) := by decide +kernel
theorem dX10_init_121 : decode cX10_init 121 = .ok (.invokespecial 52, 3) := by decide +kernel
theorem dX10_init_124 : decode cX10_init 124 = .ok (.putfield 55, 3) := by decide +kernel
theorem dX10_init_127 : decode cX10_init 127 = .ok (.aload_n 0, 1) := by decide +kernel
theorem dX10_init_128 : decode cX10_init 128 = .ok (.new 59, 3) := by decide +kernel
theorem dX10_init_131 : decode cX10_init 131 = .ok (.dup, 1) := by decide +kernel
theorem dX10_init_132 : decode cX10_init 132 = .ok (.aload_n 0, 1) := by decide +kernel
theorem dX10_init_133 : decode cX10_init 133 = .ok (.getfield 19, 3) := by decide +kernel
theorem dX10_init_136 : decode cX10_init 136 = .ok (.aload_n 0, 1) := by decide +kernel
theorem dX10_init_137 : decode cX10_init 137 = .ok (.getfield 38, 3) := by decide +kernel
theorem dX10_init_140 : decode cX10_init 140 = .ok (.aload_n 0, 1) := by decide +kernel
theorem dX10_init_141 : decode cX10_init 141 = .ok (.getfield 55, 3) := by decide +kernel
theorem dX10_init_144 : decode cX10_init 144 = .ok (.invokespecial 61, 3) := by decide +kernel
theorem dX10_init_147 : decode cX10_init 147 = .ok (.putfield 64, 3) := by decide +kernel
theorem dX10_init_150 : decode cX10_init 150 = .ok (.aload_n 0, 1) := by decide +kernel
theorem dX10_init_151 : decode cX10_init 151 = .ok (.new 68, 3) := by decide +kernel
theorem dX10_init_154 : decode cX10_init 154 = .ok (.dup, 1) := by decide +kernel
theorem dX10_init_155 : decode cX10_init 155 = .ok (.aload_n 0, 1) := by decide +kernel
theorem dX10_init_156 : decode cX10_init 156 = .ok (.getfield 19, 3) := by decide +kernel
theorem dX10_init_159 : decode cX10_init 159 = .ok (.aload_n 0, 1) := by decide +kernel
theorem dX10_init_160 : decode cX10_init 160 = .ok (.getfield 38, 3) := by decide +kernel
theorem dX10_init_163 : decode cX10_init 163 = .ok (.aload_n 0, 1) := by decide +kernel
theorem dX10_init_164 : decode cX10_init 164 = .ok (.getfield 55, 3) := by decide +kernel
theorem dX10_init_167 : decode cX10_init 167 = .ok (.invokespecial 70, 3) := by decide +kernel
theorem dX10_init_170 : decode cX10_init 170 = .ok (.putfield 71, 3) := by decide +kernel
theorem dX10_init_173 : decode cX10_init 173 = .ok (.aload_n 0, 1) := by decide +kernel
theorem dX10_init_174 : decode cX10_init 174 = .ok (.new 75, 3) := by decide +kernel
theorem dX10_init_177 : decode cX10_init 177 = .ok (.dup, 1) := by decide +kernel
theorem dX10_init_178 : decode cX10_init 178 = .ok (.aload_n 0, 1) := by decide +kernel
theorem dX10_init_179 : decode cX10_init 179 = .ok (.getfield 19, 3) := by decide +kernel
theorem dX10_init_182 : decode cX10_init 182 = .ok (.aload_n 0, 1) := by decide +kernel
theorem dX10_init_183 : decode cX10_init 183 = .ok (.getfield 38, 3) := by decide +kernel
theorem dX10_init_186 : decode cX10_init 186 = .ok (.invokespecial 77, 3) := by decide +kernel
theorem dX10_init_189 : decode cX10_init 189 = .ok (.putfield 78, 3) := by decide +kernel
theorem dX10_init_192 : decode cX10_init 192 = .ok (.aload_n 0, 1) := by decide +kernel
theorem dX10_init_193 : decode cX10_init 193 = .ok (.new 82, 3) := by decide +kernel
theorem dX10_init_196 : decode cX10_init 196 = .ok (.dup, 1) := by decide +kernel
theorem dX10_init_197 : decode cX10_init 197 = .ok (.aload_n 0, 1) := by decide +kernel
theorem dX10_init_198 : decode cX10_init 198 = .ok (.getfield 19, 3) := by decide +kernel
theorem dX10_init_201 : decode cX10_init 201 = .ok (.aload_n 0, 1) := by decide +kernel
theorem dX10_init_202 : decode cX10_init 202 = .ok (.getfield 38, 3) := by decide +kernel
theorem dX10_init_205 : decode cX10_init 205 = .ok (.aload_n 0, 1) := by decide +kernel
theorem dX10_init_206 : decode cX10_init 206 = .ok (.getfield 55, 3) := by decide +kernel
theorem dX10_init_209 : decode cX10_init 209 = .ok (.invokespecial 84, 3) := by decide +kernel
theorem dX10_init_212 : decode cX10_init 212 = .ok (.putfield 85, 3) := by decide +kernel
theorem dX10_init_215 : decode cX10_init 215 = .ok (.aload_n 0, 1) := by decide +kernel
theorem dX10_init_216 : decode cX10_init 216 = .ok (.new 89, 3) := by decide +kernel
theorem dX10_init_219 : decode cX10_init 219 = .ok (.dup, 1) := by decide +kernel
theorem dX10_init_220 : decode cX10_init 220 = .ok (.aload_n 0, 1) := by decide +kernel
theorem dX10_init_221 : decode cX10_init 221 = .ok (.getfield 19, 3) := by decide +kernel
theorem dX10_init_224 : decode cX10_init 224 = .ok (.aload_n 0, 1) := by decide +kernel
theorem dX10_init_225 : decode cX10_init 225 = .ok (.getfield 38, 3) := by decide +kernel
theorem dX10_init_228 : decode cX10_init 228 = .ok (.invokespecial 91, 3) := by decide +kernel
theorem dX10_init_231 : decode cX10_init 231 = .ok (.putfield 92, 3) := by decide +kernel
theorem dX10_init_234 : decode cX10_init 234 = .ok (.return_, 1) := by decide +kernel
set_option maxRecDepth 20000 in
theorem ggX10_type_X7_append : GoodIn wsX10_type wsX7_append := goodIn_r _ [5, 6, 7, 8, 9, 10, 24, 25] (by decide +kernel) (by decide +kernel)
set_option maxRecDepth 20000 in
theorem gX10_type_X7_append_n96 : GoodIn wsX10_type (wsX7_append) := ggX10_type_X7_append
theorem dX10_type_0 : decode cX10_type 0 = .ok (.aload_n 0, 1) := by decide +kernel
theorem dX10_type_1 : decode cX10_type 1 = .ok (.getfield 10, 3) := by decide +kernel
theorem dX10_type_4 : decode cX10_type 4 = .ok (.lload_n 1, 1) := by decide +kernel
theorem dX10_type_5 : decode cX10_type 5 = .ok (.iload_n 3, 1) := by decide +kernel
theorem dX10_type_6 : decode cX10_type 6 = .ok (.invokevirtual 96, 3) := by decide +kernel
theorem dX10_type_9 : decode cX10_type 9 = .ok (.ireturn, 1) := by decide +kernel
set_option maxRecDepth 20000 in
theorem ggX10_clear_X7_drop : GoodIn wsX10_clear wsX7_drop := goodIn_r _ [5, 6, 20, 21] (by decide +kernel) (by decide +kernel)
set_option maxRecDepth 20000 in
theorem gX10_clear_X7_drop_n100 : GoodIn wsX10_clear (wsX7_drop) := ggX10_clear_X7_drop
theorem dX10_clear_0 : decode cX10_clear 0 = .ok (.aload_n 0, 1) := by decide +kernel
theorem dX10_clear_1 : decode cX10_clear 1 = .ok (.getfield 10, 3) := by decide +kernel
theorem dX10_clear_4 : decode cX10_clear 4 = .ok (.invokevirtual 100, 3) := by decide +kernel
theorem dX10_clear_7 : decode cX10_clear 7 = .ok (.ireturn, 1) := by decide +kernel
set_option maxRecDepth 20000 in
theorem ggX10_shaft_X5_read : GoodIn wsX10_shaft wsX5_read := goodIn_r _ [10, 11, 12, 13, 14, 15, 16, 17, 18, 19, 20, 8, 21, 22, 23, 24, 25, 26, 27, 28, 29, 30, 31, 32, 33, 34, 35, 36, 37, 38, 39, 40, 41, 42, 43, 44, 45, 46, 47, 48, 49, 50, 51, 52, 53, 54, 55, 56, 57, 58, 59, 60, 61, 62, 63, 64, 65, 66, 67, 68, 69, 70, 71, 72, 73, 74, 75, 76, 77, 78, 79, 80, 81, 82, 83, 84, 85, 86, 87, 88, 89, 90, 91, 92, 93, 94, 95, 96, 97, 98, 99, 100, 101, 102, 103, 104, 105, 106, 107, 108, 109, 110, 111, 112, 113, 114, 115, 116, 117, 118, 119, 120, 121, 122, 123, 124, 125, 126, 127, 128, 129, 130, 131, 132, 133, 134, 135, 136, 137, 138, 139, 140, 182, 183, 184, 185, 186, 187, 188, 189, 190, 191, 192, 193, 194, 195, 196, 197, 198, 199, 200, 201] (by decide +kernel) (by decide +kernel)
set_option maxRecDepth 20000 in
theorem gX10_shaft_X5_read_n104 : GoodIn wsX10_shaft (wsX5_read) := ggX10_shaft_X5_read
set_option maxRecDepth 20000 in
theorem ggX10_shaft_X8_copyFrom : GoodIn wsX10_shaft wsX8_copyFrom := goodIn_r _ [143, 144, 145, 146, 147, 148, 149, 150, 151, 100, 101, 102, 103, 104, 193, 194, 195, 196, 197, 198, 199, 200, 201] (by decide +kernel) (by decide +kernel)
set_option maxRecDepth 20000 in
theorem gX10_shaft_X8_copyFrom_n107 : GoodIn wsX10_shaft (wsX8_copyFrom) := ggX10_shaft_X8_copyFrom
set_option maxRecDepth 20000 in
theorem ggX10_shaft_X2_begin : GoodIn wsX10_shaft wsX2_begin := goodIn_r _ [155, 156, 157, 146, 147, 148, 158, 159, 160, 161, 162, 163, 193, 194, 195, 196, 197, 198, 199, 200, 201, 202, 203, 204, 205, 206, 207, 208, 209, 210, 211] (by decide +kernel) (by decide +kernel)
set_option maxRecDepth 20000 in
theorem gX10_shaft_X2_begin_n111 : GoodIn wsX10_shaft (wsX2_begin) := ggX10_shaft_X2_begin
set_option maxRecDepth 20000 in
theorem ggX10_shaft_X7_drop : GoodIn wsX10_shaft wsX7_drop := goodIn_r _ [167, 168, 191, 192] (by decide +kernel) (by decide +kernel)
set_option maxRecDepth 20000 in
theorem gX10_shaft_X7_drop_n100 : GoodIn wsX10_shaft (wsX7_drop) := ggX10_shaft_X7_drop
theorem dX10_shaft_0 : decode cX10_shaft 0 = .ok (.aload_n 0, 1) := by decide +kernel
theorem dX10_shaft_1 : decode cX10_shaft 1 = .ok (.getfield 31, 3) := by decide +kernel
theorem dX10_shaft_4 : decode cX10_shaft 4 = .ok (.invokevirtual 104, 3) := by decide +kernel
theorem dX10_shaft_7 : decode cX10_shaft 7 = .ok (.istore_n 1, 1) := by decide +kernel
theorem dX10_shaft_8 : decode cX10_shaft 8 = .ok (.iload_n 1, 1) := by decide +kernel
theorem dX10_shaft_9 : decode cX10_shaft 9 = .ok (.ifCond .ge 5, 3) := by decide +kernel
theorem dX10_shaft_12 : decode cX10_shaft 12 = .ok (.iload_n 1, 1) := by decide +kernel
theorem dX10_shaft_13 : decode cX10_shaft 13 = .ok (.ireturn, 1) := by decide +kernel
theorem dX10_shaft_14 : decode cX10_shaft 14 = .ok (.aload_n 0, 1) := by decide +kernel
theorem dX10_shaft_15 : decode cX10_shaft 15 = .ok (.getfield 19, 3) := by decide +kernel
theorem dX10_shaft_18 : decode cX10_shaft 18 = .ok (.aload_n 0, 1) := by decide +kernel
theorem dX10_shaft_19 : decode cX10_shaft 19 = .ok (.getfield 23, 3) := by decide +kernel
theorem dX10_shaft_22 : decode cX10_shaft 22 = .ok (.invokevirtual 107, 3) := by decide +kernel
theorem dX10_shaft_25 : decode cX10_shaft 25 = .ok (.aload_n 0, 1) := by decide +kernel
theorem dX10_shaft_26 : decode cX10_shaft 26 = .ok (.getfield 38, 3) := by decide +kernel
theorem dX10_shaft_29 : decode cX10_shaft 29 = .ok (.aload_n 0, 1) := by decide +kernel
theorem dX10_shaft_30 : decode cX10_shaft 30 = .ok (.getfield 19, 3) := by decide +kernel
theorem dX10_shaft_33 : decode cX10_shaft 33 = .ok (.invokevirtual 111, 3) := by decide +kernel
theorem dX10_shaft_36 : decode cX10_shaft 36 = .ok (.iconst 0, 1) := by decide +kernel
theorem dX10_shaft_37 : decode cX10_shaft 37 = .ok (.istore_n 2, 1) := by decide +kernel
theorem dX10_shaft_38 : decode cX10_shaft 38 = .ok (.iload_n 2, 1) := by decide +kernel
theorem dX10_shaft_39 : decode cX10_shaft 39 = .ok (.iconst 2, 1) := by decide +kernel
theorem dX10_shaft_40 : decode cX10_shaft 40 = .ok (.if_icmp .ge 16, 3) := by decide +kernel
theorem dX10_shaft_43 : decode cX10_shaft 43 = .ok (.aload_n 0, 1) := by decide +kernel
theorem dX10_shaft_44 : decode cX10_shaft 44 = .ok (.getfield 46, 3) := by decide +kernel
theorem dX10_shaft_47 : decode cX10_shaft 47 = .ok (.iload_n 2, 1) := by decide +kernel
theorem dX10_shaft_48 : decode cX10_shaft 48 = .ok (.iconst 0, 1) := by decide +kernel
theorem dX10_shaft_49 : decode cX10_shaft 49 = .ok (.bastore, 1) := by decide +kernel
theorem dX10_shaft_50 : decode cX10_shaft 50 = .ok (.iinc 2 1, 3) := by decide +kernel
theorem dX10_shaft_53 : decode cX10_shaft 53 = .ok (.goto (-15), 3) := by decide +kernel
theorem dX10_shaft_56 : decode cX10_shaft 56 = .ok (.aload_n 0, 1) := by decide +kernel
theorem dX10_shaft_57 : decode cX10_shaft 57 = .ok (.getfield 10, 3) := by decide +kernel
theorem dX10_shaft_60 : decode cX10_shaft 60 = .ok (.invokevirtual 100, 3) := by decide +kernel
theorem dX10_shaft_63 : decode cX10_shaft 63 = .ok (.pop, 1) := by decide +kernel
theorem dX10_shaft_64 : decode cX10_shaft 64 = .ok (.iload_n 1, 1) := by decide +kernel
theorem dX10_shaft_65 : decode cX10_shaft 65 = .ok (.ireturn, 1) := by decide +kernel
set_option maxRecDepth 20000 in
theorem ggX10_level_X10_isLevel : GoodIn wsX10_level wsX10_isLevel := goodIn_r _ [9, 3, 10, 11, 8, 12, 20, 21, 22, 23, 24, 25, 26, 27, 28, 29, 30, 31, 32, 43, 44, 45, 46, 47, 48, 49, 50, 51] (by decide +kernel) (by decide +kernel)
set_option maxRecDepth 20000 in
theorem gX10_level_X10_isLevel : GoodIn wsX10_level (wsV RX10 114 RX10 yX10_isLevel wsX10_isLevel) := goodIn_app (goodIn_of _ (by decide +kernel)) ggX10_level_X10_isLevel
set_option maxRecDepth 20000 in
theorem ggX10_level_X6_soundOf : GoodIn wsX10_level wsX6_soundOf := goodIn_r _ [16, 17, 18, 8, 19, 52, 53, 33, 34, 35, 36, 37, 38, 39, 40, 41, 42] (by decide +kernel) (by decide +kernel)
set_option maxRecDepth 20000 in
theorem gX10_level_X6_soundOf_n129 : GoodIn wsX10_level (wsX6_soundOf) := ggX10_level_X6_soundOf
theorem dX10_level_0 : decode cX10_level 0 = .ok (.aload_n 0, 1) := by decide +kernel
theorem dX10_level_1 : decode cX10_level 1 = .ok (.iload_n 1, 1) := by decide +kernel
theorem dX10_level_2 : decode cX10_level 2 = .ok (.invokevirtual 114, 3) := by decide +kernel
theorem dX10_level_5 : decode cX10_level 5 = .ok (.ifCond .ne 6, 3) := by decide +kernel
theorem dX10_level_8 : decode cX10_level 8 = .ok (.ldc 118, 2) := by decide +kernel
theorem dX10_level_10 : decode cX10_level 10 = .ok (.ireturn, 1) := by decide +kernel
theorem dX10_level_11 : decode cX10_level 11 = .ok (.iload_n 2, 1) := by decide +kernel
theorem dX10_level_12 : decode cX10_level 12 = .ok (.tableswitch 71 0 3 #[32, 42, 52, 62], 32) := by decide +kernel
theorem dX10_level_44 : decode cX10_level 44 = .ok (.aload_n 0, 1) := by decide +kernel
theorem dX10_level_45 : decode cX10_level 45 = .ok (.getfield 38, 3) := by decide +kernel
theorem dX10_level_48 : decode cX10_level 48 = .ok (.getfield 119, 3) := by decide +kernel
theorem dX10_level_51 : decode cX10_level 51 = .ok (.iload_n 1, 1) := by decide +kernel
theorem dX10_level_52 : decode cX10_level 52 = .ok (.iaload, 1) := by decide +kernel
theorem dX10_level_53 : decode cX10_level 53 = .ok (.ireturn, 1) := by decide +kernel
theorem dX10_level_54 : decode cX10_level 54 = .ok (.aload_n 0, 1) := by decide +kernel
theorem dX10_level_55 : decode cX10_level 55 = .ok (.getfield 19, 3) := by decide +kernel
theorem dX10_level_58 : decode cX10_level 58 = .ok (.getfield 123, 3) := by decide +kernel
theorem dX10_level_61 : decode cX10_level 61 = .ok (.iload_n 1, 1) := by decide +kernel
theorem dX10_level_62 : decode cX10_level 62 = .ok (.iaload, 1) := by decide +kernel
theorem dX10_level_63 : decode cX10_level 63 = .ok (.ireturn, 1) := by decide +kernel
theorem dX10_level_64 : decode cX10_level 64 = .ok (.aload_n 0, 1) := by decide +kernel
theorem dX10_level_65 : decode cX10_level 65 = .ok (.getfield 19, 3) := by decide +kernel
theorem dX10_level_68 : decode cX10_level 68 = .ok (.getfield 126, 3) := by decide +kernel
theorem dX10_level_71 : decode cX10_level 71 = .ok (.iload_n 1, 1) := by decide +kernel
theorem dX10_level_72 : decode cX10_level 72 = .ok (.iaload, 1) := by decide +kernel
theorem dX10_level_73 : decode cX10_level 73 = .ok (.ireturn, 1) := by decide +kernel
theorem dX10_level_74 : decode cX10_level 74 = .ok (.aload_n 0, 1) := by decide +kernel
theorem dX10_level_75 : decode cX10_level 75 = .ok (.getfield 55, 3) := by decide +kernel
theorem dX10_level_78 : decode cX10_level 78 = .ok (.iload_n 1, 1) := by decide +kernel
theorem dX10_level_79 : decode cX10_level 79 = .ok (.invokevirtual 129, 3) := by decide +kernel
theorem dX10_level_82 : decode cX10_level 82 = .ok (.ireturn, 1) := by decide +kernel
theorem dX10_level_83 : decode cX10_level 83 = .ok (.ldc 118, 2) := by decide +kernel
theorem dX10_level_85 : decode cX10_level 85 = .ok (.ireturn, 1) := by decide +kernel
set_option maxRecDepth 20000 in
theorem ggX10_man_X10_isMan : GoodIn wsX10_man wsX10_isMan := goodIn_r _ [6, 7, 8, 9, 5, 10, 11, 12, 13, 14, 15, 16, 17, 18, 19, 20, 21, 22, 23, 34, 35, 36, 37, 38, 39, 40, 41, 42] (by decide +kernel) (by decide +kernel)
set_option maxRecDepth 20000 in
theorem gX10_man_X10_isMan : GoodIn wsX10_man (wsV RX10 133 RX10 yX10_isMan wsX10_isMan) := goodIn_app (goodIn_of _ (by decide +kernel)) ggX10_man_X10_isMan
theorem dX10_man_0 : decode cX10_man 0 = .ok (.aload_n 0, 1) := by decide +kernel
theorem dX10_man_1 : decode cX10_man 1 = .ok (.iload_n 1, 1) := by decide +kernel
theorem dX10_man_2 : decode cX10_man 2 = .ok (.invokevirtual 133, 3) := by decide +kernel
theorem dX10_man_5 : decode cX10_man 5 = .ok (.ifCond .eq 15, 3) := by decide +kernel
theorem dX10_man_8 : decode cX10_man 8 = .ok (.aload_n 0, 1) := by decide +kernel
theorem dX10_man_9 : decode cX10_man 9 = .ok (.getfield 38, 3) := by decide +kernel
theorem dX10_man_12 : decode cX10_man 12 = .ok (.getfield 136, 3) := by decide +kernel
theorem dX10_man_15 : decode cX10_man 15 = .ok (.iload_n 1, 1) := by decide +kernel
theorem dX10_man_16 : decode cX10_man 16 = .ok (.iaload, 1) := by decide +kernel
theorem dX10_man_17 : decode cX10_man 17 = .ok (.goto 4, 3) := by decide +kernel
theorem dX10_man_20 : decode cX10_man 20 = .ok (.iconst (-1), 1) := by decide +kernel
theorem dX10_man_21 : decode cX10_man 21 = .ok (.ireturn, 1) := by decide +kernel
set_option maxRecDepth 20000 in
theorem ggX10_wet_X10_isWithin : GoodIn wsX10_wet wsX10_isWithin := goodIn_r _ [5] (by decide +kernel) (by decide +kernel)
set_option maxRecDepth 20000 in
theorem gX10_wet_X10_isWithin : GoodIn wsX10_wet (va_wsS RX10 139 yX10_isWithin wsX10_isWithin) := goodIn_app (goodIn_of _ (by decide +kernel)) ggX10_wet_X10_isWithin
theorem dX10_wet_0 : decode cX10_wet 0 = .ok (.iload_n 1, 1) := by decide +kernel
theorem dX10_wet_1 : decode cX10_wet 1 = .ok (.iconst 0, 1) := by decide +kernel
theorem dX10_wet_2 : decode cX10_wet 2 = .ok (.bipush 9, 2) := by decide +kernel
theorem dX10_wet_4 : decode cX10_wet 4 = .ok (.invokestatic 139, 3) := by decide +kernel
theorem dX10_wet_7 : decode cX10_wet 7 = .ok (.ifCond .ne 5, 3) := by decide +kernel
theorem dX10_wet_10 : decode cX10_wet 10 = .ok (.iconst (-1), 1) := by decide +kernel
theorem dX10_wet_11 : decode cX10_wet 11 = .ok (.ireturn, 1) := by decide +kernel
theorem dX10_wet_12 : decode cX10_wet 12 = .ok (.aload_n 0, 1) := by decide +kernel
theorem dX10_wet_13 : decode cX10_wet 13 = .ok (.getfield 38, 3) := by decide +kernel
theorem dX10_wet_16 : decode cX10_wet 16 = .ok (.getfield 143, 3) := by decide +kernel
theorem dX10_wet_19 : decode cX10_wet 19 = .ok (.istore_n 2, 1) := by decide +kernel
theorem dX10_wet_20 : decode cX10_wet 20 = .ok (.aload_n 0, 1) := by decide +kernel
theorem dX10_wet_21 : decode cX10_wet 21 = .ok (.getfield 38, 3) := by decide +kernel
theorem dX10_wet_24 : decode cX10_wet 24 = .ok (.iload_n 1, 1) := by decide +kernel
theorem dX10_wet_25 : decode cX10_wet 25 = .ok (.putfield 143, 3) := by decide +kernel
theorem dX10_wet_28 : decode cX10_wet 28 = .ok (.iload_n 2, 1) := by decide +kernel
theorem dX10_wet_29 : decode cX10_wet 29 = .ok (.ireturn, 1) := by decide +kernel
set_option maxRecDepth 20000 in
theorem ggX10_taken_X10_isLevel : GoodIn wsX10_taken wsX10_isLevel := goodIn_r _ [6, 7, 8, 9, 5, 10, 27, 28, 29, 30, 31, 32, 33, 34, 35, 36, 37, 38, 39, 40, 41, 42, 43, 44, 45, 46, 47, 48] (by decide +kernel) (by decide +kernel)
set_option maxRecDepth 20000 in
theorem gX10_taken_X10_isLevel : GoodIn wsX10_taken (wsV RX10 114 RX10 yX10_isLevel wsX10_isLevel) := goodIn_app (goodIn_of _ (by decide +kernel)) ggX10_taken_X10_isLevel
set_option maxRecDepth 20000 in
theorem ggX10_taken_X6_soundOf : GoodIn wsX10_taken wsX6_soundOf := goodIn_r _ [14, 15, 16, 5, 17, 49, 50, 51, 52, 53, 54, 55, 56, 57, 58, 59, 60] (by decide +kernel) (by decide +kernel)
set_option maxRecDepth 20000 in
theorem gX10_taken_X6_soundOf_n129 : GoodIn wsX10_taken (wsX6_soundOf) := ggX10_taken_X6_soundOf
set_option maxRecDepth 20000 in
theorem ggX10_taken_X6_likeSound : GoodIn wsX10_taken wsX6_likeSound := goodIn_r _ [20, 21, 22, 23, 24, 25, 26, 11, 13, 12, 14, 15, 16, 5, 17, 49, 50, 40, 41, 42, 43, 44, 45, 46, 47, 48, 51, 52, 53, 54, 55, 56, 57, 58, 59, 60] (by decide +kernel) (by decide +kernel)
set_option maxRecDepth 20000 in
theorem gX10_taken_X6_likeSound_n147 : GoodIn wsX10_taken (wsX6_likeSound) := ggX10_taken_X6_likeSound
theorem dX10_taken_0 : decode cX10_taken 0 = .ok (.aload_n 0, 1) := by decide +kernel
theorem dX10_taken_1 : decode cX10_taken 1 = .ok (.iload_n 1, 1) := by decide +kernel
theorem dX10_taken_2 : decode cX10_taken 2 = .ok (.invokevirtual 114, 3) := by decide +kernel
theorem dX10_taken_5 : decode cX10_taken 5 = .ok (.ifCond .eq 21, 3) := by decide +kernel
theorem dX10_taken_8 : decode cX10_taken 8 = .ok (.aload_n 0, 1) := by decide +kernel
theorem dX10_taken_9 : decode cX10_taken 9 = .ok (.getfield 55, 3) := by decide +kernel
theorem dX10_taken_12 : decode cX10_taken 12 = .ok (.aload_n 0, 1) := by decide +kernel
theorem dX10_taken_13 : decode cX10_taken 13 = .ok (.getfield 55, 3) := by decide +kernel
theorem dX10_taken_16 : decode cX10_taken 16 = .ok (.iload_n 1, 1) := by decide +kernel
theorem dX10_taken_17 : decode cX10_taken 17 = .ok (.invokevirtual 129, 3) := by decide +kernel
theorem dX10_taken_20 : decode cX10_taken 20 = .ok (.invokevirtual 147, 3) := by decide +kernel
theorem dX10_taken_23 : decode cX10_taken 23 = .ok (.goto 4, 3) := by decide +kernel
theorem dX10_taken_26 : decode cX10_taken 26 = .ok (.iconst (-1), 1) := by decide +kernel
theorem dX10_taken_27 : decode cX10_taken 27 = .ok (.ireturn, 1) := by decide +kernel
set_option maxRecDepth 20000 in
theorem ggX10_comes_X10_isNote : GoodIn wsX10_comes wsX10_isNote := goodIn_r _ [5, 6, 7, 4, 8] (by decide +kernel) (by decide +kernel)
set_option maxRecDepth 20000 in
theorem gX10_comes_X10_isNote : GoodIn wsX10_comes (va_wsS RX10 150 yX10_isNote wsX10_isNote) := goodIn_app (goodIn_of _ (by decide +kernel)) ggX10_comes_X10_isNote
set_option maxRecDepth 20000 in
theorem ggX10_comes_X6_likeSound : GoodIn wsX10_comes wsX6_likeSound := goodIn_r _ [12, 13, 14, 15, 16, 17, 18, 19, 20, 10, 21, 22, 23, 4, 24, 38, 39, 40, 41, 42, 43, 44, 45, 46, 47, 48, 49, 50, 51, 52, 53, 54, 55, 56, 57, 58] (by decide +kernel) (by decide +kernel)
set_option maxRecDepth 20000 in
theorem gX10_comes_X6_likeSound_n147 : GoodIn wsX10_comes (wsX6_likeSound) := ggX10_comes_X6_likeSound
theorem dX10_comes_0 : decode cX10_comes 0 = .ok (.iload_n 1, 1) := by decide +kernel
theorem dX10_comes_1 : decode cX10_comes 1 = .ok (.invokestatic 150, 3) := by decide +kernel
theorem dX10_comes_4 : decode cX10_comes 4 = .ok (.ifCond .eq 14, 3) := by decide +kernel
theorem dX10_comes_7 : decode cX10_comes 7 = .ok (.aload_n 0, 1) := by decide +kernel
theorem dX10_comes_8 : decode cX10_comes 8 = .ok (.getfield 55, 3) := by decide +kernel
theorem dX10_comes_11 : decode cX10_comes 11 = .ok (.iload_n 1, 1) := by decide +kernel
theorem dX10_comes_12 : decode cX10_comes 12 = .ok (.invokevirtual 147, 3) := by decide +kernel
theorem dX10_comes_15 : decode cX10_comes 15 = .ok (.goto 4, 3) := by decide +kernel
theorem dX10_comes_18 : decode cX10_comes 18 = .ok (.iconst (-1), 1) := by decide +kernel
theorem dX10_comes_19 : decode cX10_comes 19 = .ok (.ireturn, 1) := by decide +kernel
set_option maxRecDepth 20000 in
theorem ggX10_climbs_X10_isMan : GoodIn wsX10_climbs wsX10_isMan := goodIn_r _ [10, 11, 12, 13, 9, 14, 19, 20, 21, 22, 23, 24, 25, 26, 27, 28, 29, 30, 31, 42, 43, 44, 45, 46, 47, 48, 49, 50] (by decide +kernel) (by decide +kernel)
set_option maxRecDepth 20000 in
theorem gX10_climbs_X10_isMan : GoodIn wsX10_climbs (wsV RX10 133 RX10 yX10_isMan wsX10_isMan) := goodIn_app (goodIn_of _ (by decide +kernel)) ggX10_climbs_X10_isMan
set_option maxRecDepth 20000 in
theorem ggX10_climbs_X10_isLevel : GoodIn wsX10_climbs wsX10_isLevel := goodIn_r _ [18, 11, 12, 13, 9, 14, 19, 20, 21, 22, 23, 24, 25, 26, 27, 28, 29, 30, 31, 42, 43, 44, 45, 46, 47, 48, 49, 50] (by decide +kernel) (by decide +kernel)
set_option maxRecDepth 20000 in
theorem gX10_climbs_X10_isLevel : GoodIn wsX10_climbs (wsV RX10 114 RX10 yX10_isLevel wsX10_isLevel) := goodIn_app (goodIn_of _ (by decide +kernel)) ggX10_climbs_X10_isLevel
theorem dX10_climbs_0 : decode cX10_climbs 0 = .ok (.aload_n 0, 1) := by decide +kernel
theorem dX10_climbs_1 : decode cX10_climbs 1 = .ok (.iload_n 1, 1) := by decide +kernel
theorem dX10_climbs_2 : decode cX10_climbs 2 = .ok (.invokevirtual 133, 3) := by decide +kernel
theorem dX10_climbs_5 : decode cX10_climbs 5 = .ok (.ifCond .eq 11, 3) := by decide +kernel
theorem dX10_climbs_8 : decode cX10_climbs 8 = .ok (.aload_n 0, 1) := by decide +kernel
theorem dX10_climbs_9 : decode cX10_climbs 9 = .ok (.iload_n 2, 1) := by decide +kernel
theorem dX10_climbs_10 : decode cX10_climbs 10 = .ok (.invokevirtual 114, 3) := by decide +kernel
theorem dX10_climbs_13 : decode cX10_climbs 13 = .ok (.ifCond .ne 5, 3) := by decide +kernel
theorem dX10_climbs_16 : decode cX10_climbs 16 = .ok (.iconst (-1), 1) := by decide +kernel
theorem dX10_climbs_17 : decode cX10_climbs 17 = .ok (.ireturn, 1) := by decide +kernel
theorem dX10_climbs_18 : decode cX10_climbs 18 = .ok (.aload_n 0, 1) := by decide +kernel
theorem dX10_climbs_19 : decode cX10_climbs 19 = .ok (.getfield 38, 3) := by decide +kernel
theorem dX10_climbs_22 : decode cX10_climbs 22 = .ok (.getfield 136, 3) := by decide +kernel
theorem dX10_climbs_25 : decode cX10_climbs 25 = .ok (.iload_n 1, 1) := by decide +kernel
theorem dX10_climbs_26 : decode cX10_climbs 26 = .ok (.iaload, 1) := by decide +kernel
theorem dX10_climbs_27 : decode cX10_climbs 27 = .ok (.iload_n 2, 1) := by decide +kernel
theorem dX10_climbs_28 : decode cX10_climbs 28 = .ok (.isub, 1) := by decide +kernel
theorem dX10_climbs_29 : decode cX10_climbs 29 = .ok (.invokestatic 153, 3) := by decide +kernel
theorem dX10_climbs_32 : decode cX10_climbs 32 = .ok (.istore_n 3, 1) := by decide +kernel
theorem dX10_climbs_33 : decode cX10_climbs 33 = .ok (.iload_n 3, 1) := by decide +kernel
theorem dX10_climbs_34 : decode cX10_climbs 34 = .ok (.ifCond .ne 6, 3) := by decide +kernel
theorem dX10_climbs_37 : decode cX10_climbs 37 = .ok (.bipush (-2), 2) := by decide +kernel
theorem dX10_climbs_39 : decode cX10_climbs 39 = .ok (.ireturn, 1) := by decide +kernel
theorem dX10_climbs_40 : decode cX10_climbs 40 = .ok (.aload_n 0, 1) := by decide +kernel
theorem dX10_climbs_41 : decode cX10_climbs 41 = .ok (.getfield 38, 3) := by decide +kernel
theorem dX10_climbs_44 : decode cX10_climbs 44 = .ok (.getfield 136, 3) := by decide +kernel
theorem dX10_climbs_47 : decode cX10_climbs 47 = .ok (.iload_n 1, 1) := by decide +kernel
theorem dX10_climbs_48 : decode cX10_climbs 48 = .ok (.iload_n 2, 1) := by decide +kernel
theorem dX10_climbs_49 : decode cX10_climbs 49 = .ok (.iastore, 1) := by decide +kernel
theorem dX10_climbs_50 : decode cX10_climbs 50 = .ok (.iload_n 3, 1) := by decide +kernel
theorem dX10_climbs_51 : decode cX10_climbs 51 = .ok (.ireturn, 1) := by decide +kernel
set_option maxRecDepth 20000 in
theorem ggX10_plucks_X10_isMan : GoodIn wsX10_plucks wsX10_isMan := goodIn_r _ [8, 9, 10, 11, 7, 12, 20, 21, 22, 23, 24, 25, 26, 27, 28, 29, 30, 31, 32, 43, 44, 45, 46, 47, 48, 49, 50, 51] (by decide +kernel) (by decide +kernel)
set_option maxRecDepth 20000 in
theorem gX10_plucks_X10_isMan : GoodIn wsX10_plucks (wsV RX10 133 RX10 yX10_isMan wsX10_isMan) := goodIn_app (goodIn_of _ (by decide +kernel)) ggX10_plucks_X10_isMan
set_option maxRecDepth 20000 in
theorem ggX10_plucks_X6_soundOf : GoodIn wsX10_plucks wsX6_soundOf := goodIn_r _ [16, 17, 18, 7, 19, 52, 53, 33, 34, 35, 36, 37, 38, 39, 40, 41, 42] (by decide +kernel) (by decide +kernel)
set_option maxRecDepth 20000 in
theorem gX10_plucks_X6_soundOf_n129 : GoodIn wsX10_plucks (wsX6_soundOf) := ggX10_plucks_X6_soundOf
theorem dX10_plucks_0 : decode cX10_plucks 0 = .ok (.aload_n 0, 1) := by decide +kernel
theorem dX10_plucks_1 : decode cX10_plucks 1 = .ok (.iload_n 1, 1) := by decide +kernel
theorem dX10_plucks_2 : decode cX10_plucks 2 = .ok (.invokevirtual 133, 3) := by decide +kernel
theorem dX10_plucks_5 : decode cX10_plucks 5 = .ok (.ifCond .eq 22, 3) := by decide +kernel
theorem dX10_plucks_8 : decode cX10_plucks 8 = .ok (.aload_n 0, 1) := by decide +kernel
theorem dX10_plucks_9 : decode cX10_plucks 9 = .ok (.getfield 38, 3) := by decide +kernel
theorem dX10_plucks_12 : decode cX10_plucks 12 = .ok (.getfield 136, 3) := by decide +kernel
theorem dX10_plucks_15 : decode cX10_plucks 15 = .ok (.iload_n 1, 1) := by decide +kernel
theorem dX10_plucks_16 : decode cX10_plucks 16 = .ok (.iaload, 1) := by decide +kernel
theorem dX10_plucks_17 : decode cX10_plucks 17 = .ok (.aload_n 0, 1) := by decide +kernel
theorem dX10_plucks_18 : decode cX10_plucks 18 = .ok (.getfield 38, 3) := by decide +kernel
theorem dX10_plucks_21 : decode cX10_plucks 21 = .ok (.getfield 158, 3) := by decide +kernel
theorem dX10_plucks_24 : decode cX10_plucks 24 = .ok (.if_icmp .lt 6, 3) := by decide +kernel
theorem dX10_plucks_27 : decode cX10_plucks 27 = .ok (.ldc 118, 2) := by decide +kernel
theorem dX10_plucks_29 : decode cX10_plucks 29 = .ok (.ireturn, 1) := by decide +kernel
theorem dX10_plucks_30 : decode cX10_plucks 30 = .ok (.aload_n 0, 1) := by decide +kernel
theorem dX10_plucks_31 : decode cX10_plucks 31 = .ok (.getfield 55, 3) := by decide +kernel
theorem dX10_plucks_34 : decode cX10_plucks 34 = .ok (.aload_n 0, 1) := by decide +kernel
theorem dX10_plucks_35 : decode cX10_plucks 35 = .ok (.getfield 38, 3) := by decide +kernel
theorem dX10_plucks_38 : decode cX10_plucks 38 = .ok (.getfield 136, 3) := by decide +kernel
theorem dX10_plucks_41 : decode cX10_plucks 41 = .ok (.iload_n 1, 1) := by decide +kernel
theorem dX10_plucks_42 : decode cX10_plucks 42 = .ok (.iaload, 1) := by decide +kernel
theorem dX10_plucks_43 : decode cX10_plucks 43 = .ok (.invokevirtual 129, 3) := by decide +kernel
theorem dX10_plucks_46 : decode cX10_plucks 46 = .ok (.ireturn, 1) := by decide +kernel
set_option maxRecDepth 20000 in
theorem ggX10_falls_X10_isLevel : GoodIn wsX10_falls wsX10_isLevel := goodIn_r _ [6, 7, 8, 9, 5, 10, 19, 20, 21, 22, 23, 24, 25, 26, 27, 28, 29, 30, 31, 42, 43, 44, 45, 46, 47, 48, 49, 50] (by decide +kernel) (by decide +kernel)
set_option maxRecDepth 20000 in
theorem gX10_falls_X10_isLevel : GoodIn wsX10_falls (wsV RX10 114 RX10 yX10_isLevel wsX10_isLevel) := goodIn_app (goodIn_of _ (by decide +kernel)) ggX10_falls_X10_isLevel
set_option maxRecDepth 20000 in
theorem ggX10_falls_X10_silentLevels : GoodIn wsX10_falls wsX10_silentLevels := goodIn_r _ [14, 7, 1, 15, 16, 17, 18, 19, 20, 21, 22, 23, 24, 25, 26, 27, 28, 29, 30, 31, 42, 43, 44, 45, 46, 47, 48, 49, 50, 32, 33, 34, 35, 36, 37, 38, 39, 40, 41] (by decide +kernel) (by decide +kernel)
set_option maxRecDepth 20000 in
theorem gX10_falls_X10_silentLevels : GoodIn wsX10_falls (wsV RX10 161 RX10 yX10_silentLevels wsX10_silentLevels) := goodIn_app (goodIn_of _ (by decide +kernel)) ggX10_falls_X10_silentLevels
theorem dX10_falls_0 : decode cX10_falls 0 = .ok (.aload_n 0, 1) := by decide +kernel
theorem dX10_falls_1 : decode cX10_falls 1 = .ok (.iload_n 1, 1) := by decide +kernel
theorem dX10_falls_2 : decode cX10_falls 2 = .ok (.invokevirtual 114, 3) := by decide +kernel
theorem dX10_falls_5 : decode cX10_falls 5 = .ok (.ifCond .ne 5, 3) := by decide +kernel
theorem dX10_falls_8 : decode cX10_falls 8 = .ok (.iconst (-1), 1) := by decide +kernel
theorem dX10_falls_9 : decode cX10_falls 9 = .ok (.ireturn, 1) := by decide +kernel
theorem dX10_falls_10 : decode cX10_falls 10 = .ok (.aload_n 0, 1) := by decide +kernel
theorem dX10_falls_11 : decode cX10_falls 11 = .ok (.getfield 38, 3) := by decide +kernel
theorem dX10_falls_14 : decode cX10_falls 14 = .ok (.getfield 158, 3) := by decide +kernel
theorem dX10_falls_17 : decode cX10_falls 17 = .ok (.iload_n 1, 1) := by decide +kernel
theorem dX10_falls_18 : decode cX10_falls 18 = .ok (.if_icmp .gt 6, 3) := by decide +kernel
theorem dX10_falls_21 : decode cX10_falls 21 = .ok (.bipush (-2), 2) := by decide +kernel
theorem dX10_falls_23 : decode cX10_falls 23 = .ok (.ireturn, 1) := by decide +kernel
theorem dX10_falls_24 : decode cX10_falls 24 = .ok (.aload_n 0, 1) := by decide +kernel
theorem dX10_falls_25 : decode cX10_falls 25 = .ok (.getfield 38, 3) := by decide +kernel
theorem dX10_falls_28 : decode cX10_falls 28 = .ok (.iload_n 1, 1) := by decide +kernel
theorem dX10_falls_29 : decode cX10_falls 29 = .ok (.putfield 158, 3) := by decide +kernel
theorem dX10_falls_32 : decode cX10_falls 32 = .ok (.aload_n 0, 1) := by decide +kernel
theorem dX10_falls_33 : decode cX10_falls 33 = .ok (.invokevirtual 161, 3) := by decide +kernel
theorem dX10_falls_36 : decode cX10_falls 36 = .ok (.ireturn, 1) := by decide +kernel
set_option maxRecDepth 20000 in
theorem ggX10_mends_X10_silentLevels : GoodIn wsX10_mends wsX10_silentLevels := goodIn_r _ [6, 7, 1, 8, 9, 10, 11, 12, 13, 14, 15, 16, 17, 18, 19, 20, 21, 22, 23, 24, 35, 36, 37, 38, 39, 40, 41, 42, 43, 25, 26, 27, 28, 29, 30, 31, 32, 33, 34] (by decide +kernel) (by decide +kernel)
set_option maxRecDepth 20000 in
theorem gX10_mends_X10_silentLevels : GoodIn wsX10_mends (wsV RX10 161 RX10 yX10_silentLevels wsX10_silentLevels) := goodIn_app (goodIn_of _ (by decide +kernel)) ggX10_mends_X10_silentLevels
theorem dX10_mends_0 : decode cX10_mends 0 = .ok (.aload_n 0, 1) := by decide +kernel
theorem dX10_mends_1 : decode cX10_mends 1 = .ok (.invokevirtual 161, 3) := by decide +kernel
theorem dX10_mends_4 : decode cX10_mends 4 = .ok (.istore_n 1, 1) := by decide +kernel
theorem dX10_mends_5 : decode cX10_mends 5 = .ok (.iload_n 1, 1) := by decide +kernel
theorem dX10_mends_6 : decode cX10_mends 6 = .ok (.ifCond .ne 6, 3) := by decide +kernel
theorem dX10_mends_9 : decode cX10_mends 9 = .ok (.bipush (-2), 2) := by decide +kernel
theorem dX10_mends_11 : decode cX10_mends 11 = .ok (.ireturn, 1) := by decide +kernel
theorem dX10_mends_12 : decode cX10_mends 12 = .ok (.aload_n 0, 1) := by decide +kernel
theorem dX10_mends_13 : decode cX10_mends 13 = .ok (.getfield 38, 3) := by decide +kernel
theorem dX10_mends_16 : decode cX10_mends 16 = .ok (.bipush 8, 2) := by decide +kernel
theorem dX10_mends_18 : decode cX10_mends 18 = .ok (.putfield 158, 3) := by decide +kernel
theorem dX10_mends_21 : decode cX10_mends 21 = .ok (.iload_n 1, 1) := by decide +kernel
theorem dX10_mends_22 : decode cX10_mends 22 = .ok (.ireturn, 1) := by decide +kernel
set_option maxRecDepth 20000 in
theorem ggX10_year_X10_worn : GoodIn wsX10_year wsX10_worn := goodIn_r _ [6, 7, 8, 9, 10] (by decide +kernel) (by decide +kernel)
set_option maxRecDepth 20000 in
theorem gX10_year_X10_worn : GoodIn wsX10_year (va_wsS RX10 170 yX10_worn wsX10_worn) := goodIn_app (goodIn_of _ (by decide +kernel)) ggX10_year_X10_worn
theorem dX10_year_0 : decode cX10_year 0 = .ok (.aload_n 0, 1) := by decide +kernel
theorem dX10_year_1 : decode cX10_year 1 = .ok (.getfield 38, 3) := by decide +kernel
theorem dX10_year_4 : decode cX10_year 4 = .ok (.getfield 164, 3) := by decide +kernel
theorem dX10_year_7 : decode cX10_year 7 = .ok (.sipush 999, 3) := by decide +kernel
theorem dX10_year_10 : decode cX10_year 10 = .ok (.if_icmp .lt 6, 3) := by decide +kernel
theorem dX10_year_13 : decode cX10_year 13 = .ok (.bipush (-2), 2) := by decide +kernel
theorem dX10_year_15 : decode cX10_year 15 = .ok (.ireturn, 1) := by decide +kernel
theorem dX10_year_16 : decode cX10_year 16 = .ok (.iconst 0, 1) := by decide +kernel
theorem dX10_year_17 : decode cX10_year 17 = .ok (.istore_n 1, 1) := by decide +kernel
theorem dX10_year_18 : decode cX10_year 18 = .ok (.iload_n 1, 1) := by decide +kernel
theorem dX10_year_19 : decode cX10_year 19 = .ok (.aload_n 0, 1) := by decide +kernel
theorem dX10_year_20 : decode cX10_year 20 = .ok (.getfield 19, 3) := by decide +kernel
theorem dX10_year_23 : decode cX10_year 23 = .ok (.getfield 167, 3) := by decide +kernel
theorem dX10_year_26 : decode cX10_year 26 = .ok (.if_icmp .ge 40, 3) := by decide +kernel
theorem dX10_year_29 : decode cX10_year 29 = .ok (.aload_n 0, 1) := by decide +kernel
theorem dX10_year_30 : decode cX10_year 30 = .ok (.getfield 38, 3) := by decide +kernel
theorem dX10_year_33 : decode cX10_year 33 = .ok (.getfield 119, 3) := by decide +kernel
theorem dX10_year_36 : decode cX10_year 36 = .ok (.iload_n 1, 1) := by decide +kernel
theorem dX10_year_37 : decode cX10_year 37 = .ok (.aload_n 0, 1) := by decide +kernel
theorem dX10_year_38 : decode cX10_year 38 = .ok (.getfield 38, 3) := by decide +kernel
theorem dX10_year_41 : decode cX10_year 41 = .ok (.getfield 119, 3) := by decide +kernel
theorem dX10_year_44 : decode cX10_year 44 = .ok (.iload_n 1, 1) := by decide +kernel
theorem dX10_year_45 : decode cX10_year 45 = .ok (.iaload, 1) := by decide +kernel
theorem dX10_year_46 : decode cX10_year 46 = .ok (.aload_n 0, 1) := by decide +kernel
theorem dX10_year_47 : decode cX10_year 47 = .ok (.getfield 19, 3) := by decide +kernel
theorem dX10_year_50 : decode cX10_year 50 = .ok (.getfield 123, 3) := by decide +kernel
theorem dX10_year_53 : decode cX10_year 53 = .ok (.iload_n 1, 1) := by decide +kernel
theorem dX10_year_54 : decode cX10_year 54 = .ok (.iaload, 1) := by decide +kernel
theorem dX10_year_55 : decode cX10_year 55 = .ok (.iconst 1, 1) := by decide +kernel
theorem dX10_year_56 : decode cX10_year 56 = .ok (.invokestatic 170, 3) := by decide +kernel
theorem dX10_year_59 : decode cX10_year 59 = .ok (.iastore, 1) := by decide +kernel
theorem dX10_year_60 : decode cX10_year 60 = .ok (.iinc 1 1, 3) := by decide +kernel
theorem dX10_year_63 : decode cX10_year 63 = .ok (.goto (-45), 3) := by decide +kernel
theorem dX10_year_66 : decode cX10_year 66 = .ok (.aload_n 0, 1) := by decide +kernel
theorem dX10_year_67 : decode cX10_year 67 = .ok (.getfield 38, 3) := by decide +kernel
theorem dX10_year_70 : decode cX10_year 70 = .ok (.dup, 1) := by decide +kernel
theorem dX10_year_71 : decode cX10_year 71 = .ok (.getfield 164, 3) := by decide +kernel
theorem dX10_year_74 : decode cX10_year 74 = .ok (.iconst 1, 1) := by decide +kernel
theorem dX10_year_75 : decode cX10_year 75 = .ok (.iadd, 1) := by decide +kernel
theorem dX10_year_76 : decode cX10_year 76 = .ok (.putfield 164, 3) := by decide +kernel
theorem dX10_year_79 : decode cX10_year 79 = .ok (.aload_n 0, 1) := by decide +kernel
theorem dX10_year_80 : decode cX10_year 80 = .ok (.getfield 38, 3) := by decide +kernel
theorem dX10_year_83 : decode cX10_year 83 = .ok (.getfield 164, 3) := by decide +kernel
theorem dX10_year_86 : decode cX10_year 86 = .ok (.ireturn, 1) := by decide +kernel
set_option maxRecDepth 20000 in
theorem ggX10_heard_X10_isWithin : GoodIn wsX10_heard wsX10_isWithin := goodIn_r _ [5] (by decide +kernel) (by decide +kernel)
set_option maxRecDepth 20000 in
theorem gX10_heard_X10_isWithin : GoodIn wsX10_heard (va_wsS RX10 139 yX10_isWithin wsX10_isWithin) := goodIn_app (goodIn_of _ (by decide +kernel)) ggX10_heard_X10_isWithin
set_option maxRecDepth 20000 in
theorem ggX10_heard_X10_isNote : GoodIn wsX10_heard wsX10_isNote := goodIn_r _ [8, 2, 3, 4, 5] (by decide +kernel) (by decide +kernel)
set_option maxRecDepth 20000 in
theorem gX10_heard_X10_isNote : GoodIn wsX10_heard (va_wsS RX10 150 yX10_isNote wsX10_isNote) := goodIn_app (goodIn_of _ (by decide +kernel)) ggX10_heard_X10_isNote
theorem dX10_heard_0 : decode cX10_heard 0 = .ok (.iload_n 1, 1) := by decide +kernel
theorem dX10_heard_1 : decode cX10_heard 1 = .ok (.iconst 0, 1) := by decide +kernel
theorem dX10_heard_2 : decode cX10_heard 2 = .ok (.bipush 99, 2) := by decide +kernel
theorem dX10_heard_4 : decode cX10_heard 4 = .ok (.invokestatic 139, 3) := by decide +kernel
theorem dX10_heard_7 : decode cX10_heard 7 = .ok (.ifCond .eq 10, 3) := by decide +kernel
theorem dX10_heard_10 : decode cX10_heard 10 = .ok (.iload_n 2, 1) := by decide +kernel
theorem dX10_heard_11 : decode cX10_heard 11 = .ok (.invokestatic 150, 3) := by decide +kernel
theorem dX10_heard_14 : decode cX10_heard 14 = .ok (.ifCond .ne 5, 3) := by decide +kernel
theorem dX10_heard_17 : decode cX10_heard 17 = .ok (.iconst (-1), 1) := by decide +kernel
theorem dX10_heard_18 : decode cX10_heard 18 = .ok (.ireturn, 1) := by decide +kernel
theorem dX10_heard_19 : decode cX10_heard 19 = .ok (.aload_n 0, 1) := by decide +kernel
theorem dX10_heard_20 : decode cX10_heard 20 = .ok (.getfield 38, 3) := by decide +kernel
theorem dX10_heard_23 : decode cX10_heard 23 = .ok (.getfield 174, 3) := by decide +kernel
theorem dX10_heard_26 : decode cX10_heard 26 = .ok (.ifCond .le 26, 3) := by decide +kernel
theorem dX10_heard_29 : decode cX10_heard 29 = .ok (.iload_n 1, 1) := by decide +kernel
theorem dX10_heard_30 : decode cX10_heard 30 = .ok (.aload_n 0, 1) := by decide +kernel
theorem dX10_heard_31 : decode cX10_heard 31 = .ok (.getfield 38, 3) := by decide +kernel
theorem dX10_heard_34 : decode cX10_heard 34 = .ok (.getfield 177, 3) := by decide +kernel
theorem dX10_heard_37 : decode cX10_heard 37 = .ok (.aload_n 0, 1) := by decide +kernel
theorem dX10_heard_38 : decode cX10_heard 38 = .ok (.getfield 38, 3) := by decide +kernel
theorem dX10_heard_41 : decode cX10_heard 41 = .ok (.getfield 174, 3) := by decide +kernel
theorem dX10_heard_44 : decode cX10_heard 44 = .ok (.iconst 1, 1) := by decide +kernel
theorem dX10_heard_45 : decode cX10_heard 45 = .ok (.isub, 1) := by decide +kernel
theorem dX10_heard_46 : decode cX10_heard 46 = .ok (.iaload, 1) := by decide +kernel
theorem dX10_heard_47 : decode cX10_heard 47 = .ok (.if_icmp .ge 5, 3) := by decide +kernel
theorem dX10_heard_50 : decode cX10_heard 50 = .ok (.iconst (-1), 1) := by decide +kernel
theorem dX10_heard_51 : decode cX10_heard 51 = .ok (.ireturn, 1) := by decide +kernel
theorem dX10_heard_52 : decode cX10_heard 52 = .ok (.aload_n 0, 1) := by decide +kernel
theorem dX10_heard_53 : decode cX10_heard 53 = .ok (.getfield 38, 3) := by decide +kernel
theorem dX10_heard_56 : decode cX10_heard 56 = .ok (.getfield 174, 3) := by decide +kernel
theorem dX10_heard_59 : decode cX10_heard 59 = .ok (.bipush 6, 2) := by decide +kernel
theorem dX10_heard_61 : decode cX10_heard 61 = .ok (.if_icmp .lt 6, 3) := by decide +kernel
theorem dX10_heard_64 : decode cX10_heard 64 = .ok (.bipush (-3), 2) := by decide +kernel
theorem dX10_heard_66 : decode cX10_heard 66 = .ok (.ireturn, 1) := by decide +kernel
theorem dX10_heard_67 : decode cX10_heard 67 = .ok (.aload_n 0, 1) := by decide +kernel
theorem dX10_heard_68 : decode cX10_heard 68 = .ok (.getfield 38, 3) := by decide +kernel
theorem dX10_heard_71 : decode cX10_heard 71 = .ok (.getfield 177, 3) := by decide +kernel
theorem dX10_heard_74 : decode cX10_heard 74 = .ok (.aload_n 0, 1) := by decide +kernel
theorem dX10_heard_75 : decode cX10_heard 75 = .ok (.getfield 38, 3) := by decide +kernel
theorem dX10_heard_78 : decode cX10_heard 78 = .ok (.getfield 174, 3) := by decide +kernel
theorem dX10_heard_81 : decode cX10_heard 81 = .ok (.iload_n 1, 1) := by decide +kernel
theorem dX10_heard_82 : decode cX10_heard 82 = .ok (.iastore, 1) := by decide +kernel
theorem dX10_heard_83 : decode cX10_heard 83 = .ok (.aload_n 0, 1) := by decide +kernel
theorem dX10_heard_84 : decode cX10_heard 84 = .ok (.getfield 38, 3) := by decide +kernel
theorem dX10_heard_87 : decode cX10_heard 87 = .ok (.getfield 180, 3) := by decide +kernel
theorem dX10_heard_90 : decode cX10_heard 90 = .ok (.aload_n 0, 1) := by decide +kernel
theorem dX10_heard_91 : decode cX10_heard 91 = .ok (.getfield 38, 3) := by decide +kernel
theorem dX10_heard_94 : decode cX10_heard 94 = .ok (.getfield 174, 3) := by decide +kernel
theorem dX10_heard_97 : decode cX10_heard 97 = .ok (.iload_n 2, 1) := by decide +kernel
theorem dX10_heard_98 : decode cX10_heard 98 = .ok (.iastore, 1) := by decide +kernel
theorem dX10_heard_99 : decode cX10_heard 99 = .ok (.aload_n 0, 1) := by decide +kernel
theorem dX10_heard_100 : decode cX10_heard 100 = .ok (.getfield 38, 3) := by decide +kernel
theorem dX10_heard_103 : decode cX10_heard 103 = .ok (.dup, 1) := by decide +kernel
theorem dX10_heard_104 : decode cX10_heard 104 = .ok (.getfield 174, 3) := by decide +kernel
theorem dX10_heard_107 : decode cX10_heard 107 = .ok (.iconst 1, 1) := by decide +kernel
theorem dX10_heard_108 : decode cX10_heard 108 = .ok (.iadd, 1) := by decide +kernel
theorem dX10_heard_109 : decode cX10_heard 109 = .ok (.putfield 174, 3) := by decide +kernel
theorem dX10_heard_112 : decode cX10_heard 112 = .ok (.aload_n 0, 1) := by decide +kernel
theorem dX10_heard_113 : decode cX10_heard 113 = .ok (.getfield 38, 3) := by decide +kernel
theorem dX10_heard_116 : decode cX10_heard 116 = .ok (.getfield 174, 3) := by decide +kernel
theorem dX10_heard_119 : decode cX10_heard 119 = .ok (.ireturn, 1) := by decide +kernel
theorem dX10_forget_0 : decode cX10_forget 0 = .ok (.aload_n 0, 1) := by decide +kernel
theorem dX10_forget_1 : decode cX10_forget 1 = .ok (.getfield 38, 3) := by decide +kernel
theorem dX10_forget_4 : decode cX10_forget 4 = .ok (.getfield 174, 3) := by decide +kernel
theorem dX10_forget_7 : decode cX10_forget 7 = .ok (.istore_n 1, 1) := by decide +kernel
theorem dX10_forget_8 : decode cX10_forget 8 = .ok (.aload_n 0, 1) := by decide +kernel
theorem dX10_forget_9 : decode cX10_forget 9 = .ok (.getfield 38, 3) := by decide +kernel
theorem dX10_forget_12 : decode cX10_forget 12 = .ok (.iconst 0, 1) := by decide +kernel
theorem dX10_forget_13 : decode cX10_forget 13 = .ok (.putfield 174, 3) := by decide +kernel
theorem dX10_forget_16 : decode cX10_forget 16 = .ok (.iload_n 1, 1) := by decide +kernel
theorem dX10_forget_17 : decode cX10_forget 17 = .ok (.ireturn, 1) := by decide +kernel
set_option maxRecDepth 20000 in
theorem ggX10_tracks_X3_countTracks : GoodIn wsX10_tracks wsX3_countTracks := goodIn_r _ [5, 6, 7, 8, 9, 10, 11, 12, 13, 14, 15, 16, 17, 18, 19, 20, 21, 22, 23, 24, 25, 26, 27, 28, 3, 29, 30, 31, 32, 33, 34, 35, 36, 37, 38, 39, 40, 41, 42, 43, 44, 58, 59, 60, 61, 62, 63, 64, 65, 66, 67, 68, 69, 70, 71, 72, 73, 74, 75, 76, 77, 78, 79, 80, 81, 82, 83] (by decide +kernel) (by decide +kernel)
set_option maxRecDepth 20000 in
theorem gX10_tracks_X3_countTracks_n183 : GoodIn wsX10_tracks (wsX3_countTracks) := ggX10_tracks_X3_countTracks
theorem dX10_tracks_0 : decode cX10_tracks 0 = .ok (.aload_n 0, 1) := by decide +kernel
theorem dX10_tracks_1 : decode cX10_tracks 1 = .ok (.getfield 64, 3) := by decide +kernel
theorem dX10_tracks_4 : decode cX10_tracks 4 = .ok (.invokevirtual 183, 3) := by decide +kernel
theorem dX10_tracks_7 : decode cX10_tracks 7 = .ok (.ireturn, 1) := by decide +kernel
set_option maxRecDepth 20000 in
theorem ggX10_where_X10_isWithin : GoodIn wsX10_where wsX10_isWithin := goodIn_r _ [6] (by decide +kernel) (by decide +kernel)
set_option maxRecDepth 20000 in
theorem gX10_where_X10_isWithin : GoodIn wsX10_where (va_wsS RX10 139 yX10_isWithin wsX10_isWithin) := goodIn_app (goodIn_of _ (by decide +kernel)) ggX10_where_X10_isWithin
set_option maxRecDepth 20000 in
theorem ggX10_where_X3_levelsBy : GoodIn wsX10_where wsX3_levelsBy := goodIn_r _ [10, 11, 12, 13, 14, 15, 16, 17, 18, 19, 20, 21, 22, 23, 24, 25, 26, 27, 5, 28, 29, 30, 31, 8, 32, 33, 34, 35, 36, 37, 38, 62, 63, 64, 65, 66, 52, 53, 54, 55, 56, 57, 58, 59, 60, 61, 67, 68, 69, 70, 71, 72, 73, 74, 75, 76, 77] (by decide +kernel) (by decide +kernel)
set_option maxRecDepth 20000 in
theorem gX10_where_X3_levelsBy_n186 : GoodIn wsX10_where (wsX3_levelsBy) := ggX10_where_X3_levelsBy
theorem dX10_where_0 : decode cX10_where 0 = .ok (.iload_n 1, 1) := by decide +kernel
theorem dX10_where_1 : decode cX10_where 1 = .ok (.iconst 0, 1) := by decide +kernel
theorem dX10_where_2 : decode cX10_where 2 = .ok (.aload_n 0, 1) := by decide +kernel
theorem dX10_where_3 : decode cX10_where 3 = .ok (.getfield 38, 3) := by decide +kernel
theorem dX10_where_6 : decode cX10_where 6 = .ok (.getfield 174, 3) := by decide +kernel
theorem dX10_where_9 : decode cX10_where 9 = .ok (.iconst 1, 1) := by decide +kernel
theorem dX10_where_10 : decode cX10_where 10 = .ok (.isub, 1) := by decide +kernel
theorem dX10_where_11 : decode cX10_where 11 = .ok (.invokestatic 139, 3) := by decide +kernel
theorem dX10_where_14 : decode cX10_where 14 = .ok (.ifCond .eq 14, 3) := by decide +kernel
theorem dX10_where_17 : decode cX10_where 17 = .ok (.aload_n 0, 1) := by decide +kernel
theorem dX10_where_18 : decode cX10_where 18 = .ok (.getfield 64, 3) := by decide +kernel
theorem dX10_where_21 : decode cX10_where 21 = .ok (.iload_n 1, 1) := by decide +kernel
theorem dX10_where_22 : decode cX10_where 22 = .ok (.invokevirtual 186, 3) := by decide +kernel
theorem dX10_where_25 : decode cX10_where 25 = .ok (.goto 4, 3) := by decide +kernel
theorem dX10_where_28 : decode cX10_where 28 = .ok (.iconst (-1), 1) := by decide +kernel
theorem dX10_where_29 : decode cX10_where 29 = .ok (.ireturn, 1) := by decide +kernel
set_option maxRecDepth 20000 in
theorem ggX10_men_X4_fewest : GoodIn wsX10_men wsX4_fewest := goodIn_r _ [5, 6, 7, 8, 9, 10, 11, 12, 13, 14, 15, 16, 17, 18, 19, 20, 21, 22, 23, 24, 25, 26, 27, 28, 29, 30, 31, 32, 33, 34, 35, 36, 37, 38, 3, 39, 40, 41, 42, 43, 44, 45, 46, 47, 48, 49, 50, 51, 52, 53, 54, 55, 56, 57, 58, 72, 73, 74, 75, 76, 77, 78, 79, 80, 81, 82, 83, 84, 85, 86, 87, 88, 89, 90, 91, 92, 93, 94, 95, 96, 97, 98, 99, 100, 101] (by decide +kernel) (by decide +kernel)
set_option maxRecDepth 20000 in
theorem gX10_men_X4_fewest_n189 : GoodIn wsX10_men (wsX4_fewest) := ggX10_men_X4_fewest
theorem dX10_men_0 : decode cX10_men 0 = .ok (.aload_n 0, 1) := by decide +kernel
theorem dX10_men_1 : decode cX10_men 1 = .ok (.getfield 71, 3) := by decide +kernel
theorem dX10_men_4 : decode cX10_men 4 = .ok (.invokevirtual 189, 3) := by decide +kernel
theorem dX10_men_7 : decode cX10_men 7 = .ok (.ireturn, 1) := by decide +kernel
set_option maxRecDepth 20000 in
theorem ggX10_keeps_X10_isWithin : GoodIn wsX10_keeps wsX10_isWithin := goodIn_r _ [6] (by decide +kernel) (by decide +kernel)
set_option maxRecDepth 20000 in
theorem gX10_keeps_X10_isWithin : GoodIn wsX10_keeps (va_wsS RX10 139 yX10_isWithin wsX10_isWithin) := goodIn_app (goodIn_of _ (by decide +kernel)) ggX10_keeps_X10_isWithin
set_option maxRecDepth 20000 in
theorem ggX10_keeps_X9_largestSet : GoodIn wsX10_keeps wsX9_largestSet := goodIn_r _ [10, 11, 12, 13, 14, 8, 15, 16, 17, 18, 19, 20, 21, 22, 23, 24, 25, 26, 27, 28, 29, 30, 5, 31, 32, 33, 34, 35, 36, 37, 38, 39, 40, 41, 42, 66, 67, 68, 57, 58, 59, 60, 61, 62, 63, 64, 65, 69, 70, 71, 72, 73, 74, 75, 76, 77, 78] (by decide +kernel) (by decide +kernel)
set_option maxRecDepth 20000 in
theorem gX10_keeps_X9_largestSet_n192 : GoodIn wsX10_keeps (wsX9_largestSet) := ggX10_keeps_X9_largestSet
set_option maxRecDepth 20000 in
theorem ggX10_keeps_J6_bitCount_0f7a4 : GoodIn wsX10_keeps wsJ6_bitCount_0f7a4 := goodIn_r _ [35, 36, 37, 38] (by decide +kernel) (by decide +kernel)
set_option maxRecDepth 20000 in
theorem gX10_keeps_J6_bitCount_0f7a4 : GoodIn wsX10_keeps (va_wsS RX10 195 yJ6_bitCount_0f7a4 wsJ6_bitCount_0f7a4) := goodIn_app (goodIn_of _ (by decide +kernel)) ggX10_keeps_J6_bitCount_0f7a4
theorem dX10_keeps_0 : decode cX10_keeps 0 = .ok (.iload_n 1, 1) := by decide +kernel
theorem dX10_keeps_1 : decode cX10_keeps 1 = .ok (.iconst 0, 1) := by decide +kernel
theorem dX10_keeps_2 : decode cX10_keeps 2 = .ok (.iconst 1, 1) := by decide +kernel
theorem dX10_keeps_3 : decode cX10_keeps 3 = .ok (.invokestatic 139, 3) := by decide +kernel
theorem dX10_keeps_6 : decode cX10_keeps 6 = .ok (.ifCond .ne 5, 3) := by decide +kernel
theorem dX10_keeps_9 : decode cX10_keeps 9 = .ok (.iconst (-1), 1) := by decide +kernel
theorem dX10_keeps_10 : decode cX10_keeps 10 = .ok (.ireturn, 1) := by decide +kernel
theorem dX10_keeps_11 : decode cX10_keeps 11 = .ok (.aload_n 0, 1) := by decide +kernel
theorem dX10_keeps_12 : decode cX10_keeps 12 = .ok (.getfield 78, 3) := by decide +kernel
theorem dX10_keeps_15 : decode cX10_keeps 15 = .ok (.invokevirtual 192, 3) := by decide +kernel
theorem dX10_keeps_18 : decode cX10_keeps 18 = .ok (.istore_n 2, 1) := by decide +kernel
theorem dX10_keeps_19 : decode cX10_keeps 19 = .ok (.iload_n 1, 1) := by decide +kernel
theorem dX10_keeps_20 : decode cX10_keeps 20 = .ok (.ifCond .ne 18, 3) := by decide +kernel
theorem dX10_keeps_23 : decode cX10_keeps 23 = .ok (.aload_n 0, 1) := by decide +kernel
theorem dX10_keeps_24 : decode cX10_keeps 24 = .ok (.getfield 19, 3) := by decide +kernel
theorem dX10_keeps_27 : decode cX10_keeps 27 = .ok (.getfield 167, 3) := by decide +kernel
theorem dX10_keeps_30 : decode cX10_keeps 30 = .ok (.iload_n 2, 1) := by decide +kernel
theorem dX10_keeps_31 : decode cX10_keeps 31 = .ok (.invokestatic 195, 3) := by decide +kernel
theorem dX10_keeps_34 : decode cX10_keeps 34 = .ok (.isub, 1) := by decide +kernel
theorem dX10_keeps_35 : decode cX10_keeps 35 = .ok (.goto 4, 3) := by decide +kernel
theorem dX10_keeps_38 : decode cX10_keeps 38 = .ok (.iload_n 2, 1) := by decide +kernel
theorem dX10_keeps_39 : decode cX10_keeps 39 = .ok (.ireturn, 1) := by decide +kernel
set_option maxRecDepth 20000 in
theorem ggX10_meet_X10_isLevel : GoodIn wsX10_meet wsX10_isLevel := goodIn_r _ [6, 7, 8, 9, 5, 10, 32, 33, 34, 35, 36, 37, 38, 39, 40, 41, 42, 43, 44, 45, 46, 47, 48, 49, 50, 51, 52, 53] (by decide +kernel) (by decide +kernel)
set_option maxRecDepth 20000 in
theorem gX10_meet_X10_isLevel : GoodIn wsX10_meet (wsV RX10 114 RX10 yX10_isLevel wsX10_isLevel) := goodIn_app (goodIn_of _ (by decide +kernel)) ggX10_meet_X10_isLevel
set_option maxRecDepth 20000 in
theorem ggX10_meet_X9_yearsToMeet : GoodIn wsX10_meet wsX9_yearsToMeet := goodIn_r _ [14, 15, 16, 17, 5, 18, 19, 20, 21, 22, 23, 24, 25, 12, 26, 27, 28, 29, 30, 31, 54, 55, 56, 57, 58, 59, 60, 61, 62, 63, 64, 65, 66, 45, 46, 47, 48, 49, 50, 51, 52, 53] (by decide +kernel) (by decide +kernel)
set_option maxRecDepth 20000 in
theorem gX10_meet_X9_yearsToMeet_n200 : GoodIn wsX10_meet (wsX9_yearsToMeet) := ggX10_meet_X9_yearsToMeet
theorem dX10_meet_0 : decode cX10_meet 0 = .ok (.aload_n 0, 1) := by decide +kernel
theorem dX10_meet_1 : decode cX10_meet 1 = .ok (.iload_n 1, 1) := by decide +kernel
theorem dX10_meet_2 : decode cX10_meet 2 = .ok (.invokevirtual 114, 3) := by decide +kernel
theorem dX10_meet_5 : decode cX10_meet 5 = .ok (.ifCond .eq 16, 3) := by decide +kernel
theorem dX10_meet_8 : decode cX10_meet 8 = .ok (.aload_n 0, 1) := by decide +kernel
theorem dX10_meet_9 : decode cX10_meet 9 = .ok (.iload_n 2, 1) := by decide +kernel
theorem dX10_meet_10 : decode cX10_meet 10 = .ok (.invokevirtual 114, 3) := by decide +kernel
theorem dX10_meet_13 : decode cX10_meet 13 = .ok (.ifCond .eq 8, 3) := by decide +kernel
theorem dX10_meet_16 : decode cX10_meet 16 = .ok (.iload_n 1, 1) := by decide +kernel
theorem dX10_meet_17 : decode cX10_meet 17 = .ok (.iload_n 2, 1) := by decide +kernel
theorem dX10_meet_18 : decode cX10_meet 18 = .ok (.if_icmp .ne 5, 3) := by decide +kernel
theorem dX10_meet_21 : decode cX10_meet 21 = .ok (.iconst (-1), 1) := by decide +kernel
theorem dX10_meet_22 : decode cX10_meet 22 = .ok (.ireturn, 1) := by decide +kernel
theorem dX10_meet_23 : decode cX10_meet 23 = .ok (.aload_n 0, 1) := by decide +kernel
theorem dX10_meet_24 : decode cX10_meet 24 = .ok (.getfield 78, 3) := by decide +kernel
theorem dX10_meet_27 : decode cX10_meet 27 = .ok (.iload_n 1, 1) := by decide +kernel
theorem dX10_meet_28 : decode cX10_meet 28 = .ok (.iload_n 2, 1) := by decide +kernel
theorem dX10_meet_29 : decode cX10_meet 29 = .ok (.invokevirtual 200, 3) := by decide +kernel
theorem dX10_meet_32 : decode cX10_meet 32 = .ok (.ireturn, 1) := by decide +kernel
set_option maxRecDepth 20000 in
theorem ggX10_first_X9_earliestPair : GoodIn wsX10_first wsX9_earliestPair := goodIn_r _ [5, 6, 7, 8, 9, 3, 10, 11, 12, 13, 14, 15, 16, 17, 18, 19, 20, 21, 22, 23, 24, 25, 26, 27, 41, 42, 43, 44, 45, 46, 47, 48, 49, 50, 51, 52, 53, 54, 55, 56, 57, 58, 59, 60, 61, 62] (by decide +kernel) (by decide +kernel)
set_option maxRecDepth 20000 in
theorem gX10_first_X9_earliestPair_n204 : GoodIn wsX10_first (wsX9_earliestPair) := ggX10_first_X9_earliestPair
theorem dX10_first_0 : decode cX10_first 0 = .ok (.aload_n 0, 1) := by decide +kernel
theorem dX10_first_1 : decode cX10_first 1 = .ok (.getfield 78, 3) := by decide +kernel
theorem dX10_first_4 : decode cX10_first 4 = .ok (.invokevirtual 204, 3) := by decide +kernel
theorem dX10_first_7 : decode cX10_first 7 = .ok (.ireturn, 1) := by decide +kernel
set_option maxRecDepth 20000 in
theorem ggX10_sing_X10_isNote : GoodIn wsX10_sing wsX10_isNote := goodIn_r _ [5, 6, 7, 4, 8] (by decide +kernel) (by decide +kernel)
set_option maxRecDepth 20000 in
theorem gX10_sing_X10_isNote : GoodIn wsX10_sing (va_wsS RX10 150 yX10_isNote wsX10_isNote) := goodIn_app (goodIn_of _ (by decide +kernel)) ggX10_sing_X10_isNote
theorem dX10_sing_0 : decode cX10_sing 0 = .ok (.iload_n 1, 1) := by decide +kernel
theorem dX10_sing_1 : decode cX10_sing 1 = .ok (.invokestatic 150, 3) := by decide +kernel
theorem dX10_sing_4 : decode cX10_sing 4 = .ok (.ifCond .ne 5, 3) := by decide +kernel
theorem dX10_sing_7 : decode cX10_sing 7 = .ok (.iconst (-1), 1) := by decide +kernel
theorem dX10_sing_8 : decode cX10_sing 8 = .ok (.ireturn, 1) := by decide +kernel
theorem dX10_sing_9 : decode cX10_sing 9 = .ok (.aload_n 0, 1) := by decide +kernel
theorem dX10_sing_10 : decode cX10_sing 10 = .ok (.getfield 38, 3) := by decide +kernel
theorem dX10_sing_13 : decode cX10_sing 13 = .ok (.getfield 207, 3) := by decide +kernel
theorem dX10_sing_16 : decode cX10_sing 16 = .ok (.bipush 8, 2) := by decide +kernel
theorem dX10_sing_18 : decode cX10_sing 18 = .ok (.if_icmp .lt 6, 3) := by decide +kernel
theorem dX10_sing_21 : decode cX10_sing 21 = .ok (.bipush (-3), 2) := by decide +kernel
theorem dX10_sing_23 : decode cX10_sing 23 = .ok (.ireturn, 1) := by decide +kernel
theorem dX10_sing_24 : decode cX10_sing 24 = .ok (.aload_n 0, 1) := by decide +kernel
theorem dX10_sing_25 : decode cX10_sing 25 = .ok (.getfield 38, 3) := by decide +kernel
theorem dX10_sing_28 : decode cX10_sing 28 = .ok (.getfield 210, 3) := by decide +kernel
theorem dX10_sing_31 : decode cX10_sing 31 = .ok (.aload_n 0, 1) := by decide +kernel
theorem dX10_sing_32 : decode cX10_sing 32 = .ok (.getfield 38, 3) := by decide +kernel
theorem dX10_sing_35 : decode cX10_sing 35 = .ok (.getfield 207, 3) := by decide +kernel
theorem dX10_sing_38 : decode cX10_sing 38 = .ok (.iload_n 1, 1) := by decide +kernel
theorem dX10_sing_39 : decode cX10_sing 39 = .ok (.iastore, 1) := by decide +kernel
theorem dX10_sing_40 : decode cX10_sing 40 = .ok (.aload_n 0, 1) := by decide +kernel
theorem dX10_sing_41 : decode cX10_sing 41 = .ok (.getfield 38, 3) := by decide +kernel
theorem dX10_sing_44 : decode cX10_sing 44 = .ok (.dup, 1) := by decide +kernel
theorem dX10_sing_45 : decode cX10_sing 45 = .ok (.getfield 207, 3) := by decide +kernel
theorem dX10_sing_48 : decode cX10_sing 48 = .ok (.iconst 1, 1) := by decide +kernel
theorem dX10_sing_49 : decode cX10_sing 49 = .ok (.iadd, 1) := by decide +kernel
theorem dX10_sing_50 : decode cX10_sing 50 = .ok (.putfield 207, 3) := by decide +kernel
theorem dX10_sing_53 : decode cX10_sing 53 = .ok (.aload_n 0, 1) := by decide +kernel
theorem dX10_sing_54 : decode cX10_sing 54 = .ok (.getfield 38, 3) := by decide +kernel
theorem dX10_sing_57 : decode cX10_sing 57 = .ok (.getfield 207, 3) := by decide +kernel
theorem dX10_sing_60 : decode cX10_sing 60 = .ok (.ireturn, 1) := by decide +kernel
theorem dX10_hush_0 : decode cX10_hush 0 = .ok (.aload_n 0, 1) := by decide +kernel
theorem dX10_hush_1 : decode cX10_hush 1 = .ok (.getfield 38, 3) := by decide +kernel
theorem dX10_hush_4 : decode cX10_hush 4 = .ok (.getfield 207, 3) := by decide +kernel
theorem dX10_hush_7 : decode cX10_hush 7 = .ok (.istore_n 1, 1) := by decide +kernel
theorem dX10_hush_8 : decode cX10_hush 8 = .ok (.aload_n 0, 1) := by decide +kernel
theorem dX10_hush_9 : decode cX10_hush 9 = .ok (.getfield 38, 3) := by decide +kernel
theorem dX10_hush_12 : decode cX10_hush 12 = .ok (.iconst 0, 1) := by decide +kernel
theorem dX10_hush_13 : decode cX10_hush 13 = .ok (.putfield 207, 3) := by decide +kernel
theorem dX10_hush_16 : decode cX10_hush 16 = .ok (.iload_n 1, 1) := by decide +kernel
theorem dX10_hush_17 : decode cX10_hush 17 = .ok (.ireturn, 1) := by decide +kernel
set_option maxRecDepth 20000 in
theorem ggX10_climbing_X0_leastSteps : GoodIn wsX10_climbing wsX0_leastSteps := goodIn_r _ [5, 6, 7, 8, 9, 3, 10, 11, 12, 13, 14, 15, 16, 17, 18, 19, 20, 21, 22, 23, 24, 25, 26, 27, 28, 29, 30, 31, 32, 33, 34, 35, 36, 37, 38, 39, 40, 41, 42, 43, 44, 45, 46, 47, 48, 49, 50, 51, 52, 53, 54, 55, 56, 57, 58, 59, 60, 61, 62, 63, 64, 65, 66, 80, 81, 82, 83, 84, 85, 86, 87, 88, 89, 90, 91, 92, 93, 94, 95, 96, 97, 98, 99, 100, 101, 102, 103, 104, 105] (by decide +kernel) (by decide +kernel)
set_option maxRecDepth 20000 in
theorem gX10_climbing_X0_leastSteps_n213 : GoodIn wsX10_climbing (wsX0_leastSteps) := ggX10_climbing_X0_leastSteps
theorem dX10_climbing_0 : decode cX10_climbing 0 = .ok (.aload_n 0, 1) := by decide +kernel
theorem dX10_climbing_1 : decode cX10_climbing 1 = .ok (.getfield 85, 3) := by decide +kernel
theorem dX10_climbing_4 : decode cX10_climbing 4 = .ok (.invokevirtual 213, 3) := by decide +kernel
theorem dX10_climbing_7 : decode cX10_climbing 7 = .ok (.ireturn, 1) := by decide +kernel
set_option maxRecDepth 20000 in
theorem ggX10_by_X10_isWithin : GoodIn wsX10_by wsX10_isWithin := goodIn_r _ [6] (by decide +kernel) (by decide +kernel)
set_option maxRecDepth 20000 in
theorem gX10_by_X10_isWithin : GoodIn wsX10_by (va_wsS RX10 139 yX10_isWithin wsX10_isWithin) := goodIn_app (goodIn_of _ (by decide +kernel)) ggX10_by_X10_isWithin
set_option maxRecDepth 20000 in
theorem ggX10_by_X0_moveFor : GoodIn wsX10_by wsX0_moveFor := goodIn_r _ [10, 11, 12, 13, 8, 14, 15, 16, 17, 18, 19, 20, 21, 22, 23, 24, 25, 26, 27, 28, 29, 30, 31, 32, 33, 34, 35, 36, 37, 5, 38, 39, 40, 41, 42, 43, 44, 45, 46, 47, 48, 49, 50, 51, 52, 53, 54, 55, 56, 57, 58, 59, 60, 61, 62, 63, 64, 65, 66, 67, 68, 69, 70, 71, 72, 73, 74, 75, 76, 77, 78, 102, 103, 104, 105, 106, 92, 93, 94, 95, 96, 97, 98, 99, 100, 101, 107, 108, 109, 110, 111, 112, 113, 114, 115, 116, 117] (by decide +kernel) (by decide +kernel)
set_option maxRecDepth 20000 in
theorem gX10_by_X0_moveFor_n216 : GoodIn wsX10_by (wsX0_moveFor) := ggX10_by_X0_moveFor
theorem dX10_by_0 : decode cX10_by 0 = .ok (.iload_n 1, 1) := by decide +kernel
theorem dX10_by_1 : decode cX10_by 1 = .ok (.iconst 0, 1) := by decide +kernel
theorem dX10_by_2 : decode cX10_by 2 = .ok (.aload_n 0, 1) := by decide +kernel
theorem dX10_by_3 : decode cX10_by 3 = .ok (.getfield 38, 3) := by decide +kernel
theorem dX10_by_6 : decode cX10_by 6 = .ok (.getfield 207, 3) := by decide +kernel
theorem dX10_by_9 : decode cX10_by 9 = .ok (.iconst 1, 1) := by decide +kernel
theorem dX10_by_10 : decode cX10_by 10 = .ok (.isub, 1) := by decide +kernel
theorem dX10_by_11 : decode cX10_by 11 = .ok (.invokestatic 139, 3) := by decide +kernel
theorem dX10_by_14 : decode cX10_by 14 = .ok (.ifCond .eq 12, 3) := by decide +kernel
theorem dX10_by_17 : decode cX10_by 17 = .ok (.iload_n 2, 1) := by decide +kernel
theorem dX10_by_18 : decode cX10_by 18 = .ok (.iconst 0, 1) := by decide +kernel
theorem dX10_by_19 : decode cX10_by 19 = .ok (.iconst 1, 1) := by decide +kernel
theorem dX10_by_20 : decode cX10_by 20 = .ok (.invokestatic 139, 3) := by decide +kernel
theorem dX10_by_23 : decode cX10_by 23 = .ok (.ifCond .ne 5, 3) := by decide +kernel
theorem dX10_by_26 : decode cX10_by 26 = .ok (.iconst (-1), 1) := by decide +kernel
theorem dX10_by_27 : decode cX10_by 27 = .ok (.ireturn, 1) := by decide +kernel
theorem dX10_by_28 : decode cX10_by 28 = .ok (.aload_n 0, 1) := by decide +kernel
theorem dX10_by_29 : decode cX10_by 29 = .ok (.getfield 85, 3) := by decide +kernel
theorem dX10_by_32 : decode cX10_by 32 = .ok (.iload_n 1, 1) := by decide +kernel
theorem dX10_by_33 : decode cX10_by 33 = .ok (.invokevirtual 216, 3) := by decide +kernel
theorem dX10_by_36 : decode cX10_by 36 = .ok (.istore_n 3, 1) := by decide +kernel
theorem dX10_by_37 : decode cX10_by 37 = .ok (.iload_n 3, 1) := by decide +kernel
theorem dX10_by_38 : decode cX10_by 38 = .ok (.bipush (-9), 2) := by decide +kernel
theorem dX10_by_40 : decode cX10_by 40 = .ok (.if_icmp .ne 6, 3) := by decide +kernel
theorem dX10_by_43 : decode cX10_by 43 = .ok (.bipush (-9), 2) := by decide +kernel
theorem dX10_by_45 : decode cX10_by 45 = .ok (.ireturn, 1) := by decide +kernel
theorem dX10_by_46 : decode cX10_by 46 = .ok (.iload_n 2, 1) := by decide +kernel
theorem dX10_by_47 : decode cX10_by 47 = .ok (.ifCond .ne 10, 3) := by decide +kernel
theorem dX10_by_50 : decode cX10_by 50 = .ok (.iload_n 3, 1) := by decide +kernel
theorem dX10_by_51 : decode cX10_by 51 = .ok (.bipush 8, 2) := by decide +kernel
theorem dX10_by_53 : decode cX10_by 53 = .ok (.idiv, 1) := by decide +kernel
theorem dX10_by_54 : decode cX10_by 54 = .ok (.goto 7, 3) := by decide +kernel
theorem dX10_by_57 : decode cX10_by 57 = .ok (.iload_n 3, 1) := by decide +kernel
theorem dX10_by_58 : decode cX10_by 58 = .ok (.bipush 8, 2) := by decide +kernel
theorem dX10_by_60 : decode cX10_by 60 = .ok (.irem, 1) := by decide +kernel
theorem dX10_by_61 : decode cX10_by 61 = .ok (.ireturn, 1) := by decide +kernel
set_option maxRecDepth 20000 in
theorem ggX10_mark_X10_isLevel : GoodIn wsX10_mark wsX10_isLevel := goodIn_r _ [7, 8, 9, 10, 6, 11, 53, 54, 55, 56, 57, 58, 59, 60, 61, 62, 63, 64, 65, 66, 67, 68, 69, 70, 71, 72, 73, 74] (by decide +kernel) (by decide +kernel)
set_option maxRecDepth 20000 in
theorem gX10_mark_X10_isLevel : GoodIn wsX10_mark (wsV RX10 114 RX10 yX10_isLevel wsX10_isLevel) := goodIn_app (goodIn_of _ (by decide +kernel)) ggX10_mark_X10_isLevel
set_option maxRecDepth 20000 in
theorem ggX10_mark_X1_markAs : GoodIn wsX10_mark wsX1_markAs := goodIn_r _ [15, 16, 17, 18, 19, 13, 20, 21, 22, 23, 24, 25, 26, 27, 28, 29, 30, 31, 32, 33, 34, 35, 36, 37, 38, 39, 40, 41, 42, 43, 44, 45, 46, 47, 48, 49, 50, 51, 52, 75, 76, 77, 78, 79, 80, 81, 82, 83, 84, 85, 86, 87, 66, 67, 68, 69, 70, 71, 72, 73, 74] (by decide +kernel) (by decide +kernel)
set_option maxRecDepth 20000 in
theorem gX10_mark_X1_markAs_n219 : GoodIn wsX10_mark (wsX1_markAs) := ggX10_mark_X1_markAs
theorem dX10_mark_0 : decode cX10_mark 0 = .ok (.aload_n 0, 1) := by decide +kernel
theorem dX10_mark_1 : decode cX10_mark 1 = .ok (.iload_n 2, 1) := by decide +kernel
theorem dX10_mark_2 : decode cX10_mark 2 = .ok (.invokevirtual 114, 3) := by decide +kernel
theorem dX10_mark_5 : decode cX10_mark 5 = .ok (.ifCond .eq 15, 3) := by decide +kernel
theorem dX10_mark_8 : decode cX10_mark 8 = .ok (.aload_n 0, 1) := by decide +kernel
theorem dX10_mark_9 : decode cX10_mark 9 = .ok (.getfield 92, 3) := by decide +kernel
theorem dX10_mark_12 : decode cX10_mark 12 = .ok (.iload_n 1, 1) := by decide +kernel
theorem dX10_mark_13 : decode cX10_mark 13 = .ok (.iload_n 2, 1) := by decide +kernel
theorem dX10_mark_14 : decode cX10_mark 14 = .ok (.invokevirtual 219, 3) := by decide +kernel
theorem dX10_mark_17 : decode cX10_mark 17 = .ok (.goto 5, 3) := by decide +kernel
theorem dX10_mark_20 : decode cX10_mark 20 = .ok (.ldc 118, 2) := by decide +kernel
theorem dX10_mark_22 : decode cX10_mark 22 = .ok (.ireturn, 1) := by decide +kernel
set_option maxRecDepth 20000 in
theorem ggX10_keep_X10_isWithin : GoodIn wsX10_keep wsX10_isWithin := goodIn_r _ [7] (by decide +kernel) (by decide +kernel)
set_option maxRecDepth 20000 in
theorem gX10_keep_X10_isWithin : GoodIn wsX10_keep (va_wsS RX10 139 yX10_isWithin wsX10_isWithin) := goodIn_app (goodIn_of _ (by decide +kernel)) ggX10_keep_X10_isWithin
set_option maxRecDepth 20000 in
theorem ggX10_keep_X2_copyFrom : GoodIn wsX10_keep wsX2_copyFrom := goodIn_r _ [11, 12, 13, 14, 15, 16, 17, 18, 19, 20, 21, 22, 23, 24, 25, 39, 40, 41, 42, 43, 44, 45, 46, 47, 48] (by decide +kernel) (by decide +kernel)
set_option maxRecDepth 20000 in
theorem gX10_keep_X2_copyFrom_n222 : GoodIn wsX10_keep (wsX2_copyFrom) := ggX10_keep_X2_copyFrom
theorem dX10_keep_0 : decode cX10_keep 0 = .ok (.iload_n 1, 1) := by decide +kernel
theorem dX10_keep_1 : decode cX10_keep 1 = .ok (.iconst 0, 1) := by decide +kernel
theorem dX10_keep_2 : decode cX10_keep 2 = .ok (.iconst 1, 1) := by decide +kernel
theorem dX10_keep_3 : decode cX10_keep 3 = .ok (.invokestatic 139, 3) := by decide +kernel
theorem dX10_keep_6 : decode cX10_keep 6 = .ok (.ifCond .ne 5, 3) := by decide +kernel
theorem dX10_keep_9 : decode cX10_keep 9 = .ok (.iconst (-1), 1) := by decide +kernel
theorem dX10_keep_10 : decode cX10_keep 10 = .ok (.ireturn, 1) := by decide +kernel
theorem dX10_keep_11 : decode cX10_keep 11 = .ok (.aload_n 0, 1) := by decide +kernel
theorem dX10_keep_12 : decode cX10_keep 12 = .ok (.getfield 42, 3) := by decide +kernel
theorem dX10_keep_15 : decode cX10_keep 15 = .ok (.iload_n 1, 1) := by decide +kernel
theorem dX10_keep_16 : decode cX10_keep 16 = .ok (.aaload, 1) := by decide +kernel
theorem dX10_keep_17 : decode cX10_keep 17 = .ok (.aload_n 0, 1) := by decide +kernel
theorem dX10_keep_18 : decode cX10_keep 18 = .ok (.getfield 38, 3) := by decide +kernel
theorem dX10_keep_21 : decode cX10_keep 21 = .ok (.invokevirtual 222, 3) := by decide +kernel
theorem dX10_keep_24 : decode cX10_keep 24 = .ok (.aload_n 0, 1) := by decide +kernel
theorem dX10_keep_25 : decode cX10_keep 25 = .ok (.getfield 46, 3) := by decide +kernel
theorem dX10_keep_28 : decode cX10_keep 28 = .ok (.iload_n 1, 1) := by decide +kernel
theorem dX10_keep_29 : decode cX10_keep 29 = .ok (.iconst 1, 1) := by decide +kernel
theorem dX10_keep_30 : decode cX10_keep 30 = .ok (.bastore, 1) := by decide +kernel
theorem dX10_keep_31 : decode cX10_keep 31 = .ok (.aload_n 0, 1) := by decide +kernel
theorem dX10_keep_32 : decode cX10_keep 32 = .ok (.getfield 38, 3) := by decide +kernel
theorem dX10_keep_35 : decode cX10_keep 35 = .ok (.getfield 164, 3) := by decide +kernel
theorem dX10_keep_38 : decode cX10_keep 38 = .ok (.ireturn, 1) := by decide +kernel
set_option maxRecDepth 20000 in
theorem ggX10_back_X10_isWithin : GoodIn wsX10_back wsX10_isWithin := goodIn_r _ [7] (by decide +kernel) (by decide +kernel)
set_option maxRecDepth 20000 in
theorem gX10_back_X10_isWithin : GoodIn wsX10_back (va_wsS RX10 139 yX10_isWithin wsX10_isWithin) := goodIn_app (goodIn_of _ (by decide +kernel)) ggX10_back_X10_isWithin
set_option maxRecDepth 20000 in
theorem ggX10_back_X2_copyFrom : GoodIn wsX10_back wsX2_copyFrom := goodIn_r _ [11, 12, 13, 14, 15, 16, 17, 18, 19, 20, 21, 22, 23, 24, 25, 39, 40, 41, 42, 43, 44, 45, 46, 47, 48] (by decide +kernel) (by decide +kernel)
set_option maxRecDepth 20000 in
theorem gX10_back_X2_copyFrom_n222 : GoodIn wsX10_back (wsX2_copyFrom) := ggX10_back_X2_copyFrom
theorem dX10_back_0 : decode cX10_back 0 = .ok (.iload_n 1, 1) := by decide +kernel
theorem dX10_back_1 : decode cX10_back 1 = .ok (.iconst 0, 1) := by decide +kernel
theorem dX10_back_2 : decode cX10_back 2 = .ok (.iconst 1, 1) := by decide +kernel
theorem dX10_back_3 : decode cX10_back 3 = .ok (.invokestatic 139, 3) := by decide +kernel
theorem dX10_back_6 : decode cX10_back 6 = .ok (.ifCond .ne 5, 3) := by decide +kernel
theorem dX10_back_9 : decode cX10_back 9 = .ok (.iconst (-1), 1) := by decide +kernel
theorem dX10_back_10 : decode cX10_back 10 = .ok (.ireturn, 1) := by decide +kernel
theorem dX10_back_11 : decode cX10_back 11 = .ok (.aload_n 0, 1) := by decide +kernel
theorem dX10_back_12 : decode cX10_back 12 = .ok (.getfield 46, 3) := by decide +kernel
theorem dX10_back_15 : decode cX10_back 15 = .ok (.iload_n 1, 1) := by decide +kernel
theorem dX10_back_16 : decode cX10_back 16 = .ok (.baload, 1) := by decide +kernel
theorem dX10_back_17 : decode cX10_back 17 = .ok (.ifCond .ne 6, 3) := by decide +kernel
theorem dX10_back_20 : decode cX10_back 20 = .ok (.bipush (-2), 2) := by decide +kernel
theorem dX10_back_22 : decode cX10_back 22 = .ok (.ireturn, 1) := by decide +kernel
theorem dX10_back_23 : decode cX10_back 23 = .ok (.aload_n 0, 1) := by decide +kernel
theorem dX10_back_24 : decode cX10_back 24 = .ok (.getfield 38, 3) := by decide +kernel
theorem dX10_back_27 : decode cX10_back 27 = .ok (.aload_n 0, 1) := by decide +kernel
theorem dX10_back_28 : decode cX10_back 28 = .ok (.getfield 42, 3) := by decide +kernel
theorem dX10_back_31 : decode cX10_back 31 = .ok (.iload_n 1, 1) := by decide +kernel
theorem dX10_back_32 : decode cX10_back 32 = .ok (.aaload, 1) := by decide +kernel
theorem dX10_back_33 : decode cX10_back 33 = .ok (.invokevirtual 222, 3) := by decide +kernel
theorem dX10_back_36 : decode cX10_back 36 = .ok (.aload_n 0, 1) := by decide +kernel
theorem dX10_back_37 : decode cX10_back 37 = .ok (.getfield 38, 3) := by decide +kernel
theorem dX10_back_40 : decode cX10_back 40 = .ok (.getfield 164, 3) := by decide +kernel
theorem dX10_back_43 : decode cX10_back 43 = .ok (.ireturn, 1) := by decide +kernel
theorem dX10_count_0 : decode cX10_count 0 = .ok (.iload_n 1, 1) := by decide +kernel
theorem dX10_count_1 : decode cX10_count 1 = .ok (.tableswitch 123 0 8 #[51, 59, 67, 75, 83, 91, 99, 107, 115], 51) := by decide +kernel
theorem dX10_count_52 : decode cX10_count 52 = .ok (.aload_n 0, 1) := by decide +kernel
theorem dX10_count_53 : decode cX10_count 53 = .ok (.getfield 19, 3) := by decide +kernel
theorem dX10_count_56 : decode cX10_count 56 = .ok (.getfield 167, 3) := by decide +kernel
theorem dX10_count_59 : decode cX10_count 59 = .ok (.ireturn, 1) := by decide +kernel
theorem dX10_count_60 : decode cX10_count 60 = .ok (.aload_n 0, 1) := by decide +kernel
theorem dX10_count_61 : decode cX10_count 61 = .ok (.getfield 19, 3) := by decide +kernel
theorem dX10_count_64 : decode cX10_count 64 = .ok (.getfield 225, 3) := by decide +kernel
theorem dX10_count_67 : decode cX10_count 67 = .ok (.ireturn, 1) := by decide +kernel
theorem dX10_count_68 : decode cX10_count 68 = .ok (.aload_n 0, 1) := by decide +kernel
theorem dX10_count_69 : decode cX10_count 69 = .ok (.getfield 19, 3) := by decide +kernel
theorem dX10_count_72 : decode cX10_count 72 = .ok (.getfield 228, 3) := by decide +kernel
theorem dX10_count_75 : decode cX10_count 75 = .ok (.ireturn, 1) := by decide +kernel
theorem dX10_count_76 : decode cX10_count 76 = .ok (.aload_n 0, 1) := by decide +kernel
theorem dX10_count_77 : decode cX10_count 77 = .ok (.getfield 38, 3) := by decide +kernel
theorem dX10_count_80 : decode cX10_count 80 = .ok (.getfield 143, 3) := by decide +kernel
theorem dX10_count_83 : decode cX10_count 83 = .ok (.ireturn, 1) := by decide +kernel
theorem dX10_count_84 : decode cX10_count 84 = .ok (.aload_n 0, 1) := by decide +kernel
theorem dX10_count_85 : decode cX10_count 85 = .ok (.getfield 19, 3) := by decide +kernel
theorem dX10_count_88 : decode cX10_count 88 = .ok (.getfield 231, 3) := by decide +kernel
theorem dX10_count_91 : decode cX10_count 91 = .ok (.ireturn, 1) := by decide +kernel
theorem dX10_count_92 : decode cX10_count 92 = .ok (.aload_n 0, 1) := by decide +kernel
theorem dX10_count_93 : decode cX10_count 93 = .ok (.getfield 38, 3) := by decide +kernel
theorem dX10_count_96 : decode cX10_count 96 = .ok (.getfield 174, 3) := by decide +kernel
theorem dX10_count_99 : decode cX10_count 99 = .ok (.ireturn, 1) := by decide +kernel
theorem dX10_count_100 : decode cX10_count 100 = .ok (.aload_n 0, 1) := by decide +kernel
theorem dX10_count_101 : decode cX10_count 101 = .ok (.getfield 38, 3) := by decide +kernel
theorem dX10_count_104 : decode cX10_count 104 = .ok (.getfield 207, 3) := by decide +kernel
theorem dX10_count_107 : decode cX10_count 107 = .ok (.ireturn, 1) := by decide +kernel
theorem dX10_count_108 : decode cX10_count 108 = .ok (.aload_n 0, 1) := by decide +kernel
theorem dX10_count_109 : decode cX10_count 109 = .ok (.getfield 38, 3) := by decide +kernel
theorem dX10_count_112 : decode cX10_count 112 = .ok (.getfield 164, 3) := by decide +kernel
theorem dX10_count_115 : decode cX10_count 115 = .ok (.ireturn, 1) := by decide +kernel
theorem dX10_count_116 : decode cX10_count 116 = .ok (.aload_n 0, 1) := by decide +kernel
theorem dX10_count_117 : decode cX10_count 117 = .ok (.getfield 10, 3) := by decide +kernel
theorem dX10_count_120 : decode cX10_count 120 = .ok (.getfield 234, 3) := by decide +kernel
theorem dX10_count_123 : decode cX10_count 123 = .ok (.ireturn, 1) := by decide +kernel
theorem dX10_count_124 : decode cX10_count 124 = .ok (.iconst (-1), 1) := by decide +kernel
theorem dX10_count_125 : decode cX10_count 125 = .ok (.ireturn, 1) := by decide +kernel
theorem dX10_trace_0 : decode cX10_trace 0 = .ok (.aload_n 0, 1) := by decide +kernel
theorem dX10_trace_1 : decode cX10_trace 1 = .ok (.getfield 92, 3) := by decide +kernel
theorem dX10_trace_4 : decode cX10_trace 4 = .ok (.getfield 237, 3) := by decide +kernel
theorem dX10_trace_7 : decode cX10_trace 7 = .ok (.lreturn, 1) := by decide +kernel
set_option maxRecDepth 20000 in
theorem ggX10_isLevel_X10_isWithin : GoodIn wsX10_isLevel wsX10_isWithin := goodIn_r _ [5] (by decide +kernel) (by decide +kernel)
set_option maxRecDepth 20000 in
theorem gX10_isLevel_X10_isWithin : GoodIn wsX10_isLevel (va_wsS RX10 139 yX10_isWithin wsX10_isWithin) := goodIn_app (goodIn_of _ (by decide +kernel)) ggX10_isLevel_X10_isWithin
theorem dX10_isLevel_0 : decode cX10_isLevel 0 = .ok (.iload_n 1, 1) := by decide +kernel
theorem dX10_isLevel_1 : decode cX10_isLevel 1 = .ok (.iconst 0, 1) := by decide +kernel
theorem dX10_isLevel_2 : decode cX10_isLevel 2 = .ok (.aload_n 0, 1) := by decide +kernel
theorem dX10_isLevel_3 : decode cX10_isLevel 3 = .ok (.getfield 19, 3) := by decide +kernel
theorem dX10_isLevel_6 : decode cX10_isLevel 6 = .ok (.getfield 167, 3) := by decide +kernel
theorem dX10_isLevel_9 : decode cX10_isLevel 9 = .ok (.iconst 1, 1) := by decide +kernel
theorem dX10_isLevel_10 : decode cX10_isLevel 10 = .ok (.isub, 1) := by decide +kernel
theorem dX10_isLevel_11 : decode cX10_isLevel 11 = .ok (.invokestatic 139, 3) := by decide +kernel
theorem dX10_isLevel_14 : decode cX10_isLevel 14 = .ok (.ireturn, 1) := by decide +kernel
set_option maxRecDepth 20000 in
theorem ggX10_isMan_X10_isWithin : GoodIn wsX10_isMan wsX10_isWithin := goodIn_r _ [5] (by decide +kernel) (by decide +kernel)
set_option maxRecDepth 20000 in
theorem gX10_isMan_X10_isWithin : GoodIn wsX10_isMan (va_wsS RX10 139 yX10_isWithin wsX10_isWithin) := goodIn_app (goodIn_of _ (by decide +kernel)) ggX10_isMan_X10_isWithin
theorem dX10_isMan_0 : decode cX10_isMan 0 = .ok (.iload_n 1, 1) := by decide +kernel
theorem dX10_isMan_1 : decode cX10_isMan 1 = .ok (.iconst 0, 1) := by decide +kernel
theorem dX10_isMan_2 : decode cX10_isMan 2 = .ok (.aload_n 0, 1) := by decide +kernel
theorem dX10_isMan_3 : decode cX10_isMan 3 = .ok (.getfield 19, 3) := by decide +kernel
theorem dX10_isMan_6 : decode cX10_isMan 6 = .ok (.getfield 225, 3) := by decide +kernel
theorem dX10_isMan_9 : decode cX10_isMan 9 = .ok (.iconst 1, 1) := by decide +kernel
theorem dX10_isMan_10 : decode cX10_isMan 10 = .ok (.isub, 1) := by decide +kernel
theorem dX10_isMan_11 : decode cX10_isMan 11 = .ok (.invokestatic 139, 3) := by decide +kernel
theorem dX10_isMan_14 : decode cX10_isMan 14 = .ok (.ireturn, 1) := by decide +kernel
theorem dX10_silentLevels_0 : decode cX10_silentLevels 0 = .ok (.iconst 0, 1) := by decide +kernel
theorem dX10_silentLevels_1 : decode cX10_silentLevels 1 = .ok (.aload_n 0, 1) := by decide +kernel
theorem dX10_silentLevels_2 : decode cX10_silentLevels 2 = .ok (.getfield 19, 3) := by decide +kernel
theorem dX10_silentLevels_5 : decode cX10_silentLevels 5 = .ok (.getfield 167, 3) := by decide +kernel
theorem dX10_silentLevels_8 : decode cX10_silentLevels 8 = .ok (.aload_n 0, 1) := by decide +kernel
theorem dX10_silentLevels_9 : decode cX10_silentLevels 9 = .ok (.getfield 38, 3) := by decide +kernel
theorem dX10_silentLevels_12 : decode cX10_silentLevels 12 = .ok (.getfield 158, 3) := by decide +kernel
theorem dX10_silentLevels_15 : decode cX10_silentLevels 15 = .ok (.isub, 1) := by decide +kernel
theorem dX10_silentLevels_16 : decode cX10_silentLevels 16 = .ok (.invokestatic 241, 3) := by decide +kernel
theorem dX10_silentLevels_19 : decode cX10_silentLevels 19 = .ok (.ireturn, 1) := by decide +kernel
set_option maxRecDepth 20000 in
theorem ggX10_isNote_X10_isWithin : GoodIn wsX10_isNote wsX10_isWithin := goodIn_r _ [4] (by decide +kernel) (by decide +kernel)
set_option maxRecDepth 20000 in
theorem gX10_isNote_X10_isWithin : GoodIn wsX10_isNote (va_wsS RX10 139 yX10_isWithin wsX10_isWithin) := goodIn_app (goodIn_of _ (by decide +kernel)) ggX10_isNote_X10_isWithin
theorem dX10_isNote_0 : decode cX10_isNote 0 = .ok (.iload_n 0, 1) := by decide +kernel
theorem dX10_isNote_1 : decode cX10_isNote 1 = .ok (.bipush (-99), 2) := by decide +kernel
theorem dX10_isNote_3 : decode cX10_isNote 3 = .ok (.bipush 99, 2) := by decide +kernel
theorem dX10_isNote_5 : decode cX10_isNote 5 = .ok (.invokestatic 139, 3) := by decide +kernel
theorem dX10_isNote_8 : decode cX10_isNote 8 = .ok (.ireturn, 1) := by decide +kernel
theorem dX10_isWithin_0 : decode cX10_isWithin 0 = .ok (.iload_n 0, 1) := by decide +kernel
theorem dX10_isWithin_1 : decode cX10_isWithin 1 = .ok (.iload_n 1, 1) := by decide +kernel
theorem dX10_isWithin_2 : decode cX10_isWithin 2 = .ok (.if_icmp .lt 12, 3) := by decide +kernel
theorem dX10_isWithin_5 : decode cX10_isWithin 5 = .ok (.iload_n 0, 1) := by decide +kernel
theorem dX10_isWithin_6 : decode cX10_isWithin 6 = .ok (.iload_n 2, 1) := by decide +kernel
theorem dX10_isWithin_7 : decode cX10_isWithin 7 = .ok (.if_icmp .gt 7, 3) := by decide +kernel
theorem dX10_isWithin_10 : decode cX10_isWithin 10 = .ok (.iconst 1, 1) := by decide +kernel
theorem dX10_isWithin_11 : decode cX10_isWithin 11 = .ok (.goto 4, 3) := by decide +kernel
theorem dX10_isWithin_14 : decode cX10_isWithin 14 = .ok (.iconst 0, 1) := by decide +kernel
theorem dX10_isWithin_15 : decode cX10_isWithin 15 = .ok (.ireturn, 1) := by decide +kernel
theorem dX10_worn_0 : decode cX10_worn 0 = .ok (.iconst 0, 1) := by decide +kernel
theorem dX10_worn_1 : decode cX10_worn 1 = .ok (.iload_n 0, 1) := by decide +kernel
theorem dX10_worn_2 : decode cX10_worn 2 = .ok (.iload_n 1, 1) := by decide +kernel
theorem dX10_worn_3 : decode cX10_worn 3 = .ok (.iload_n 2, 1) := by decide +kernel
theorem dX10_worn_4 : decode cX10_worn 4 = .ok (.imul, 1) := by decide +kernel
theorem dX10_worn_5 : decode cX10_worn 5 = .ok (.isub, 1) := by decide +kernel
theorem dX10_worn_6 : decode cX10_worn 6 = .ok (.invokestatic 241, 3) := by decide +kernel
theorem dX10_worn_9 : decode cX10_worn 9 = .ok (.ireturn, 1) := by decide +kernel
theorem dX10_soundAt_0 : decode cX10_soundAt 0 = .ok (.iload_n 0, 1) := by decide +kernel
theorem dX10_soundAt_1 : decode cX10_soundAt 1 = .ok (.iload_n 2, 1) := by decide +kernel
theorem dX10_soundAt_2 : decode cX10_soundAt 2 = .ok (.iload_n 1, 1) := by decide +kernel
theorem dX10_soundAt_3 : decode cX10_soundAt 3 = .ok (.iconst 1, 1) := by decide +kernel
theorem dX10_soundAt_4 : decode cX10_soundAt 4 = .ok (.iadd, 1) := by decide +kernel
theorem dX10_soundAt_5 : decode cX10_soundAt 5 = .ok (.imul, 1) := by decide +kernel
theorem dX10_soundAt_6 : decode cX10_soundAt 6 = .ok (.iconst 2, 1) := by decide +kernel
theorem dX10_soundAt_7 : decode cX10_soundAt 7 = .ok (.idiv, 1) := by decide +kernel
theorem dX10_soundAt_8 : decode cX10_soundAt 8 = .ok (.isub, 1) := by decide +kernel
theorem dX10_soundAt_9 : decode cX10_soundAt 9 = .ok (.ireturn, 1) := by decide +kernel
theorem dX10_spread_0 : decode cX10_spread 0 = .ok (.iload_n 0, 1) := by decide +kernel
theorem dX10_spread_1 : decode cX10_spread 1 = .ok (.istore_n 2, 1) := by decide +kernel
theorem dX10_spread_2 : decode cX10_spread 2 = .ok (.iload_n 1, 1) := by decide +kernel
theorem dX10_spread_3 : decode cX10_spread 3 = .ok (.bipush 7, 2) := by decide +kernel
theorem dX10_spread_5 : decode cX10_spread 5 = .ok (.invokestatic 244, 3) := by decide +kernel
theorem dX10_spread_8 : decode cX10_spread 8 = .ok (.istore_n 3, 1) := by decide +kernel
theorem dX10_spread_9 : decode cX10_spread 9 = .ok (.iconst 0, 1) := by decide +kernel
theorem dX10_spread_10 : decode cX10_spread 10 = .ok (.istore 4, 2) := by decide +kernel
theorem dX10_spread_12 : decode cX10_spread 12 = .ok (.iload 4, 2) := by decide +kernel
theorem dX10_spread_14 : decode cX10_spread 14 = .ok (.iload_n 3, 1) := by decide +kernel
theorem dX10_spread_15 : decode cX10_spread 15 = .ok (.if_icmp .ge 23, 3) := by decide +kernel
theorem dX10_spread_18 : decode cX10_spread 18 = .ok (.iload_n 2, 1) := by decide +kernel
theorem dX10_spread_19 : decode cX10_spread 19 = .ok (.iload_n 2, 1) := by decide +kernel
theorem dX10_spread_20 : decode cX10_spread 20 = .ok (.iconst 1, 1) := by decide +kernel
theorem dX10_spread_21 : decode cX10_spread 21 = .ok (.ishl, 1) := by decide +kernel
theorem dX10_spread_22 : decode cX10_spread 22 = .ok (.ior, 1) := by decide +kernel
theorem dX10_spread_23 : decode cX10_spread 23 = .ok (.iload_n 2, 1) := by decide +kernel
theorem dX10_spread_24 : decode cX10_spread 24 = .ok (.iconst 1, 1) := by decide +kernel
theorem dX10_spread_25 : decode cX10_spread 25 = .ok (.ishr, 1) := by decide +kernel
theorem dX10_spread_26 : decode cX10_spread 26 = .ok (.ior, 1) := by decide +kernel
theorem dX10_spread_27 : decode cX10_spread 27 = .ok (.sipush 255, 3) := by decide +kernel
theorem dX10_spread_30 : decode cX10_spread 30 = .ok (.iand, 1) := by decide +kernel
theorem dX10_spread_31 : decode cX10_spread 31 = .ok (.istore_n 2, 1) := by decide +kernel
theorem dX10_spread_32 : decode cX10_spread 32 = .ok (.iinc 4 1, 3) := by decide +kernel
theorem dX10_spread_35 : decode cX10_spread 35 = .ok (.goto (-23), 3) := by decide +kernel
theorem dX10_spread_38 : decode cX10_spread 38 = .ok (.iload_n 2, 1) := by decide +kernel
theorem dX10_spread_39 : decode cX10_spread 39 = .ok (.ireturn, 1) := by decide +kernel
theorem dX11_in_0 : decode cX11_in 0 = .ok (.lload_n 0, 1) := by decide +kernel
theorem dX11_in_1 : decode cX11_in 1 = .ok (.lload_n 2, 1) := by decide +kernel
theorem dX11_in_2 : decode cX11_in 2 = .ok (.lcmp, 1) := by decide +kernel
theorem dX11_in_3 : decode cX11_in 3 = .ok (.ifCond .lt 14, 3) := by decide +kernel
theorem dX11_in_6 : decode cX11_in 6 = .ok (.lload_n 0, 1) := by decide +kernel
theorem dX11_in_7 : decode cX11_in 7 = .ok (.lload 4, 2) := by decide +kernel
theorem dX11_in_9 : decode cX11_in 9 = .ok (.lcmp, 1) := by decide +kernel
theorem dX11_in_10 : decode cX11_in 10 = .ok (.ifCond .gt 7, 3) := by decide +kernel
theorem dX11_in_13 : decode cX11_in 13 = .ok (.iconst 1, 1) := by decide +kernel
theorem dX11_in_14 : decode cX11_in 14 = .ok (.goto 4, 3) := by decide +kernel
theorem dX11_in_17 : decode cX11_in 17 = .ok (.iconst 0, 1) := by decide +kernel
theorem dX11_in_18 : decode cX11_in 18 = .ok (.ireturn, 1) := by decide +kernel
theorem dX11_init_0 : decode cX11_init 0 = .ok (.aload_n 0, 1) := by decide +kernel
theorem dX11_init_1 : decode cX11_init 1 = .ok (.invokespecial 1, 3) := by decide +kernel
theorem dX11_init_4 : decode cX11_init 4 = .ok (.aload_n 0, 1) := by decide +kernel
theorem dX11_init_5 : decode cX11_init 5 = .ok (.sipush 200, 3) := by decide +kernel
theorem dX11_init_8 : decode cX11_init 8 = .ok (.newarray .int, 2) := by decide +kernel
theorem dX11_init_10 : decode cX11_init 10 = .ok (.putfield 7, 3) := by decide +kernel
theorem dX11_init_13 : decode cX11_init 13 = .ok (.aload_n 0, 1) := by decide +kernel
theorem dX11_init_14 : decode cX11_init 14 = .ok (.bipush 24, 2) := by decide +kernel
theorem dX11_init_16 : decode cX11_init 16 = .ok (.newarray .int, 2) := by decide +kernel
theorem dX11_init_18 : decode cX11_init 18 = .ok (.putfield 13, 3) := by decide +kernel
theorem dX11_init_21 : decode cX11_init 21 = .ok (.aload_n 0, 1) := by decide +kernel
theorem dX11_init_22 : decode cX11_init 22 = .ok (.iconst 3, 1) := by decide +kernel
theorem dX11_init_23 : decode cX11_init 23 = .ok (.newarray .int, 2) := by decide +kernel
theorem dX11_init_25 : decode cX11_init 25 = .ok (.putfield 16, 3) := by decide +kernel
theorem dX11_init_28 : decode cX11_init 28 = .ok (.aload_n 0, 1) := by decide +kernel
theorem dX11_init_29 : decode cX11_init 29 = .ok (.iconst 3, 1) := by decide +kernel
theorem dX11_init_30 : decode cX11_init 30 = .ok (.newarray .int, 2) := by decide +kernel
theorem dX11_init_32 : decode cX11_init 32 = .ok (.putfield 19, 3) := by decide +kernel
theorem dX11_init_35 : decode cX11_init 35 = .ok (.aload_n 0, 1) := by decide +kernel
theorem dX11_init_36 : decode cX11_init 36 = .ok (.bipush 8, 2) := by decide +kernel
theorem dX11_init_38 : decode cX11_init 38 = .ok (.newarray .int, 2) := by decide +kernel
theorem dX11_init_40 : decode cX11_init 40 = .ok (.putfield 22, 3) := by decide +kernel
theorem dX11_init_43 : decode cX11_init 43 = .ok (.aload_n 0, 1) := by decide +kernel
theorem dX11_init_44 : decode cX11_init 44 = .ok (.bipush 8, 2) := by decide +kernel
theorem dX11_init_46 : decode cX11_init 46 = .ok (.newarray .int, 2) := by decide +kernel
theorem dX11_init_48 : decode cX11_init 48 = .ok (.putfield 25, 3) := by decide +kernel
theorem dX11_init_51 : decode cX11_init 51 = .ok (.aload_n 0, 1) := by decide +kernel
theorem dX11_init_52 : decode cX11_init 52 = .ok (.bipush 8, 2) := by decide +kernel
theorem dX11_init_54 : decode cX11_init 54 = .ok (.newarray .int, 2) := by decide +kernel
theorem dX11_init_56 : decode cX11_init 56 = .ok (.putfield 28, 3) := by decide +kernel
theorem dX11_init_59 : decode cX11_init 59 = .ok (.aload_n 0, 1) := by decide +kernel
theorem dX11_init_60 : decode cX11_init 60 = .ok (.iconst 3, 1) := by decide +kernel
theorem dX11_init_61 : decode cX11_init 61 = .ok (.newarray .int, 2) := by decide +kernel
theorem dX11_init_63 : decode cX11_init 63 = .ok (.putfield 31, 3) := by decide +kernel
theorem dX11_init_66 : decode cX11_init 66 = .ok (.aload_n 0, 1) := by decide +kernel
theorem dX11_init_67 : decode cX11_init 67 = .ok (.iconst 3, 1) := by decide +kernel
theorem dX11_init_68 : decode cX11_init 68 = .ok (.newarray .int, 2) := by decide +kernel
theorem dX11_init_70 : decode cX11_init 70 = .ok (.putfield 34, 3) := by decide +kernel
theorem dX11_init_73 : decode cX11_init 73 = .ok (.aload_n 0, 1) := by decide +kernel
theorem dX11_init_74 : decode cX11_init 74 = .ok (.bipush 6, 2) := by decide +kernel
theorem dX11_init_76 : decode cX11_init 76 = .ok (.newarray .int, 2) := by decide +kernel
theorem dX11_init_78 : decode cX11_init 78 = .ok (.putfield 37, 3) := by decide +kernel
theorem dX11_init_81 : decode cX11_init 81 = .ok (.aload_n 0, 1) := by decide +kernel
theorem dX11_init_82 : decode cX11_init 82 = .ok (.bipush 6, 2) := by decide +kernel
theorem dX11_init_84 : decode cX11_init 84 = .ok (.newarray .int, 2) := by decide +kernel
theorem dX11_init_86 : decode cX11_init 86 = .ok (.putfield 40, 3) := by decide +kernel
theorem dX11_init_89 : decode cX11_init 89 = .ok (.aload_n 0, 1) := by decide +kernel
theorem dX11_init_90 : decode cX11_init 90 = .ok (.bipush 48, 2) := by decide +kernel
theorem dX11_init_92 : decode cX11_init 92 = .ok (.newarray .int, 2) := by decide +kernel
theorem dX11_init_94 : decode cX11_init 94 = .ok (.putfield 43, 3) := by decide +kernel
theorem dX11_init_97 : decode cX11_init 97 = .ok (.aload_n 0, 1) := by decide +kernel
theorem dX11_init_98 : decode cX11_init 98 = .ok (.bipush 48, 2) := by decide +kernel
theorem dX11_init_100 : decode cX11_init 100 = .ok (.newarray .int, 2) := by decide +kernel
theorem dX11_init_102 : decode cX11_init 102 = .ok (.putfield 46, 3) := by decide +kernel
theorem dX11_init_105 : decode cX11_init 105 = .ok (.aload_n 0, 1) := by decide +kernel
theorem dX11_init_106 : decode cX11_init 106 = .ok (.bipush 6, 2) := by decide +kernel
theorem dX11_init_108 : decode cX11_init 108 = .ok (.newarray .int, 2) := by decide +kernel
theorem dX11_init_110 : decode cX11_init 110 = .ok (.putfield 49, 3) := by decide +kernel
theorem dX11_init_113 : decode cX11_init 113 = .ok (.aload_n 0, 1) := by decide +kernel
theorem dX11_init_114 : decode cX11_init 114 = .ok (.bipush 6, 2) := by decide +kernel
theorem dX11_init_116 : decode cX11_init 116 = .ok (.newarray .int, 2) := by decide +kernel
theorem dX11_init_118 : decode cX11_init 118 = .ok (.putfield 52, 3) := by decide +kernel
theorem dX11_init_121 : decode cX11_init 121 = .ok (.aload_n 0, 1) := by decide +kernel
theorem dX11_init_122 : decode cX11_init 122 = .ok (.sipush 20000, 3) := by decide +kernel
theorem dX11_init_125 : decode cX11_init 125 = .ok (.newarray .boolean, 2) := by decide +kernel
theorem dX11_init_127 : decode cX11_init 127 = .ok (.putfield 55, 3) := by decide +kernel
theorem dX11_init_130 : decode cX11_init 130 = .ok (.aload_n 0, 1) := by decide +kernel
theorem dX11_init_131 : decode cX11_init 131 = .ok (.sipush 20000, 3) := by decide +kernel
theorem dX11_init_134 : decode cX11_init 134 = .ok (.newarray .boolean, 2) := by decide +kernel
theorem dX11_init_136 : decode cX11_init 136 = .ok (.putfield 59, 3) := by decide +kernel
theorem dX11_init_139 : decode cX11_init 139 = .ok (.aload_n 0, 1) := by decide +kernel
theorem dX11_init_140 : decode cX11_init 140 = .ok (.bipush 8, 2) := by decide +kernel
theorem dX11_init_142 : decode cX11_init 142 = .ok (.newarray .int, 2) := by decide +kernel
theorem dX11_init_144 : decode cX11_init 144 = .ok (.putfield 62, 3) := by decide +kernel
theorem dX11_init_147 : decode cX11_init 147 = .ok (.aload_n 0, 1) := by decide +kernel
theorem dX11_init_148 : decode cX11_init 148 = .ok (.sipush 4608, 3) := by decide +kernel
theorem dX11_init_151 : decode cX11_init 151 = .ok (.newarray .int, 2) := by decide +kernel
theorem dX11_init_153 : decode cX11_init 153 = .ok (.putfield 65, 3) := by decide +kernel
theorem dX11_init_156 : decode cX11_init 156 = .ok (.aload_n 0, 1) := by decide +kernel
theorem dX11_init_157 : decode cX11_init 157 = .ok (.bipush 72, 2) := by decide +kernel
theorem dX11_init_159 : decode cX11_init 159 = .ok (.newarray .int, 2) := by decide +kernel
theorem dX11_init_161 : decode cX11_init 161 = .ok (.putfield 68, 3) := by decide +kernel
theorem dX11_init_164 : decode cX11_init 164 = .ok (.aload_n 0, 1) := by decide +kernel
theorem dX11_init_165 : decode cX11_init 165 = .ok (.getfield 34, 3) := by decide +kernel
theorem dX11_init_168 : decode cX11_init 168 = .ok (.iconst 2, 1) := by decide +kernel
theorem dX11_init_169 : decode cX11_init 169 = .ok (.iconst 1, 1) := by decide +kernel
theorem dX11_init_170 : decode cX11_init 170 = .ok (.iastore, 1) := by decide +kernel
theorem dX11_init_171 : decode cX11_init 171 = .ok (.aload_n 0, 1) := by decide +kernel
theorem dX11_init_172 : decode cX11_init 172 = .ok (.bipush 8, 2) := by decide +kernel
theorem dX11_init_174 : decode cX11_init 174 = .ok (.putfield 71, 3) := by decide +kernel
theorem dX11_init_177 : decode cX11_init 177 = .ok (.aload_n 0, 1) := by decide +kernel
theorem dX11_init_178 : decode cX11_init 178 = .ok (.getfield 68, 3) := by decide +kernel
theorem dX11_init_181 : decode cX11_init 181 = .ok (.iconst 0, 1) := by decide +kernel
theorem dX11_init_182 : decode cX11_init 182 = .ok (.iconst (-1), 1) := by decide +kernel
theorem dX11_init_183 : decode cX11_init 183 = .ok (.iastore, 1) := by decide +kernel
theorem dX11_init_184 : decode cX11_init 184 = .ok (.aload_n 0, 1) := by decide +kernel
theorem dX11_init_185 : decode cX11_init 185 = .ok (.getfield 68, 3) := by decide +kernel
theorem dX11_init_188 : decode cX11_init 188 = .ok (.bipush 36, 2) := by decide +kernel
theorem dX11_init_190 : decode cX11_init 190 = .ok (.iconst (-1), 1) := by decide +kernel
theorem dX11_init_191 : decode cX11_init 191 = .ok (.iastore, 1) := by decide +kernel
theorem dX11_init_192 : decode cX11_init 192 = .ok (.return_, 1) := by decide +kernel
set_option maxRecDepth 20000 in
theorem ggX11_type_X11_in : GoodIn wsX11_type wsX11_in := goodIn_r _ [8] (by decide +kernel) (by decide +kernel)
set_option maxRecDepth 20000 in
theorem gX11_type_X11_in : GoodIn wsX11_type (va_wsS RX11 77 yX11_in wsX11_in) := goodIn_app (goodIn_of _ (by decide +kernel)) ggX11_type_X11_in
theorem dX11_type_0 : decode cX11_type 0 = .ok (.iload_n 3, 1) := by decide +kernel
theorem dX11_type_1 : decode cX11_type 1 = .ok (.i2l, 1) := by decide +kernel
theorem dX11_type_2 : decode cX11_type 2 = .ok (.lconst 1, 1) := by decide +kernel
theorem dX11_type_3 : decode cX11_type 3 = .ok (.ldc2_w 75, 3) := by decide +kernel
theorem dX11_type_6 : decode cX11_type 6 = .ok (.invokestatic 77, 3) := by decide +kernel
theorem dX11_type_9 : decode cX11_type 9 = .ok (.ifCond .ne 5, 3) := by decide +kernel
theorem dX11_type_12 : decode cX11_type 12 = .ok (.iconst (-1), 1) := by decide +kernel
theorem dX11_type_13 : decode cX11_type 13 = .ok (.ireturn, 1) := by decide +kernel
theorem dX11_type_14 : decode cX11_type 14 = .ok (.aload_n 0, 1) := by decide +kernel
theorem dX11_type_15 : decode cX11_type 15 = .ok (.getfield 81, 3) := by decide +kernel
theorem dX11_type_18 : decode cX11_type 18 = .ok (.iload_n 3, 1) := by decide +kernel
theorem dX11_type_19 : decode cX11_type 19 = .ok (.iadd, 1) := by decide +kernel
theorem dX11_type_20 : decode cX11_type 20 = .ok (.sipush 200, 3) := by decide +kernel
theorem dX11_type_23 : decode cX11_type 23 = .ok (.if_icmp .le 6, 3) := by decide +kernel
theorem dX11_type_26 : decode cX11_type 26 = .ok (.bipush (-3), 2) := by decide +kernel
theorem dX11_type_28 : decode cX11_type 28 = .ok (.ireturn, 1) := by decide +kernel
theorem dX11_type_29 : decode cX11_type 29 = .ok (.iload_n 3, 1) := by decide +kernel
theorem dX11_type_30 : decode cX11_type 30 = .ok (.iconst 1, 1) := by decide +kernel
theorem dX11_type_31 : decode cX11_type 31 = .ok (.isub, 1) := by decide +kernel
theorem dX11_type_32 : decode cX11_type 32 = .ok (.istore 4, 2) := by decide +kernel
theorem dX11_type_34 : decode cX11_type 34 = .ok (.iload 4, 2) := by decide +kernel
theorem dX11_type_36 : decode cX11_type 36 = .ok (.ifCond .lt 40, 3) := by decide +kernel
theorem dX11_type_39 : decode cX11_type 39 = .ok (.aload_n 0, 1) := by decide +kernel
theorem dX11_type_40 : decode cX11_type 40 = .ok (.getfield 7, 3) := by decide +kernel
theorem dX11_type_43 : decode cX11_type 43 = .ok (.aload_n 0, 1) := by decide +kernel
theorem dX11_type_44 : decode cX11_type 44 = .ok (.getfield 81, 3) := by decide +kernel
theorem dX11_type_47 : decode cX11_type 47 = .ok (.lload_n 1, 1) := by decide +kernel
theorem dX11_type_48 : decode cX11_type 48 = .ok (.bipush 8, 2) := by decide +kernel
theorem dX11_type_50 : decode cX11_type 50 = .ok (.iload 4, 2) := by decide +kernel
theorem dX11_type_52 : decode cX11_type 52 = .ok (.imul, 1) := by decide +kernel
theorem dX11_type_53 : decode cX11_type 53 = .ok (.lshr, 1) := by decide +kernel
theorem dX11_type_54 : decode cX11_type 54 = .ok (.ldc2_w 84, 3) := by decide +kernel
theorem dX11_type_57 : decode cX11_type 57 = .ok (.land, 1) := by decide +kernel
theorem dX11_type_58 : decode cX11_type 58 = .ok (.l2i, 1) := by decide +kernel
theorem dX11_type_59 : decode cX11_type 59 = .ok (.iastore, 1) := by decide +kernel
theorem dX11_type_60 : decode cX11_type 60 = .ok (.aload_n 0, 1) := by decide +kernel
theorem dX11_type_61 : decode cX11_type 61 = .ok (.dup, 1) := by decide +kernel
theorem dX11_type_62 : decode cX11_type 62 = .ok (.getfield 81, 3) := by decide +kernel
theorem dX11_type_65 : decode cX11_type 65 = .ok (.iconst 1, 1) := by decide +kernel
theorem dX11_type_66 : decode cX11_type 66 = .ok (.iadd, 1) := by decide +kernel
theorem dX11_type_67 : decode cX11_type 67 = .ok (.putfield 81, 3) := by decide +kernel
theorem dX11_type_70 : decode cX11_type 70 = .ok (.iinc 4 (-1), 3) := by decide +kernel
theorem dX11_type_73 : decode cX11_type 73 = .ok (.goto (-39), 3) := by decide +kernel
theorem dX11_type_76 : decode cX11_type 76 = .ok (.aload_n 0, 1) := by decide +kernel
theorem dX11_type_77 : decode cX11_type 77 = .ok (.getfield 81, 3) := by decide +kernel
theorem dX11_type_80 : decode cX11_type 80 = .ok (.ireturn, 1) := by decide +kernel
theorem dX11_clear_0 : decode cX11_clear 0 = .ok (.aload_n 0, 1) := by decide +kernel
theorem dX11_clear_1 : decode cX11_clear 1 = .ok (.getfield 81, 3) := by decide +kernel
theorem dX11_clear_4 : decode cX11_clear 4 = .ok (.istore_n 1, 1) := by decide +kernel
theorem dX11_clear_5 : decode cX11_clear 5 = .ok (.aload_n 0, 1) := by decide +kernel
theorem dX11_clear_6 : decode cX11_clear 6 = .ok (.iconst 0, 1) := by decide +kernel
theorem dX11_clear_7 : decode cX11_clear 7 = .ok (.putfield 81, 3) := by decide +kernel
theorem dX11_clear_10 : decode cX11_clear 10 = .ok (.iload_n 1, 1) := by decide +kernel
theorem dX11_clear_11 : decode cX11_clear 11 = .ok (.ireturn, 1) := by decide +kernel
set_option maxRecDepth 20000 in
theorem ggX11_isLetter_X11_in : GoodIn wsX11_isLetter wsX11_in := goodIn_r _ [6] (by decide +kernel) (by decide +kernel)
set_option maxRecDepth 20000 in
theorem gX11_isLetter_X11_in : GoodIn wsX11_isLetter (va_wsS RX11 77 yX11_in wsX11_in) := goodIn_app (goodIn_of _ (by decide +kernel)) ggX11_isLetter_X11_in
theorem dX11_isLetter_0 : decode cX11_isLetter 0 = .ok (.iload_n 0, 1) := by decide +kernel
theorem dX11_isLetter_1 : decode cX11_isLetter 1 = .ok (.i2l, 1) := by decide +kernel
theorem dX11_isLetter_2 : decode cX11_isLetter 2 = .ok (.ldc2_w 86, 3) := by decide +kernel
theorem dX11_isLetter_5 : decode cX11_isLetter 5 = .ok (.ldc2_w 88, 3) := by decide +kernel
theorem dX11_isLetter_8 : decode cX11_isLetter 8 = .ok (.invokestatic 77, 3) := by decide +kernel
theorem dX11_isLetter_11 : decode cX11_isLetter 11 = .ok (.ireturn, 1) := by decide +kernel
set_option maxRecDepth 20000 in
theorem ggX11_isFigure_X11_in : GoodIn wsX11_isFigure wsX11_in := goodIn_r _ [6] (by decide +kernel) (by decide +kernel)
set_option maxRecDepth 20000 in
theorem gX11_isFigure_X11_in : GoodIn wsX11_isFigure (va_wsS RX11 77 yX11_in wsX11_in) := goodIn_app (goodIn_of _ (by decide +kernel)) ggX11_isFigure_X11_in
theorem dX11_isFigure_0 : decode cX11_isFigure 0 = .ok (.iload_n 0, 1) := by decide +kernel
theorem dX11_isFigure_1 : decode cX11_isFigure 1 = .ok (.i2l, 1) := by decide +kernel
theorem dX11_isFigure_2 : decode cX11_isFigure 2 = .ok (.ldc2_w 90, 3) := by decide +kernel
theorem dX11_isFigure_5 : decode cX11_isFigure 5 = .ok (.ldc2_w 92, 3) := by decide +kernel
theorem dX11_isFigure_8 : decode cX11_isFigure 8 = .ok (.invokestatic 77, 3) := by decide +kernel
theorem dX11_isFigure_11 : decode cX11_isFigure 11 = .ok (.ireturn, 1) := by decide +kernel
set_option maxRecDepth 20000 in
theorem ggX11_reads_X11_isLetter : GoodIn wsX11_reads wsX11_isLetter := goodIn_r _ [17, 18, 19, 20, 21, 16, 22] (by decide +kernel) (by decide +kernel)
set_option maxRecDepth 20000 in
theorem gX11_reads_X11_isLetter : GoodIn wsX11_reads (va_wsS RX11 100 yX11_isLetter wsX11_isLetter) := goodIn_app (goodIn_of _ (by decide +kernel)) ggX11_reads_X11_isLetter
set_option maxRecDepth 20000 in
theorem ggX11_reads_X11_isFigure : GoodIn wsX11_reads wsX11_isFigure := goodIn_r _ [25, 26, 27, 20, 21, 16, 22] (by decide +kernel) (by decide +kernel)
set_option maxRecDepth 20000 in
theorem gX11_reads_X11_isFigure : GoodIn wsX11_reads (va_wsS RX11 104 yX11_isFigure wsX11_isFigure) := goodIn_app (goodIn_of _ (by decide +kernel)) ggX11_reads_X11_isFigure
theorem dX11_reads_0 : decode cX11_reads 0 = .ok (.aload_n 0, 1) := by decide +kernel
theorem dX11_reads_1 : decode cX11_reads 1 = .ok (.getfield 94, 3) := by decide +kernel
theorem dX11_reads_4 : decode cX11_reads 4 = .ok (.aload_n 0, 1) := by decide +kernel
theorem dX11_reads_5 : decode cX11_reads 5 = .ok (.getfield 81, 3) := by decide +kernel
theorem dX11_reads_8 : decode cX11_reads 8 = .ok (.if_icmp .ge 30, 3) := by decide +kernel
theorem dX11_reads_11 : decode cX11_reads 11 = .ok (.aload_n 0, 1) := by decide +kernel
theorem dX11_reads_12 : decode cX11_reads 12 = .ok (.getfield 7, 3) := by decide +kernel
theorem dX11_reads_15 : decode cX11_reads 15 = .ok (.aload_n 0, 1) := by decide +kernel
theorem dX11_reads_16 : decode cX11_reads 16 = .ok (.getfield 94, 3) := by decide +kernel
theorem dX11_reads_19 : decode cX11_reads 19 = .ok (.iaload, 1) := by decide +kernel
theorem dX11_reads_20 : decode cX11_reads 20 = .ok (.bipush 32, 2) := by decide +kernel
theorem dX11_reads_22 : decode cX11_reads 22 = .ok (.if_icmp .ne 16, 3) := by decide +kernel
theorem dX11_reads_25 : decode cX11_reads 25 = .ok (.aload_n 0, 1) := by decide +kernel
theorem dX11_reads_26 : decode cX11_reads 26 = .ok (.dup, 1) := by decide +kernel
theorem dX11_reads_27 : decode cX11_reads 27 = .ok (.getfield 94, 3) := by decide +kernel
theorem dX11_reads_30 : decode cX11_reads 30 = .ok (.iconst 1, 1) := by decide +kernel
theorem dX11_reads_31 : decode cX11_reads 31 = .ok (.iadd, 1) := by decide +kernel
theorem dX11_reads_32 : decode cX11_reads 32 = .ok (.putfield 94, 3) := by decide +kernel
theorem dX11_reads_35 : decode cX11_reads 35 = .ok (.goto (-35), 3) := by decide +kernel
theorem dX11_reads_38 : decode cX11_reads 38 = .ok (.aload_n 0, 1) := by decide +kernel
theorem dX11_reads_39 : decode cX11_reads 39 = .ok (.aload_n 0, 1) := by decide +kernel
theorem dX11_reads_40 : decode cX11_reads 40 = .ok (.getfield 94, 3) := by decide +kernel
theorem dX11_reads_43 : decode cX11_reads 43 = .ok (.putfield 97, 3) := by decide +kernel
theorem dX11_reads_46 : decode cX11_reads 46 = .ok (.aload_n 0, 1) := by decide +kernel
theorem dX11_reads_47 : decode cX11_reads 47 = .ok (.getfield 94, 3) := by decide +kernel
theorem dX11_reads_50 : decode cX11_reads 50 = .ok (.aload_n 0, 1) := by decide +kernel
theorem dX11_reads_51 : decode cX11_reads 51 = .ok (.getfield 81, 3) := by decide +kernel
theorem dX11_reads_54 : decode cX11_reads 54 = .ok (.if_icmp .ge 15, 3) := by decide +kernel
theorem dX11_reads_57 : decode cX11_reads 57 = .ok (.aload_n 0, 1) := by decide +kernel
theorem dX11_reads_58 : decode cX11_reads 58 = .ok (.getfield 7, 3) := by decide +kernel
theorem dX11_reads_61 : decode cX11_reads 61 = .ok (.aload_n 0, 1) := by decide +kernel
theorem dX11_reads_62 : decode cX11_reads 62 = .ok (.getfield 94, 3) := by decide +kernel
theorem dX11_reads_65 : decode cX11_reads 65 = .ok (.iaload, 1) := by decide +kernel
theorem dX11_reads_66 : decode cX11_reads 66 = .ok (.goto 4, 3) := by decide +kernel
theorem dX11_reads_69 : decode cX11_reads 69 = .ok (.iconst 0, 1) := by decide +kernel
theorem dX11_reads_70 : decode cX11_reads 70 = .ok (.istore_n 1, 1) := by decide +kernel
theorem dX11_reads_71 : decode cX11_reads 71 = .ok (.aload_n 0, 1) := by decide +kernel
theorem dX11_reads_72 : decode cX11_reads 72 = .ok (.aload_n 0, 1) := by decide +kernel
theorem dX11_reads_73 : decode cX11_reads 73 = .ok (.getfield 94, 3) := by decide +kernel
theorem dX11_reads_76 : decode cX11_reads 76 = .ok (.aload_n 0, 1) := by decide +kernel
theorem dX11_reads_77 : decode cX11_reads 77 = .ok (.getfield 81, 3) := by decide +kernel
theorem dX11_reads_80 : decode cX11_reads 80 = .ok (.if_icmp .ne 7, 3) := by decide +kernel
theorem dX11_reads_83 : decode cX11_reads 83 = .ok (.iconst 0, 1) := by decide +kernel
theorem dX11_reads_84 : decode cX11_reads 84 = .ok (.goto 36, 3) := by decide +kernel
theorem dX11_reads_87 : decode cX11_reads 87 = .ok (.iload_n 1, 1) := by decide +kernel
theorem dX11_reads_88 : decode cX11_reads 88 = .ok (.invokestatic 100, 3) := by decide +kernel
theorem dX11_reads_91 : decode cX11_reads 91 = .ok (.ifCond .eq 7, 3) := by decide +kernel
theorem dX11_reads_94 : decode cX11_reads 94 = .ok (.iconst 1, 1) := by decide +kernel
theorem dX11_reads_95 : decode cX11_reads 95 = .ok (.goto 25, 3) := by decide +kernel
theorem dX11_reads_98 : decode cX11_reads 98 = .ok (.iload_n 1, 1) := by decide +kernel
theorem dX11_reads_99 : decode cX11_reads 99 = .ok (.invokestatic 104, 3) := by decide +kernel
theorem dX11_reads_102 : decode cX11_reads 102 = .ok (.ifCond .eq 7, 3) := by decide +kernel
theorem dX11_reads_105 : decode cX11_reads 105 = .ok (.iconst 2, 1) := by decide +kernel
theorem dX11_reads_106 : decode cX11_reads 106 = .ok (.goto 14, 3) := by decide +kernel
theorem dX11_reads_109 : decode cX11_reads 109 = .ok (.iload_n 1, 1) := by decide +kernel
theorem dX11_reads_110 : decode cX11_reads 110 = .ok (.bipush 59, 2) := by decide +kernel
theorem dX11_reads_112 : decode cX11_reads 112 = .ok (.if_icmp .ne 7, 3) := by decide +kernel
theorem dX11_reads_115 : decode cX11_reads 115 = .ok (.iconst 3, 1) := by decide +kernel
theorem dX11_reads_116 : decode cX11_reads 116 = .ok (.goto 4, 3) := by decide +kernel
theorem dX11_reads_119 : decode cX11_reads 119 = .ok (.iconst 4, 1) := by decide +kernel
theorem dX11_reads_120 : decode cX11_reads 120 = .ok (.putfield 107, 3) := by decide +kernel
theorem dX11_reads_123 : decode cX11_reads 123 = .ok (.aload_n 0, 1) := by decide +kernel
theorem dX11_reads_124 : decode cX11_reads 124 = .ok (.getfield 107, 3) := by decide +kernel
theorem dX11_reads_127 : decode cX11_reads 127 = .ok (.iconst 1, 1) := by decide +kernel
theorem dX11_reads_128 : decode cX11_reads 128 = .ok (.if_icmp .ne 168, 3) := by decide +kernel
theorem dX11_reads_131 : decode cX11_reads 131 = .ok (.lconst 0, 1) := by decide +kernel
theorem dX11_reads_132 : decode cX11_reads 132 = .ok (.lstore_n 2, 1) := by decide +kernel
theorem dX11_reads_133 : decode cX11_reads 133 = .ok (.aload_n 0, 1) := by decide +kernel
theorem dX11_reads_134 : decode cX11_reads 134 = .ok (.getfield 94, 3) := by decide +kernel
theorem dX11_reads_137 : decode cX11_reads 137 = .ok (.aload_n 0, 1) := by decide +kernel
theorem dX11_reads_138 : decode cX11_reads 138 = .ok (.getfield 81, 3) := by decide +kernel
theorem dX11_reads_141 : decode cX11_reads 141 = .ok (.if_icmp .ge 68, 3) := by decide +kernel
theorem dX11_reads_144 : decode cX11_reads 144 = .ok (.aload_n 0, 1) := by decide +kernel
theorem dX11_reads_145 : decode cX11_reads 145 = .ok (.getfield 7, 3) := by decide +kernel
theorem dX11_reads_148 : decode cX11_reads 148 = .ok (.aload_n 0, 1) := by decide +kernel
theorem dX11_reads_149 : decode cX11_reads 149 = .ok (.getfield 94, 3) := by decide +kernel
theorem dX11_reads_152 : decode cX11_reads 152 = .ok (.iaload, 1) := by decide +kernel
theorem dX11_reads_153 : decode cX11_reads 153 = .ok (.invokestatic 100, 3) := by decide +kernel
theorem dX11_reads_156 : decode cX11_reads 156 = .ok (.ifCond .eq 53, 3) := by decide +kernel
theorem dX11_reads_159 : decode cX11_reads 159 = .ok (.aload_n 0, 1) := by decide +kernel
theorem dX11_reads_160 : decode cX11_reads 160 = .ok (.getfield 94, 3) := by decide +kernel
theorem dX11_reads_163 : decode cX11_reads 163 = .ok (.aload_n 0, 1) := by decide +kernel
theorem dX11_reads_164 : decode cX11_reads 164 = .ok (.getfield 97, 3) := by decide +kernel
theorem dX11_reads_167 : decode cX11_reads 167 = .ok (.isub, 1) := by decide +kernel
theorem dX11_reads_168 : decode cX11_reads 168 = .ok (.bipush 7, 2) := by decide +kernel
theorem dX11_reads_170 : decode cX11_reads 170 = .ok (.if_icmp .le 9, 3) := by decide +kernel
theorem dX11_reads_173 : decode cX11_reads 173 = .ok (.ldc2_w 110, 3) := by decide +kernel
theorem dX11_reads_176 : decode cX11_reads 176 = .ok (.goto 19, 3) := by decide +kernel
theorem dX11_reads_179 : decode cX11_reads 179 = .ok (.lload_n 2, 1) := by decide +kernel
theorem dX11_reads_180 : decode cX11_reads 180 = .ok (.ldc2_w 112, 3) := by decide +kernel
theorem dX11_reads_183 : decode cX11_reads 183 = .ok (.lmul, 1) := by decide +kernel
theorem dX11_reads_184 : decode cX11_reads 184 = .ok (.aload_n 0, 1) := by decide +kernel
theorem dX11_reads_185 : decode cX11_reads 185 = .ok (.getfield 7, 3) := by decide +kernel
theorem dX11_reads_188 : decode cX11_reads 188 = .ok (.aload_n 0, 1) := by decide +kernel
theorem dX11_reads_189 : decode cX11_reads 189 = .ok (.getfield 94, 3) := by decide +kernel
theorem dX11_reads_192 : decode cX11_reads 192 = .ok (.iaload, 1) := by decide +kernel
theorem dX11_reads_193 : decode cX11_reads 193 = .ok (.i2l, 1) := by decide +kernel
theorem dX11_reads_194 : decode cX11_reads 194 = .ok (.ladd, 1) := by decide +kernel
theorem dX11_reads_195 : decode cX11_reads 195 = .ok (.lstore_n 2, 1) := by decide +kernel
theorem dX11_reads_196 : decode cX11_reads 196 = .ok (.aload_n 0, 1) := by decide +kernel
theorem dX11_reads_197 : decode cX11_reads 197 = .ok (.dup, 1) := by decide +kernel
theorem dX11_reads_198 : decode cX11_reads 198 = .ok (.getfield 94, 3) := by decide +kernel
theorem dX11_reads_201 : decode cX11_reads 201 = .ok (.iconst 1, 1) := by decide +kernel
theorem dX11_reads_202 : decode cX11_reads 202 = .ok (.iadd, 1) := by decide +kernel
theorem dX11_reads_203 : decode cX11_reads 203 = .ok (.putfield 94, 3) := by decide +kernel
theorem dX11_reads_206 : decode cX11_reads 206 = .ok (.goto (-73), 3) := by decide +kernel
theorem dX11_reads_209 : decode cX11_reads 209 = .ok (.aload_n 0, 1) := by decide +kernel
theorem dX11_reads_210 : decode cX11_reads 210 = .ok (.lload_n 2, 1) := by decide +kernel
theorem dX11_reads_211 : decode cX11_reads 211 = .ok (.ldc2_w 114, 3) := by decide +kernel
theorem dX11_reads_214 : decode cX11_reads 214 = .ok (.lcmp, 1) := by decide +kernel
theorem dX11_reads_215 : decode cX11_reads 215 = .ok (.ifCond .ne 7, 3) := by decide +kernel
theorem dX11_reads_218 : decode cX11_reads 218 = .ok (.iconst 0, 1) := by decide +kernel
theorem dX11_reads_219 : decode cX11_reads 219 = .ok (.goto 53, 3) := by decide +kernel
theorem dX11_reads_222 : decode cX11_reads 222 = .ok (.lload_n 2, 1) := by decide +kernel
theorem dX11_reads_223 : decode cX11_reads 223 = .ok (.ldc2_w 116, 3) := by decide +kernel
theorem dX11_reads_226 : decode cX11_reads 226 = .ok (.lcmp, 1) := by decide +kernel
theorem dX11_reads_227 : decode cX11_reads 227 = .ok (.ifCond .ne 7, 3) := by decide +kernel
theorem dX11_reads_230 : decode cX11_reads 230 = .ok (.iconst 1, 1) := by decide +kernel
theorem dX11_reads_231 : decode cX11_reads 231 = .ok (.goto 41, 3) := by decide +kernel
theorem dX11_reads_234 : decode cX11_reads 234 = .ok (.lload_n 2, 1) := by decide +kernel
theorem dX11_reads_235 : decode cX11_reads 235 = .ok (.ldc2_w 118, 3) := by decide +kernel
theorem dX11_reads_238 : decode cX11_reads 238 = .ok (.lcmp, 1) := by decide +kernel
theorem dX11_reads_239 : decode cX11_reads 239 = .ok (.ifCond .ne 7, 3) := by decide +kernel
theorem dX11_reads_242 : decode cX11_reads 242 = .ok (.iconst 2, 1) := by decide +kernel
theorem dX11_reads_243 : decode cX11_reads 243 = .ok (.goto 29, 3) := by decide +kernel
theorem dX11_reads_246 : decode cX11_reads 246 = .ok (.lload_n 2, 1) := by decide +kernel
theorem dX11_reads_247 : decode cX11_reads 247 = .ok (.ldc2_w 120, 3) := by decide +kernel
theorem dX11_reads_250 : decode cX11_reads 250 = .ok (.lcmp, 1) := by decide +kernel
theorem dX11_reads_251 : decode cX11_reads 251 = .ok (.ifCond .ne 7, 3) := by decide +kernel
theorem dX11_reads_254 : decode cX11_reads 254 = .ok (.iconst 3, 1) := by decide +kernel
theorem dX11_reads_255 : decode cX11_reads 255 = .ok (.goto 17, 3) := by decide +kernel
theorem dX11_reads_258 : decode cX11_reads 258 = .ok (.lload_n 2, 1) := by decide +kernel
theorem dX11_reads_259 : decode cX11_reads 259 = .ok (.ldc2_w 122, 3) := by decide +kernel
theorem dX11_reads_262 : decode cX11_reads 262 = .ok (.lcmp, 1) := by decide +kernel
theorem dX11_reads_263 : decode cX11_reads 263 = .ok (.ifCond .ne 7, 3) := by decide +kernel
theorem dX11_reads_266 : decode cX11_reads 266 = .ok (.iconst 4, 1) := by decide +kernel
theorem dX11_reads_267 : decode cX11_reads 267 = .ok (.goto 5, 3) := by decide +kernel
theorem dX11_reads_270 : decode cX11_reads 270 = .ok (.bipush (-9), 2) := by decide +kernel
theorem dX11_reads_272 : decode cX11_reads 272 = .ok (.putfield 124, 3) := by decide +kernel
theorem dX11_reads_275 : decode cX11_reads 275 = .ok (.aload_n 0, 1) := by decide +kernel
theorem dX11_reads_276 : decode cX11_reads 276 = .ok (.aload_n 0, 1) := by decide +kernel
theorem dX11_reads_277 : decode cX11_reads 277 = .ok (.getfield 124, 3) := by decide +kernel
theorem dX11_reads_280 : decode cX11_reads 280 = .ok (.bipush (-9), 2) := by decide +kernel
theorem dX11_reads_282 : decode cX11_reads 282 = .ok (.if_icmp .ne 7, 3) := by decide +kernel
theorem dX11_reads_285 : decode cX11_reads 285 = .ok (.iconst 4, 1) := by decide +kernel
theorem dX11_reads_286 : decode cX11_reads 286 = .ok (.goto 4, 3) := by decide +kernel
theorem dX11_reads_289 : decode cX11_reads 289 = .ok (.iconst 1, 1) := by decide +kernel
theorem dX11_reads_290 : decode cX11_reads 290 = .ok (.putfield 107, 3) := by decide +kernel
theorem dX11_reads_293 : decode cX11_reads 293 = .ok (.goto 150, 3) := by decide +kernel
theorem dX11_reads_296 : decode cX11_reads 296 = .ok (.aload_n 0, 1) := by decide +kernel
theorem dX11_reads_297 : decode cX11_reads 297 = .ok (.getfield 107, 3) := by decide +kernel
theorem dX11_reads_300 : decode cX11_reads 300 = .ok (.iconst 2, 1) := by decide +kernel
theorem dX11_reads_301 : decode cX11_reads 301 = .ok (.if_icmp .ne 124, 3) := by decide +kernel
theorem dX11_reads_304 : decode cX11_reads 304 = .ok (.iconst 0, 1) := by decide +kernel
theorem dX11_reads_305 : decode cX11_reads 305 = .ok (.istore_n 2, 1) := by decide +kernel
theorem dX11_reads_306 : decode cX11_reads 306 = .ok (.aload_n 0, 1) := by decide +kernel
theorem dX11_reads_307 : decode cX11_reads 307 = .ok (.getfield 94, 3) := by decide +kernel
theorem dX11_reads_310 : decode cX11_reads 310 = .ok (.aload_n 0, 1) := by decide +kernel
theorem dX11_reads_311 : decode cX11_reads 311 = .ok (.getfield 81, 3) := by decide +kernel
theorem dX11_reads_314 : decode cX11_reads 314 = .ok (.if_icmp .ge 59, 3) := by decide +kernel
theorem dX11_reads_317 : decode cX11_reads 317 = .ok (.aload_n 0, 1) := by decide +kernel
theorem dX11_reads_318 : decode cX11_reads 318 = .ok (.getfield 7, 3) := by decide +kernel
theorem dX11_reads_321 : decode cX11_reads 321 = .ok (.aload_n 0, 1) := by decide +kernel
theorem dX11_reads_322 : decode cX11_reads 322 = .ok (.getfield 94, 3) := by decide +kernel
theorem dX11_reads_325 : decode cX11_reads 325 = .ok (.iaload, 1) := by decide +kernel
theorem dX11_reads_326 : decode cX11_reads 326 = .ok (.invokestatic 104, 3) := by decide +kernel
theorem dX11_reads_329 : decode cX11_reads 329 = .ok (.ifCond .eq 44, 3) := by decide +kernel
theorem dX11_reads_332 : decode cX11_reads 332 = .ok (.iload_n 2, 1) := by decide +kernel
theorem dX11_reads_333 : decode cX11_reads 333 = .ok (.bipush 99, 2) := by decide +kernel
theorem dX11_reads_335 : decode cX11_reads 335 = .ok (.if_icmp .le 7, 3) := by decide +kernel
theorem dX11_reads_338 : decode cX11_reads 338 = .ok (.iload_n 2, 1) := by decide +kernel
theorem dX11_reads_339 : decode cX11_reads 339 = .ok (.goto 20, 3) := by decide +kernel
theorem dX11_reads_342 : decode cX11_reads 342 = .ok (.bipush 10, 2) := by decide +kernel
theorem dX11_reads_344 : decode cX11_reads 344 = .ok (.iload_n 2, 1) := by decide +kernel
theorem dX11_reads_345 : decode cX11_reads 345 = .ok (.imul, 1) := by decide +kernel
theorem dX11_reads_346 : decode cX11_reads 346 = .ok (.aload_n 0, 1) := by decide +kernel
theorem dX11_reads_347 : decode cX11_reads 347 = .ok (.getfield 7, 3) := by decide +kernel
theorem dX11_reads_350 : decode cX11_reads 350 = .ok (.aload_n 0, 1) := by decide +kernel
theorem dX11_reads_351 : decode cX11_reads 351 = .ok (.getfield 94, 3) := by decide +kernel
theorem dX11_reads_354 : decode cX11_reads 354 = .ok (.iaload, 1) := by decide +kernel
theorem dX11_reads_355 : decode cX11_reads 355 = .ok (.iadd, 1) := by decide +kernel
theorem dX11_reads_356 : decode cX11_reads 356 = .ok (.bipush 48, 2) := by decide +kernel
theorem dX11_reads_358 : decode cX11_reads 358 = .ok (.isub, 1) := by decide +kernel
theorem dX11_reads_359 : decode cX11_reads 359 = .ok (.istore_n 2, 1) := by decide +kernel
theorem dX11_reads_360 : decode cX11_reads 360 = .ok (.aload_n 0, 1) := by decide +kernel
theorem dX11_reads_361 : decode cX11_reads 361 = .ok (.dup, 1) := by decide +kernel
theorem dX11_reads_362 : decode cX11_reads 362 = .ok (.getfield 94, 3) := by decide +kernel
theorem dX11_reads_365 : decode cX11_reads 365 = .ok (.iconst 1, 1) := by decide +kernel
theorem dX11_reads_366 : decode cX11_reads 366 = .ok (.iadd, 1) := by decide +kernel
theorem dX11_reads_367 : decode cX11_reads 367 = .ok (.putfield 94, 3) := by decide +kernel
theorem dX11_reads_370 : decode cX11_reads 370 = .ok (.goto (-64), 3) := by decide +kernel
theorem dX11_reads_373 : decode cX11_reads 373 = .ok (.iload_n 2, 1) := by decide +kernel
theorem dX11_reads_374 : decode cX11_reads 374 = .ok (.bipush 99, 2) := by decide +kernel
theorem dX11_reads_376 : decode cX11_reads 376 = .ok (.if_icmp .gt 22, 3) := by decide +kernel
theorem dX11_reads_379 : decode cX11_reads 379 = .ok (.aload_n 0, 1) := by decide +kernel
theorem dX11_reads_380 : decode cX11_reads 380 = .ok (.getfield 94, 3) := by decide +kernel
theorem dX11_reads_383 : decode cX11_reads 383 = .ok (.aload_n 0, 1) := by decide +kernel
theorem dX11_reads_384 : decode cX11_reads 384 = .ok (.getfield 97, 3) := by decide +kernel
theorem dX11_reads_387 : decode cX11_reads 387 = .ok (.isub, 1) := by decide +kernel
theorem dX11_reads_388 : decode cX11_reads 388 = .ok (.iconst 1, 1) := by decide +kernel
theorem dX11_reads_389 : decode cX11_reads 389 = .ok (.if_icmp .le 13, 3) := by decide +kernel
theorem dX11_reads_392 : decode cX11_reads 392 = .ok (.iload_n 1, 1) := by decide +kernel
theorem dX11_reads_393 : decode cX11_reads 393 = .ok (.bipush 48, 2) := by decide +kernel
theorem dX11_reads_395 : decode cX11_reads 395 = .ok (.if_icmp .ne 7, 3) := by decide +kernel
theorem dX11_reads_398 : decode cX11_reads 398 = .ok (.iconst 1, 1) := by decide +kernel
theorem dX11_reads_399 : decode cX11_reads 399 = .ok (.goto 4, 3) := by decide +kernel
theorem dX11_reads_402 : decode cX11_reads 402 = .ok (.iconst 0, 1) := by decide +kernel
theorem dX11_reads_403 : decode cX11_reads 403 = .ok (.istore_n 3, 1) := by decide +kernel
theorem dX11_reads_404 : decode cX11_reads 404 = .ok (.aload_n 0, 1) := by decide +kernel
theorem dX11_reads_405 : decode cX11_reads 405 = .ok (.iload_n 2, 1) := by decide +kernel
theorem dX11_reads_406 : decode cX11_reads 406 = .ok (.putfield 124, 3) := by decide +kernel
theorem dX11_reads_409 : decode cX11_reads 409 = .ok (.aload_n 0, 1) := by decide +kernel
theorem dX11_reads_410 : decode cX11_reads 410 = .ok (.iload_n 3, 1) := by decide +kernel
theorem dX11_reads_411 : decode cX11_reads 411 = .ok (.ifCond .eq 7, 3) := by decide +kernel
theorem dX11_reads_414 : decode cX11_reads 414 = .ok (.iconst 4, 1) := by decide +kernel
theorem dX11_reads_415 : decode cX11_reads 415 = .ok (.goto 4, 3) := by decide +kernel
theorem dX11_reads_418 : decode cX11_reads 418 = .ok (.iconst 2, 1) := by decide +kernel
theorem dX11_reads_419 : decode cX11_reads 419 = .ok (.putfield 107, 3) := by decide +kernel
theorem dX11_reads_422 : decode cX11_reads 422 = .ok (.goto 21, 3) := by decide +kernel
theorem dX11_reads_425 : decode cX11_reads 425 = .ok (.aload_n 0, 1) := by decide +kernel
theorem dX11_reads_426 : decode cX11_reads 426 = .ok (.getfield 107, 3) := by decide +kernel
theorem dX11_reads_429 : decode cX11_reads 429 = .ok (.iconst 3, 1) := by decide +kernel
theorem dX11_reads_430 : decode cX11_reads 430 = .ok (.if_icmp .ne 13, 3) := by decide +kernel
theorem dX11_reads_433 : decode cX11_reads 433 = .ok (.aload_n 0, 1) := by decide +kernel
theorem dX11_reads_434 : decode cX11_reads 434 = .ok (.dup, 1) := by decide +kernel
theorem dX11_reads_435 : decode cX11_reads 435 = .ok (.getfield 94, 3) := by decide +kernel
theorem dX11_reads_438 : decode cX11_reads 438 = .ok (.iconst 1, 1) := by decide +kernel
theorem dX11_reads_439 : decode cX11_reads 439 = .ok (.iadd, 1) := by decide +kernel
theorem dX11_reads_440 : decode cX11_reads 440 = .ok (.putfield 94, 3) := by decide +kernel
theorem dX11_reads_443 : decode cX11_reads 443 = .ok (.return_, 1) := by decide +kernel
set_option maxRecDepth 20000 in
theorem ggX11_number_X11_reads : GoodIn wsX11_number wsX11_reads := goodIn_r _ [7, 8, 9, 10, 11, 1, 12, 13, 14, 15, 16, 17, 18, 2, 19, 20, 6, 21, 22, 23, 24, 25, 26, 27, 28, 29, 30, 31, 32, 33, 34, 35, 36, 37, 38, 39, 40, 41, 42, 43, 44, 45, 46, 47, 48, 49, 50, 51, 52, 53, 54, 55, 56, 57, 58, 59, 60, 61, 62, 63, 64, 65, 66, 67] (by decide +kernel) (by decide +kernel)
set_option maxRecDepth 20000 in
theorem gX11_number_X11_reads : GoodIn wsX11_number (wsV RX11 127 RX11 yX11_reads wsX11_reads) := goodIn_app (goodIn_of _ (by decide +kernel)) ggX11_number_X11_reads
set_option maxRecDepth 20000 in
theorem ggX11_number_X11_in : GoodIn wsX11_number wsX11_in := goodIn_r _ [26] (by decide +kernel) (by decide +kernel)
set_option maxRecDepth 20000 in
theorem gX11_number_X11_in : GoodIn wsX11_number (va_wsS RX11 77 yX11_in wsX11_in) := goodIn_app (goodIn_of _ (by decide +kernel)) ggX11_number_X11_in
theorem dX11_number_0 : decode cX11_number 0 = .ok (.aload_n 0, 1) := by decide +kernel
theorem dX11_number_1 : decode cX11_number 1 = .ok (.invokevirtual 127, 3) := by decide +kernel
theorem dX11_number_4 : decode cX11_number 4 = .ok (.aload_n 0, 1) := by decide +kernel
theorem dX11_number_5 : decode cX11_number 5 = .ok (.getfield 107, 3) := by decide +kernel
theorem dX11_number_8 : decode cX11_number 8 = .ok (.iconst 2, 1) := by decide +kernel
theorem dX11_number_9 : decode cX11_number 9 = .ok (.if_icmp .ne 25, 3) := by decide +kernel
theorem dX11_number_12 : decode cX11_number 12 = .ok (.aload_n 0, 1) := by decide +kernel
theorem dX11_number_13 : decode cX11_number 13 = .ok (.getfield 124, 3) := by decide +kernel
theorem dX11_number_16 : decode cX11_number 16 = .ok (.i2l, 1) := by decide +kernel
theorem dX11_number_17 : decode cX11_number 17 = .ok (.iload_n 1, 1) := by decide +kernel
theorem dX11_number_18 : decode cX11_number 18 = .ok (.i2l, 1) := by decide +kernel
theorem dX11_number_19 : decode cX11_number 19 = .ok (.iload_n 2, 1) := by decide +kernel
theorem dX11_number_20 : decode cX11_number 20 = .ok (.i2l, 1) := by decide +kernel
theorem dX11_number_21 : decode cX11_number 21 = .ok (.invokestatic 77, 3) := by decide +kernel
theorem dX11_number_24 : decode cX11_number 24 = .ok (.ifCond .eq 10, 3) := by decide +kernel
theorem dX11_number_27 : decode cX11_number 27 = .ok (.aload_n 0, 1) := by decide +kernel
theorem dX11_number_28 : decode cX11_number 28 = .ok (.getfield 124, 3) := by decide +kernel
theorem dX11_number_31 : decode cX11_number 31 = .ok (.goto 4, 3) := by decide +kernel
theorem dX11_number_34 : decode cX11_number 34 = .ok (.iconst (-1), 1) := by decide +kernel
theorem dX11_number_35 : decode cX11_number 35 = .ok (.ireturn, 1) := by decide +kernel
set_option maxRecDepth 20000 in
theorem ggX11_readItem_X11_number : GoodIn wsX11_readItem wsX11_number := goodIn_r _ [13, 2, 1, 14, 15, 16, 12, 17, 18, 19, 20, 21, 22, 23, 24, 25, 26, 27, 28, 29, 30, 31, 32, 33, 34, 35, 36, 37, 38, 39, 40, 41, 42, 43, 44, 45, 46, 47, 48, 49, 50, 51, 52, 53, 54, 55, 56, 57, 58, 59, 60, 61, 62, 63, 64, 65, 66, 67, 68, 69, 70, 71, 72, 73, 74, 75, 76, 77] (by decide +kernel) (by decide +kernel)
set_option maxRecDepth 20000 in
theorem gX11_readItem_X11_number : GoodIn wsX11_readItem (wsV RX11 139 RX11 yX11_number wsX11_number) := goodIn_app (goodIn_of _ (by decide +kernel)) ggX11_readItem_X11_number
set_option maxRecDepth 20000 in
theorem ggX11_readItem_X11_reads : GoodIn wsX11_readItem wsX11_reads := goodIn_r _ [17, 18, 19, 20, 21, 2, 22, 23, 24, 25, 26, 27, 28, 1, 29, 30, 12, 31, 32, 33, 34, 35, 36, 37, 38, 39, 40, 41, 42, 43, 44, 45, 46, 47, 48, 49, 50, 51, 52, 53, 54, 55, 56, 57, 58, 59, 60, 61, 62, 63, 64, 65, 66, 67, 68, 69, 70, 71, 72, 73, 74, 75, 76, 77] (by decide +kernel) (by decide +kernel)
set_option maxRecDepth 20000 in
theorem gX11_readItem_X11_reads : GoodIn wsX11_readItem (wsV RX11 127 RX11 yX11_reads wsX11_reads) := goodIn_app (goodIn_of _ (by decide +kernel)) ggX11_readItem_X11_reads
theorem dX11_readItem_0 : decode cX11_readItem 0 = .ok (.aload_n 0, 1) := by decide +kernel
theorem dX11_readItem_1 : decode cX11_readItem 1 = .ok (.getfield 124, 3) := by decide +kernel
theorem dX11_readItem_4 : decode cX11_readItem 4 = .ok (.istore_n 1, 1) := by decide +kernel
theorem dX11_readItem_5 : decode cX11_readItem 5 = .ok (.aload_n 0, 1) := by decide +kernel
theorem dX11_readItem_6 : decode cX11_readItem 6 = .ok (.getfield 107, 3) := by decide +kernel
theorem dX11_readItem_9 : decode cX11_readItem 9 = .ok (.iconst 1, 1) := by decide +kernel
theorem dX11_readItem_10 : decode cX11_readItem 10 = .ok (.if_icmp .ne 46, 3) := by decide +kernel
theorem dX11_readItem_13 : decode cX11_readItem 13 = .ok (.iload_n 1, 1) := by decide +kernel
theorem dX11_readItem_14 : decode cX11_readItem 14 = .ok (.ifCond .ne 12, 3) := by decide +kernel
theorem dX11_readItem_17 : decode cX11_readItem 17 = .ok (.aload_n 0, 1) := by decide +kernel
theorem dX11_readItem_18 : decode cX11_readItem 18 = .ok (.getfield 130, 3) := by decide +kernel
theorem dX11_readItem_21 : decode cX11_readItem 21 = .ok (.bipush 8, 2) := by decide +kernel
theorem dX11_readItem_23 : decode cX11_readItem 23 = .ok (.if_icmp .eq 33, 3) := by decide +kernel
theorem dX11_readItem_26 : decode cX11_readItem 26 = .ok (.iload_n 1, 1) := by decide +kernel
theorem dX11_readItem_27 : decode cX11_readItem 27 = .ok (.iconst 1, 1) := by decide +kernel
theorem dX11_readItem_28 : decode cX11_readItem 28 = .ok (.if_icmp .ne 11, 3) := by decide +kernel
theorem dX11_readItem_31 : decode cX11_readItem 31 = .ok (.aload_n 0, 1) := by decide +kernel
theorem dX11_readItem_32 : decode cX11_readItem 32 = .ok (.getfield 133, 3) := by decide +kernel
theorem dX11_readItem_35 : decode cX11_readItem 35 = .ok (.iconst 3, 1) := by decide +kernel
theorem dX11_readItem_36 : decode cX11_readItem 36 = .ok (.if_icmp .eq 20, 3) := by decide +kernel
theorem dX11_readItem_39 : decode cX11_readItem 39 = .ok (.iload_n 1, 1) := by decide +kernel
theorem dX11_readItem_40 : decode cX11_readItem 40 = .ok (.iconst 1, 1) := by decide +kernel
theorem dX11_readItem_41 : decode cX11_readItem 41 = .ok (.if_icmp .le 17, 3) := by decide +kernel
theorem dX11_readItem_44 : decode cX11_readItem 44 = .ok (.aload_n 0, 1) := by decide +kernel
theorem dX11_readItem_45 : decode cX11_readItem 45 = .ok (.getfield 136, 3) := by decide +kernel
theorem dX11_readItem_48 : decode cX11_readItem 48 = .ok (.iload_n 1, 1) := by decide +kernel
theorem dX11_readItem_49 : decode cX11_readItem 49 = .ok (.ishr, 1) := by decide +kernel
theorem dX11_readItem_50 : decode cX11_readItem 50 = .ok (.iconst 1, 1) := by decide +kernel
theorem dX11_readItem_51 : decode cX11_readItem 51 = .ok (.iand, 1) := by decide +kernel
theorem dX11_readItem_52 : decode cX11_readItem 52 = .ok (.iconst 1, 1) := by decide +kernel
theorem dX11_readItem_53 : decode cX11_readItem 53 = .ok (.if_icmp .ne 5, 3) := by decide +kernel
theorem dX11_readItem_56 : decode cX11_readItem 56 = .ok (.iconst 0, 1) := by decide +kernel
theorem dX11_readItem_57 : decode cX11_readItem 57 = .ok (.ireturn, 1) := by decide +kernel
theorem dX11_readItem_58 : decode cX11_readItem 58 = .ok (.iload_n 1, 1) := by decide +kernel
theorem dX11_readItem_59 : decode cX11_readItem 59 = .ok (.ifCond .ne 85, 3) := by decide +kernel
theorem dX11_readItem_62 : decode cX11_readItem 62 = .ok (.iconst 0, 1) := by decide +kernel
theorem dX11_readItem_63 : decode cX11_readItem 63 = .ok (.istore_n 2, 1) := by decide +kernel
theorem dX11_readItem_64 : decode cX11_readItem 64 = .ok (.iload_n 2, 1) := by decide +kernel
theorem dX11_readItem_65 : decode cX11_readItem 65 = .ok (.iconst 3, 1) := by decide +kernel
theorem dX11_readItem_66 : decode cX11_readItem 66 = .ok (.if_icmp .ge 65, 3) := by decide +kernel
theorem dX11_readItem_69 : decode cX11_readItem 69 = .ok (.aload_n 0, 1) := by decide +kernel
theorem dX11_readItem_70 : decode cX11_readItem 70 = .ok (.getfield 13, 3) := by decide +kernel
theorem dX11_readItem_73 : decode cX11_readItem 73 = .ok (.iconst 3, 1) := by decide +kernel
theorem dX11_readItem_74 : decode cX11_readItem 74 = .ok (.aload_n 0, 1) := by decide +kernel
theorem dX11_readItem_75 : decode cX11_readItem 75 = .ok (.getfield 130, 3) := by decide +kernel
theorem dX11_readItem_78 : decode cX11_readItem 78 = .ok (.imul, 1) := by decide +kernel
theorem dX11_readItem_79 : decode cX11_readItem 79 = .ok (.iload_n 2, 1) := by decide +kernel
theorem dX11_readItem_80 : decode cX11_readItem 80 = .ok (.iadd, 1) := by decide +kernel
theorem dX11_readItem_81 : decode cX11_readItem 81 = .ok (.aload_n 0, 1) := by decide +kernel
theorem dX11_readItem_82 : decode cX11_readItem 82 = .ok (.iconst 0, 1) := by decide +kernel
theorem dX11_readItem_83 : decode cX11_readItem 83 = .ok (.iload_n 2, 1) := by decide +kernel
theorem dX11_readItem_84 : decode cX11_readItem 84 = .ok (.ifCond .ne 8, 3) := by decide +kernel
theorem dX11_readItem_87 : decode cX11_readItem 87 = .ok (.bipush 60, 2) := by decide +kernel
theorem dX11_readItem_89 : decode cX11_readItem 89 = .ok (.goto 14, 3) := by decide +kernel
theorem dX11_readItem_92 : decode cX11_readItem 92 = .ok (.iload_n 2, 1) := by decide +kernel
theorem dX11_readItem_93 : decode cX11_readItem 93 = .ok (.iconst 1, 1) := by decide +kernel
theorem dX11_readItem_94 : decode cX11_readItem 94 = .ok (.if_icmp .ne 8, 3) := by decide +kernel
theorem dX11_readItem_97 : decode cX11_readItem 97 = .ok (.bipush 9, 2) := by decide +kernel
theorem dX11_readItem_99 : decode cX11_readItem 99 = .ok (.goto 4, 3) := by decide +kernel
theorem dX11_readItem_102 : decode cX11_readItem 102 = .ok (.iconst 1, 1) := by decide +kernel
theorem dX11_readItem_103 : decode cX11_readItem 103 = .ok (.invokevirtual 139, 3) := by decide +kernel
theorem dX11_readItem_106 : decode cX11_readItem 106 = .ok (.iastore, 1) := by decide +kernel
theorem dX11_readItem_107 : decode cX11_readItem 107 = .ok (.aload_n 0, 1) := by decide +kernel
theorem dX11_readItem_108 : decode cX11_readItem 108 = .ok (.getfield 13, 3) := by decide +kernel
theorem dX11_readItem_111 : decode cX11_readItem 111 = .ok (.iconst 3, 1) := by decide +kernel
theorem dX11_readItem_112 : decode cX11_readItem 112 = .ok (.aload_n 0, 1) := by decide +kernel
theorem dX11_readItem_113 : decode cX11_readItem 113 = .ok (.getfield 130, 3) := by decide +kernel
theorem dX11_readItem_116 : decode cX11_readItem 116 = .ok (.imul, 1) := by decide +kernel
theorem dX11_readItem_117 : decode cX11_readItem 117 = .ok (.iload_n 2, 1) := by decide +kernel
theorem dX11_readItem_118 : decode cX11_readItem 118 = .ok (.iadd, 1) := by decide +kernel
theorem dX11_readItem_119 : decode cX11_readItem 119 = .ok (.iaload, 1) := by decide +kernel
theorem dX11_readItem_120 : decode cX11_readItem 120 = .ok (.ifCond .ge 5, 3) := by decide +kernel
theorem dX11_readItem_123 : decode cX11_readItem 123 = .ok (.iconst 0, 1) := by decide +kernel
theorem dX11_readItem_124 : decode cX11_readItem 124 = .ok (.ireturn, 1) := by decide +kernel
theorem dX11_readItem_125 : decode cX11_readItem 125 = .ok (.iinc 2 1, 3) := by decide +kernel
theorem dX11_readItem_128 : decode cX11_readItem 128 = .ok (.goto (-64), 3) := by decide +kernel
theorem dX11_readItem_131 : decode cX11_readItem 131 = .ok (.aload_n 0, 1) := by decide +kernel
theorem dX11_readItem_132 : decode cX11_readItem 132 = .ok (.dup, 1) := by decide +kernel
theorem dX11_readItem_133 : decode cX11_readItem 133 = .ok (.getfield 130, 3) := by decide +kernel
theorem dX11_readItem_136 : decode cX11_readItem 136 = .ok (.iconst 1, 1) := by decide +kernel
theorem dX11_readItem_137 : decode cX11_readItem 137 = .ok (.iadd, 1) := by decide +kernel
theorem dX11_readItem_138 : decode cX11_readItem 138 = .ok (.putfield 130, 3) := by decide +kernel
theorem dX11_readItem_141 : decode cX11_readItem 141 = .ok (.goto 113, 3) := by decide +kernel
theorem dX11_readItem_144 : decode cX11_readItem 144 = .ok (.iload_n 1, 1) := by decide +kernel
theorem dX11_readItem_145 : decode cX11_readItem 145 = .ok (.iconst 1, 1) := by decide +kernel
theorem dX11_readItem_146 : decode cX11_readItem 146 = .ok (.if_icmp .ne 50, 3) := by decide +kernel
theorem dX11_readItem_149 : decode cX11_readItem 149 = .ok (.aload_n 0, 1) := by decide +kernel
theorem dX11_readItem_150 : decode cX11_readItem 150 = .ok (.getfield 16, 3) := by decide +kernel
theorem dX11_readItem_153 : decode cX11_readItem 153 = .ok (.aload_n 0, 1) := by decide +kernel
theorem dX11_readItem_154 : decode cX11_readItem 154 = .ok (.getfield 133, 3) := by decide +kernel
theorem dX11_readItem_157 : decode cX11_readItem 157 = .ok (.aload_n 0, 1) := by decide +kernel
theorem dX11_readItem_158 : decode cX11_readItem 158 = .ok (.iconst 0, 1) := by decide +kernel
theorem dX11_readItem_159 : decode cX11_readItem 159 = .ok (.aload_n 0, 1) := by decide +kernel
theorem dX11_readItem_160 : decode cX11_readItem 160 = .ok (.getfield 130, 3) := by decide +kernel
theorem dX11_readItem_163 : decode cX11_readItem 163 = .ok (.iconst 1, 1) := by decide +kernel
theorem dX11_readItem_164 : decode cX11_readItem 164 = .ok (.isub, 1) := by decide +kernel
theorem dX11_readItem_165 : decode cX11_readItem 165 = .ok (.invokevirtual 139, 3) := by decide +kernel
theorem dX11_readItem_168 : decode cX11_readItem 168 = .ok (.iastore, 1) := by decide +kernel
theorem dX11_readItem_169 : decode cX11_readItem 169 = .ok (.aload_n 0, 1) := by decide +kernel
theorem dX11_readItem_170 : decode cX11_readItem 170 = .ok (.getfield 16, 3) := by decide +kernel
theorem dX11_readItem_173 : decode cX11_readItem 173 = .ok (.aload_n 0, 1) := by decide +kernel
theorem dX11_readItem_174 : decode cX11_readItem 174 = .ok (.getfield 133, 3) := by decide +kernel
theorem dX11_readItem_177 : decode cX11_readItem 177 = .ok (.iaload, 1) := by decide +kernel
theorem dX11_readItem_178 : decode cX11_readItem 178 = .ok (.ifCond .ge 5, 3) := by decide +kernel
theorem dX11_readItem_181 : decode cX11_readItem 181 = .ok (.iconst 0, 1) := by decide +kernel
theorem dX11_readItem_182 : decode cX11_readItem 182 = .ok (.ireturn, 1) := by decide +kernel
theorem dX11_readItem_183 : decode cX11_readItem 183 = .ok (.aload_n 0, 1) := by decide +kernel
theorem dX11_readItem_184 : decode cX11_readItem 184 = .ok (.dup, 1) := by decide +kernel
theorem dX11_readItem_185 : decode cX11_readItem 185 = .ok (.getfield 133, 3) := by decide +kernel
theorem dX11_readItem_188 : decode cX11_readItem 188 = .ok (.iconst 1, 1) := by decide +kernel
theorem dX11_readItem_189 : decode cX11_readItem 189 = .ok (.iadd, 1) := by decide +kernel
theorem dX11_readItem_190 : decode cX11_readItem 190 = .ok (.putfield 133, 3) := by decide +kernel
theorem dX11_readItem_193 : decode cX11_readItem 193 = .ok (.goto 61, 3) := by decide +kernel
theorem dX11_readItem_196 : decode cX11_readItem 196 = .ok (.aload_n 0, 1) := by decide +kernel
theorem dX11_readItem_197 : decode cX11_readItem 197 = .ok (.getfield 19, 3) := by decide +kernel
theorem dX11_readItem_200 : decode cX11_readItem 200 = .ok (.iload_n 1, 1) := by decide +kernel
theorem dX11_readItem_201 : decode cX11_readItem 201 = .ok (.iconst 2, 1) := by decide +kernel
theorem dX11_readItem_202 : decode cX11_readItem 202 = .ok (.isub, 1) := by decide +kernel
theorem dX11_readItem_203 : decode cX11_readItem 203 = .ok (.aload_n 0, 1) := by decide +kernel
theorem dX11_readItem_204 : decode cX11_readItem 204 = .ok (.iload_n 1, 1) := by decide +kernel
theorem dX11_readItem_205 : decode cX11_readItem 205 = .ok (.iconst 4, 1) := by decide +kernel
theorem dX11_readItem_206 : decode cX11_readItem 206 = .ok (.if_icmp .ne 7, 3) := by decide +kernel
theorem dX11_readItem_209 : decode cX11_readItem 209 = .ok (.iconst 1, 1) := by decide +kernel
theorem dX11_readItem_210 : decode cX11_readItem 210 = .ok (.goto 4, 3) := by decide +kernel
theorem dX11_readItem_213 : decode cX11_readItem 213 = .ok (.iconst 0, 1) := by decide +kernel
theorem dX11_readItem_214 : decode cX11_readItem 214 = .ok (.iload_n 1, 1) := by decide +kernel
theorem dX11_readItem_215 : decode cX11_readItem 215 = .ok (.iconst 4, 1) := by decide +kernel
theorem dX11_readItem_216 : decode cX11_readItem 216 = .ok (.if_icmp .ne 7, 3) := by decide +kernel
theorem dX11_readItem_219 : decode cX11_readItem 219 = .ok (.iconst 4, 1) := by decide +kernel
theorem dX11_readItem_220 : decode cX11_readItem 220 = .ok (.goto 5, 3) := by decide +kernel
theorem dX11_readItem_223 : decode cX11_readItem 223 = .ok (.bipush 9, 2) := by decide +kernel
theorem dX11_readItem_225 : decode cX11_readItem 225 = .ok (.invokevirtual 139, 3) := by decide +kernel
theorem dX11_readItem_228 : decode cX11_readItem 228 = .ok (.iastore, 1) := by decide +kernel
theorem dX11_readItem_229 : decode cX11_readItem 229 = .ok (.aload_n 0, 1) := by decide +kernel
theorem dX11_readItem_230 : decode cX11_readItem 230 = .ok (.getfield 19, 3) := by decide +kernel
theorem dX11_readItem_233 : decode cX11_readItem 233 = .ok (.iload_n 1, 1) := by decide +kernel
theorem dX11_readItem_234 : decode cX11_readItem 234 = .ok (.iconst 2, 1) := by decide +kernel
theorem dX11_readItem_235 : decode cX11_readItem 235 = .ok (.isub, 1) := by decide +kernel
theorem dX11_readItem_236 : decode cX11_readItem 236 = .ok (.iaload, 1) := by decide +kernel
theorem dX11_readItem_237 : decode cX11_readItem 237 = .ok (.ifCond .ge 5, 3) := by decide +kernel
theorem dX11_readItem_240 : decode cX11_readItem 240 = .ok (.iconst 0, 1) := by decide +kernel
theorem dX11_readItem_241 : decode cX11_readItem 241 = .ok (.ireturn, 1) := by decide +kernel
theorem dX11_readItem_242 : decode cX11_readItem 242 = .ok (.aload_n 0, 1) := by decide +kernel
theorem dX11_readItem_243 : decode cX11_readItem 243 = .ok (.dup, 1) := by decide +kernel
theorem dX11_readItem_244 : decode cX11_readItem 244 = .ok (.getfield 136, 3) := by decide +kernel
theorem dX11_readItem_247 : decode cX11_readItem 247 = .ok (.iconst 1, 1) := by decide +kernel
theorem dX11_readItem_248 : decode cX11_readItem 248 = .ok (.iload_n 1, 1) := by decide +kernel
theorem dX11_readItem_249 : decode cX11_readItem 249 = .ok (.ishl, 1) := by decide +kernel
theorem dX11_readItem_250 : decode cX11_readItem 250 = .ok (.ior, 1) := by decide +kernel
theorem dX11_readItem_251 : decode cX11_readItem 251 = .ok (.putfield 136, 3) := by decide +kernel
theorem dX11_readItem_254 : decode cX11_readItem 254 = .ok (.aload_n 0, 1) := by decide +kernel
theorem dX11_readItem_255 : decode cX11_readItem 255 = .ok (.invokevirtual 127, 3) := by decide +kernel
theorem dX11_readItem_258 : decode cX11_readItem 258 = .ok (.aload_n 0, 1) := by decide +kernel
theorem dX11_readItem_259 : decode cX11_readItem 259 = .ok (.getfield 107, 3) := by decide +kernel
theorem dX11_readItem_262 : decode cX11_readItem 262 = .ok (.iconst 3, 1) := by decide +kernel
theorem dX11_readItem_263 : decode cX11_readItem 263 = .ok (.if_icmp .ne 7, 3) := by decide +kernel
theorem dX11_readItem_266 : decode cX11_readItem 266 = .ok (.iconst 1, 1) := by decide +kernel
theorem dX11_readItem_267 : decode cX11_readItem 267 = .ok (.goto 4, 3) := by decide +kernel
theorem dX11_readItem_270 : decode cX11_readItem 270 = .ok (.iconst 0, 1) := by decide +kernel
theorem dX11_readItem_271 : decode cX11_readItem 271 = .ok (.ireturn, 1) := by decide +kernel
set_option maxRecDepth 20000 in
theorem ggX11_shaft_X11_reads : GoodIn wsX11_shaft wsX11_reads := goodIn_r _ [27, 1, 22, 28, 7, 6, 29, 30, 31, 32, 33, 34, 35, 36, 37, 38, 26, 39, 40, 41, 42, 43, 44, 45, 46, 47, 48, 49, 58, 59, 60, 61, 62, 63, 64, 65, 66, 67, 68, 69, 70, 71, 72, 73, 74, 75, 76, 77, 78, 79, 80, 81, 82, 83, 84, 85, 86, 87, 88, 89, 90, 91, 92, 93] (by decide +kernel) (by decide +kernel)
set_option maxRecDepth 20000 in
theorem gX11_shaft_X11_reads : GoodIn wsX11_shaft (wsV RX11 127 RX11 yX11_reads wsX11_reads) := goodIn_app (goodIn_of _ (by decide +kernel)) ggX11_shaft_X11_reads
set_option maxRecDepth 20000 in
theorem ggX11_shaft_X11_readItem : GoodIn wsX11_shaft wsX11_readItem := goodIn_r _ [53, 36, 6, 2, 3, 4, 11, 15, 5, 54, 55, 56, 26, 57, 23, 24, 25, 27, 1, 22, 28, 7, 29, 30, 31, 32, 33, 34, 35, 37, 38, 39, 40, 41, 42, 43, 44, 45, 46, 47, 48, 49, 58, 59, 60, 61, 62, 63, 64, 65, 66, 67, 68, 69, 70, 71, 72, 73, 74, 75, 76, 77, 78, 79, 80, 81, 82, 83, 84, 85, 86, 87, 88, 89, 90, 91, 92, 93] (by decide +kernel) (by decide +kernel)
set_option maxRecDepth 20000 in
theorem gX11_shaft_X11_readItem : GoodIn wsX11_shaft (wsV RX11 143 RX11 yX11_readItem wsX11_readItem) := goodIn_app (goodIn_of _ (by decide +kernel)) ggX11_shaft_X11_readItem
theorem dX11_shaft_0 : decode cX11_shaft 0 = .ok (.aload_n 0, 1) := by decide +kernel
theorem dX11_shaft_1 : decode cX11_shaft 1 = .ok (.iconst 0, 1) := by decide +kernel
theorem dX11_shaft_2 : decode cX11_shaft 2 = .ok (.putfield 94, 3) := by decide +kernel
theorem dX11_shaft_5 : decode cX11_shaft 5 = .ok (.aload_n 0, 1) := by decide +kernel
theorem dX11_shaft_6 : decode cX11_shaft 6 = .ok (.iconst 0, 1) := by decide +kernel
theorem dX11_shaft_7 : decode cX11_shaft 7 = .ok (.putfield 130, 3) := by decide +kernel
theorem dX11_shaft_10 : decode cX11_shaft 10 = .ok (.aload_n 0, 1) := by decide +kernel
theorem dX11_shaft_11 : decode cX11_shaft 11 = .ok (.iconst 0, 1) := by decide +kernel
theorem dX11_shaft_12 : decode cX11_shaft 12 = .ok (.putfield 133, 3) := by decide +kernel
theorem dX11_shaft_15 : decode cX11_shaft 15 = .ok (.aload_n 0, 1) := by decide +kernel
theorem dX11_shaft_16 : decode cX11_shaft 16 = .ok (.iconst 0, 1) := by decide +kernel
theorem dX11_shaft_17 : decode cX11_shaft 17 = .ok (.putfield 136, 3) := by decide +kernel
theorem dX11_shaft_20 : decode cX11_shaft 20 = .ok (.aload_n 0, 1) := by decide +kernel
theorem dX11_shaft_21 : decode cX11_shaft 21 = .ok (.getfield 19, 3) := by decide +kernel
theorem dX11_shaft_24 : decode cX11_shaft 24 = .ok (.iconst 0, 1) := by decide +kernel
theorem dX11_shaft_25 : decode cX11_shaft 25 = .ok (.iconst 0, 1) := by decide +kernel
theorem dX11_shaft_26 : decode cX11_shaft 26 = .ok (.iastore, 1) := by decide +kernel
theorem dX11_shaft_27 : decode cX11_shaft 27 = .ok (.aload_n 0, 1) := by decide +kernel
theorem dX11_shaft_28 : decode cX11_shaft 28 = .ok (.getfield 19, 3) := by decide +kernel
theorem dX11_shaft_31 : decode cX11_shaft 31 = .ok (.iconst 1, 1) := by decide +kernel
theorem dX11_shaft_32 : decode cX11_shaft 32 = .ok (.iconst 0, 1) := by decide +kernel
theorem dX11_shaft_33 : decode cX11_shaft 33 = .ok (.iastore, 1) := by decide +kernel
theorem dX11_shaft_34 : decode cX11_shaft 34 = .ok (.aload_n 0, 1) := by decide +kernel
theorem dX11_shaft_35 : decode cX11_shaft 35 = .ok (.getfield 19, 3) := by decide +kernel
theorem dX11_shaft_38 : decode cX11_shaft 38 = .ok (.iconst 2, 1) := by decide +kernel
theorem dX11_shaft_39 : decode cX11_shaft 39 = .ok (.iconst 1, 1) := by decide +kernel
theorem dX11_shaft_40 : decode cX11_shaft 40 = .ok (.iastore, 1) := by decide +kernel
theorem dX11_shaft_41 : decode cX11_shaft 41 = .ok (.iconst 0, 1) := by decide +kernel
theorem dX11_shaft_42 : decode cX11_shaft 42 = .ok (.istore_n 1, 1) := by decide +kernel
theorem dX11_shaft_43 : decode cX11_shaft 43 = .ok (.aload_n 0, 1) := by decide +kernel
theorem dX11_shaft_44 : decode cX11_shaft 44 = .ok (.invokevirtual 127, 3) := by decide +kernel
theorem dX11_shaft_47 : decode cX11_shaft 47 = .ok (.aload_n 0, 1) := by decide +kernel
theorem dX11_shaft_48 : decode cX11_shaft 48 = .ok (.getfield 107, 3) := by decide +kernel
theorem dX11_shaft_51 : decode cX11_shaft 51 = .ok (.ifCond .eq 28, 3) := by decide +kernel
theorem dX11_shaft_54 : decode cX11_shaft 54 = .ok (.aload_n 0, 1) := by decide +kernel
theorem dX11_shaft_55 : decode cX11_shaft 55 = .ok (.invokevirtual 143, 3) := by decide +kernel
theorem dX11_shaft_58 : decode cX11_shaft 58 = .ok (.ifCond .ne 11, 3) := by decide +kernel
theorem dX11_shaft_61 : decode cX11_shaft 61 = .ok (.bipush (-10), 2) := by decide +kernel
theorem dX11_shaft_63 : decode cX11_shaft 63 = .ok (.aload_n 0, 1) := by decide +kernel
theorem dX11_shaft_64 : decode cX11_shaft 64 = .ok (.getfield 97, 3) := by decide +kernel
theorem dX11_shaft_67 : decode cX11_shaft 67 = .ok (.isub, 1) := by decide +kernel
theorem dX11_shaft_68 : decode cX11_shaft 68 = .ok (.ireturn, 1) := by decide +kernel
theorem dX11_shaft_69 : decode cX11_shaft 69 = .ok (.iinc 1 1, 3) := by decide +kernel
theorem dX11_shaft_72 : decode cX11_shaft 72 = .ok (.aload_n 0, 1) := by decide +kernel
theorem dX11_shaft_73 : decode cX11_shaft 73 = .ok (.invokevirtual 127, 3) := by decide +kernel
theorem dX11_shaft_76 : decode cX11_shaft 76 = .ok (.goto (-29), 3) := by decide +kernel
theorem dX11_shaft_79 : decode cX11_shaft 79 = .ok (.aload_n 0, 1) := by decide +kernel
theorem dX11_shaft_80 : decode cX11_shaft 80 = .ok (.aload_n 0, 1) := by decide +kernel
theorem dX11_shaft_81 : decode cX11_shaft 81 = .ok (.getfield 130, 3) := by decide +kernel
theorem dX11_shaft_84 : decode cX11_shaft 84 = .ok (.putfield 147, 3) := by decide +kernel
theorem dX11_shaft_87 : decode cX11_shaft 87 = .ok (.aload_n 0, 1) := by decide +kernel
theorem dX11_shaft_88 : decode cX11_shaft 88 = .ok (.aload_n 0, 1) := by decide +kernel
theorem dX11_shaft_89 : decode cX11_shaft 89 = .ok (.getfield 133, 3) := by decide +kernel
theorem dX11_shaft_92 : decode cX11_shaft 92 = .ok (.putfield 150, 3) := by decide +kernel
theorem dX11_shaft_95 : decode cX11_shaft 95 = .ok (.iconst 0, 1) := by decide +kernel
theorem dX11_shaft_96 : decode cX11_shaft 96 = .ok (.istore_n 2, 1) := by decide +kernel
theorem dX11_shaft_97 : decode cX11_shaft 97 = .ok (.iload_n 2, 1) := by decide +kernel
theorem dX11_shaft_98 : decode cX11_shaft 98 = .ok (.aload_n 0, 1) := by decide +kernel
theorem dX11_shaft_99 : decode cX11_shaft 99 = .ok (.getfield 147, 3) := by decide +kernel
theorem dX11_shaft_102 : decode cX11_shaft 102 = .ok (.if_icmp .ge 55, 3) := by decide +kernel
theorem dX11_shaft_105 : decode cX11_shaft 105 = .ok (.aload_n 0, 1) := by decide +kernel
theorem dX11_shaft_106 : decode cX11_shaft 106 = .ok (.getfield 22, 3) := by decide +kernel
theorem dX11_shaft_109 : decode cX11_shaft 109 = .ok (.iload_n 2, 1) := by decide +kernel
theorem dX11_shaft_110 : decode cX11_shaft 110 = .ok (.aload_n 0, 1) := by decide +kernel
theorem dX11_shaft_111 : decode cX11_shaft 111 = .ok (.getfield 13, 3) := by decide +kernel
theorem dX11_shaft_114 : decode cX11_shaft 114 = .ok (.iconst 3, 1) := by decide +kernel
theorem dX11_shaft_115 : decode cX11_shaft 115 = .ok (.iload_n 2, 1) := by decide +kernel
theorem dX11_shaft_116 : decode cX11_shaft 116 = .ok (.imul, 1) := by decide +kernel
theorem dX11_shaft_117 : decode cX11_shaft 117 = .ok (.iaload, 1) := by decide +kernel
theorem dX11_shaft_118 : decode cX11_shaft 118 = .ok (.iastore, 1) := by decide +kernel
theorem dX11_shaft_119 : decode cX11_shaft 119 = .ok (.aload_n 0, 1) := by decide +kernel
theorem dX11_shaft_120 : decode cX11_shaft 120 = .ok (.getfield 25, 3) := by decide +kernel
theorem dX11_shaft_123 : decode cX11_shaft 123 = .ok (.iload_n 2, 1) := by decide +kernel
theorem dX11_shaft_124 : decode cX11_shaft 124 = .ok (.aload_n 0, 1) := by decide +kernel
theorem dX11_shaft_125 : decode cX11_shaft 125 = .ok (.getfield 13, 3) := by decide +kernel
theorem dX11_shaft_128 : decode cX11_shaft 128 = .ok (.iconst 3, 1) := by decide +kernel
theorem dX11_shaft_129 : decode cX11_shaft 129 = .ok (.iload_n 2, 1) := by decide +kernel
theorem dX11_shaft_130 : decode cX11_shaft 130 = .ok (.imul, 1) := by decide +kernel
theorem dX11_shaft_131 : decode cX11_shaft 131 = .ok (.iconst 1, 1) := by decide +kernel
theorem dX11_shaft_132 : decode cX11_shaft 132 = .ok (.iadd, 1) := by decide +kernel
theorem dX11_shaft_133 : decode cX11_shaft 133 = .ok (.iaload, 1) := by decide +kernel
theorem dX11_shaft_134 : decode cX11_shaft 134 = .ok (.iastore, 1) := by decide +kernel
theorem dX11_shaft_135 : decode cX11_shaft 135 = .ok (.aload_n 0, 1) := by decide +kernel
theorem dX11_shaft_136 : decode cX11_shaft 136 = .ok (.getfield 28, 3) := by decide +kernel
theorem dX11_shaft_139 : decode cX11_shaft 139 = .ok (.iload_n 2, 1) := by decide +kernel
theorem dX11_shaft_140 : decode cX11_shaft 140 = .ok (.aload_n 0, 1) := by decide +kernel
theorem dX11_shaft_141 : decode cX11_shaft 141 = .ok (.getfield 13, 3) := by decide +kernel
theorem dX11_shaft_144 : decode cX11_shaft 144 = .ok (.iconst 3, 1) := by decide +kernel
theorem dX11_shaft_145 : decode cX11_shaft 145 = .ok (.iload_n 2, 1) := by decide +kernel
theorem dX11_shaft_146 : decode cX11_shaft 146 = .ok (.imul, 1) := by decide +kernel
theorem dX11_shaft_147 : decode cX11_shaft 147 = .ok (.iconst 2, 1) := by decide +kernel
theorem dX11_shaft_148 : decode cX11_shaft 148 = .ok (.iadd, 1) := by decide +kernel
theorem dX11_shaft_149 : decode cX11_shaft 149 = .ok (.iaload, 1) := by decide +kernel
theorem dX11_shaft_150 : decode cX11_shaft 150 = .ok (.iastore, 1) := by decide +kernel
theorem dX11_shaft_151 : decode cX11_shaft 151 = .ok (.iinc 2 1, 3) := by decide +kernel
theorem dX11_shaft_154 : decode cX11_shaft 154 = .ok (.goto (-57), 3) := by decide +kernel
theorem dX11_shaft_157 : decode cX11_shaft 157 = .ok (.iconst 0, 1) := by decide +kernel
theorem dX11_shaft_158 : decode cX11_shaft 158 = .ok (.istore_n 2, 1) := by decide +kernel
theorem dX11_shaft_159 : decode cX11_shaft 159 = .ok (.iload_n 2, 1) := by decide +kernel
theorem dX11_shaft_160 : decode cX11_shaft 160 = .ok (.iconst 3, 1) := by decide +kernel
theorem dX11_shaft_161 : decode cX11_shaft 161 = .ok (.if_icmp .ge 33, 3) := by decide +kernel
theorem dX11_shaft_164 : decode cX11_shaft 164 = .ok (.aload_n 0, 1) := by decide +kernel
theorem dX11_shaft_165 : decode cX11_shaft 165 = .ok (.getfield 31, 3) := by decide +kernel
theorem dX11_shaft_168 : decode cX11_shaft 168 = .ok (.iload_n 2, 1) := by decide +kernel
theorem dX11_shaft_169 : decode cX11_shaft 169 = .ok (.iload_n 2, 1) := by decide +kernel
theorem dX11_shaft_170 : decode cX11_shaft 170 = .ok (.aload_n 0, 1) := by decide +kernel
theorem dX11_shaft_171 : decode cX11_shaft 171 = .ok (.getfield 150, 3) := by decide +kernel
theorem dX11_shaft_174 : decode cX11_shaft 174 = .ok (.if_icmp .ge 12, 3) := by decide +kernel
theorem dX11_shaft_177 : decode cX11_shaft 177 = .ok (.aload_n 0, 1) := by decide +kernel
theorem dX11_shaft_178 : decode cX11_shaft 178 = .ok (.getfield 16, 3) := by decide +kernel
theorem dX11_shaft_181 : decode cX11_shaft 181 = .ok (.iload_n 2, 1) := by decide +kernel
theorem dX11_shaft_182 : decode cX11_shaft 182 = .ok (.iaload, 1) := by decide +kernel
theorem dX11_shaft_183 : decode cX11_shaft 183 = .ok (.goto 4, 3) := by decide +kernel
theorem dX11_shaft_186 : decode cX11_shaft 186 = .ok (.iconst 0, 1) := by decide +kernel
theorem dX11_shaft_187 : decode cX11_shaft 187 = .ok (.iastore, 1) := by decide +kernel
theorem dX11_shaft_188 : decode cX11_shaft 188 = .ok (.iinc 2 1, 3) := by decide +kernel
theorem dX11_shaft_191 : decode cX11_shaft 191 = .ok (.goto (-32), 3) := by decide +kernel
theorem dX11_shaft_194 : decode cX11_shaft 194 = .ok (.iconst 0, 1) := by decide +kernel
theorem dX11_shaft_195 : decode cX11_shaft 195 = .ok (.istore_n 2, 1) := by decide +kernel
theorem dX11_shaft_196 : decode cX11_shaft 196 = .ok (.iload_n 2, 1) := by decide +kernel
theorem dX11_shaft_197 : decode cX11_shaft 197 = .ok (.iconst 3, 1) := by decide +kernel
theorem dX11_shaft_198 : decode cX11_shaft 198 = .ok (.if_icmp .ge 21, 3) := by decide +kernel
theorem dX11_shaft_201 : decode cX11_shaft 201 = .ok (.aload_n 0, 1) := by decide +kernel
theorem dX11_shaft_202 : decode cX11_shaft 202 = .ok (.getfield 34, 3) := by decide +kernel
theorem dX11_shaft_205 : decode cX11_shaft 205 = .ok (.iload_n 2, 1) := by decide +kernel
theorem dX11_shaft_206 : decode cX11_shaft 206 = .ok (.aload_n 0, 1) := by decide +kernel
theorem dX11_shaft_207 : decode cX11_shaft 207 = .ok (.getfield 19, 3) := by decide +kernel
theorem dX11_shaft_210 : decode cX11_shaft 210 = .ok (.iload_n 2, 1) := by decide +kernel
theorem dX11_shaft_211 : decode cX11_shaft 211 = .ok (.iaload, 1) := by decide +kernel
theorem dX11_shaft_212 : decode cX11_shaft 212 = .ok (.iastore, 1) := by decide +kernel
theorem dX11_shaft_213 : decode cX11_shaft 213 = .ok (.iinc 2 1, 3) := by decide +kernel
theorem dX11_shaft_216 : decode cX11_shaft 216 = .ok (.goto (-20), 3) := by decide +kernel
theorem dX11_shaft_219 : decode cX11_shaft 219 = .ok (.aload_n 0, 1) := by decide +kernel
theorem dX11_shaft_220 : decode cX11_shaft 220 = .ok (.iconst 0, 1) := by decide +kernel
theorem dX11_shaft_221 : decode cX11_shaft 221 = .ok (.putfield 153, 3) := by decide +kernel
theorem dX11_shaft_224 : decode cX11_shaft 224 = .ok (.aload_n 0, 1) := by decide +kernel
theorem dX11_shaft_225 : decode cX11_shaft 225 = .ok (.bipush 8, 2) := by decide +kernel
theorem dX11_shaft_227 : decode cX11_shaft 227 = .ok (.putfield 71, 3) := by decide +kernel
theorem dX11_shaft_230 : decode cX11_shaft 230 = .ok (.aload_n 0, 1) := by decide +kernel
theorem dX11_shaft_231 : decode cX11_shaft 231 = .ok (.iconst 0, 1) := by decide +kernel
theorem dX11_shaft_232 : decode cX11_shaft 232 = .ok (.putfield 156, 3) := by decide +kernel
theorem dX11_shaft_235 : decode cX11_shaft 235 = .ok (.aload_n 0, 1) := by decide +kernel
theorem dX11_shaft_236 : decode cX11_shaft 236 = .ok (.iconst 0, 1) := by decide +kernel
theorem dX11_shaft_237 : decode cX11_shaft 237 = .ok (.putfield 159, 3) := by decide +kernel
theorem dX11_shaft_240 : decode cX11_shaft 240 = .ok (.aload_n 0, 1) := by decide +kernel
theorem dX11_shaft_241 : decode cX11_shaft 241 = .ok (.getfield 68, 3) := by decide +kernel
theorem dX11_shaft_244 : decode cX11_shaft 244 = .ok (.iconst 0, 1) := by decide +kernel
theorem dX11_shaft_245 : decode cX11_shaft 245 = .ok (.iconst (-1), 1) := by decide +kernel
theorem dX11_shaft_246 : decode cX11_shaft 246 = .ok (.iastore, 1) := by decide +kernel
theorem dX11_shaft_247 : decode cX11_shaft 247 = .ok (.aload_n 0, 1) := by decide +kernel
theorem dX11_shaft_248 : decode cX11_shaft 248 = .ok (.getfield 68, 3) := by decide +kernel
theorem dX11_shaft_251 : decode cX11_shaft 251 = .ok (.bipush 36, 2) := by decide +kernel
theorem dX11_shaft_253 : decode cX11_shaft 253 = .ok (.iconst (-1), 1) := by decide +kernel
theorem dX11_shaft_254 : decode cX11_shaft 254 = .ok (.iastore, 1) := by decide +kernel
theorem dX11_shaft_255 : decode cX11_shaft 255 = .ok (.aload_n 0, 1) := by decide +kernel
theorem dX11_shaft_256 : decode cX11_shaft 256 = .ok (.iconst 0, 1) := by decide +kernel
theorem dX11_shaft_257 : decode cX11_shaft 257 = .ok (.putfield 81, 3) := by decide +kernel
theorem dX11_shaft_260 : decode cX11_shaft 260 = .ok (.iload_n 1, 1) := by decide +kernel
theorem dX11_shaft_261 : decode cX11_shaft 261 = .ok (.ireturn, 1) := by decide +kernel
set_option maxRecDepth 20000 in
theorem ggX11_isLevel_X11_in : GoodIn wsX11_isLevel wsX11_in := goodIn_r _ [5] (by decide +kernel) (by decide +kernel)
set_option maxRecDepth 20000 in
theorem gX11_isLevel_X11_in : GoodIn wsX11_isLevel (va_wsS RX11 77 yX11_in wsX11_in) := goodIn_app (goodIn_of _ (by decide +kernel)) ggX11_isLevel_X11_in
theorem dX11_isLevel_0 : decode cX11_isLevel 0 = .ok (.iload_n 1, 1) := by decide +kernel
theorem dX11_isLevel_1 : decode cX11_isLevel 1 = .ok (.i2l, 1) := by decide +kernel
theorem dX11_isLevel_2 : decode cX11_isLevel 2 = .ok (.lconst 0, 1) := by decide +kernel
theorem dX11_isLevel_3 : decode cX11_isLevel 3 = .ok (.aload_n 0, 1) := by decide +kernel
theorem dX11_isLevel_4 : decode cX11_isLevel 4 = .ok (.getfield 147, 3) := by decide +kernel
theorem dX11_isLevel_7 : decode cX11_isLevel 7 = .ok (.iconst 1, 1) := by decide +kernel
theorem dX11_isLevel_8 : decode cX11_isLevel 8 = .ok (.isub, 1) := by decide +kernel
theorem dX11_isLevel_9 : decode cX11_isLevel 9 = .ok (.i2l, 1) := by decide +kernel
theorem dX11_isLevel_10 : decode cX11_isLevel 10 = .ok (.invokestatic 77, 3) := by decide +kernel
theorem dX11_isLevel_13 : decode cX11_isLevel 13 = .ok (.ireturn, 1) := by decide +kernel
set_option maxRecDepth 20000 in
theorem ggX11_isMan_X11_in : GoodIn wsX11_isMan wsX11_in := goodIn_r _ [5] (by decide +kernel) (by decide +kernel)
set_option maxRecDepth 20000 in
theorem gX11_isMan_X11_in : GoodIn wsX11_isMan (va_wsS RX11 77 yX11_in wsX11_in) := goodIn_app (goodIn_of _ (by decide +kernel)) ggX11_isMan_X11_in
theorem dX11_isMan_0 : decode cX11_isMan 0 = .ok (.iload_n 1, 1) := by decide +kernel
theorem dX11_isMan_1 : decode cX11_isMan 1 = .ok (.i2l, 1) := by decide +kernel
theorem dX11_isMan_2 : decode cX11_isMan 2 = .ok (.lconst 0, 1) := by decide +kernel
theorem dX11_isMan_3 : decode cX11_isMan 3 = .ok (.aload_n 0, 1) := by decide +kernel
theorem dX11_isMan_4 : decode cX11_isMan 4 = .ok (.getfield 150, 3) := by decide +kernel
theorem dX11_isMan_7 : decode cX11_isMan 7 = .ok (.iconst 1, 1) := by decide +kernel
theorem dX11_isMan_8 : decode cX11_isMan 8 = .ok (.isub, 1) := by decide +kernel
theorem dX11_isMan_9 : decode cX11_isMan 9 = .ok (.i2l, 1) := by decide +kernel
theorem dX11_isMan_10 : decode cX11_isMan 10 = .ok (.invokestatic 77, 3) := by decide +kernel
theorem dX11_isMan_13 : decode cX11_isMan 13 = .ok (.ireturn, 1) := by decide +kernel
set_option maxRecDepth 20000 in
theorem ggX11_isNote_X11_in : GoodIn wsX11_isNote wsX11_in := goodIn_r _ [6] (by decide +kernel) (by decide +kernel)
set_option maxRecDepth 20000 in
theorem gX11_isNote_X11_in : GoodIn wsX11_isNote (va_wsS RX11 77 yX11_in wsX11_in) := goodIn_app (goodIn_of _ (by decide +kernel)) ggX11_isNote_X11_in
theorem dX11_isNote_0 : decode cX11_isNote 0 = .ok (.iload_n 0, 1) := by decide +kernel
theorem dX11_isNote_1 : decode cX11_isNote 1 = .ok (.i2l, 1) := by decide +kernel
theorem dX11_isNote_2 : decode cX11_isNote 2 = .ok (.ldc2_w 162, 3) := by decide +kernel
theorem dX11_isNote_5 : decode cX11_isNote 5 = .ok (.ldc2_w 164, 3) := by decide +kernel
theorem dX11_isNote_8 : decode cX11_isNote 8 = .ok (.invokestatic 77, 3) := by decide +kernel
theorem dX11_isNote_11 : decode cX11_isNote 11 = .ok (.ireturn, 1) := by decide +kernel
theorem dX11_away_0 : decode cX11_away 0 = .ok (.iload_n 0, 1) := by decide +kernel
theorem dX11_away_1 : decode cX11_away 1 = .ok (.iload_n 1, 1) := by decide +kernel
theorem dX11_away_2 : decode cX11_away 2 = .ok (.if_icmp .le 9, 3) := by decide +kernel
theorem dX11_away_5 : decode cX11_away 5 = .ok (.iload_n 0, 1) := by decide +kernel
theorem dX11_away_6 : decode cX11_away 6 = .ok (.iload_n 1, 1) := by decide +kernel
theorem dX11_away_7 : decode cX11_away 7 = .ok (.isub, 1) := by decide +kernel
theorem dX11_away_8 : decode cX11_away 8 = .ok (.goto 6, 3) := by decide +kernel
theorem dX11_away_11 : decode cX11_away 11 = .ok (.iload_n 1, 1) := by decide +kernel
theorem dX11_away_12 : decode cX11_away 12 = .ok (.iload_n 0, 1) := by decide +kernel
theorem dX11_away_13 : decode cX11_away 13 = .ok (.isub, 1) := by decide +kernel
theorem dX11_away_14 : decode cX11_away 14 = .ok (.ireturn, 1) := by decide +kernel
theorem dX11_sound_0 : decode cX11_sound 0 = .ok (.iload_n 0, 1) := by decide +kernel
theorem dX11_sound_1 : decode cX11_sound 1 = .ok (.iload_n 2, 1) := by decide +kernel
theorem dX11_sound_2 : decode cX11_sound 2 = .ok (.iload_n 1, 1) := by decide +kernel
theorem dX11_sound_3 : decode cX11_sound 3 = .ok (.iconst 1, 1) := by decide +kernel
theorem dX11_sound_4 : decode cX11_sound 4 = .ok (.iadd, 1) := by decide +kernel
theorem dX11_sound_5 : decode cX11_sound 5 = .ok (.imul, 1) := by decide +kernel
theorem dX11_sound_6 : decode cX11_sound 6 = .ok (.iconst 2, 1) := by decide +kernel
theorem dX11_sound_7 : decode cX11_sound 7 = .ok (.idiv, 1) := by decide +kernel
theorem dX11_sound_8 : decode cX11_sound 8 = .ok (.isub, 1) := by decide +kernel
theorem dX11_sound_9 : decode cX11_sound 9 = .ok (.ireturn, 1) := by decide +kernel
set_option maxRecDepth 20000 in
theorem ggX11_soundOf_X11_sound : GoodIn wsX11_soundOf wsX11_sound := goodIn_r _ [6] (by decide +kernel) (by decide +kernel)
set_option maxRecDepth 20000 in
theorem gX11_soundOf_X11_sound : GoodIn wsX11_soundOf (va_wsS RX11 166 yX11_sound wsX11_sound) := goodIn_app (goodIn_of _ (by decide +kernel)) ggX11_soundOf_X11_sound
theorem dX11_soundOf_0 : decode cX11_soundOf 0 = .ok (.aload_n 0, 1) := by decide +kernel
theorem dX11_soundOf_1 : decode cX11_soundOf 1 = .ok (.getfield 22, 3) := by decide +kernel
theorem dX11_soundOf_4 : decode cX11_soundOf 4 = .ok (.iload_n 1, 1) := by decide +kernel
theorem dX11_soundOf_5 : decode cX11_soundOf 5 = .ok (.iaload, 1) := by decide +kernel
theorem dX11_soundOf_6 : decode cX11_soundOf 6 = .ok (.iload_n 1, 1) := by decide +kernel
theorem dX11_soundOf_7 : decode cX11_soundOf 7 = .ok (.aload_n 0, 1) := by decide +kernel
theorem dX11_soundOf_8 : decode cX11_soundOf 8 = .ok (.getfield 34, 3) := by decide +kernel
theorem dX11_soundOf_11 : decode cX11_soundOf 11 = .ok (.iconst 1, 1) := by decide +kernel
theorem dX11_soundOf_12 : decode cX11_soundOf 12 = .ok (.iaload, 1) := by decide +kernel
theorem dX11_soundOf_13 : decode cX11_soundOf 13 = .ok (.invokestatic 166, 3) := by decide +kernel
theorem dX11_soundOf_16 : decode cX11_soundOf 16 = .ok (.ireturn, 1) := by decide +kernel
set_option maxRecDepth 20000 in
theorem ggX11_level_X11_isLevel : GoodIn wsX11_level wsX11_isLevel := goodIn_r _ [10, 11, 12, 13, 9, 14, 23, 24, 25, 26, 27, 28, 29, 30, 31, 32, 33, 34, 35, 36, 37, 38, 39, 40, 41, 42, 43, 44, 45, 46, 47, 48, 49, 50, 51, 52, 53, 54, 55, 56, 57, 58] (by decide +kernel) (by decide +kernel)
set_option maxRecDepth 20000 in
theorem gX11_level_X11_isLevel : GoodIn wsX11_level (wsV RX11 170 RX11 yX11_isLevel wsX11_isLevel) := goodIn_app (goodIn_of _ (by decide +kernel)) ggX11_level_X11_isLevel
set_option maxRecDepth 20000 in
theorem ggX11_level_X11_in : GoodIn wsX11_level wsX11_in := goodIn_r _ [14] (by decide +kernel) (by decide +kernel)
set_option maxRecDepth 20000 in
theorem gX11_level_X11_in : GoodIn wsX11_level (va_wsS RX11 77 yX11_in wsX11_in) := goodIn_app (goodIn_of _ (by decide +kernel)) ggX11_level_X11_in
set_option maxRecDepth 20000 in
theorem ggX11_level_X11_soundOf : GoodIn wsX11_level wsX11_soundOf := goodIn_r _ [18, 3, 19, 20, 21, 9, 22, 23, 24, 25, 26, 27, 28, 29, 30, 31, 32, 33, 34, 35, 36, 37, 38, 39, 40, 41, 42, 43, 44, 45, 46, 47, 48, 49, 50, 51, 52, 53, 54, 55, 56, 57, 58] (by decide +kernel) (by decide +kernel)
set_option maxRecDepth 20000 in
theorem gX11_level_X11_soundOf : GoodIn wsX11_level (wsV RX11 176 RX11 yX11_soundOf wsX11_soundOf) := goodIn_app (goodIn_of _ (by decide +kernel)) ggX11_level_X11_soundOf
theorem dX11_level_0 : decode cX11_level 0 = .ok (.aload_n 0, 1) := by decide +kernel
theorem dX11_level_1 : decode cX11_level 1 = .ok (.iload_n 1, 1) := by decide +kernel
theorem dX11_level_2 : decode cX11_level 2 = .ok (.invokevirtual 170, 3) := by decide +kernel
theorem dX11_level_5 : decode cX11_level 5 = .ok (.ifCond .eq 15, 3) := by decide +kernel
theorem dX11_level_8 : decode cX11_level 8 = .ok (.iload_n 2, 1) := by decide +kernel
theorem dX11_level_9 : decode cX11_level 9 = .ok (.i2l, 1) := by decide +kernel
theorem dX11_level_10 : decode cX11_level 10 = .ok (.lconst 0, 1) := by decide +kernel
theorem dX11_level_11 : decode cX11_level 11 = .ok (.ldc2_w 173, 3) := by decide +kernel
theorem dX11_level_14 : decode cX11_level 14 = .ok (.invokestatic 77, 3) := by decide +kernel
theorem dX11_level_17 : decode cX11_level 17 = .ok (.ifCond .ne 6, 3) := by decide +kernel
theorem dX11_level_20 : decode cX11_level 20 = .ok (.ldc 175, 2) := by decide +kernel
theorem dX11_level_22 : decode cX11_level 22 = .ok (.ireturn, 1) := by decide +kernel
theorem dX11_level_23 : decode cX11_level 23 = .ok (.iload_n 2, 1) := by decide +kernel
theorem dX11_level_24 : decode cX11_level 24 = .ok (.ifCond .ne 12, 3) := by decide +kernel
theorem dX11_level_27 : decode cX11_level 27 = .ok (.aload_n 0, 1) := by decide +kernel
theorem dX11_level_28 : decode cX11_level 28 = .ok (.getfield 22, 3) := by decide +kernel
theorem dX11_level_31 : decode cX11_level 31 = .ok (.iload_n 1, 1) := by decide +kernel
theorem dX11_level_32 : decode cX11_level 32 = .ok (.iaload, 1) := by decide +kernel
theorem dX11_level_33 : decode cX11_level 33 = .ok (.goto 36, 3) := by decide +kernel
theorem dX11_level_36 : decode cX11_level 36 = .ok (.iload_n 2, 1) := by decide +kernel
theorem dX11_level_37 : decode cX11_level 37 = .ok (.iconst 1, 1) := by decide +kernel
theorem dX11_level_38 : decode cX11_level 38 = .ok (.if_icmp .ne 12, 3) := by decide +kernel
theorem dX11_level_41 : decode cX11_level 41 = .ok (.aload_n 0, 1) := by decide +kernel
theorem dX11_level_42 : decode cX11_level 42 = .ok (.getfield 25, 3) := by decide +kernel
theorem dX11_level_45 : decode cX11_level 45 = .ok (.iload_n 1, 1) := by decide +kernel
theorem dX11_level_46 : decode cX11_level 46 = .ok (.iaload, 1) := by decide +kernel
theorem dX11_level_47 : decode cX11_level 47 = .ok (.goto 22, 3) := by decide +kernel
theorem dX11_level_50 : decode cX11_level 50 = .ok (.iload_n 2, 1) := by decide +kernel
theorem dX11_level_51 : decode cX11_level 51 = .ok (.iconst 2, 1) := by decide +kernel
theorem dX11_level_52 : decode cX11_level 52 = .ok (.if_icmp .ne 12, 3) := by decide +kernel
theorem dX11_level_55 : decode cX11_level 55 = .ok (.aload_n 0, 1) := by decide +kernel
theorem dX11_level_56 : decode cX11_level 56 = .ok (.getfield 28, 3) := by decide +kernel
theorem dX11_level_59 : decode cX11_level 59 = .ok (.iload_n 1, 1) := by decide +kernel
theorem dX11_level_60 : decode cX11_level 60 = .ok (.iaload, 1) := by decide +kernel
theorem dX11_level_61 : decode cX11_level 61 = .ok (.goto 8, 3) := by decide +kernel
theorem dX11_level_64 : decode cX11_level 64 = .ok (.aload_n 0, 1) := by decide +kernel
theorem dX11_level_65 : decode cX11_level 65 = .ok (.iload_n 1, 1) := by decide +kernel
theorem dX11_level_66 : decode cX11_level 66 = .ok (.invokevirtual 176, 3) := by decide +kernel
theorem dX11_level_69 : decode cX11_level 69 = .ok (.ireturn, 1) := by decide +kernel
set_option maxRecDepth 20000 in
theorem ggX11_man_X11_isMan : GoodIn wsX11_man wsX11_isMan := goodIn_r _ [6, 7, 8, 9, 5, 10, 11, 12, 13, 14, 15, 16, 17, 18, 19, 20, 21, 22, 23, 24, 25, 26, 27, 28, 29, 30, 31, 32, 33, 34, 35, 36, 37, 38, 39, 40, 41, 42, 43, 44, 45, 46] (by decide +kernel) (by decide +kernel)
set_option maxRecDepth 20000 in
theorem gX11_man_X11_isMan : GoodIn wsX11_man (wsV RX11 180 RX11 yX11_isMan wsX11_isMan) := goodIn_app (goodIn_of _ (by decide +kernel)) ggX11_man_X11_isMan
theorem dX11_man_0 : decode cX11_man 0 = .ok (.aload_n 0, 1) := by decide +kernel
theorem dX11_man_1 : decode cX11_man 1 = .ok (.iload_n 1, 1) := by decide +kernel
theorem dX11_man_2 : decode cX11_man 2 = .ok (.invokevirtual 180, 3) := by decide +kernel
theorem dX11_man_5 : decode cX11_man 5 = .ok (.ifCond .eq 12, 3) := by decide +kernel
theorem dX11_man_8 : decode cX11_man 8 = .ok (.aload_n 0, 1) := by decide +kernel
theorem dX11_man_9 : decode cX11_man 9 = .ok (.getfield 31, 3) := by decide +kernel
theorem dX11_man_12 : decode cX11_man 12 = .ok (.iload_n 1, 1) := by decide +kernel
theorem dX11_man_13 : decode cX11_man 13 = .ok (.iaload, 1) := by decide +kernel
theorem dX11_man_14 : decode cX11_man 14 = .ok (.goto 4, 3) := by decide +kernel
theorem dX11_man_17 : decode cX11_man 17 = .ok (.iconst (-1), 1) := by decide +kernel
theorem dX11_man_18 : decode cX11_man 18 = .ok (.ireturn, 1) := by decide +kernel
set_option maxRecDepth 20000 in
theorem ggX11_wet_X11_in : GoodIn wsX11_wet wsX11_in := goodIn_r _ [6] (by decide +kernel) (by decide +kernel)
set_option maxRecDepth 20000 in
theorem gX11_wet_X11_in : GoodIn wsX11_wet (va_wsS RX11 77 yX11_in wsX11_in) := goodIn_app (goodIn_of _ (by decide +kernel)) ggX11_wet_X11_in
theorem dX11_wet_0 : decode cX11_wet 0 = .ok (.iload_n 1, 1) := by decide +kernel
theorem dX11_wet_1 : decode cX11_wet 1 = .ok (.i2l, 1) := by decide +kernel
theorem dX11_wet_2 : decode cX11_wet 2 = .ok (.lconst 0, 1) := by decide +kernel
theorem dX11_wet_3 : decode cX11_wet 3 = .ok (.ldc2_w 183, 3) := by decide +kernel
theorem dX11_wet_6 : decode cX11_wet 6 = .ok (.invokestatic 77, 3) := by decide +kernel
theorem dX11_wet_9 : decode cX11_wet 9 = .ok (.ifCond .ne 5, 3) := by decide +kernel
theorem dX11_wet_12 : decode cX11_wet 12 = .ok (.iconst (-1), 1) := by decide +kernel
theorem dX11_wet_13 : decode cX11_wet 13 = .ok (.ireturn, 1) := by decide +kernel
theorem dX11_wet_14 : decode cX11_wet 14 = .ok (.aload_n 0, 1) := by decide +kernel
theorem dX11_wet_15 : decode cX11_wet 15 = .ok (.getfield 34, 3) := by decide +kernel
theorem dX11_wet_18 : decode cX11_wet 18 = .ok (.iconst 1, 1) := by decide +kernel
theorem dX11_wet_19 : decode cX11_wet 19 = .ok (.iaload, 1) := by decide +kernel
theorem dX11_wet_20 : decode cX11_wet 20 = .ok (.istore_n 2, 1) := by decide +kernel
theorem dX11_wet_21 : decode cX11_wet 21 = .ok (.aload_n 0, 1) := by decide +kernel
theorem dX11_wet_22 : decode cX11_wet 22 = .ok (.getfield 34, 3) := by decide +kernel
theorem dX11_wet_25 : decode cX11_wet 25 = .ok (.iconst 1, 1) := by decide +kernel
theorem dX11_wet_26 : decode cX11_wet 26 = .ok (.iload_n 1, 1) := by decide +kernel
theorem dX11_wet_27 : decode cX11_wet 27 = .ok (.iastore, 1) := by decide +kernel
theorem dX11_wet_28 : decode cX11_wet 28 = .ok (.iload_n 2, 1) := by decide +kernel
theorem dX11_wet_29 : decode cX11_wet 29 = .ok (.ireturn, 1) := by decide +kernel
set_option maxRecDepth 20000 in
theorem ggX11_comesOf_X11_soundOf : GoodIn wsX11_comesOf wsX11_soundOf := goodIn_r _ [7, 8, 2, 9, 10, 6, 11, 15, 16, 17, 18, 19, 20, 21, 22, 23, 24, 25, 26, 27, 28, 29, 30, 31, 32, 33, 34, 35, 36, 37, 38, 39, 40, 41, 42, 43, 44, 45, 46, 47, 48, 49, 50] (by decide +kernel) (by decide +kernel)
set_option maxRecDepth 20000 in
theorem gX11_comesOf_X11_soundOf : GoodIn wsX11_comesOf (wsV RX11 176 RX11 yX11_soundOf wsX11_soundOf) := goodIn_app (goodIn_of _ (by decide +kernel)) ggX11_comesOf_X11_soundOf
set_option maxRecDepth 20000 in
theorem ggX11_comesOf_X11_away : GoodIn wsX11_comesOf wsX11_away := goodIn_r _ [14] (by decide +kernel) (by decide +kernel)
set_option maxRecDepth 20000 in
theorem gX11_comesOf_X11_away : GoodIn wsX11_comesOf (va_wsS RX11 185 yX11_away wsX11_away) := goodIn_app (goodIn_of _ (by decide +kernel)) ggX11_comesOf_X11_away
theorem dX11_comesOf_0 : decode cX11_comesOf 0 = .ok (.iconst 0, 1) := by decide +kernel
theorem dX11_comesOf_1 : decode cX11_comesOf 1 = .ok (.istore_n 2, 1) := by decide +kernel
theorem dX11_comesOf_2 : decode cX11_comesOf 2 = .ok (.iconst 0, 1) := by decide +kernel
theorem dX11_comesOf_3 : decode cX11_comesOf 3 = .ok (.istore_n 3, 1) := by decide +kernel
theorem dX11_comesOf_4 : decode cX11_comesOf 4 = .ok (.iload_n 3, 1) := by decide +kernel
theorem dX11_comesOf_5 : decode cX11_comesOf 5 = .ok (.aload_n 0, 1) := by decide +kernel
theorem dX11_comesOf_6 : decode cX11_comesOf 6 = .ok (.getfield 147, 3) := by decide +kernel
theorem dX11_comesOf_9 : decode cX11_comesOf 9 = .ok (.if_icmp .ge 37, 3) := by decide +kernel
theorem dX11_comesOf_12 : decode cX11_comesOf 12 = .ok (.iload_n 2, 1) := by decide +kernel
theorem dX11_comesOf_13 : decode cX11_comesOf 13 = .ok (.aload_n 0, 1) := by decide +kernel
theorem dX11_comesOf_14 : decode cX11_comesOf 14 = .ok (.iload_n 3, 1) := by decide +kernel
theorem dX11_comesOf_15 : decode cX11_comesOf 15 = .ok (.invokevirtual 176, 3) := by decide +kernel
theorem dX11_comesOf_18 : decode cX11_comesOf 18 = .ok (.iload_n 1, 1) := by decide +kernel
theorem dX11_comesOf_19 : decode cX11_comesOf 19 = .ok (.invokestatic 185, 3) := by decide +kernel
theorem dX11_comesOf_22 : decode cX11_comesOf 22 = .ok (.aload_n 0, 1) := by decide +kernel
theorem dX11_comesOf_23 : decode cX11_comesOf 23 = .ok (.getfield 34, 3) := by decide +kernel
theorem dX11_comesOf_26 : decode cX11_comesOf 26 = .ok (.iconst 0, 1) := by decide +kernel
theorem dX11_comesOf_27 : decode cX11_comesOf 27 = .ok (.iaload, 1) := by decide +kernel
theorem dX11_comesOf_28 : decode cX11_comesOf 28 = .ok (.if_icmp .gt 9, 3) := by decide +kernel
theorem dX11_comesOf_31 : decode cX11_comesOf 31 = .ok (.iconst 1, 1) := by decide +kernel
theorem dX11_comesOf_32 : decode cX11_comesOf 32 = .ok (.iload_n 3, 1) := by decide +kernel
theorem dX11_comesOf_33 : decode cX11_comesOf 33 = .ok (.ishl, 1) := by decide +kernel
theorem dX11_comesOf_34 : decode cX11_comesOf 34 = .ok (.goto 4, 3) := by decide +kernel
theorem dX11_comesOf_37 : decode cX11_comesOf 37 = .ok (.iconst 0, 1) := by decide +kernel
theorem dX11_comesOf_38 : decode cX11_comesOf 38 = .ok (.ior, 1) := by decide +kernel
theorem dX11_comesOf_39 : decode cX11_comesOf 39 = .ok (.istore_n 2, 1) := by decide +kernel
theorem dX11_comesOf_40 : decode cX11_comesOf 40 = .ok (.iinc 3 1, 3) := by decide +kernel
theorem dX11_comesOf_43 : decode cX11_comesOf 43 = .ok (.goto (-39), 3) := by decide +kernel
theorem dX11_comesOf_46 : decode cX11_comesOf 46 = .ok (.iload_n 2, 1) := by decide +kernel
theorem dX11_comesOf_47 : decode cX11_comesOf 47 = .ok (.ireturn, 1) := by decide +kernel
set_option maxRecDepth 20000 in
theorem ggX11_taken_X11_isLevel : GoodIn wsX11_taken wsX11_isLevel := goodIn_r _ [5, 6, 7, 8, 4, 9, 26, 27, 28, 29, 30, 31, 32, 33, 34, 35, 36, 37, 38, 39, 40, 41, 42, 43, 44, 45, 46, 47, 48, 49, 50, 51, 52, 53, 54, 55, 56, 57, 58, 59, 60, 61] (by decide +kernel) (by decide +kernel)
set_option maxRecDepth 20000 in
theorem gX11_taken_X11_isLevel : GoodIn wsX11_taken (wsV RX11 170 RX11 yX11_isLevel wsX11_isLevel) := goodIn_app (goodIn_of _ (by decide +kernel)) ggX11_taken_X11_isLevel
set_option maxRecDepth 20000 in
theorem ggX11_taken_X11_soundOf : GoodIn wsX11_taken wsX11_soundOf := goodIn_r _ [13, 14, 15, 16, 17, 4, 18, 26, 27, 28, 29, 30, 31, 32, 33, 34, 35, 36, 37, 38, 39, 40, 41, 42, 43, 44, 45, 46, 47, 48, 49, 50, 51, 52, 53, 54, 55, 56, 57, 58, 59, 60, 61] (by decide +kernel) (by decide +kernel)
set_option maxRecDepth 20000 in
theorem gX11_taken_X11_soundOf : GoodIn wsX11_taken (wsV RX11 176 RX11 yX11_soundOf wsX11_soundOf) := goodIn_app (goodIn_of _ (by decide +kernel)) ggX11_taken_X11_soundOf
set_option maxRecDepth 20000 in
theorem ggX11_taken_X11_comesOf : GoodIn wsX11_taken wsX11_comesOf := goodIn_r _ [22, 6, 15, 10, 11, 12, 4, 13, 14, 16, 17, 18, 23, 24, 25, 26, 27, 28, 29, 30, 31, 32, 33, 34, 35, 36, 37, 38, 39, 40, 41, 42, 43, 44, 45, 46, 47, 48, 49, 50, 51, 52, 53, 54, 55, 56, 57, 58, 59, 60, 61] (by decide +kernel) (by decide +kernel)
set_option maxRecDepth 20000 in
theorem gX11_taken_X11_comesOf : GoodIn wsX11_taken (wsV RX11 188 RX11 yX11_comesOf wsX11_comesOf) := goodIn_app (goodIn_of _ (by decide +kernel)) ggX11_taken_X11_comesOf
theorem dX11_taken_0 : decode cX11_taken 0 = .ok (.aload_n 0, 1) := by decide +kernel
theorem dX11_taken_1 : decode cX11_taken 1 = .ok (.iload_n 1, 1) := by decide +kernel
theorem dX11_taken_2 : decode cX11_taken 2 = .ok (.invokevirtual 170, 3) := by decide +kernel
theorem dX11_taken_5 : decode cX11_taken 5 = .ok (.ifCond .eq 15, 3) := by decide +kernel
theorem dX11_taken_8 : decode cX11_taken 8 = .ok (.aload_n 0, 1) := by decide +kernel
theorem dX11_taken_9 : decode cX11_taken 9 = .ok (.aload_n 0, 1) := by decide +kernel
theorem dX11_taken_10 : decode cX11_taken 10 = .ok (.iload_n 1, 1) := by decide +kernel
theorem dX11_taken_11 : decode cX11_taken 11 = .ok (.invokevirtual 176, 3) := by decide +kernel
theorem dX11_taken_14 : decode cX11_taken 14 = .ok (.invokevirtual 188, 3) := by decide +kernel
theorem dX11_taken_17 : decode cX11_taken 17 = .ok (.goto 4, 3) := by decide +kernel
theorem dX11_taken_20 : decode cX11_taken 20 = .ok (.iconst (-1), 1) := by decide +kernel
theorem dX11_taken_21 : decode cX11_taken 21 = .ok (.ireturn, 1) := by decide +kernel
set_option maxRecDepth 20000 in
theorem ggX11_comes_X11_isNote : GoodIn wsX11_comes wsX11_isNote := goodIn_r _ [4, 5, 6, 7, 8, 3, 9] (by decide +kernel) (by decide +kernel)
set_option maxRecDepth 20000 in
theorem gX11_comes_X11_isNote : GoodIn wsX11_comes (va_wsS RX11 191 yX11_isNote wsX11_isNote) := goodIn_app (goodIn_of _ (by decide +kernel)) ggX11_comes_X11_isNote
set_option maxRecDepth 20000 in
theorem ggX11_comes_X11_comesOf : GoodIn wsX11_comes wsX11_comesOf := goodIn_r _ [13, 14, 15, 16, 17, 18, 3, 19, 20, 21, 22, 23, 24, 25, 26, 27, 28, 29, 30, 31, 32, 33, 34, 35, 36, 37, 38, 39, 40, 41, 42, 43, 44, 45, 46, 47, 48, 49, 50, 51, 52, 53, 54, 55, 56, 57, 58, 59, 60, 61, 62] (by decide +kernel) (by decide +kernel)
set_option maxRecDepth 20000 in
theorem gX11_comes_X11_comesOf : GoodIn wsX11_comes (wsV RX11 188 RX11 yX11_comesOf wsX11_comesOf) := goodIn_app (goodIn_of _ (by decide +kernel)) ggX11_comes_X11_comesOf
theorem dX11_comes_0 : decode cX11_comes 0 = .ok (.iload_n 1, 1) := by decide +kernel
theorem dX11_comes_1 : decode cX11_comes 1 = .ok (.invokestatic 191, 3) := by decide +kernel
theorem dX11_comes_4 : decode cX11_comes 4 = .ok (.ifCond .eq 11, 3) := by decide +kernel
theorem dX11_comes_7 : decode cX11_comes 7 = .ok (.aload_n 0, 1) := by decide +kernel
theorem dX11_comes_8 : decode cX11_comes 8 = .ok (.iload_n 1, 1) := by decide +kernel
theorem dX11_comes_9 : decode cX11_comes 9 = .ok (.invokevirtual 188, 3) := by decide +kernel
theorem dX11_comes_12 : decode cX11_comes 12 = .ok (.goto 4, 3) := by decide +kernel
theorem dX11_comes_15 : decode cX11_comes 15 = .ok (.iconst (-1), 1) := by decide +kernel
theorem dX11_comes_16 : decode cX11_comes 16 = .ok (.ireturn, 1) := by decide +kernel
set_option maxRecDepth 20000 in
theorem ggX11_climbs_X11_isMan : GoodIn wsX11_climbs wsX11_isMan := goodIn_r _ [6, 7, 8, 9, 5, 10, 19, 20, 21, 22, 23, 24, 25, 26, 27, 28, 29, 30, 31, 32, 33, 34, 35, 36, 37, 38, 39, 40, 41, 42, 43, 44, 45, 46, 47, 48, 49, 50, 51, 52, 53, 54] (by decide +kernel) (by decide +kernel)
set_option maxRecDepth 20000 in
theorem gX11_climbs_X11_isMan : GoodIn wsX11_climbs (wsV RX11 180 RX11 yX11_isMan wsX11_isMan) := goodIn_app (goodIn_of _ (by decide +kernel)) ggX11_climbs_X11_isMan
set_option maxRecDepth 20000 in
theorem ggX11_climbs_X11_isLevel : GoodIn wsX11_climbs wsX11_isLevel := goodIn_r _ [14, 15, 8, 9, 5, 10, 19, 20, 21, 22, 23, 24, 25, 26, 27, 28, 29, 30, 31, 32, 33, 34, 35, 36, 37, 38, 39, 40, 41, 42, 43, 44, 45, 46, 47, 48, 49, 50, 51, 52, 53, 54] (by decide +kernel) (by decide +kernel)
set_option maxRecDepth 20000 in
theorem gX11_climbs_X11_isLevel : GoodIn wsX11_climbs (wsV RX11 170 RX11 yX11_isLevel wsX11_isLevel) := goodIn_app (goodIn_of _ (by decide +kernel)) ggX11_climbs_X11_isLevel
set_option maxRecDepth 20000 in
theorem ggX11_climbs_X11_away : GoodIn wsX11_climbs wsX11_away := goodIn_r _ [18] (by decide +kernel) (by decide +kernel)
set_option maxRecDepth 20000 in
theorem gX11_climbs_X11_away : GoodIn wsX11_climbs (va_wsS RX11 185 yX11_away wsX11_away) := goodIn_app (goodIn_of _ (by decide +kernel)) ggX11_climbs_X11_away
theorem dX11_climbs_0 : decode cX11_climbs 0 = .ok (.aload_n 0, 1) := by decide +kernel
theorem dX11_climbs_1 : decode cX11_climbs 1 = .ok (.iload_n 1, 1) := by decide +kernel
theorem dX11_climbs_2 : decode cX11_climbs 2 = .ok (.invokevirtual 180, 3) := by decide +kernel
theorem dX11_climbs_5 : decode cX11_climbs 5 = .ok (.ifCond .eq 11, 3) := by decide +kernel
theorem dX11_climbs_8 : decode cX11_climbs 8 = .ok (.aload_n 0, 1) := by decide +kernel
theorem dX11_climbs_9 : decode cX11_climbs 9 = .ok (.iload_n 2, 1) := by decide +kernel
theorem dX11_climbs_10 : decode cX11_climbs 10 = .ok (.invokevirtual 170, 3) := by decide +kernel
theorem dX11_climbs_13 : decode cX11_climbs 13 = .ok (.ifCond .ne 5, 3) := by decide +kernel
theorem dX11_climbs_16 : decode cX11_climbs 16 = .ok (.iconst (-1), 1) := by decide +kernel
theorem dX11_climbs_17 : decode cX11_climbs 17 = .ok (.ireturn, 1) := by decide +kernel
theorem dX11_climbs_18 : decode cX11_climbs 18 = .ok (.aload_n 0, 1) := by decide +kernel
theorem dX11_climbs_19 : decode cX11_climbs 19 = .ok (.getfield 31, 3) := by decide +kernel
theorem dX11_climbs_22 : decode cX11_climbs 22 = .ok (.iload_n 1, 1) := by decide +kernel
theorem dX11_climbs_23 : decode cX11_climbs 23 = .ok (.iaload, 1) := by decide +kernel
theorem dX11_climbs_24 : decode cX11_climbs 24 = .ok (.iload_n 2, 1) := by decide +kernel
theorem dX11_climbs_25 : decode cX11_climbs 25 = .ok (.if_icmp .ne 6, 3) := by decide +kernel
theorem dX11_climbs_28 : decode cX11_climbs 28 = .ok (.bipush (-2), 2) := by decide +kernel
theorem dX11_climbs_30 : decode cX11_climbs 30 = .ok (.ireturn, 1) := by decide +kernel
theorem dX11_climbs_31 : decode cX11_climbs 31 = .ok (.aload_n 0, 1) := by decide +kernel
theorem dX11_climbs_32 : decode cX11_climbs 32 = .ok (.getfield 31, 3) := by decide +kernel
theorem dX11_climbs_35 : decode cX11_climbs 35 = .ok (.iload_n 1, 1) := by decide +kernel
theorem dX11_climbs_36 : decode cX11_climbs 36 = .ok (.iaload, 1) := by decide +kernel
theorem dX11_climbs_37 : decode cX11_climbs 37 = .ok (.iload_n 2, 1) := by decide +kernel
theorem dX11_climbs_38 : decode cX11_climbs 38 = .ok (.invokestatic 185, 3) := by decide +kernel
theorem dX11_climbs_41 : decode cX11_climbs 41 = .ok (.istore_n 3, 1) := by decide +kernel
theorem dX11_climbs_42 : decode cX11_climbs 42 = .ok (.aload_n 0, 1) := by decide +kernel
theorem dX11_climbs_43 : decode cX11_climbs 43 = .ok (.getfield 31, 3) := by decide +kernel
theorem dX11_climbs_46 : decode cX11_climbs 46 = .ok (.iload_n 1, 1) := by decide +kernel
theorem dX11_climbs_47 : decode cX11_climbs 47 = .ok (.iload_n 2, 1) := by decide +kernel
theorem dX11_climbs_48 : decode cX11_climbs 48 = .ok (.iastore, 1) := by decide +kernel
theorem dX11_climbs_49 : decode cX11_climbs 49 = .ok (.iload_n 3, 1) := by decide +kernel
theorem dX11_climbs_50 : decode cX11_climbs 50 = .ok (.ireturn, 1) := by decide +kernel
set_option maxRecDepth 20000 in
theorem ggX11_plucks_X11_isMan : GoodIn wsX11_plucks wsX11_isMan := goodIn_r _ [8, 9, 10, 11, 7, 12, 22, 23, 24, 25, 26, 27, 28, 29, 30, 31, 32, 33, 34, 35, 36, 37, 38, 39, 40, 41, 42, 43, 44, 45, 46, 47, 48, 49, 50, 51, 52, 53, 54, 55, 56, 57] (by decide +kernel) (by decide +kernel)
set_option maxRecDepth 20000 in
theorem gX11_plucks_X11_isMan : GoodIn wsX11_plucks (wsV RX11 180 RX11 yX11_isMan wsX11_isMan) := goodIn_app (goodIn_of _ (by decide +kernel)) ggX11_plucks_X11_isMan
set_option maxRecDepth 20000 in
theorem ggX11_plucks_X11_soundOf : GoodIn wsX11_plucks wsX11_soundOf := goodIn_r _ [16, 17, 18, 19, 20, 7, 21, 22, 23, 24, 25, 26, 27, 28, 29, 30, 31, 32, 33, 34, 35, 36, 37, 38, 39, 40, 41, 42, 43, 44, 45, 46, 47, 48, 49, 50, 51, 52, 53, 54, 55, 56, 57] (by decide +kernel) (by decide +kernel)
set_option maxRecDepth 20000 in
theorem gX11_plucks_X11_soundOf : GoodIn wsX11_plucks (wsV RX11 176 RX11 yX11_soundOf wsX11_soundOf) := goodIn_app (goodIn_of _ (by decide +kernel)) ggX11_plucks_X11_soundOf
theorem dX11_plucks_0 : decode cX11_plucks 0 = .ok (.aload_n 0, 1) := by decide +kernel
theorem dX11_plucks_1 : decode cX11_plucks 1 = .ok (.iload_n 1, 1) := by decide +kernel
theorem dX11_plucks_2 : decode cX11_plucks 2 = .ok (.invokevirtual 180, 3) := by decide +kernel
theorem dX11_plucks_5 : decode cX11_plucks 5 = .ok (.ifCond .eq 16, 3) := by decide +kernel
theorem dX11_plucks_8 : decode cX11_plucks 8 = .ok (.aload_n 0, 1) := by decide +kernel
theorem dX11_plucks_9 : decode cX11_plucks 9 = .ok (.getfield 31, 3) := by decide +kernel
theorem dX11_plucks_12 : decode cX11_plucks 12 = .ok (.iload_n 1, 1) := by decide +kernel
theorem dX11_plucks_13 : decode cX11_plucks 13 = .ok (.iaload, 1) := by decide +kernel
theorem dX11_plucks_14 : decode cX11_plucks 14 = .ok (.aload_n 0, 1) := by decide +kernel
theorem dX11_plucks_15 : decode cX11_plucks 15 = .ok (.getfield 71, 3) := by decide +kernel
theorem dX11_plucks_18 : decode cX11_plucks 18 = .ok (.if_icmp .lt 8, 3) := by decide +kernel
theorem dX11_plucks_21 : decode cX11_plucks 21 = .ok (.ldc 175, 2) := by decide +kernel
theorem dX11_plucks_23 : decode cX11_plucks 23 = .ok (.goto 13, 3) := by decide +kernel
theorem dX11_plucks_26 : decode cX11_plucks 26 = .ok (.aload_n 0, 1) := by decide +kernel
theorem dX11_plucks_27 : decode cX11_plucks 27 = .ok (.aload_n 0, 1) := by decide +kernel
theorem dX11_plucks_28 : decode cX11_plucks 28 = .ok (.getfield 31, 3) := by decide +kernel
theorem dX11_plucks_31 : decode cX11_plucks 31 = .ok (.iload_n 1, 1) := by decide +kernel
theorem dX11_plucks_32 : decode cX11_plucks 32 = .ok (.iaload, 1) := by decide +kernel
theorem dX11_plucks_33 : decode cX11_plucks 33 = .ok (.invokevirtual 176, 3) := by decide +kernel
theorem dX11_plucks_36 : decode cX11_plucks 36 = .ok (.ireturn, 1) := by decide +kernel
set_option maxRecDepth 20000 in
theorem ggX11_falls_X11_isLevel : GoodIn wsX11_falls wsX11_isLevel := goodIn_r _ [7, 2, 8, 9, 6, 10, 11, 12, 13, 14, 15, 16, 17, 18, 19, 20, 21, 22, 23, 24, 25, 26, 27, 28, 29, 30, 31, 32, 33, 34, 35, 36, 37, 38, 39, 40, 41, 42, 43, 44, 45, 46] (by decide +kernel) (by decide +kernel)
set_option maxRecDepth 20000 in
theorem gX11_falls_X11_isLevel : GoodIn wsX11_falls (wsV RX11 170 RX11 yX11_isLevel wsX11_isLevel) := goodIn_app (goodIn_of _ (by decide +kernel)) ggX11_falls_X11_isLevel
theorem dX11_falls_0 : decode cX11_falls 0 = .ok (.aload_n 0, 1) := by decide +kernel
theorem dX11_falls_1 : decode cX11_falls 1 = .ok (.iload_n 1, 1) := by decide +kernel
theorem dX11_falls_2 : decode cX11_falls 2 = .ok (.invokevirtual 170, 3) := by decide +kernel
theorem dX11_falls_5 : decode cX11_falls 5 = .ok (.ifCond .ne 5, 3) := by decide +kernel
theorem dX11_falls_8 : decode cX11_falls 8 = .ok (.iconst (-1), 1) := by decide +kernel
theorem dX11_falls_9 : decode cX11_falls 9 = .ok (.ireturn, 1) := by decide +kernel
theorem dX11_falls_10 : decode cX11_falls 10 = .ok (.aload_n 0, 1) := by decide +kernel
theorem dX11_falls_11 : decode cX11_falls 11 = .ok (.getfield 71, 3) := by decide +kernel
theorem dX11_falls_14 : decode cX11_falls 14 = .ok (.iload_n 1, 1) := by decide +kernel
theorem dX11_falls_15 : decode cX11_falls 15 = .ok (.if_icmp .gt 6, 3) := by decide +kernel
theorem dX11_falls_18 : decode cX11_falls 18 = .ok (.bipush (-2), 2) := by decide +kernel
theorem dX11_falls_20 : decode cX11_falls 20 = .ok (.ireturn, 1) := by decide +kernel
theorem dX11_falls_21 : decode cX11_falls 21 = .ok (.aload_n 0, 1) := by decide +kernel
theorem dX11_falls_22 : decode cX11_falls 22 = .ok (.iload_n 1, 1) := by decide +kernel
theorem dX11_falls_23 : decode cX11_falls 23 = .ok (.putfield 71, 3) := by decide +kernel
theorem dX11_falls_26 : decode cX11_falls 26 = .ok (.aload_n 0, 1) := by decide +kernel
theorem dX11_falls_27 : decode cX11_falls 27 = .ok (.getfield 147, 3) := by decide +kernel
theorem dX11_falls_30 : decode cX11_falls 30 = .ok (.aload_n 0, 1) := by decide +kernel
theorem dX11_falls_31 : decode cX11_falls 31 = .ok (.getfield 71, 3) := by decide +kernel
theorem dX11_falls_34 : decode cX11_falls 34 = .ok (.isub, 1) := by decide +kernel
theorem dX11_falls_35 : decode cX11_falls 35 = .ok (.ireturn, 1) := by decide +kernel
theorem dX11_mends_0 : decode cX11_mends 0 = .ok (.aload_n 0, 1) := by decide +kernel
theorem dX11_mends_1 : decode cX11_mends 1 = .ok (.getfield 71, 3) := by decide +kernel
theorem dX11_mends_4 : decode cX11_mends 4 = .ok (.bipush 8, 2) := by decide +kernel
theorem dX11_mends_6 : decode cX11_mends 6 = .ok (.if_icmp .ne 6, 3) := by decide +kernel
theorem dX11_mends_9 : decode cX11_mends 9 = .ok (.bipush (-2), 2) := by decide +kernel
theorem dX11_mends_11 : decode cX11_mends 11 = .ok (.ireturn, 1) := by decide +kernel
theorem dX11_mends_12 : decode cX11_mends 12 = .ok (.aload_n 0, 1) := by decide +kernel
theorem dX11_mends_13 : decode cX11_mends 13 = .ok (.getfield 147, 3) := by decide +kernel
theorem dX11_mends_16 : decode cX11_mends 16 = .ok (.aload_n 0, 1) := by decide +kernel
theorem dX11_mends_17 : decode cX11_mends 17 = .ok (.getfield 71, 3) := by decide +kernel
theorem dX11_mends_20 : decode cX11_mends 20 = .ok (.isub, 1) := by decide +kernel
theorem dX11_mends_21 : decode cX11_mends 21 = .ok (.istore_n 1, 1) := by decide +kernel
theorem dX11_mends_22 : decode cX11_mends 22 = .ok (.aload_n 0, 1) := by decide +kernel
theorem dX11_mends_23 : decode cX11_mends 23 = .ok (.bipush 8, 2) := by decide +kernel
theorem dX11_mends_25 : decode cX11_mends 25 = .ok (.putfield 71, 3) := by decide +kernel
theorem dX11_mends_28 : decode cX11_mends 28 = .ok (.iload_n 1, 1) := by decide +kernel
theorem dX11_mends_29 : decode cX11_mends 29 = .ok (.ireturn, 1) := by decide +kernel
theorem dX11_year_0 : decode cX11_year 0 = .ok (.aload_n 0, 1) := by decide +kernel
theorem dX11_year_1 : decode cX11_year 1 = .ok (.getfield 153, 3) := by decide +kernel
theorem dX11_year_4 : decode cX11_year 4 = .ok (.sipush 999, 3) := by decide +kernel
theorem dX11_year_7 : decode cX11_year 7 = .ok (.if_icmp .ne 6, 3) := by decide +kernel
theorem dX11_year_10 : decode cX11_year 10 = .ok (.bipush (-2), 2) := by decide +kernel
theorem dX11_year_12 : decode cX11_year 12 = .ok (.ireturn, 1) := by decide +kernel
theorem dX11_year_13 : decode cX11_year 13 = .ok (.iconst 0, 1) := by decide +kernel
theorem dX11_year_14 : decode cX11_year 14 = .ok (.istore_n 1, 1) := by decide +kernel
theorem dX11_year_15 : decode cX11_year 15 = .ok (.iload_n 1, 1) := by decide +kernel
theorem dX11_year_16 : decode cX11_year 16 = .ok (.aload_n 0, 1) := by decide +kernel
theorem dX11_year_17 : decode cX11_year 17 = .ok (.getfield 147, 3) := by decide +kernel
theorem dX11_year_20 : decode cX11_year 20 = .ok (.if_icmp .ge 47, 3) := by decide +kernel
theorem dX11_year_23 : decode cX11_year 23 = .ok (.aload_n 0, 1) := by decide +kernel
theorem dX11_year_24 : decode cX11_year 24 = .ok (.getfield 22, 3) := by decide +kernel
theorem dX11_year_27 : decode cX11_year 27 = .ok (.iload_n 1, 1) := by decide +kernel
theorem dX11_year_28 : decode cX11_year 28 = .ok (.aload_n 0, 1) := by decide +kernel
theorem dX11_year_29 : decode cX11_year 29 = .ok (.getfield 22, 3) := by decide +kernel
theorem dX11_year_32 : decode cX11_year 32 = .ok (.iload_n 1, 1) := by decide +kernel
theorem dX11_year_33 : decode cX11_year 33 = .ok (.iaload, 1) := by decide +kernel
theorem dX11_year_34 : decode cX11_year 34 = .ok (.aload_n 0, 1) := by decide +kernel
theorem dX11_year_35 : decode cX11_year 35 = .ok (.getfield 25, 3) := by decide +kernel
theorem dX11_year_38 : decode cX11_year 38 = .ok (.iload_n 1, 1) := by decide +kernel
theorem dX11_year_39 : decode cX11_year 39 = .ok (.iaload, 1) := by decide +kernel
theorem dX11_year_40 : decode cX11_year 40 = .ok (.if_icmp .le 19, 3) := by decide +kernel
theorem dX11_year_43 : decode cX11_year 43 = .ok (.aload_n 0, 1) := by decide +kernel
theorem dX11_year_44 : decode cX11_year 44 = .ok (.getfield 22, 3) := by decide +kernel
theorem dX11_year_47 : decode cX11_year 47 = .ok (.iload_n 1, 1) := by decide +kernel
theorem dX11_year_48 : decode cX11_year 48 = .ok (.iaload, 1) := by decide +kernel
theorem dX11_year_49 : decode cX11_year 49 = .ok (.aload_n 0, 1) := by decide +kernel
theorem dX11_year_50 : decode cX11_year 50 = .ok (.getfield 25, 3) := by decide +kernel
theorem dX11_year_53 : decode cX11_year 53 = .ok (.iload_n 1, 1) := by decide +kernel
theorem dX11_year_54 : decode cX11_year 54 = .ok (.iaload, 1) := by decide +kernel
theorem dX11_year_55 : decode cX11_year 55 = .ok (.isub, 1) := by decide +kernel
theorem dX11_year_56 : decode cX11_year 56 = .ok (.goto 4, 3) := by decide +kernel
theorem dX11_year_59 : decode cX11_year 59 = .ok (.iconst 0, 1) := by decide +kernel
theorem dX11_year_60 : decode cX11_year 60 = .ok (.iastore, 1) := by decide +kernel
theorem dX11_year_61 : decode cX11_year 61 = .ok (.iinc 1 1, 3) := by decide +kernel
theorem dX11_year_64 : decode cX11_year 64 = .ok (.goto (-49), 3) := by decide +kernel
theorem dX11_year_67 : decode cX11_year 67 = .ok (.aload_n 0, 1) := by decide +kernel
theorem dX11_year_68 : decode cX11_year 68 = .ok (.dup, 1) := by decide +kernel
theorem dX11_year_69 : decode cX11_year 69 = .ok (.getfield 153, 3) := by decide +kernel
theorem dX11_year_72 : decode cX11_year 72 = .ok (.iconst 1, 1) := by decide +kernel
theorem dX11_year_73 : decode cX11_year 73 = .ok (.iadd, 1) := by decide +kernel
theorem dX11_year_74 : decode cX11_year 74 = .ok (.putfield 153, 3) := by decide +kernel
theorem dX11_year_77 : decode cX11_year 77 = .ok (.aload_n 0, 1) := by decide +kernel
theorem dX11_year_78 : decode cX11_year 78 = .ok (.getfield 153, 3) := by decide +kernel
theorem dX11_year_81 : decode cX11_year 81 = .ok (.ireturn, 1) := by decide +kernel
set_option maxRecDepth 20000 in
theorem ggX11_heard_X11_in : GoodIn wsX11_heard wsX11_in := goodIn_r _ [8] (by decide +kernel) (by decide +kernel)
set_option maxRecDepth 20000 in
theorem gX11_heard_X11_in : GoodIn wsX11_heard (va_wsS RX11 77 yX11_in wsX11_in) := goodIn_app (goodIn_of _ (by decide +kernel)) ggX11_heard_X11_in
set_option maxRecDepth 20000 in
theorem ggX11_heard_X11_isNote : GoodIn wsX11_heard wsX11_isNote := goodIn_r _ [11, 12, 1, 5, 6, 7, 8] (by decide +kernel) (by decide +kernel)
set_option maxRecDepth 20000 in
theorem gX11_heard_X11_isNote : GoodIn wsX11_heard (va_wsS RX11 191 yX11_isNote wsX11_isNote) := goodIn_app (goodIn_of _ (by decide +kernel)) ggX11_heard_X11_isNote
theorem dX11_heard_0 : decode cX11_heard 0 = .ok (.iload_n 1, 1) := by decide +kernel
theorem dX11_heard_1 : decode cX11_heard 1 = .ok (.i2l, 1) := by decide +kernel
theorem dX11_heard_2 : decode cX11_heard 2 = .ok (.lconst 0, 1) := by decide +kernel
theorem dX11_heard_3 : decode cX11_heard 3 = .ok (.ldc2_w 164, 3) := by decide +kernel
theorem dX11_heard_6 : decode cX11_heard 6 = .ok (.invokestatic 77, 3) := by decide +kernel
theorem dX11_heard_9 : decode cX11_heard 9 = .ok (.ifCond .eq 32, 3) := by decide +kernel
theorem dX11_heard_12 : decode cX11_heard 12 = .ok (.iload_n 2, 1) := by decide +kernel
theorem dX11_heard_13 : decode cX11_heard 13 = .ok (.invokestatic 191, 3) := by decide +kernel
theorem dX11_heard_16 : decode cX11_heard 16 = .ok (.ifCond .eq 25, 3) := by decide +kernel
theorem dX11_heard_19 : decode cX11_heard 19 = .ok (.aload_n 0, 1) := by decide +kernel
theorem dX11_heard_20 : decode cX11_heard 20 = .ok (.getfield 156, 3) := by decide +kernel
theorem dX11_heard_23 : decode cX11_heard 23 = .ok (.ifCond .le 20, 3) := by decide +kernel
theorem dX11_heard_26 : decode cX11_heard 26 = .ok (.iload_n 1, 1) := by decide +kernel
theorem dX11_heard_27 : decode cX11_heard 27 = .ok (.aload_n 0, 1) := by decide +kernel
theorem dX11_heard_28 : decode cX11_heard 28 = .ok (.getfield 37, 3) := by decide +kernel
theorem dX11_heard_31 : decode cX11_heard 31 = .ok (.aload_n 0, 1) := by decide +kernel
theorem dX11_heard_32 : decode cX11_heard 32 = .ok (.getfield 156, 3) := by decide +kernel
theorem dX11_heard_35 : decode cX11_heard 35 = .ok (.iconst 1, 1) := by decide +kernel
theorem dX11_heard_36 : decode cX11_heard 36 = .ok (.isub, 1) := by decide +kernel
theorem dX11_heard_37 : decode cX11_heard 37 = .ok (.iaload, 1) := by decide +kernel
theorem dX11_heard_38 : decode cX11_heard 38 = .ok (.if_icmp .ge 5, 3) := by decide +kernel
theorem dX11_heard_41 : decode cX11_heard 41 = .ok (.iconst (-1), 1) := by decide +kernel
theorem dX11_heard_42 : decode cX11_heard 42 = .ok (.ireturn, 1) := by decide +kernel
theorem dX11_heard_43 : decode cX11_heard 43 = .ok (.aload_n 0, 1) := by decide +kernel
theorem dX11_heard_44 : decode cX11_heard 44 = .ok (.getfield 156, 3) := by decide +kernel
theorem dX11_heard_47 : decode cX11_heard 47 = .ok (.bipush 6, 2) := by decide +kernel
theorem dX11_heard_49 : decode cX11_heard 49 = .ok (.if_icmp .ne 6, 3) := by decide +kernel
theorem dX11_heard_52 : decode cX11_heard 52 = .ok (.bipush (-3), 2) := by decide +kernel
theorem dX11_heard_54 : decode cX11_heard 54 = .ok (.ireturn, 1) := by decide +kernel
theorem dX11_heard_55 : decode cX11_heard 55 = .ok (.aload_n 0, 1) := by decide +kernel
theorem dX11_heard_56 : decode cX11_heard 56 = .ok (.getfield 37, 3) := by decide +kernel
theorem dX11_heard_59 : decode cX11_heard 59 = .ok (.aload_n 0, 1) := by decide +kernel
theorem dX11_heard_60 : decode cX11_heard 60 = .ok (.getfield 156, 3) := by decide +kernel
theorem dX11_heard_63 : decode cX11_heard 63 = .ok (.iload_n 1, 1) := by decide +kernel
theorem dX11_heard_64 : decode cX11_heard 64 = .ok (.iastore, 1) := by decide +kernel
theorem dX11_heard_65 : decode cX11_heard 65 = .ok (.aload_n 0, 1) := by decide +kernel
theorem dX11_heard_66 : decode cX11_heard 66 = .ok (.getfield 40, 3) := by decide +kernel
theorem dX11_heard_69 : decode cX11_heard 69 = .ok (.aload_n 0, 1) := by decide +kernel
theorem dX11_heard_70 : decode cX11_heard 70 = .ok (.getfield 156, 3) := by decide +kernel
theorem dX11_heard_73 : decode cX11_heard 73 = .ok (.iload_n 2, 1) := by decide +kernel
theorem dX11_heard_74 : decode cX11_heard 74 = .ok (.iastore, 1) := by decide +kernel
theorem dX11_heard_75 : decode cX11_heard 75 = .ok (.aload_n 0, 1) := by decide +kernel
theorem dX11_heard_76 : decode cX11_heard 76 = .ok (.dup, 1) := by decide +kernel
theorem dX11_heard_77 : decode cX11_heard 77 = .ok (.getfield 156, 3) := by decide +kernel
theorem dX11_heard_80 : decode cX11_heard 80 = .ok (.iconst 1, 1) := by decide +kernel
theorem dX11_heard_81 : decode cX11_heard 81 = .ok (.iadd, 1) := by decide +kernel
theorem dX11_heard_82 : decode cX11_heard 82 = .ok (.putfield 156, 3) := by decide +kernel
theorem dX11_heard_85 : decode cX11_heard 85 = .ok (.aload_n 0, 1) := by decide +kernel
theorem dX11_heard_86 : decode cX11_heard 86 = .ok (.getfield 156, 3) := by decide +kernel
theorem dX11_heard_89 : decode cX11_heard 89 = .ok (.ireturn, 1) := by decide +kernel
theorem dX11_forget_0 : decode cX11_forget 0 = .ok (.aload_n 0, 1) := by decide +kernel
theorem dX11_forget_1 : decode cX11_forget 1 = .ok (.getfield 156, 3) := by decide +kernel
theorem dX11_forget_4 : decode cX11_forget 4 = .ok (.istore_n 1, 1) := by decide +kernel
theorem dX11_forget_5 : decode cX11_forget 5 = .ok (.aload_n 0, 1) := by decide +kernel
theorem dX11_forget_6 : decode cX11_forget 6 = .ok (.iconst 0, 1) := by decide +kernel
theorem dX11_forget_7 : decode cX11_forget 7 = .ok (.putfield 156, 3) := by decide +kernel
theorem dX11_forget_10 : decode cX11_forget 10 = .ok (.iload_n 1, 1) := by decide +kernel
theorem dX11_forget_11 : decode cX11_forget 11 = .ok (.ireturn, 1) := by decide +kernel
set_option maxRecDepth 20000 in
theorem ggX11_mayGo_X11_away : GoodIn wsX11_mayGo wsX11_away := goodIn_r _ [6] (by decide +kernel) (by decide +kernel)
set_option maxRecDepth 20000 in
theorem gX11_mayGo_X11_away : GoodIn wsX11_mayGo (va_wsS RX11 185 yX11_away wsX11_away) := goodIn_app (goodIn_of _ (by decide +kernel)) ggX11_mayGo_X11_away
theorem dX11_mayGo_0 : decode cX11_mayGo 0 = .ok (.iload_n 3, 1) := by decide +kernel
theorem dX11_mayGo_1 : decode cX11_mayGo 1 = .ok (.iload 4, 2) := by decide +kernel
theorem dX11_mayGo_3 : decode cX11_mayGo 3 = .ok (.invokestatic 185, 3) := by decide +kernel
theorem dX11_mayGo_6 : decode cX11_mayGo 6 = .ok (.aload_n 0, 1) := by decide +kernel
theorem dX11_mayGo_7 : decode cX11_mayGo 7 = .ok (.getfield 34, 3) := by decide +kernel
theorem dX11_mayGo_10 : decode cX11_mayGo 10 = .ok (.iconst 2, 1) := by decide +kernel
theorem dX11_mayGo_11 : decode cX11_mayGo 11 = .ok (.iaload, 1) := by decide +kernel
theorem dX11_mayGo_12 : decode cX11_mayGo 12 = .ok (.aload_n 0, 1) := by decide +kernel
theorem dX11_mayGo_13 : decode cX11_mayGo 13 = .ok (.getfield 37, 3) := by decide +kernel
theorem dX11_mayGo_16 : decode cX11_mayGo 16 = .ok (.iload_n 2, 1) := by decide +kernel
theorem dX11_mayGo_17 : decode cX11_mayGo 17 = .ok (.iaload, 1) := by decide +kernel
theorem dX11_mayGo_18 : decode cX11_mayGo 18 = .ok (.aload_n 0, 1) := by decide +kernel
theorem dX11_mayGo_19 : decode cX11_mayGo 19 = .ok (.getfield 37, 3) := by decide +kernel
theorem dX11_mayGo_22 : decode cX11_mayGo 22 = .ok (.iload_n 1, 1) := by decide +kernel
theorem dX11_mayGo_23 : decode cX11_mayGo 23 = .ok (.iaload, 1) := by decide +kernel
theorem dX11_mayGo_24 : decode cX11_mayGo 24 = .ok (.isub, 1) := by decide +kernel
theorem dX11_mayGo_25 : decode cX11_mayGo 25 = .ok (.imul, 1) := by decide +kernel
theorem dX11_mayGo_26 : decode cX11_mayGo 26 = .ok (.if_icmp .gt 7, 3) := by decide +kernel
theorem dX11_mayGo_29 : decode cX11_mayGo 29 = .ok (.iconst 1, 1) := by decide +kernel
theorem dX11_mayGo_30 : decode cX11_mayGo 30 = .ok (.goto 4, 3) := by decide +kernel
theorem dX11_mayGo_33 : decode cX11_mayGo 33 = .ok (.iconst 0, 1) := by decide +kernel
theorem dX11_mayGo_34 : decode cX11_mayGo 34 = .ok (.ireturn, 1) := by decide +kernel
set_option maxRecDepth 20000 in
theorem ggX11_counts_X11_comesOf : GoodIn wsX11_counts wsX11_comesOf := goodIn_r _ [9, 10, 11, 12, 13, 14, 8, 15, 16, 17, 18, 19, 20, 21, 22, 28, 29, 30, 31, 32, 33, 34, 35, 36, 37, 38, 39, 40, 41, 42, 43, 44, 45, 46, 47, 48, 49, 50, 51, 52, 53, 54, 55, 56, 57, 58, 59, 60, 61, 62, 63] (by decide +kernel) (by decide +kernel)
set_option maxRecDepth 20000 in
theorem gX11_counts_X11_comesOf : GoodIn wsX11_counts (wsV RX11 188 RX11 yX11_comesOf wsX11_comesOf) := goodIn_app (goodIn_of _ (by decide +kernel)) ggX11_counts_X11_comesOf
set_option maxRecDepth 20000 in
theorem ggX11_counts_X11_mayGo : GoodIn wsX11_counts wsX11_mayGo := goodIn_r _ [26, 11, 27, 20, 21, 8, 22, 28, 29, 30, 31, 32, 33, 34, 35, 36, 37, 38, 39, 40, 41, 42, 43, 44, 45, 46, 47, 48, 49, 50, 51, 52, 53, 54, 55, 56, 57, 58, 59, 60, 61, 62, 63] (by decide +kernel) (by decide +kernel)
set_option maxRecDepth 20000 in
theorem gX11_counts_X11_mayGo : GoodIn wsX11_counts (wsV RX11 194 RX11 yX11_mayGo wsX11_mayGo) := goodIn_app (goodIn_of _ (by decide +kernel)) ggX11_counts_X11_mayGo
theorem dX11_counts_0 : decode cX11_counts 0 = .ok (.iconst 0, 1) := by decide +kernel
theorem dX11_counts_1 : decode cX11_counts 1 = .ok (.istore_n 1, 1) := by decide +kernel
theorem dX11_counts_2 : decode cX11_counts 2 = .ok (.iload_n 1, 1) := by decide +kernel
theorem dX11_counts_3 : decode cX11_counts 3 = .ok (.aload_n 0, 1) := by decide +kernel
theorem dX11_counts_4 : decode cX11_counts 4 = .ok (.getfield 156, 3) := by decide +kernel
theorem dX11_counts_7 : decode cX11_counts 7 = .ok (.if_icmp .ge 129, 3) := by decide +kernel
theorem dX11_counts_10 : decode cX11_counts 10 = .ok (.aload_n 0, 1) := by decide +kernel
theorem dX11_counts_11 : decode cX11_counts 11 = .ok (.aload_n 0, 1) := by decide +kernel
theorem dX11_counts_12 : decode cX11_counts 12 = .ok (.getfield 40, 3) := by decide +kernel
theorem dX11_counts_15 : decode cX11_counts 15 = .ok (.iload_n 1, 1) := by decide +kernel
theorem dX11_counts_16 : decode cX11_counts 16 = .ok (.iaload, 1) := by decide +kernel
theorem dX11_counts_17 : decode cX11_counts 17 = .ok (.invokevirtual 188, 3) := by decide +kernel
theorem dX11_counts_20 : decode cX11_counts 20 = .ok (.istore_n 2, 1) := by decide +kernel
theorem dX11_counts_21 : decode cX11_counts 21 = .ok (.iconst 0, 1) := by decide +kernel
theorem dX11_counts_22 : decode cX11_counts 22 = .ok (.istore_n 3, 1) := by decide +kernel
theorem dX11_counts_23 : decode cX11_counts 23 = .ok (.iload_n 3, 1) := by decide +kernel
theorem dX11_counts_24 : decode cX11_counts 24 = .ok (.bipush 8, 2) := by decide +kernel
theorem dX11_counts_26 : decode cX11_counts 26 = .ok (.if_icmp .ge 104, 3) := by decide +kernel
theorem dX11_counts_29 : decode cX11_counts 29 = .ok (.iload_n 1, 1) := by decide +kernel
theorem dX11_counts_30 : decode cX11_counts 30 = .ok (.ifCond .ne 7, 3) := by decide +kernel
theorem dX11_counts_33 : decode cX11_counts 33 = .ok (.iconst 1, 1) := by decide +kernel
theorem dX11_counts_34 : decode cX11_counts 34 = .ok (.goto 4, 3) := by decide +kernel
theorem dX11_counts_37 : decode cX11_counts 37 = .ok (.iconst 0, 1) := by decide +kernel
theorem dX11_counts_38 : decode cX11_counts 38 = .ok (.istore 4, 2) := by decide +kernel
theorem dX11_counts_40 : decode cX11_counts 40 = .ok (.iconst 0, 1) := by decide +kernel
theorem dX11_counts_41 : decode cX11_counts 41 = .ok (.istore 5, 2) := by decide +kernel
theorem dX11_counts_43 : decode cX11_counts 43 = .ok (.iload 5, 2) := by decide +kernel
theorem dX11_counts_45 : decode cX11_counts 45 = .ok (.bipush 8, 2) := by decide +kernel
theorem dX11_counts_47 : decode cX11_counts 47 = .ok (.if_icmp .ge 51, 3) := by decide +kernel
theorem dX11_counts_50 : decode cX11_counts 50 = .ok (.iload_n 1, 1) := by decide +kernel
theorem dX11_counts_51 : decode cX11_counts 51 = .ok (.ifCond .le 47, 3) := by decide +kernel
theorem dX11_counts_54 : decode cX11_counts 54 = .ok (.iload 4, 2) := by decide +kernel
theorem dX11_counts_56 : decode cX11_counts 56 = .ok (.aload_n 0, 1) := by decide +kernel
theorem dX11_counts_57 : decode cX11_counts 57 = .ok (.iload_n 1, 1) := by decide +kernel
theorem dX11_counts_58 : decode cX11_counts 58 = .ok (.iconst 1, 1) := by decide +kernel
theorem dX11_counts_59 : decode cX11_counts 59 = .ok (.isub, 1) := by decide +kernel
theorem dX11_counts_60 : decode cX11_counts 60 = .ok (.iload_n 1, 1) := by decide +kernel
theorem dX11_counts_61 : decode cX11_counts 61 = .ok (.iload 5, 2) := by decide +kernel
theorem dX11_counts_63 : decode cX11_counts 63 = .ok (.iload_n 3, 1) := by decide +kernel
theorem dX11_counts_64 : decode cX11_counts 64 = .ok (.invokevirtual 194, 3) := by decide +kernel
theorem dX11_counts_67 : decode cX11_counts 67 = .ok (.ifCond .eq 21, 3) := by decide +kernel
theorem dX11_counts_70 : decode cX11_counts 70 = .ok (.aload_n 0, 1) := by decide +kernel
theorem dX11_counts_71 : decode cX11_counts 71 = .ok (.getfield 43, 3) := by decide +kernel
theorem dX11_counts_74 : decode cX11_counts 74 = .ok (.bipush 8, 2) := by decide +kernel
theorem dX11_counts_76 : decode cX11_counts 76 = .ok (.iload_n 1, 1) := by decide +kernel
theorem dX11_counts_77 : decode cX11_counts 77 = .ok (.imul, 1) := by decide +kernel
theorem dX11_counts_78 : decode cX11_counts 78 = .ok (.bipush 8, 2) := by decide +kernel
theorem dX11_counts_80 : decode cX11_counts 80 = .ok (.isub, 1) := by decide +kernel
theorem dX11_counts_81 : decode cX11_counts 81 = .ok (.iload 5, 2) := by decide +kernel
theorem dX11_counts_83 : decode cX11_counts 83 = .ok (.iadd, 1) := by decide +kernel
theorem dX11_counts_84 : decode cX11_counts 84 = .ok (.iaload, 1) := by decide +kernel
theorem dX11_counts_85 : decode cX11_counts 85 = .ok (.goto 4, 3) := by decide +kernel
theorem dX11_counts_88 : decode cX11_counts 88 = .ok (.iconst 0, 1) := by decide +kernel
theorem dX11_counts_89 : decode cX11_counts 89 = .ok (.iadd, 1) := by decide +kernel
theorem dX11_counts_90 : decode cX11_counts 90 = .ok (.istore 4, 2) := by decide +kernel
theorem dX11_counts_92 : decode cX11_counts 92 = .ok (.iinc 5 1, 3) := by decide +kernel
theorem dX11_counts_95 : decode cX11_counts 95 = .ok (.goto (-52), 3) := by decide +kernel
theorem dX11_counts_98 : decode cX11_counts 98 = .ok (.aload_n 0, 1) := by decide +kernel
theorem dX11_counts_99 : decode cX11_counts 99 = .ok (.getfield 43, 3) := by decide +kernel
theorem dX11_counts_102 : decode cX11_counts 102 = .ok (.bipush 8, 2) := by decide +kernel
theorem dX11_counts_104 : decode cX11_counts 104 = .ok (.iload_n 1, 1) := by decide +kernel
theorem dX11_counts_105 : decode cX11_counts 105 = .ok (.imul, 1) := by decide +kernel
theorem dX11_counts_106 : decode cX11_counts 106 = .ok (.iload_n 3, 1) := by decide +kernel
theorem dX11_counts_107 : decode cX11_counts 107 = .ok (.iadd, 1) := by decide +kernel
theorem dX11_counts_108 : decode cX11_counts 108 = .ok (.iload_n 2, 1) := by decide +kernel
theorem dX11_counts_109 : decode cX11_counts 109 = .ok (.iload_n 3, 1) := by decide +kernel
theorem dX11_counts_110 : decode cX11_counts 110 = .ok (.ishr, 1) := by decide +kernel
theorem dX11_counts_111 : decode cX11_counts 111 = .ok (.iconst 1, 1) := by decide +kernel
theorem dX11_counts_112 : decode cX11_counts 112 = .ok (.iand, 1) := by decide +kernel
theorem dX11_counts_113 : decode cX11_counts 113 = .ok (.iconst 1, 1) := by decide +kernel
theorem dX11_counts_114 : decode cX11_counts 114 = .ok (.if_icmp .ne 8, 3) := by decide +kernel
theorem dX11_counts_117 : decode cX11_counts 117 = .ok (.iload 4, 2) := by decide +kernel
theorem dX11_counts_119 : decode cX11_counts 119 = .ok (.goto 4, 3) := by decide +kernel
theorem dX11_counts_122 : decode cX11_counts 122 = .ok (.iconst 0, 1) := by decide +kernel
theorem dX11_counts_123 : decode cX11_counts 123 = .ok (.iastore, 1) := by decide +kernel
theorem dX11_counts_124 : decode cX11_counts 124 = .ok (.iinc 3 1, 3) := by decide +kernel
theorem dX11_counts_127 : decode cX11_counts 127 = .ok (.goto (-104), 3) := by decide +kernel
theorem dX11_counts_130 : decode cX11_counts 130 = .ok (.iinc 1 1, 3) := by decide +kernel
theorem dX11_counts_133 : decode cX11_counts 133 = .ok (.goto (-131), 3) := by decide +kernel
theorem dX11_counts_136 : decode cX11_counts 136 = .ok (.aload_n 0, 1) := by decide +kernel
theorem dX11_counts_137 : decode cX11_counts 137 = .ok (.getfield 156, 3) := by decide +kernel
theorem dX11_counts_140 : decode cX11_counts 140 = .ok (.iconst 1, 1) := by decide +kernel
theorem dX11_counts_141 : decode cX11_counts 141 = .ok (.isub, 1) := by decide +kernel
theorem dX11_counts_142 : decode cX11_counts 142 = .ok (.istore_n 1, 1) := by decide +kernel
theorem dX11_counts_143 : decode cX11_counts 143 = .ok (.iload_n 1, 1) := by decide +kernel
theorem dX11_counts_144 : decode cX11_counts 144 = .ok (.ifCond .lt 141, 3) := by decide +kernel
theorem dX11_counts_147 : decode cX11_counts 147 = .ok (.aload_n 0, 1) := by decide +kernel
theorem dX11_counts_148 : decode cX11_counts 148 = .ok (.aload_n 0, 1) := by decide +kernel
theorem dX11_counts_149 : decode cX11_counts 149 = .ok (.getfield 40, 3) := by decide +kernel
theorem dX11_counts_152 : decode cX11_counts 152 = .ok (.iload_n 1, 1) := by decide +kernel
theorem dX11_counts_153 : decode cX11_counts 153 = .ok (.iaload, 1) := by decide +kernel
theorem dX11_counts_154 : decode cX11_counts 154 = .ok (.invokevirtual 188, 3) := by decide +kernel
theorem dX11_counts_157 : decode cX11_counts 157 = .ok (.istore_n 2, 1) := by decide +kernel
theorem dX11_counts_158 : decode cX11_counts 158 = .ok (.iconst 0, 1) := by decide +kernel
theorem dX11_counts_159 : decode cX11_counts 159 = .ok (.istore_n 3, 1) := by decide +kernel
theorem dX11_counts_160 : decode cX11_counts 160 = .ok (.iload_n 3, 1) := by decide +kernel
theorem dX11_counts_161 : decode cX11_counts 161 = .ok (.bipush 8, 2) := by decide +kernel
theorem dX11_counts_163 : decode cX11_counts 163 = .ok (.if_icmp .ge 116, 3) := by decide +kernel
theorem dX11_counts_166 : decode cX11_counts 166 = .ok (.iload_n 1, 1) := by decide +kernel
theorem dX11_counts_167 : decode cX11_counts 167 = .ok (.aload_n 0, 1) := by decide +kernel
theorem dX11_counts_168 : decode cX11_counts 168 = .ok (.getfield 156, 3) := by decide +kernel
theorem dX11_counts_171 : decode cX11_counts 171 = .ok (.iconst 1, 1) := by decide +kernel
theorem dX11_counts_172 : decode cX11_counts 172 = .ok (.isub, 1) := by decide +kernel
theorem dX11_counts_173 : decode cX11_counts 173 = .ok (.if_icmp .ne 7, 3) := by decide +kernel
theorem dX11_counts_176 : decode cX11_counts 176 = .ok (.iconst 1, 1) := by decide +kernel
theorem dX11_counts_177 : decode cX11_counts 177 = .ok (.goto 4, 3) := by decide +kernel
theorem dX11_counts_180 : decode cX11_counts 180 = .ok (.iconst 0, 1) := by decide +kernel
theorem dX11_counts_181 : decode cX11_counts 181 = .ok (.istore 4, 2) := by decide +kernel
theorem dX11_counts_183 : decode cX11_counts 183 = .ok (.iconst 0, 1) := by decide +kernel
theorem dX11_counts_184 : decode cX11_counts 184 = .ok (.istore 5, 2) := by decide +kernel
theorem dX11_counts_186 : decode cX11_counts 186 = .ok (.iload 5, 2) := by decide +kernel
theorem dX11_counts_188 : decode cX11_counts 188 = .ok (.bipush 8, 2) := by decide +kernel
theorem dX11_counts_190 : decode cX11_counts 190 = .ok (.if_icmp .ge 57, 3) := by decide +kernel
theorem dX11_counts_193 : decode cX11_counts 193 = .ok (.iload_n 1, 1) := by decide +kernel
theorem dX11_counts_194 : decode cX11_counts 194 = .ok (.aload_n 0, 1) := by decide +kernel
theorem dX11_counts_195 : decode cX11_counts 195 = .ok (.getfield 156, 3) := by decide +kernel
theorem dX11_counts_198 : decode cX11_counts 198 = .ok (.iconst 1, 1) := by decide +kernel
theorem dX11_counts_199 : decode cX11_counts 199 = .ok (.isub, 1) := by decide +kernel
theorem dX11_counts_200 : decode cX11_counts 200 = .ok (.if_icmp .ge 47, 3) := by decide +kernel
theorem dX11_counts_203 : decode cX11_counts 203 = .ok (.iload 4, 2) := by decide +kernel
theorem dX11_counts_205 : decode cX11_counts 205 = .ok (.aload_n 0, 1) := by decide +kernel
theorem dX11_counts_206 : decode cX11_counts 206 = .ok (.iload_n 1, 1) := by decide +kernel
theorem dX11_counts_207 : decode cX11_counts 207 = .ok (.iload_n 1, 1) := by decide +kernel
theorem dX11_counts_208 : decode cX11_counts 208 = .ok (.iconst 1, 1) := by decide +kernel
theorem dX11_counts_209 : decode cX11_counts 209 = .ok (.iadd, 1) := by decide +kernel
theorem dX11_counts_210 : decode cX11_counts 210 = .ok (.iload_n 3, 1) := by decide +kernel
theorem dX11_counts_211 : decode cX11_counts 211 = .ok (.iload 5, 2) := by decide +kernel
theorem dX11_counts_213 : decode cX11_counts 213 = .ok (.invokevirtual 194, 3) := by decide +kernel
theorem dX11_counts_216 : decode cX11_counts 216 = .ok (.ifCond .eq 21, 3) := by decide +kernel
theorem dX11_counts_219 : decode cX11_counts 219 = .ok (.aload_n 0, 1) := by decide +kernel
theorem dX11_counts_220 : decode cX11_counts 220 = .ok (.getfield 46, 3) := by decide +kernel
theorem dX11_counts_223 : decode cX11_counts 223 = .ok (.bipush 8, 2) := by decide +kernel
theorem dX11_counts_225 : decode cX11_counts 225 = .ok (.iload_n 1, 1) := by decide +kernel
theorem dX11_counts_226 : decode cX11_counts 226 = .ok (.imul, 1) := by decide +kernel
theorem dX11_counts_227 : decode cX11_counts 227 = .ok (.bipush 8, 2) := by decide +kernel
theorem dX11_counts_229 : decode cX11_counts 229 = .ok (.iadd, 1) := by decide +kernel
theorem dX11_counts_230 : decode cX11_counts 230 = .ok (.iload 5, 2) := by decide +kernel
theorem dX11_counts_232 : decode cX11_counts 232 = .ok (.iadd, 1) := by decide +kernel
theorem dX11_counts_233 : decode cX11_counts 233 = .ok (.iaload, 1) := by decide +kernel
theorem dX11_counts_234 : decode cX11_counts 234 = .ok (.goto 4, 3) := by decide +kernel
theorem dX11_counts_237 : decode cX11_counts 237 = .ok (.iconst 0, 1) := by decide +kernel
theorem dX11_counts_238 : decode cX11_counts 238 = .ok (.iadd, 1) := by decide +kernel
theorem dX11_counts_239 : decode cX11_counts 239 = .ok (.istore 4, 2) := by decide +kernel
theorem dX11_counts_241 : decode cX11_counts 241 = .ok (.iinc 5 1, 3) := by decide +kernel
theorem dX11_counts_244 : decode cX11_counts 244 = .ok (.goto (-58), 3) := by decide +kernel
theorem dX11_counts_247 : decode cX11_counts 247 = .ok (.aload_n 0, 1) := by decide +kernel
theorem dX11_counts_248 : decode cX11_counts 248 = .ok (.getfield 46, 3) := by decide +kernel
theorem dX11_counts_251 : decode cX11_counts 251 = .ok (.bipush 8, 2) := by decide +kernel
theorem dX11_counts_253 : decode cX11_counts 253 = .ok (.iload_n 1, 1) := by decide +kernel
theorem dX11_counts_254 : decode cX11_counts 254 = .ok (.imul, 1) := by decide +kernel
theorem dX11_counts_255 : decode cX11_counts 255 = .ok (.iload_n 3, 1) := by decide +kernel
theorem dX11_counts_256 : decode cX11_counts 256 = .ok (.iadd, 1) := by decide +kernel
theorem dX11_counts_257 : decode cX11_counts 257 = .ok (.iload_n 2, 1) := by decide +kernel
theorem dX11_counts_258 : decode cX11_counts 258 = .ok (.iload_n 3, 1) := by decide +kernel
theorem dX11_counts_259 : decode cX11_counts 259 = .ok (.ishr, 1) := by decide +kernel
theorem dX11_counts_260 : decode cX11_counts 260 = .ok (.iconst 1, 1) := by decide +kernel
theorem dX11_counts_261 : decode cX11_counts 261 = .ok (.iand, 1) := by decide +kernel
theorem dX11_counts_262 : decode cX11_counts 262 = .ok (.iconst 1, 1) := by decide +kernel
theorem dX11_counts_263 : decode cX11_counts 263 = .ok (.if_icmp .ne 8, 3) := by decide +kernel
theorem dX11_counts_266 : decode cX11_counts 266 = .ok (.iload 4, 2) := by decide +kernel
theorem dX11_counts_268 : decode cX11_counts 268 = .ok (.goto 4, 3) := by decide +kernel
theorem dX11_counts_271 : decode cX11_counts 271 = .ok (.iconst 0, 1) := by decide +kernel
theorem dX11_counts_272 : decode cX11_counts 272 = .ok (.iastore, 1) := by decide +kernel
theorem dX11_counts_273 : decode cX11_counts 273 = .ok (.iinc 3 1, 3) := by decide +kernel
theorem dX11_counts_276 : decode cX11_counts 276 = .ok (.goto (-116), 3) := by decide +kernel
theorem dX11_counts_279 : decode cX11_counts 279 = .ok (.iinc 1 (-1), 3) := by decide +kernel
theorem dX11_counts_282 : decode cX11_counts 282 = .ok (.goto (-139), 3) := by decide +kernel
theorem dX11_counts_285 : decode cX11_counts 285 = .ok (.return_, 1) := by decide +kernel
set_option maxRecDepth 20000 in
theorem ggX11_tracks_X11_counts : GoodIn wsX11_tracks wsX11_counts := goodIn_r _ [7, 1, 8, 9, 2, 10, 11, 12, 6, 13, 14, 15, 16, 17, 18, 19, 20, 21, 22, 23, 24, 25, 26, 27, 28, 29, 30, 31, 32, 33, 34, 35, 36, 37, 38, 39, 40, 41, 42, 43, 44, 45, 46, 47, 48, 49, 50, 51, 52, 53, 54, 55, 56, 57, 58, 59, 60, 61, 62, 63, 64, 65, 66, 67] (by decide +kernel) (by decide +kernel)
set_option maxRecDepth 20000 in
theorem gX11_tracks_X11_counts : GoodIn wsX11_tracks (wsV RX11 198 RX11 yX11_counts wsX11_counts) := goodIn_app (goodIn_of _ (by decide +kernel)) ggX11_tracks_X11_counts
theorem dX11_tracks_0 : decode cX11_tracks 0 = .ok (.aload_n 0, 1) := by decide +kernel
theorem dX11_tracks_1 : decode cX11_tracks 1 = .ok (.invokevirtual 198, 3) := by decide +kernel
theorem dX11_tracks_4 : decode cX11_tracks 4 = .ok (.aload_n 0, 1) := by decide +kernel
theorem dX11_tracks_5 : decode cX11_tracks 5 = .ok (.getfield 156, 3) := by decide +kernel
theorem dX11_tracks_8 : decode cX11_tracks 8 = .ok (.ifCond .ne 7, 3) := by decide +kernel
theorem dX11_tracks_11 : decode cX11_tracks 11 = .ok (.iconst 1, 1) := by decide +kernel
theorem dX11_tracks_12 : decode cX11_tracks 12 = .ok (.goto 4, 3) := by decide +kernel
theorem dX11_tracks_15 : decode cX11_tracks 15 = .ok (.iconst 0, 1) := by decide +kernel
theorem dX11_tracks_16 : decode cX11_tracks 16 = .ok (.istore_n 1, 1) := by decide +kernel
theorem dX11_tracks_17 : decode cX11_tracks 17 = .ok (.iconst 0, 1) := by decide +kernel
theorem dX11_tracks_18 : decode cX11_tracks 18 = .ok (.istore_n 2, 1) := by decide +kernel
theorem dX11_tracks_19 : decode cX11_tracks 19 = .ok (.iload_n 2, 1) := by decide +kernel
theorem dX11_tracks_20 : decode cX11_tracks 20 = .ok (.bipush 8, 2) := by decide +kernel
theorem dX11_tracks_22 : decode cX11_tracks 22 = .ok (.if_icmp .ge 25, 3) := by decide +kernel
theorem dX11_tracks_25 : decode cX11_tracks 25 = .ok (.aload_n 0, 1) := by decide +kernel
theorem dX11_tracks_26 : decode cX11_tracks 26 = .ok (.getfield 156, 3) := by decide +kernel
theorem dX11_tracks_29 : decode cX11_tracks 29 = .ok (.ifCond .le 18, 3) := by decide +kernel
theorem dX11_tracks_32 : decode cX11_tracks 32 = .ok (.iload_n 1, 1) := by decide +kernel
theorem dX11_tracks_33 : decode cX11_tracks 33 = .ok (.aload_n 0, 1) := by decide +kernel
theorem dX11_tracks_34 : decode cX11_tracks 34 = .ok (.getfield 46, 3) := by decide +kernel
theorem dX11_tracks_37 : decode cX11_tracks 37 = .ok (.iload_n 2, 1) := by decide +kernel
theorem dX11_tracks_38 : decode cX11_tracks 38 = .ok (.iaload, 1) := by decide +kernel
theorem dX11_tracks_39 : decode cX11_tracks 39 = .ok (.iadd, 1) := by decide +kernel
theorem dX11_tracks_40 : decode cX11_tracks 40 = .ok (.istore_n 1, 1) := by decide +kernel
theorem dX11_tracks_41 : decode cX11_tracks 41 = .ok (.iinc 2 1, 3) := by decide +kernel
theorem dX11_tracks_44 : decode cX11_tracks 44 = .ok (.goto (-25), 3) := by decide +kernel
theorem dX11_tracks_47 : decode cX11_tracks 47 = .ok (.iload_n 1, 1) := by decide +kernel
theorem dX11_tracks_48 : decode cX11_tracks 48 = .ok (.ireturn, 1) := by decide +kernel
set_option maxRecDepth 20000 in
theorem ggX11_where_X11_in : GoodIn wsX11_where wsX11_in := goodIn_r _ [7] (by decide +kernel) (by decide +kernel)
set_option maxRecDepth 20000 in
theorem gX11_where_X11_in : GoodIn wsX11_where (va_wsS RX11 77 yX11_in wsX11_in) := goodIn_app (goodIn_of _ (by decide +kernel)) ggX11_where_X11_in
set_option maxRecDepth 20000 in
theorem ggX11_where_X11_counts : GoodIn wsX11_where wsX11_counts := goodIn_r _ [11, 1, 12, 2, 3, 13, 14, 15, 6, 16, 17, 18, 19, 20, 21, 22, 23, 24, 25, 26, 27, 28, 29, 30, 31, 32, 33, 34, 35, 36, 37, 38, 39, 40, 41, 42, 43, 44, 45, 46, 47, 48, 49, 50, 51, 52, 53, 54, 55, 56, 57, 58, 59, 60, 61, 62, 63, 64, 65, 66, 67, 68, 69, 70] (by decide +kernel) (by decide +kernel)
set_option maxRecDepth 20000 in
theorem gX11_where_X11_counts : GoodIn wsX11_where (wsV RX11 198 RX11 yX11_counts wsX11_counts) := goodIn_app (goodIn_of _ (by decide +kernel)) ggX11_where_X11_counts
theorem dX11_where_0 : decode cX11_where 0 = .ok (.iload_n 1, 1) := by decide +kernel
theorem dX11_where_1 : decode cX11_where 1 = .ok (.i2l, 1) := by decide +kernel
theorem dX11_where_2 : decode cX11_where 2 = .ok (.lconst 0, 1) := by decide +kernel
theorem dX11_where_3 : decode cX11_where 3 = .ok (.aload_n 0, 1) := by decide +kernel
theorem dX11_where_4 : decode cX11_where 4 = .ok (.getfield 156, 3) := by decide +kernel
theorem dX11_where_7 : decode cX11_where 7 = .ok (.iconst 1, 1) := by decide +kernel
theorem dX11_where_8 : decode cX11_where 8 = .ok (.isub, 1) := by decide +kernel
theorem dX11_where_9 : decode cX11_where 9 = .ok (.i2l, 1) := by decide +kernel
theorem dX11_where_10 : decode cX11_where 10 = .ok (.invokestatic 77, 3) := by decide +kernel
theorem dX11_where_13 : decode cX11_where 13 = .ok (.ifCond .ne 5, 3) := by decide +kernel
theorem dX11_where_16 : decode cX11_where 16 = .ok (.iconst (-1), 1) := by decide +kernel
theorem dX11_where_17 : decode cX11_where 17 = .ok (.ireturn, 1) := by decide +kernel
theorem dX11_where_18 : decode cX11_where 18 = .ok (.aload_n 0, 1) := by decide +kernel
theorem dX11_where_19 : decode cX11_where 19 = .ok (.invokevirtual 198, 3) := by decide +kernel
theorem dX11_where_22 : decode cX11_where 22 = .ok (.iconst 0, 1) := by decide +kernel
theorem dX11_where_23 : decode cX11_where 23 = .ok (.istore_n 2, 1) := by decide +kernel
theorem dX11_where_24 : decode cX11_where 24 = .ok (.iconst 0, 1) := by decide +kernel
theorem dX11_where_25 : decode cX11_where 25 = .ok (.istore_n 3, 1) := by decide +kernel
theorem dX11_where_26 : decode cX11_where 26 = .ok (.iload_n 3, 1) := by decide +kernel
theorem dX11_where_27 : decode cX11_where 27 = .ok (.bipush 8, 2) := by decide +kernel
theorem dX11_where_29 : decode cX11_where 29 = .ok (.if_icmp .ge 47, 3) := by decide +kernel
theorem dX11_where_32 : decode cX11_where 32 = .ok (.iload_n 2, 1) := by decide +kernel
theorem dX11_where_33 : decode cX11_where 33 = .ok (.aload_n 0, 1) := by decide +kernel
theorem dX11_where_34 : decode cX11_where 34 = .ok (.getfield 43, 3) := by decide +kernel
theorem dX11_where_37 : decode cX11_where 37 = .ok (.bipush 8, 2) := by decide +kernel
theorem dX11_where_39 : decode cX11_where 39 = .ok (.iload_n 1, 1) := by decide +kernel
theorem dX11_where_40 : decode cX11_where 40 = .ok (.imul, 1) := by decide +kernel
theorem dX11_where_41 : decode cX11_where 41 = .ok (.iload_n 3, 1) := by decide +kernel
theorem dX11_where_42 : decode cX11_where 42 = .ok (.iadd, 1) := by decide +kernel
theorem dX11_where_43 : decode cX11_where 43 = .ok (.iaload, 1) := by decide +kernel
theorem dX11_where_44 : decode cX11_where 44 = .ok (.ifCond .le 23, 3) := by decide +kernel
theorem dX11_where_47 : decode cX11_where 47 = .ok (.aload_n 0, 1) := by decide +kernel
theorem dX11_where_48 : decode cX11_where 48 = .ok (.getfield 46, 3) := by decide +kernel
theorem dX11_where_51 : decode cX11_where 51 = .ok (.bipush 8, 2) := by decide +kernel
theorem dX11_where_53 : decode cX11_where 53 = .ok (.iload_n 1, 1) := by decide +kernel
theorem dX11_where_54 : decode cX11_where 54 = .ok (.imul, 1) := by decide +kernel
theorem dX11_where_55 : decode cX11_where 55 = .ok (.iload_n 3, 1) := by decide +kernel
theorem dX11_where_56 : decode cX11_where 56 = .ok (.iadd, 1) := by decide +kernel
theorem dX11_where_57 : decode cX11_where 57 = .ok (.iaload, 1) := by decide +kernel
theorem dX11_where_58 : decode cX11_where 58 = .ok (.ifCond .le 9, 3) := by decide +kernel
theorem dX11_where_61 : decode cX11_where 61 = .ok (.iconst 1, 1) := by decide +kernel
theorem dX11_where_62 : decode cX11_where 62 = .ok (.iload_n 3, 1) := by decide +kernel
theorem dX11_where_63 : decode cX11_where 63 = .ok (.ishl, 1) := by decide +kernel
theorem dX11_where_64 : decode cX11_where 64 = .ok (.goto 4, 3) := by decide +kernel
theorem dX11_where_67 : decode cX11_where 67 = .ok (.iconst 0, 1) := by decide +kernel
theorem dX11_where_68 : decode cX11_where 68 = .ok (.ior, 1) := by decide +kernel
theorem dX11_where_69 : decode cX11_where 69 = .ok (.istore_n 2, 1) := by decide +kernel
theorem dX11_where_70 : decode cX11_where 70 = .ok (.iinc 3 1, 3) := by decide +kernel
theorem dX11_where_73 : decode cX11_where 73 = .ok (.goto (-47), 3) := by decide +kernel
theorem dX11_where_76 : decode cX11_where 76 = .ok (.iload_n 2, 1) := by decide +kernel
theorem dX11_where_77 : decode cX11_where 77 = .ok (.ireturn, 1) := by decide +kernel
set_option maxRecDepth 20000 in
theorem ggX11_men_X11_wrongAt : GoodIn wsX11_men wsX11_wrongAt := goodIn_r _ [7, 1, 8, 9, 10, 11, 12, 13, 14, 15, 16, 6, 17, 18, 19, 20, 21, 22, 23, 24, 25, 26, 27, 28, 29, 59, 60, 61, 62, 63, 64, 65, 66, 67, 68, 69, 70, 71, 72, 73, 74, 75, 76, 77, 78, 79, 80, 81, 82, 83, 84, 85, 86, 87, 88, 89, 90, 91, 92, 93, 94] (by decide +kernel) (by decide +kernel)
set_option maxRecDepth 20000 in
theorem gX11_men_X11_wrongAt : GoodIn wsX11_men (wsV RX11 204 RX11 yX11_wrongAt wsX11_wrongAt) := goodIn_app (goodIn_of _ (by decide +kernel)) ggX11_men_X11_wrongAt
set_option maxRecDepth 20000 in
theorem ggX11_men_X11_looks : GoodIn wsX11_men wsX11_looks := goodIn_r _ [33, 2, 34, 35, 36, 6, 37, 1, 8, 38, 39, 40, 41, 42, 43, 9, 12, 44, 45, 46, 47, 48, 49, 50, 51, 52, 53, 54, 55, 56, 57, 58, 18, 13, 27, 28, 29, 59, 60, 61, 62, 63, 64, 65, 66, 67, 68, 69, 70, 71, 72, 73, 74, 75, 76, 77, 78, 79, 80, 81, 82, 83, 84, 85, 86, 87, 88, 89, 90, 91, 92, 93, 94] (by decide +kernel) (by decide +kernel)
set_option maxRecDepth 20000 in
theorem gX11_men_X11_looks : GoodIn wsX11_men (wsV RX11 207 RX11 yX11_looks wsX11_looks) := goodIn_app (goodIn_of _ (by decide +kernel)) ggX11_men_X11_looks
theorem dX11_men_0 : decode cX11_men 0 = .ok (.aload_n 0, 1) := by decide +kernel
theorem dX11_men_1 : decode cX11_men 1 = .ok (.getfield 156, 3) := by decide +kernel
theorem dX11_men_4 : decode cX11_men 4 = .ok (.ifCond .ne 5, 3) := by decide +kernel
theorem dX11_men_7 : decode cX11_men 7 = .ok (.iconst 0, 1) := by decide +kernel
theorem dX11_men_8 : decode cX11_men 8 = .ok (.ireturn, 1) := by decide +kernel
theorem dX11_men_9 : decode cX11_men 9 = .ok (.aload_n 0, 1) := by decide +kernel
theorem dX11_men_10 : decode cX11_men 10 = .ok (.iconst 4, 1) := by decide +kernel
theorem dX11_men_11 : decode cX11_men 11 = .ok (.putfield 201, 3) := by decide +kernel
theorem dX11_men_14 : decode cX11_men 14 = .ok (.iconst 1, 1) := by decide +kernel
theorem dX11_men_15 : decode cX11_men 15 = .ok (.istore_n 1, 1) := by decide +kernel
theorem dX11_men_16 : decode cX11_men 16 = .ok (.iconst 0, 1) := by decide +kernel
theorem dX11_men_17 : decode cX11_men 17 = .ok (.istore_n 2, 1) := by decide +kernel
theorem dX11_men_18 : decode cX11_men 18 = .ok (.iload_n 2, 1) := by decide +kernel
theorem dX11_men_19 : decode cX11_men 19 = .ok (.aload_n 0, 1) := by decide +kernel
theorem dX11_men_20 : decode cX11_men 20 = .ok (.getfield 156, 3) := by decide +kernel
theorem dX11_men_23 : decode cX11_men 23 = .ok (.if_icmp .ge 14, 3) := by decide +kernel
theorem dX11_men_26 : decode cX11_men 26 = .ok (.iload_n 1, 1) := by decide +kernel
theorem dX11_men_27 : decode cX11_men 27 = .ok (.bipush 7, 2) := by decide +kernel
theorem dX11_men_29 : decode cX11_men 29 = .ok (.imul, 1) := by decide +kernel
theorem dX11_men_30 : decode cX11_men 30 = .ok (.istore_n 1, 1) := by decide +kernel
theorem dX11_men_31 : decode cX11_men 31 = .ok (.iinc 2 1, 3) := by decide +kernel
theorem dX11_men_34 : decode cX11_men 34 = .ok (.goto (-16), 3) := by decide +kernel
theorem dX11_men_37 : decode cX11_men 37 = .ok (.iconst 0, 1) := by decide +kernel
theorem dX11_men_38 : decode cX11_men 38 = .ok (.istore_n 2, 1) := by decide +kernel
theorem dX11_men_39 : decode cX11_men 39 = .ok (.iload_n 2, 1) := by decide +kernel
theorem dX11_men_40 : decode cX11_men 40 = .ok (.iload_n 1, 1) := by decide +kernel
theorem dX11_men_41 : decode cX11_men 41 = .ok (.if_icmp .ge 66, 3) := by decide +kernel
theorem dX11_men_44 : decode cX11_men 44 = .ok (.aload_n 0, 1) := by decide +kernel
theorem dX11_men_45 : decode cX11_men 45 = .ok (.iload_n 2, 1) := by decide +kernel
theorem dX11_men_46 : decode cX11_men 46 = .ok (.invokevirtual 204, 3) := by decide +kernel
theorem dX11_men_49 : decode cX11_men 49 = .ok (.istore_n 3, 1) := by decide +kernel
theorem dX11_men_50 : decode cX11_men 50 = .ok (.iload_n 3, 1) := by decide +kernel
theorem dX11_men_51 : decode cX11_men 51 = .ok (.ifCond .ge 13, 3) := by decide +kernel
theorem dX11_men_54 : decode cX11_men 54 = .ok (.aload_n 0, 1) := by decide +kernel
