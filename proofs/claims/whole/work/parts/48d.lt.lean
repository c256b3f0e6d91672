/-! ===== the law's words, 4 ===== -/
set_option maxRecDepth 20000 in
theorem lt_law_r31 : ∀ w ∈ wsL_law_r31, w ∈ lw_tbl := fun w h => (goodIn_p wsL_law_r31 [1261, 828, 1265, 832, 836, 840] (by decide +kernel) (by decide +kernel) w h).1
set_option maxRecDepth 20000 in
theorem lt_law_r32 : ∀ w ∈ wsL_law_r32, w ∈ lw_tbl := fun w h => (goodIn_p wsL_law_r32 [845, 848, 852, 856, 860, 863] (by decide +kernel) (by decide +kernel) w h).1
set_option maxRecDepth 20000 in
theorem lt_law_r33 : ∀ w ∈ wsL_law_r33, w ∈ lw_tbl := fun w h => (goodIn_p wsL_law_r33 [867, 871, 1269, 1273, 1277, 1280] (by decide +kernel) (by decide +kernel) w h).1
set_option maxRecDepth 20000 in
theorem lt_law_r34 : ∀ w ∈ wsL_law_r34, w ∈ lw_tbl := fun w h => (goodIn_p wsL_law_r34 [1283, 1287, 877, 881, 886, 1291] (by decide +kernel) (by decide +kernel) w h).1
set_option maxRecDepth 20000 in
theorem lt_law_r35 : ∀ w ∈ wsL_law_r35, w ∈ lw_tbl := fun w h => (goodIn_p wsL_law_r35 [890, 894, 898, 902, 907, 912] (by decide +kernel) (by decide +kernel) w h).1
set_option maxRecDepth 20000 in
theorem lt_law_r36 : ∀ w ∈ wsL_law_r36, w ∈ lw_tbl := fun w h => (goodIn_p wsL_law_r36 [917, 922, 927, 1295] (by decide +kernel) (by decide +kernel) w h).1
set_option maxRecDepth 20000 in
theorem lt_law_r37 : ∀ w ∈ wsL_law_r37, w ∈ lw_tbl := fun w h => (goodIn_p wsL_law_r37 [932, 936, 1309, 1313, 940] (by decide +kernel) (by decide +kernel) w h).1
set_option maxRecDepth 20000 in
theorem lt_law_r38 : ∀ w ∈ wsL_law_r38, w ∈ lw_tbl := fun w h => (goodIn_p wsL_law_r38 [1317, 1321, 944, 1325, 948, 1305] (by decide +kernel) (by decide +kernel) w h).1
set_option maxRecDepth 20000 in
theorem lt_X100 : ∀ w ∈ wsX100, w ∈ lw_tbl := fun w h => (goodIn_p wsX100 [] (by decide +kernel) (by decide +kernel) w h).1
set_option maxRecDepth 20000 in
theorem lt_X110 : ∀ w ∈ wsX110, w ∈ lw_tbl := fun w h => (goodIn_p wsX110 [] (by decide +kernel) (by decide +kernel) w h).1
set_option maxRecDepth 20000 in
theorem lt_X70 : ∀ w ∈ wsX70, w ∈ lw_tbl := fun w h => (goodIn_p wsX70 [] (by decide +kernel) (by decide +kernel) w h).1
set_option maxRecDepth 20000 in
theorem lt_X80 : ∀ w ∈ wsX80, w ∈ lw_tbl := fun w h => (goodIn_p wsX80 [] (by decide +kernel) (by decide +kernel) w h).1
set_option maxRecDepth 20000 in
theorem lt_X50 : ∀ w ∈ wsX50, w ∈ lw_tbl := fun w h => (goodIn_p wsX50 [] (by decide +kernel) (by decide +kernel) w h).1
set_option maxRecDepth 20000 in
theorem lt_X20 : ∀ w ∈ wsX20, w ∈ lw_tbl := fun w h => (goodIn_p wsX20 [] (by decide +kernel) (by decide +kernel) w h).1
set_option maxRecDepth 20000 in
theorem lt_X60 : ∀ w ∈ wsX60, w ∈ lw_tbl := fun w h => (goodIn_p wsX60 [] (by decide +kernel) (by decide +kernel) w h).1
set_option maxRecDepth 20000 in
theorem lt_X30 : ∀ w ∈ wsX30, w ∈ lw_tbl := fun w h => (goodIn_p wsX30 [] (by decide +kernel) (by decide +kernel) w h).1
set_option maxRecDepth 20000 in
theorem lt_X40 : ∀ w ∈ wsX40, w ∈ lw_tbl := fun w h => (goodIn_p wsX40 [] (by decide +kernel) (by decide +kernel) w h).1
set_option maxRecDepth 20000 in
theorem lt_X90 : ∀ w ∈ wsX90, w ∈ lw_tbl := fun w h => (goodIn_p wsX90 [] (by decide +kernel) (by decide +kernel) w h).1
set_option maxRecDepth 20000 in
theorem lt_X00 : ∀ w ∈ wsX00, w ∈ lw_tbl := fun w h => (goodIn_p wsX00 [] (by decide +kernel) (by decide +kernel) w h).1
set_option maxRecDepth 20000 in
theorem lt_X10 : ∀ w ∈ wsX10, w ∈ lw_tbl := fun w h => (goodIn_p wsX10 [] (by decide +kernel) (by decide +kernel) w h).1
theorem lt_law : ∀ w ∈ wsL_law, w ∈ lw_tbl := List.forall_mem_append.mpr ⟨List.forall_mem_append.mpr ⟨List.forall_mem_append.mpr ⟨List.forall_mem_append.mpr ⟨List.forall_mem_append.mpr ⟨List.forall_mem_append.mpr ⟨List.forall_mem_append.mpr ⟨List.forall_mem_append.mpr ⟨List.forall_mem_append.mpr ⟨List.forall_mem_append.mpr ⟨List.forall_mem_append.mpr ⟨List.forall_mem_append.mpr ⟨List.forall_mem_append.mpr ⟨List.forall_mem_append.mpr ⟨lt_law_r1, List.forall_mem_append.mpr ⟨lt_law_r2, List.forall_mem_append.mpr ⟨lt_law_r3, List.forall_mem_append.mpr ⟨lt_law_r4, List.forall_mem_append.mpr ⟨lt_law_r5, List.forall_mem_append.mpr ⟨lt_law_r6, List.forall_mem_append.mpr ⟨lt_law_r7, List.forall_mem_append.mpr ⟨lt_law_r8, List.forall_mem_append.mpr ⟨lt_law_r9, List.forall_mem_append.mpr ⟨lt_law_r10, List.forall_mem_append.mpr ⟨lt_law_r11, List.forall_mem_append.mpr ⟨lt_law_r12, List.forall_mem_append.mpr ⟨lt_law_r13, List.forall_mem_append.mpr ⟨lt_law_r14, List.forall_mem_append.mpr ⟨lt_law_r15, List.forall_mem_append.mpr ⟨lt_law_r16, List.forall_mem_append.mpr ⟨lt_law_r17, List.forall_mem_append.mpr ⟨lt_law_r18, List.forall_mem_append.mpr ⟨lt_law_r19, List.forall_mem_append.mpr ⟨lt_law_r20, List.forall_mem_append.mpr ⟨lt_law_r21, List.forall_mem_append.mpr ⟨lt_law_r22, List.forall_mem_append.mpr ⟨lt_law_r23, List.forall_mem_append.mpr ⟨lt_law_r24, List.forall_mem_append.mpr ⟨lt_law_r25, List.forall_mem_append.mpr ⟨lt_law_r26, List.forall_mem_append.mpr ⟨lt_law_r27, List.forall_mem_append.mpr ⟨lt_law_r28, List.forall_mem_append.mpr ⟨lt_law_r29, List.forall_mem_append.mpr ⟨lt_law_r30, List.forall_mem_append.mpr ⟨lt_law_r31, List.forall_mem_append.mpr ⟨lt_law_r32, List.forall_mem_append.mpr ⟨lt_law_r33, List.forall_mem_append.mpr ⟨lt_law_r34, List.forall_mem_append.mpr ⟨lt_law_r35, List.forall_mem_append.mpr ⟨lt_law_r36, List.forall_mem_append.mpr ⟨lt_law_r37, lt_law_r38⟩⟩⟩⟩⟩⟩⟩⟩⟩⟩⟩⟩⟩⟩⟩⟩⟩⟩⟩⟩⟩⟩⟩⟩⟩⟩⟩⟩⟩⟩⟩⟩⟩⟩⟩⟩⟩, lt_X100⟩, lt_X110⟩, lt_X70⟩, lt_X80⟩, lt_X50⟩, lt_X20⟩, lt_X60⟩, lt_X30⟩, lt_X40⟩, lt_X90⟩, lt_X00⟩, lt_X10⟩, fun w h => absurd h List.not_mem_nil⟩
