theorem dX0_init_0 : decode cX0_init 0 = .ok (.aload_n 0, 1) := by decide +kernel
theorem dX0_init_1 : decode cX0_init 1 = .ok (.invokespecial 5, 3) := by decide +kernel
theorem dX0_init_4 : decode cX0_init 4 = .ok (.aload_n 0, 1) := by decide +kernel
theorem dX0_init_5 : decode cX0_init 5 = .ok (.bipush 9, 2) := by decide +kernel
theorem dX0_init_7 : decode cX0_init 7 = .ok (.sipush 512, 3) := by decide +kernel
theorem dX0_init_10 : decode cX0_init 10 = .ok (.multianewarray 11 2, 4) := by decide +kernel
theorem dX0_init_14 : decode cX0_init 14 = .ok (.putfield 13, 3) := by decide +kernel
theorem dX0_init_17 : decode cX0_init 17 = .ok (.aload_n 0, 1) := by decide +kernel
theorem dX0_init_18 : decode cX0_init 18 = .ok (.bipush 8, 2) := by decide +kernel
theorem dX0_init_20 : decode cX0_init 20 = .ok (.newarray .int, 2) := by decide +kernel
theorem dX0_init_22 : decode cX0_init 22 = .ok (.putfield 16, 3) := by decide +kernel
theorem dX0_init_25 : decode cX0_init 25 = .ok (.aload_n 0, 1) := by decide +kernel
theorem dX0_init_26 : decode cX0_init 26 = .ok (.aload_n 1, 1) := by decide +kernel
theorem dX0_init_27 : decode cX0_init 27 = .ok (.putfield 20, 3) := by decide +kernel
theorem dX0_init_30 : decode cX0_init 30 = .ok (.aload_n 0, 1) := by decide +kernel
theorem dX0_init_31 : decode cX0_init 31 = .ok (.aload_n 2, 1) := by decide +kernel
theorem dX0_init_32 : decode cX0_init 32 = .ok (.putfield 24, 3) := by decide +kernel
theorem dX0_init_35 : decode cX0_init 35 = .ok (.aload_n 0, 1) := by decide +kernel
theorem dX0_init_36 : decode cX0_init 36 = .ok (.aload_n 3, 1) := by decide +kernel
theorem dX0_init_37 : decode cX0_init 37 = .ok (.putfield 28, 3) := by decide +kernel
theorem dX0_init_40 : decode cX0_init 40 = .ok (.return_, 1) := by decide +kernel
set_option maxRecDepth 20000 in
theorem ggX0_leastSteps_X0_findRests : GoodIn wsX0_leastSteps wsX0_findRests := goodIn_r _ [6, 7, 8, 9, 1, 10, 11, 12, 13, 14, 15, 16, 17, 18, 19, 20, 21, 22, 23, 24, 25, 26, 27, 28, 29, 5, 30, 31, 32, 33, 34, 35, 36, 37, 38, 39, 40, 41, 42, 43, 44, 45, 46, 47, 48, 49, 50, 51, 52, 53, 54, 55, 56, 57, 58, 59, 60, 61, 62, 63, 64, 65, 66, 67, 68, 69, 70, 71, 72, 73, 74, 75, 76, 77, 78, 79, 80, 81, 82, 83, 84, 85, 86, 87, 88] (by decide +kernel) (by decide +kernel)
set_option maxRecDepth 20000 in
theorem gX0_leastSteps_X0_findRests : GoodIn wsX0_leastSteps (wsV RX0 32 RX0 yX0_findRests wsX0_findRests) := goodIn_app (goodIn_of _ (by decide +kernel)) ggX0_leastSteps_X0_findRests
set_option maxRecDepth 20000 in
theorem ggX0_leastSteps_X0_startStanding : GoodIn wsX0_leastSteps wsX0_startStanding := goodIn_r _ [38, 39, 7, 63, 64, 65, 66, 67, 80, 81, 82, 83, 84, 85, 86, 87, 88, 68, 69, 70, 71, 72, 73, 74, 75, 76, 77] (by decide +kernel) (by decide +kernel)
set_option maxRecDepth 20000 in
theorem gX0_leastSteps_X0_startStanding : GoodIn wsX0_leastSteps (wsV RX0 35 RX0 yX0_startStanding wsX0_startStanding) := goodIn_app (goodIn_of _ (by decide +kernel)) ggX0_leastSteps_X0_startStanding
theorem dX0_leastSteps_0 : decode cX0_leastSteps 0 = .ok (.aload_n 0, 1) := by decide +kernel
theorem dX0_leastSteps_1 : decode cX0_leastSteps 1 = .ok (.invokevirtual 32, 3) := by decide +kernel
theorem dX0_leastSteps_4 : decode cX0_leastSteps 4 = .ok (.aload_n 0, 1) := by decide +kernel
theorem dX0_leastSteps_5 : decode cX0_leastSteps 5 = .ok (.getfield 13, 3) := by decide +kernel
theorem dX0_leastSteps_8 : decode cX0_leastSteps 8 = .ok (.iconst 0, 1) := by decide +kernel
theorem dX0_leastSteps_9 : decode cX0_leastSteps 9 = .ok (.aaload, 1) := by decide +kernel
theorem dX0_leastSteps_10 : decode cX0_leastSteps 10 = .ok (.aload_n 0, 1) := by decide +kernel
theorem dX0_leastSteps_11 : decode cX0_leastSteps 11 = .ok (.invokevirtual 35, 3) := by decide +kernel
theorem dX0_leastSteps_14 : decode cX0_leastSteps 14 = .ok (.iaload, 1) := by decide +kernel
theorem dX0_leastSteps_15 : decode cX0_leastSteps 15 = .ok (.istore_n 1, 1) := by decide +kernel
theorem dX0_leastSteps_16 : decode cX0_leastSteps 16 = .ok (.iload_n 1, 1) := by decide +kernel
theorem dX0_leastSteps_17 : decode cX0_leastSteps 17 = .ok (.sipush 1000, 3) := by decide +kernel
theorem dX0_leastSteps_20 : decode cX0_leastSteps 20 = .ok (.if_icmp .lt 8, 3) := by decide +kernel
theorem dX0_leastSteps_23 : decode cX0_leastSteps 23 = .ok (.bipush (-9), 2) := by decide +kernel
theorem dX0_leastSteps_25 : decode cX0_leastSteps 25 = .ok (.goto 4, 3) := by decide +kernel
theorem dX0_leastSteps_28 : decode cX0_leastSteps 28 = .ok (.iload_n 1, 1) := by decide +kernel
theorem dX0_leastSteps_29 : decode cX0_leastSteps 29 = .ok (.ireturn, 1) := by decide +kernel
set_option maxRecDepth 20000 in
theorem ggX0_moveFor_X0_leastSteps : GoodIn wsX0_moveFor wsX0_leastSteps := goodIn_r _ [5, 6, 7, 8, 9, 4, 10, 11, 12, 13, 14, 15, 16, 17, 18, 19, 20, 21, 22, 23, 24, 25, 26, 27, 28, 29, 30, 31, 32, 33, 34, 35, 36, 37, 38, 39, 40, 41, 42, 43, 44, 45, 46, 47, 48, 49, 50, 51, 52, 53, 54, 55, 56, 57, 58, 59, 60, 61, 62, 63, 64, 65, 66, 71, 72, 73, 74, 75, 76, 77, 78, 79, 80, 81, 82, 83, 84, 85, 86, 87, 88, 89, 90, 91, 92, 93, 94, 95, 96] (by decide +kernel) (by decide +kernel)
set_option maxRecDepth 20000 in
theorem gX0_moveFor_X0_leastSteps : GoodIn wsX0_moveFor (wsV RX0 39 RX0 yX0_leastSteps wsX0_leastSteps) := goodIn_app (goodIn_of _ (by decide +kernel)) ggX0_moveFor_X0_leastSteps
set_option maxRecDepth 20000 in
theorem ggX0_moveFor_X0_startStanding : GoodIn wsX0_moveFor wsX0_startStanding := goodIn_r _ [42, 43, 11, 71, 72, 73, 74, 75, 88, 89, 90, 91, 92, 93, 94, 95, 96, 76, 77, 78, 79, 80, 81, 82, 83, 84, 85] (by decide +kernel) (by decide +kernel)
set_option maxRecDepth 20000 in
theorem gX0_moveFor_X0_startStanding : GoodIn wsX0_moveFor (wsV RX0 35 RX0 yX0_startStanding wsX0_startStanding) := goodIn_app (goodIn_of _ (by decide +kernel)) ggX0_moveFor_X0_startStanding
set_option maxRecDepth 20000 in
theorem ggX0_moveFor_X0_earliestBestMove : GoodIn wsX0_moveFor wsX0_earliestBestMove := goodIn_r _ [70, 43, 6, 48, 49, 50, 4, 51, 12, 62, 63, 64, 65, 66, 20, 21, 22, 52, 53, 54, 71, 72, 73, 74, 75, 88, 89, 90, 91, 92, 93, 94, 95, 96] (by decide +kernel) (by decide +kernel)
set_option maxRecDepth 20000 in
theorem gX0_moveFor_X0_earliestBestMove : GoodIn wsX0_moveFor (wsV RX0 42 RX0 yX0_earliestBestMove wsX0_earliestBestMove) := goodIn_app (goodIn_of _ (by decide +kernel)) ggX0_moveFor_X0_earliestBestMove
set_option maxRecDepth 20000 in
theorem ggX0_moveFor_X0_moved : GoodIn wsX0_moveFor wsX0_moved := goodIn_r _ [54] (by decide +kernel) (by decide +kernel)
set_option maxRecDepth 20000 in
theorem gX0_moveFor_X0_moved : GoodIn wsX0_moveFor (va_wsS RX0 46 yX0_moved wsX0_moved) := goodIn_app (goodIn_of _ (by decide +kernel)) ggX0_moveFor_X0_moved
theorem dX0_moveFor_0 : decode cX0_moveFor 0 = .ok (.aload_n 0, 1) := by decide +kernel
theorem dX0_moveFor_1 : decode cX0_moveFor 1 = .ok (.invokevirtual 39, 3) := by decide +kernel
theorem dX0_moveFor_4 : decode cX0_moveFor 4 = .ok (.bipush (-9), 2) := by decide +kernel
theorem dX0_moveFor_6 : decode cX0_moveFor 6 = .ok (.if_icmp .ne 6, 3) := by decide +kernel
theorem dX0_moveFor_9 : decode cX0_moveFor 9 = .ok (.bipush (-9), 2) := by decide +kernel
theorem dX0_moveFor_11 : decode cX0_moveFor 11 = .ok (.ireturn, 1) := by decide +kernel
theorem dX0_moveFor_12 : decode cX0_moveFor 12 = .ok (.aload_n 0, 1) := by decide +kernel
theorem dX0_moveFor_13 : decode cX0_moveFor 13 = .ok (.invokevirtual 35, 3) := by decide +kernel
theorem dX0_moveFor_16 : decode cX0_moveFor 16 = .ok (.istore_n 2, 1) := by decide +kernel
theorem dX0_moveFor_17 : decode cX0_moveFor 17 = .ok (.iconst 0, 1) := by decide +kernel
theorem dX0_moveFor_18 : decode cX0_moveFor 18 = .ok (.istore_n 3, 1) := by decide +kernel
theorem dX0_moveFor_19 : decode cX0_moveFor 19 = .ok (.iload_n 3, 1) := by decide +kernel
theorem dX0_moveFor_20 : decode cX0_moveFor 20 = .ok (.iload_n 1, 1) := by decide +kernel
theorem dX0_moveFor_21 : decode cX0_moveFor 21 = .ok (.if_icmp .ge 20, 3) := by decide +kernel
theorem dX0_moveFor_24 : decode cX0_moveFor 24 = .ok (.iload_n 2, 1) := by decide +kernel
theorem dX0_moveFor_25 : decode cX0_moveFor 25 = .ok (.aload_n 0, 1) := by decide +kernel
theorem dX0_moveFor_26 : decode cX0_moveFor 26 = .ok (.iload_n 3, 1) := by decide +kernel
theorem dX0_moveFor_27 : decode cX0_moveFor 27 = .ok (.iload_n 2, 1) := by decide +kernel
theorem dX0_moveFor_28 : decode cX0_moveFor 28 = .ok (.invokevirtual 42, 3) := by decide +kernel
theorem dX0_moveFor_31 : decode cX0_moveFor 31 = .ok (.invokestatic 46, 3) := by decide +kernel
theorem dX0_moveFor_34 : decode cX0_moveFor 34 = .ok (.istore_n 2, 1) := by decide +kernel
theorem dX0_moveFor_35 : decode cX0_moveFor 35 = .ok (.iinc 3 1, 3) := by decide +kernel
theorem dX0_moveFor_38 : decode cX0_moveFor 38 = .ok (.goto (-19), 3) := by decide +kernel
theorem dX0_moveFor_41 : decode cX0_moveFor 41 = .ok (.aload_n 0, 1) := by decide +kernel
theorem dX0_moveFor_42 : decode cX0_moveFor 42 = .ok (.iload_n 1, 1) := by decide +kernel
theorem dX0_moveFor_43 : decode cX0_moveFor 43 = .ok (.iload_n 2, 1) := by decide +kernel
theorem dX0_moveFor_44 : decode cX0_moveFor 44 = .ok (.invokevirtual 42, 3) := by decide +kernel
theorem dX0_moveFor_47 : decode cX0_moveFor 47 = .ok (.ireturn, 1) := by decide +kernel
set_option maxRecDepth 20000 in
theorem ggX0_earliestBestMove_X0_canMake : GoodIn wsX0_earliestBestMove wsX0_canMake := goodIn_r _ [7, 8, 20, 21, 22, 23, 24] (by decide +kernel) (by decide +kernel)
set_option maxRecDepth 20000 in
theorem gX0_earliestBestMove_X0_canMake : GoodIn wsX0_earliestBestMove (wsV RX0 55 RX0 yX0_canMake wsX0_canMake) := goodIn_app (goodIn_of _ (by decide +kernel)) ggX0_earliestBestMove_X0_canMake
set_option maxRecDepth 20000 in
theorem ggX0_earliestBestMove_X0_restBehind : GoodIn wsX0_earliestBestMove wsX0_restBehind := goodIn_r _ [12, 13, 14, 15, 16, 2, 17, 18, 6, 19, 20, 21, 22, 23, 24] (by decide +kernel) (by decide +kernel)
set_option maxRecDepth 20000 in
theorem gX0_earliestBestMove_X0_restBehind : GoodIn wsX0_earliestBestMove (wsV RX0 59 RX0 yX0_restBehind wsX0_restBehind) := goodIn_app (goodIn_of _ (by decide +kernel)) ggX0_earliestBestMove_X0_restBehind
theorem dX0_earliestBestMove_0 : decode cX0_earliestBestMove 0 = .ok (.iconst 0, 1) := by decide +kernel
theorem dX0_earliestBestMove_1 : decode cX0_earliestBestMove 1 = .ok (.istore_n 3, 1) := by decide +kernel
theorem dX0_earliestBestMove_2 : decode cX0_earliestBestMove 2 = .ok (.iload_n 3, 1) := by decide +kernel
theorem dX0_earliestBestMove_3 : decode cX0_earliestBestMove 3 = .ok (.aload_n 0, 1) := by decide +kernel
theorem dX0_earliestBestMove_4 : decode cX0_earliestBestMove 4 = .ok (.getfield 20, 3) := by decide +kernel
theorem dX0_earliestBestMove_7 : decode cX0_earliestBestMove 7 = .ok (.getfield 49, 3) := by decide +kernel
theorem dX0_earliestBestMove_10 : decode cX0_earliestBestMove 10 = .ok (.bipush 8, 2) := by decide +kernel
theorem dX0_earliestBestMove_12 : decode cX0_earliestBestMove 12 = .ok (.imul, 1) := by decide +kernel
theorem dX0_earliestBestMove_13 : decode cX0_earliestBestMove 13 = .ok (.if_icmp .ge 38, 3) := by decide +kernel
theorem dX0_earliestBestMove_16 : decode cX0_earliestBestMove 16 = .ok (.aload_n 0, 1) := by decide +kernel
theorem dX0_earliestBestMove_17 : decode cX0_earliestBestMove 17 = .ok (.iload_n 1, 1) := by decide +kernel
theorem dX0_earliestBestMove_18 : decode cX0_earliestBestMove 18 = .ok (.iload_n 3, 1) := by decide +kernel
theorem dX0_earliestBestMove_19 : decode cX0_earliestBestMove 19 = .ok (.invokevirtual 55, 3) := by decide +kernel
theorem dX0_earliestBestMove_22 : decode cX0_earliestBestMove 22 = .ok (.ifCond .eq 23, 3) := by decide +kernel
theorem dX0_earliestBestMove_25 : decode cX0_earliestBestMove 25 = .ok (.aload_n 0, 1) := by decide +kernel
theorem dX0_earliestBestMove_26 : decode cX0_earliestBestMove 26 = .ok (.iload_n 1, 1) := by decide +kernel
theorem dX0_earliestBestMove_27 : decode cX0_earliestBestMove 27 = .ok (.iload_n 2, 1) := by decide +kernel
theorem dX0_earliestBestMove_28 : decode cX0_earliestBestMove 28 = .ok (.iload_n 3, 1) := by decide +kernel
theorem dX0_earliestBestMove_29 : decode cX0_earliestBestMove 29 = .ok (.invokevirtual 59, 3) := by decide +kernel
theorem dX0_earliestBestMove_32 : decode cX0_earliestBestMove 32 = .ok (.aload_n 0, 1) := by decide +kernel
theorem dX0_earliestBestMove_33 : decode cX0_earliestBestMove 33 = .ok (.getfield 13, 3) := by decide +kernel
theorem dX0_earliestBestMove_36 : decode cX0_earliestBestMove 36 = .ok (.iload_n 1, 1) := by decide +kernel
theorem dX0_earliestBestMove_37 : decode cX0_earliestBestMove 37 = .ok (.aaload, 1) := by decide +kernel
theorem dX0_earliestBestMove_38 : decode cX0_earliestBestMove 38 = .ok (.iload_n 2, 1) := by decide +kernel
theorem dX0_earliestBestMove_39 : decode cX0_earliestBestMove 39 = .ok (.iaload, 1) := by decide +kernel
theorem dX0_earliestBestMove_40 : decode cX0_earliestBestMove 40 = .ok (.if_icmp .ne 5, 3) := by decide +kernel
theorem dX0_earliestBestMove_43 : decode cX0_earliestBestMove 43 = .ok (.iload_n 3, 1) := by decide +kernel
theorem dX0_earliestBestMove_44 : decode cX0_earliestBestMove 44 = .ok (.ireturn, 1) := by decide +kernel
theorem dX0_earliestBestMove_45 : decode cX0_earliestBestMove 45 = .ok (.iinc 3 1, 3) := by decide +kernel
theorem dX0_earliestBestMove_48 : decode cX0_earliestBestMove 48 = .ok (.goto (-46), 3) := by decide +kernel
theorem dX0_earliestBestMove_51 : decode cX0_earliestBestMove 51 = .ok (.iconst 0, 1) := by decide +kernel
theorem dX0_earliestBestMove_52 : decode cX0_earliestBestMove 52 = .ok (.ireturn, 1) := by decide +kernel
set_option maxRecDepth 20000 in
theorem ggX0_findRests_X6_likeSound : GoodIn wsX0_findRests wsX6_likeSound := goodIn_r _ [8, 9, 10, 11, 12, 13, 14, 15, 16, 6, 17, 18, 19, 20, 21, 74, 75, 76, 77, 78, 79, 80, 81, 82, 83, 84, 64, 65, 66, 67, 68, 69, 70, 71, 72, 73] (by decide +kernel) (by decide +kernel)
set_option maxRecDepth 20000 in
theorem gX0_findRests_X6_likeSound_n71 : GoodIn wsX0_findRests (wsX6_likeSound) := ggX0_findRests_X6_likeSound
set_option maxRecDepth 20000 in
theorem ggX0_findRests_X0_markStandings : GoodIn wsX0_findRests wsX0_markStandings := goodIn_r _ [26, 1, 4, 27, 28, 29, 30, 31, 32, 33, 25, 34, 35, 36, 37, 38, 39, 40, 41, 42, 43, 2, 44, 45, 46, 59, 60, 61, 62, 63, 64, 65, 66, 67, 68, 69, 70, 71, 72, 73, 76, 77, 78, 79, 80, 81, 82, 83, 84] (by decide +kernel) (by decide +kernel)
set_option maxRecDepth 20000 in
theorem gX0_findRests_X0_markStandings : GoodIn wsX0_findRests (wsV RX0 77 RX0 yX0_markStandings wsX0_markStandings) := goodIn_app (goodIn_of _ (by decide +kernel)) ggX0_findRests_X0_markStandings
set_option maxRecDepth 20000 in
theorem ggX0_findRests_X0_leastRest : GoodIn wsX0_findRests wsX0_leastRest := goodIn_r _ [50, 35, 51, 52, 12, 53, 40, 41, 42, 25, 43, 2, 54, 55, 56, 57, 58, 11, 13, 4, 44, 45, 46, 59, 60, 61, 62, 63, 76, 77, 78, 79, 80, 81, 82, 83, 84] (by decide +kernel) (by decide +kernel)
set_option maxRecDepth 20000 in
theorem gX0_findRests_X0_leastRest : GoodIn wsX0_findRests (wsV RX0 80 RX0 yX0_leastRest wsX0_leastRest) := goodIn_app (goodIn_of _ (by decide +kernel)) ggX0_findRests_X0_leastRest
theorem dX0_findRests_0 : decode cX0_findRests 0 = .ok (.iconst 0, 1) := by decide +kernel
theorem dX0_findRests_1 : decode cX0_findRests 1 = .ok (.istore_n 1, 1) := by decide +kernel
theorem dX0_findRests_2 : decode cX0_findRests 2 = .ok (.iload_n 1, 1) := by decide +kernel
theorem dX0_findRests_3 : decode cX0_findRests 3 = .ok (.aload_n 0, 1) := by decide +kernel
theorem dX0_findRests_4 : decode cX0_findRests 4 = .ok (.getfield 24, 3) := by decide +kernel
theorem dX0_findRests_7 : decode cX0_findRests 7 = .ok (.getfield 63, 3) := by decide +kernel
theorem dX0_findRests_10 : decode cX0_findRests 10 = .ok (.if_icmp .ge 31, 3) := by decide +kernel
theorem dX0_findRests_13 : decode cX0_findRests 13 = .ok (.aload_n 0, 1) := by decide +kernel
theorem dX0_findRests_14 : decode cX0_findRests 14 = .ok (.getfield 16, 3) := by decide +kernel
theorem dX0_findRests_17 : decode cX0_findRests 17 = .ok (.iload_n 1, 1) := by decide +kernel
theorem dX0_findRests_18 : decode cX0_findRests 18 = .ok (.aload_n 0, 1) := by decide +kernel
theorem dX0_findRests_19 : decode cX0_findRests 19 = .ok (.getfield 28, 3) := by decide +kernel
theorem dX0_findRests_22 : decode cX0_findRests 22 = .ok (.aload_n 0, 1) := by decide +kernel
theorem dX0_findRests_23 : decode cX0_findRests 23 = .ok (.getfield 24, 3) := by decide +kernel
theorem dX0_findRests_26 : decode cX0_findRests 26 = .ok (.getfield 68, 3) := by decide +kernel
theorem dX0_findRests_29 : decode cX0_findRests 29 = .ok (.iload_n 1, 1) := by decide +kernel
theorem dX0_findRests_30 : decode cX0_findRests 30 = .ok (.iaload, 1) := by decide +kernel
theorem dX0_findRests_31 : decode cX0_findRests 31 = .ok (.invokevirtual 71, 3) := by decide +kernel
theorem dX0_findRests_34 : decode cX0_findRests 34 = .ok (.iastore, 1) := by decide +kernel
theorem dX0_findRests_35 : decode cX0_findRests 35 = .ok (.iinc 1 1, 3) := by decide +kernel
theorem dX0_findRests_38 : decode cX0_findRests 38 = .ok (.goto (-36), 3) := by decide +kernel
theorem dX0_findRests_41 : decode cX0_findRests 41 = .ok (.aload_n 0, 1) := by decide +kernel
theorem dX0_findRests_42 : decode cX0_findRests 42 = .ok (.invokevirtual 77, 3) := by decide +kernel
theorem dX0_findRests_45 : decode cX0_findRests 45 = .ok (.aload_n 0, 1) := by decide +kernel
theorem dX0_findRests_46 : decode cX0_findRests 46 = .ok (.getfield 24, 3) := by decide +kernel
theorem dX0_findRests_49 : decode cX0_findRests 49 = .ok (.getfield 63, 3) := by decide +kernel
theorem dX0_findRests_52 : decode cX0_findRests 52 = .ok (.iconst 1, 1) := by decide +kernel
theorem dX0_findRests_53 : decode cX0_findRests 53 = .ok (.isub, 1) := by decide +kernel
theorem dX0_findRests_54 : decode cX0_findRests 54 = .ok (.istore_n 1, 1) := by decide +kernel
theorem dX0_findRests_55 : decode cX0_findRests 55 = .ok (.iload_n 1, 1) := by decide +kernel
theorem dX0_findRests_56 : decode cX0_findRests 56 = .ok (.ifCond .lt 50, 3) := by decide +kernel
theorem dX0_findRests_59 : decode cX0_findRests 59 = .ok (.iconst 0, 1) := by decide +kernel
theorem dX0_findRests_60 : decode cX0_findRests 60 = .ok (.istore_n 2, 1) := by decide +kernel
theorem dX0_findRests_61 : decode cX0_findRests 61 = .ok (.iload_n 2, 1) := by decide +kernel
theorem dX0_findRests_62 : decode cX0_findRests 62 = .ok (.sipush 512, 3) := by decide +kernel
theorem dX0_findRests_65 : decode cX0_findRests 65 = .ok (.if_icmp .ge 35, 3) := by decide +kernel
theorem dX0_findRests_68 : decode cX0_findRests 68 = .ok (.aload_n 0, 1) := by decide +kernel
theorem dX0_findRests_69 : decode cX0_findRests 69 = .ok (.getfield 13, 3) := by decide +kernel
theorem dX0_findRests_72 : decode cX0_findRests 72 = .ok (.iload_n 1, 1) := by decide +kernel
theorem dX0_findRests_73 : decode cX0_findRests 73 = .ok (.aaload, 1) := by decide +kernel
theorem dX0_findRests_74 : decode cX0_findRests 74 = .ok (.iload_n 2, 1) := by decide +kernel
theorem dX0_findRests_75 : decode cX0_findRests 75 = .ok (.iaload, 1) := by decide +kernel
theorem dX0_findRests_76 : decode cX0_findRests 76 = .ok (.iconst (-1), 1) := by decide +kernel
theorem dX0_findRests_77 : decode cX0_findRests 77 = .ok (.if_icmp .eq 17, 3) := by decide +kernel
theorem dX0_findRests_80 : decode cX0_findRests 80 = .ok (.aload_n 0, 1) := by decide +kernel
theorem dX0_findRests_81 : decode cX0_findRests 81 = .ok (.getfield 13, 3) := by decide +kernel
theorem dX0_findRests_84 : decode cX0_findRests 84 = .ok (.iload_n 1, 1) := by decide +kernel
theorem dX0_findRests_85 : decode cX0_findRests 85 = .ok (.aaload, 1) := by decide +kernel
theorem dX0_findRests_86 : decode cX0_findRests 86 = .ok (.iload_n 2, 1) := by decide +kernel
theorem dX0_findRests_87 : decode cX0_findRests 87 = .ok (.aload_n 0, 1) := by decide +kernel
theorem dX0_findRests_88 : decode cX0_findRests 88 = .ok (.iload_n 1, 1) := by decide +kernel
theorem dX0_findRests_89 : decode cX0_findRests 89 = .ok (.iload_n 2, 1) := by decide +kernel
theorem dX0_findRests_90 : decode cX0_findRests 90 = .ok (.invokevirtual 80, 3) := by decide +kernel
theorem dX0_findRests_93 : decode cX0_findRests 93 = .ok (.iastore, 1) := by decide +kernel
theorem dX0_findRests_94 : decode cX0_findRests 94 = .ok (.iinc 2 1, 3) := by decide +kernel
theorem dX0_findRests_97 : decode cX0_findRests 97 = .ok (.goto (-36), 3) := by decide +kernel
theorem dX0_findRests_100 : decode cX0_findRests 100 = .ok (.iinc 1 (-1), 3) := by decide +kernel
theorem dX0_findRests_103 : decode cX0_findRests 103 = .ok (.goto (-48), 3) := by decide +kernel
theorem dX0_findRests_106 : decode cX0_findRests 106 = .ok (.return_, 1) := by decide +kernel
set_option maxRecDepth 20000 in
theorem ggX0_markStandings_J7_fill_53178 : GoodIn wsX0_markStandings wsJ7_fill_53178 := goodIn_r _ [6] (by decide +kernel) (by decide +kernel)
set_option maxRecDepth 20000 in
theorem gX0_markStandings_J7_fill_53178 : GoodIn wsX0_markStandings (va_wsS RX0 83 yJ7_fill_53178 wsJ7_fill_53178) := goodIn_app (goodIn_of _ (by decide +kernel)) ggX0_markStandings_J7_fill_53178
set_option maxRecDepth 20000 in
theorem ggX0_markStandings_X0_startStanding : GoodIn wsX0_markStandings wsX0_startStanding := goodIn_r _ [11, 12, 1, 25, 26, 27, 28, 29, 40, 41, 42, 43, 44, 45, 46, 47, 48, 30, 31, 32, 33, 34, 35, 36, 37, 38, 39] (by decide +kernel) (by decide +kernel)
set_option maxRecDepth 20000 in
theorem gX0_markStandings_X0_startStanding : GoodIn wsX0_markStandings (wsV RX0 35 RX0 yX0_startStanding wsX0_startStanding) := goodIn_app (goodIn_of _ (by decide +kernel)) ggX0_markStandings_X0_startStanding
set_option maxRecDepth 20000 in
theorem ggX0_markStandings_X0_markBehind : GoodIn wsX0_markStandings wsX0_markBehind := goodIn_r _ [16, 12, 2, 17, 18, 19, 10, 20, 21, 22, 23, 24, 25, 26, 27, 28, 29, 40, 41, 42, 43, 44, 45, 46, 47, 48] (by decide +kernel) (by decide +kernel)
set_option maxRecDepth 20000 in
theorem gX0_markStandings_X0_markBehind : GoodIn wsX0_markStandings (wsV RX0 89 RX0 yX0_markBehind wsX0_markBehind) := goodIn_app (goodIn_of _ (by decide +kernel)) ggX0_markStandings_X0_markBehind
theorem dX0_markStandings_0 : decode cX0_markStandings 0 = .ok (.iconst 0, 1) := by decide +kernel
theorem dX0_markStandings_1 : decode cX0_markStandings 1 = .ok (.istore_n 1, 1) := by decide +kernel
theorem dX0_markStandings_2 : decode cX0_markStandings 2 = .ok (.iload_n 1, 1) := by decide +kernel
theorem dX0_markStandings_3 : decode cX0_markStandings 3 = .ok (.aload_n 0, 1) := by decide +kernel
theorem dX0_markStandings_4 : decode cX0_markStandings 4 = .ok (.getfield 24, 3) := by decide +kernel
theorem dX0_markStandings_7 : decode cX0_markStandings 7 = .ok (.getfield 63, 3) := by decide +kernel
theorem dX0_markStandings_10 : decode cX0_markStandings 10 = .ok (.if_icmp .gt 19, 3) := by decide +kernel
theorem dX0_markStandings_13 : decode cX0_markStandings 13 = .ok (.aload_n 0, 1) := by decide +kernel
theorem dX0_markStandings_14 : decode cX0_markStandings 14 = .ok (.getfield 13, 3) := by decide +kernel
theorem dX0_markStandings_17 : decode cX0_markStandings 17 = .ok (.iload_n 1, 1) := by decide +kernel
theorem dX0_markStandings_18 : decode cX0_markStandings 18 = .ok (.aaload, 1) := by decide +kernel
theorem dX0_markStandings_19 : decode cX0_markStandings 19 = .ok (.iconst (-1), 1) := by decide +kernel
theorem dX0_markStandings_20 : decode cX0_markStandings 20 = .ok (.invokestatic 83, 3) := by decide +kernel
theorem dX0_markStandings_23 : decode cX0_markStandings 23 = .ok (.iinc 1 1, 3) := by decide +kernel
theorem dX0_markStandings_26 : decode cX0_markStandings 26 = .ok (.goto (-24), 3) := by decide +kernel
theorem dX0_markStandings_29 : decode cX0_markStandings 29 = .ok (.aload_n 0, 1) := by decide +kernel
theorem dX0_markStandings_30 : decode cX0_markStandings 30 = .ok (.getfield 13, 3) := by decide +kernel
theorem dX0_markStandings_33 : decode cX0_markStandings 33 = .ok (.iconst 0, 1) := by decide +kernel
theorem dX0_markStandings_34 : decode cX0_markStandings 34 = .ok (.aaload, 1) := by decide +kernel
theorem dX0_markStandings_35 : decode cX0_markStandings 35 = .ok (.aload_n 0, 1) := by decide +kernel
theorem dX0_markStandings_36 : decode cX0_markStandings 36 = .ok (.invokevirtual 35, 3) := by decide +kernel
theorem dX0_markStandings_39 : decode cX0_markStandings 39 = .ok (.iconst 0, 1) := by decide +kernel
theorem dX0_markStandings_40 : decode cX0_markStandings 40 = .ok (.iastore, 1) := by decide +kernel
theorem dX0_markStandings_41 : decode cX0_markStandings 41 = .ok (.iconst 0, 1) := by decide +kernel
theorem dX0_markStandings_42 : decode cX0_markStandings 42 = .ok (.istore_n 1, 1) := by decide +kernel
theorem dX0_markStandings_43 : decode cX0_markStandings 43 = .ok (.iload_n 1, 1) := by decide +kernel
theorem dX0_markStandings_44 : decode cX0_markStandings 44 = .ok (.aload_n 0, 1) := by decide +kernel
theorem dX0_markStandings_45 : decode cX0_markStandings 45 = .ok (.getfield 24, 3) := by decide +kernel
theorem dX0_markStandings_48 : decode cX0_markStandings 48 = .ok (.getfield 63, 3) := by decide +kernel
theorem dX0_markStandings_51 : decode cX0_markStandings 51 = .ok (.if_icmp .ge 42, 3) := by decide +kernel
theorem dX0_markStandings_54 : decode cX0_markStandings 54 = .ok (.iconst 0, 1) := by decide +kernel
theorem dX0_markStandings_55 : decode cX0_markStandings 55 = .ok (.istore_n 2, 1) := by decide +kernel
theorem dX0_markStandings_56 : decode cX0_markStandings 56 = .ok (.iload_n 2, 1) := by decide +kernel
theorem dX0_markStandings_57 : decode cX0_markStandings 57 = .ok (.sipush 512, 3) := by decide +kernel
theorem dX0_markStandings_60 : decode cX0_markStandings 60 = .ok (.if_icmp .ge 27, 3) := by decide +kernel
theorem dX0_markStandings_63 : decode cX0_markStandings 63 = .ok (.aload_n 0, 1) := by decide +kernel
theorem dX0_markStandings_64 : decode cX0_markStandings 64 = .ok (.getfield 13, 3) := by decide +kernel
theorem dX0_markStandings_67 : decode cX0_markStandings 67 = .ok (.iload_n 1, 1) := by decide +kernel
theorem dX0_markStandings_68 : decode cX0_markStandings 68 = .ok (.aaload, 1) := by decide +kernel
theorem dX0_markStandings_69 : decode cX0_markStandings 69 = .ok (.iload_n 2, 1) := by decide +kernel
theorem dX0_markStandings_70 : decode cX0_markStandings 70 = .ok (.iaload, 1) := by decide +kernel
theorem dX0_markStandings_71 : decode cX0_markStandings 71 = .ok (.iconst (-1), 1) := by decide +kernel
theorem dX0_markStandings_72 : decode cX0_markStandings 72 = .ok (.if_icmp .eq 9, 3) := by decide +kernel
theorem dX0_markStandings_75 : decode cX0_markStandings 75 = .ok (.aload_n 0, 1) := by decide +kernel
theorem dX0_markStandings_76 : decode cX0_markStandings 76 = .ok (.iload_n 1, 1) := by decide +kernel
theorem dX0_markStandings_77 : decode cX0_markStandings 77 = .ok (.iload_n 2, 1) := by decide +kernel
theorem dX0_markStandings_78 : decode cX0_markStandings 78 = .ok (.invokevirtual 89, 3) := by decide +kernel
theorem dX0_markStandings_81 : decode cX0_markStandings 81 = .ok (.iinc 2 1, 3) := by decide +kernel
theorem dX0_markStandings_84 : decode cX0_markStandings 84 = .ok (.goto (-28), 3) := by decide +kernel
theorem dX0_markStandings_87 : decode cX0_markStandings 87 = .ok (.iinc 1 1, 3) := by decide +kernel
theorem dX0_markStandings_90 : decode cX0_markStandings 90 = .ok (.goto (-47), 3) := by decide +kernel
theorem dX0_markStandings_93 : decode cX0_markStandings 93 = .ok (.return_, 1) := by decide +kernel
set_option maxRecDepth 20000 in
theorem ggX0_markBehind_X0_canMake : GoodIn wsX0_markBehind wsX0_canMake := goodIn_r _ [7, 8, 12, 13, 14, 15, 16] (by decide +kernel) (by decide +kernel)
set_option maxRecDepth 20000 in
theorem gX0_markBehind_X0_canMake : GoodIn wsX0_markBehind (wsV RX0 55 RX0 yX0_canMake wsX0_canMake) := goodIn_app (goodIn_of _ (by decide +kernel)) ggX0_markBehind_X0_canMake
set_option maxRecDepth 20000 in
theorem ggX0_markBehind_X0_moved : GoodIn wsX0_markBehind wsX0_moved := goodIn_r _ [11] (by decide +kernel) (by decide +kernel)
set_option maxRecDepth 20000 in
theorem gX0_markBehind_X0_moved : GoodIn wsX0_markBehind (va_wsS RX0 46 yX0_moved wsX0_moved) := goodIn_app (goodIn_of _ (by decide +kernel)) ggX0_markBehind_X0_moved
theorem dX0_markBehind_0 : decode cX0_markBehind 0 = .ok (.iconst 0, 1) := by decide +kernel
theorem dX0_markBehind_1 : decode cX0_markBehind 1 = .ok (.istore_n 3, 1) := by decide +kernel
theorem dX0_markBehind_2 : decode cX0_markBehind 2 = .ok (.iload_n 3, 1) := by decide +kernel
theorem dX0_markBehind_3 : decode cX0_markBehind 3 = .ok (.aload_n 0, 1) := by decide +kernel
theorem dX0_markBehind_4 : decode cX0_markBehind 4 = .ok (.getfield 20, 3) := by decide +kernel
theorem dX0_markBehind_7 : decode cX0_markBehind 7 = .ok (.getfield 49, 3) := by decide +kernel
theorem dX0_markBehind_10 : decode cX0_markBehind 10 = .ok (.bipush 8, 2) := by decide +kernel
theorem dX0_markBehind_12 : decode cX0_markBehind 12 = .ok (.imul, 1) := by decide +kernel
theorem dX0_markBehind_13 : decode cX0_markBehind 13 = .ok (.if_icmp .ge 33, 3) := by decide +kernel
theorem dX0_markBehind_16 : decode cX0_markBehind 16 = .ok (.aload_n 0, 1) := by decide +kernel
theorem dX0_markBehind_17 : decode cX0_markBehind 17 = .ok (.iload_n 1, 1) := by decide +kernel
theorem dX0_markBehind_18 : decode cX0_markBehind 18 = .ok (.iload_n 3, 1) := by decide +kernel
theorem dX0_markBehind_19 : decode cX0_markBehind 19 = .ok (.invokevirtual 55, 3) := by decide +kernel
theorem dX0_markBehind_22 : decode cX0_markBehind 22 = .ok (.ifCond .eq 18, 3) := by decide +kernel
theorem dX0_markBehind_25 : decode cX0_markBehind 25 = .ok (.aload_n 0, 1) := by decide +kernel
theorem dX0_markBehind_26 : decode cX0_markBehind 26 = .ok (.getfield 13, 3) := by decide +kernel
theorem dX0_markBehind_29 : decode cX0_markBehind 29 = .ok (.iload_n 1, 1) := by decide +kernel
theorem dX0_markBehind_30 : decode cX0_markBehind 30 = .ok (.iconst 1, 1) := by decide +kernel
theorem dX0_markBehind_31 : decode cX0_markBehind 31 = .ok (.iadd, 1) := by decide +kernel
theorem dX0_markBehind_32 : decode cX0_markBehind 32 = .ok (.aaload, 1) := by decide +kernel
theorem dX0_markBehind_33 : decode cX0_markBehind 33 = .ok (.iload_n 2, 1) := by decide +kernel
theorem dX0_markBehind_34 : decode cX0_markBehind 34 = .ok (.iload_n 3, 1) := by decide +kernel
theorem dX0_markBehind_35 : decode cX0_markBehind 35 = .ok (.invokestatic 46, 3) := by decide +kernel
theorem dX0_markBehind_38 : decode cX0_markBehind 38 = .ok (.iconst 0, 1) := by decide +kernel
theorem dX0_markBehind_39 : decode cX0_markBehind 39 = .ok (.iastore, 1) := by decide +kernel
theorem dX0_markBehind_40 : decode cX0_markBehind 40 = .ok (.iinc 3 1, 3) := by decide +kernel
theorem dX0_markBehind_43 : decode cX0_markBehind 43 = .ok (.goto (-41), 3) := by decide +kernel
theorem dX0_markBehind_46 : decode cX0_markBehind 46 = .ok (.return_, 1) := by decide +kernel
set_option maxRecDepth 20000 in
theorem ggX0_leastRest_X0_canMake : GoodIn wsX0_leastRest wsX0_canMake := goodIn_r _ [10, 11, 23, 24, 25, 26, 27] (by decide +kernel) (by decide +kernel)
set_option maxRecDepth 20000 in
theorem gX0_leastRest_X0_canMake : GoodIn wsX0_leastRest (wsV RX0 55 RX0 yX0_canMake wsX0_canMake) := goodIn_app (goodIn_of _ (by decide +kernel)) ggX0_leastRest_X0_canMake
set_option maxRecDepth 20000 in
theorem ggX0_leastRest_X0_restBehind : GoodIn wsX0_leastRest wsX0_restBehind := goodIn_r _ [15, 16, 17, 4, 18, 19, 20, 21, 9, 22, 23, 24, 25, 26, 27] (by decide +kernel) (by decide +kernel)
set_option maxRecDepth 20000 in
theorem gX0_leastRest_X0_restBehind : GoodIn wsX0_leastRest (wsV RX0 59 RX0 yX0_restBehind wsX0_restBehind) := goodIn_app (goodIn_of _ (by decide +kernel)) ggX0_leastRest_X0_restBehind
theorem dX0_leastRest_0 : decode cX0_leastRest 0 = .ok (.sipush 1000, 3) := by decide +kernel
theorem dX0_leastRest_3 : decode cX0_leastRest 3 = .ok (.istore_n 3, 1) := by decide +kernel
theorem dX0_leastRest_4 : decode cX0_leastRest 4 = .ok (.iconst 0, 1) := by decide +kernel
theorem dX0_leastRest_5 : decode cX0_leastRest 5 = .ok (.istore 4, 2) := by decide +kernel
theorem dX0_leastRest_7 : decode cX0_leastRest 7 = .ok (.iload 4, 2) := by decide +kernel
theorem dX0_leastRest_9 : decode cX0_leastRest 9 = .ok (.aload_n 0, 1) := by decide +kernel
theorem dX0_leastRest_10 : decode cX0_leastRest 10 = .ok (.getfield 20, 3) := by decide +kernel
theorem dX0_leastRest_13 : decode cX0_leastRest 13 = .ok (.getfield 49, 3) := by decide +kernel
theorem dX0_leastRest_16 : decode cX0_leastRest 16 = .ok (.bipush 8, 2) := by decide +kernel
theorem dX0_leastRest_18 : decode cX0_leastRest 18 = .ok (.imul, 1) := by decide +kernel
theorem dX0_leastRest_19 : decode cX0_leastRest 19 = .ok (.if_icmp .ge 32, 3) := by decide +kernel
theorem dX0_leastRest_22 : decode cX0_leastRest 22 = .ok (.aload_n 0, 1) := by decide +kernel
theorem dX0_leastRest_23 : decode cX0_leastRest 23 = .ok (.iload_n 1, 1) := by decide +kernel
theorem dX0_leastRest_24 : decode cX0_leastRest 24 = .ok (.iload 4, 2) := by decide +kernel
theorem dX0_leastRest_26 : decode cX0_leastRest 26 = .ok (.invokevirtual 55, 3) := by decide +kernel
theorem dX0_leastRest_29 : decode cX0_leastRest 29 = .ok (.ifCond .eq 16, 3) := by decide +kernel
theorem dX0_leastRest_32 : decode cX0_leastRest 32 = .ok (.iload_n 3, 1) := by decide +kernel
theorem dX0_leastRest_33 : decode cX0_leastRest 33 = .ok (.aload_n 0, 1) := by decide +kernel
theorem dX0_leastRest_34 : decode cX0_leastRest 34 = .ok (.iload_n 1, 1) := by decide +kernel
theorem dX0_leastRest_35 : decode cX0_leastRest 35 = .ok (.iload_n 2, 1) := by decide +kernel
theorem dX0_leastRest_36 : decode cX0_leastRest 36 = .ok (.iload 4, 2) := by decide +kernel
theorem dX0_leastRest_38 : decode cX0_leastRest 38 = .ok (.invokevirtual 59, 3) := by decide +kernel
theorem dX0_leastRest_41 : decode cX0_leastRest 41 = .ok (.invokestatic 93, 3) := by decide +kernel
theorem dX0_leastRest_44 : decode cX0_leastRest 44 = .ok (.istore_n 3, 1) := by decide +kernel
theorem dX0_leastRest_45 : decode cX0_leastRest 45 = .ok (.iinc 4 1, 3) := by decide +kernel
theorem dX0_leastRest_48 : decode cX0_leastRest 48 = .ok (.goto (-41), 3) := by decide +kernel
theorem dX0_leastRest_51 : decode cX0_leastRest 51 = .ok (.iload_n 3, 1) := by decide +kernel
theorem dX0_leastRest_52 : decode cX0_leastRest 52 = .ok (.ireturn, 1) := by decide +kernel
theorem dX0_canMake_0 : decode cX0_canMake 0 = .ok (.aload_n 0, 1) := by decide +kernel
theorem dX0_canMake_1 : decode cX0_canMake 1 = .ok (.getfield 16, 3) := by decide +kernel
theorem dX0_canMake_4 : decode cX0_canMake 4 = .ok (.iload_n 1, 1) := by decide +kernel
theorem dX0_canMake_5 : decode cX0_canMake 5 = .ok (.iaload, 1) := by decide +kernel
theorem dX0_canMake_6 : decode cX0_canMake 6 = .ok (.iload_n 2, 1) := by decide +kernel
theorem dX0_canMake_7 : decode cX0_canMake 7 = .ok (.bipush 8, 2) := by decide +kernel
theorem dX0_canMake_9 : decode cX0_canMake 9 = .ok (.irem, 1) := by decide +kernel
theorem dX0_canMake_10 : decode cX0_canMake 10 = .ok (.ishr, 1) := by decide +kernel
theorem dX0_canMake_11 : decode cX0_canMake 11 = .ok (.iconst 1, 1) := by decide +kernel
theorem dX0_canMake_12 : decode cX0_canMake 12 = .ok (.iand, 1) := by decide +kernel
theorem dX0_canMake_13 : decode cX0_canMake 13 = .ok (.iconst 1, 1) := by decide +kernel
theorem dX0_canMake_14 : decode cX0_canMake 14 = .ok (.if_icmp .ne 7, 3) := by decide +kernel
theorem dX0_canMake_17 : decode cX0_canMake 17 = .ok (.iconst 1, 1) := by decide +kernel
theorem dX0_canMake_18 : decode cX0_canMake 18 = .ok (.goto 4, 3) := by decide +kernel
theorem dX0_canMake_21 : decode cX0_canMake 21 = .ok (.iconst 0, 1) := by decide +kernel
theorem dX0_canMake_22 : decode cX0_canMake 22 = .ok (.ireturn, 1) := by decide +kernel
set_option maxRecDepth 20000 in
theorem ggX0_restBehind_X0_moved : GoodIn wsX0_restBehind wsX0_moved := goodIn_r _ [9] (by decide +kernel) (by decide +kernel)
set_option maxRecDepth 20000 in
theorem gX0_restBehind_X0_moved : GoodIn wsX0_restBehind (va_wsS RX0 46 yX0_moved wsX0_moved) := goodIn_app (goodIn_of _ (by decide +kernel)) ggX0_restBehind_X0_moved
theorem dX0_restBehind_0 : decode cX0_restBehind 0 = .ok (.iload_n 2, 1) := by decide +kernel
theorem dX0_restBehind_1 : decode cX0_restBehind 1 = .ok (.iconst 3, 1) := by decide +kernel
theorem dX0_restBehind_2 : decode cX0_restBehind 2 = .ok (.iload_n 3, 1) := by decide +kernel
theorem dX0_restBehind_3 : decode cX0_restBehind 3 = .ok (.bipush 8, 2) := by decide +kernel
theorem dX0_restBehind_5 : decode cX0_restBehind 5 = .ok (.idiv, 1) := by decide +kernel
theorem dX0_restBehind_6 : decode cX0_restBehind 6 = .ok (.imul, 1) := by decide +kernel
theorem dX0_restBehind_7 : decode cX0_restBehind 7 = .ok (.ishr, 1) := by decide +kernel
theorem dX0_restBehind_8 : decode cX0_restBehind 8 = .ok (.bipush 7, 2) := by decide +kernel
theorem dX0_restBehind_10 : decode cX0_restBehind 10 = .ok (.iand, 1) := by decide +kernel
theorem dX0_restBehind_11 : decode cX0_restBehind 11 = .ok (.istore 4, 2) := by decide +kernel
theorem dX0_restBehind_13 : decode cX0_restBehind 13 = .ok (.iload_n 3, 1) := by decide +kernel
theorem dX0_restBehind_14 : decode cX0_restBehind 14 = .ok (.bipush 8, 2) := by decide +kernel
theorem dX0_restBehind_16 : decode cX0_restBehind 16 = .ok (.irem, 1) := by decide +kernel
theorem dX0_restBehind_17 : decode cX0_restBehind 17 = .ok (.iload 4, 2) := by decide +kernel
theorem dX0_restBehind_19 : decode cX0_restBehind 19 = .ok (.isub, 1) := by decide +kernel
theorem dX0_restBehind_20 : decode cX0_restBehind 20 = .ok (.invokestatic 98, 3) := by decide +kernel
theorem dX0_restBehind_23 : decode cX0_restBehind 23 = .ok (.aload_n 0, 1) := by decide +kernel
theorem dX0_restBehind_24 : decode cX0_restBehind 24 = .ok (.getfield 13, 3) := by decide +kernel
theorem dX0_restBehind_27 : decode cX0_restBehind 27 = .ok (.iload_n 1, 1) := by decide +kernel
theorem dX0_restBehind_28 : decode cX0_restBehind 28 = .ok (.iconst 1, 1) := by decide +kernel
theorem dX0_restBehind_29 : decode cX0_restBehind 29 = .ok (.iadd, 1) := by decide +kernel
theorem dX0_restBehind_30 : decode cX0_restBehind 30 = .ok (.aaload, 1) := by decide +kernel
theorem dX0_restBehind_31 : decode cX0_restBehind 31 = .ok (.iload_n 2, 1) := by decide +kernel
theorem dX0_restBehind_32 : decode cX0_restBehind 32 = .ok (.iload_n 3, 1) := by decide +kernel
theorem dX0_restBehind_33 : decode cX0_restBehind 33 = .ok (.invokestatic 46, 3) := by decide +kernel
theorem dX0_restBehind_36 : decode cX0_restBehind 36 = .ok (.iaload, 1) := by decide +kernel
theorem dX0_restBehind_37 : decode cX0_restBehind 37 = .ok (.iadd, 1) := by decide +kernel
theorem dX0_restBehind_38 : decode cX0_restBehind 38 = .ok (.ireturn, 1) := by decide +kernel
theorem dX0_moved_0 : decode cX0_moved 0 = .ok (.iconst 3, 1) := by decide +kernel
theorem dX0_moved_1 : decode cX0_moved 1 = .ok (.iload_n 1, 1) := by decide +kernel
theorem dX0_moved_2 : decode cX0_moved 2 = .ok (.bipush 8, 2) := by decide +kernel
theorem dX0_moved_4 : decode cX0_moved 4 = .ok (.idiv, 1) := by decide +kernel
theorem dX0_moved_5 : decode cX0_moved 5 = .ok (.imul, 1) := by decide +kernel
theorem dX0_moved_6 : decode cX0_moved 6 = .ok (.istore_n 2, 1) := by decide +kernel
theorem dX0_moved_7 : decode cX0_moved 7 = .ok (.iload_n 0, 1) := by decide +kernel
theorem dX0_moved_8 : decode cX0_moved 8 = .ok (.bipush 7, 2) := by decide +kernel
theorem dX0_moved_10 : decode cX0_moved 10 = .ok (.iload_n 2, 1) := by decide +kernel
theorem dX0_moved_11 : decode cX0_moved 11 = .ok (.ishl, 1) := by decide +kernel
theorem dX0_moved_12 : decode cX0_moved 12 = .ok (.iconst (-1), 1) := by decide +kernel
theorem dX0_moved_13 : decode cX0_moved 13 = .ok (.ixor, 1) := by decide +kernel
theorem dX0_moved_14 : decode cX0_moved 14 = .ok (.iand, 1) := by decide +kernel
theorem dX0_moved_15 : decode cX0_moved 15 = .ok (.iload_n 1, 1) := by decide +kernel
theorem dX0_moved_16 : decode cX0_moved 16 = .ok (.bipush 8, 2) := by decide +kernel
theorem dX0_moved_18 : decode cX0_moved 18 = .ok (.irem, 1) := by decide +kernel
theorem dX0_moved_19 : decode cX0_moved 19 = .ok (.iload_n 2, 1) := by decide +kernel
theorem dX0_moved_20 : decode cX0_moved 20 = .ok (.ishl, 1) := by decide +kernel
theorem dX0_moved_21 : decode cX0_moved 21 = .ok (.ior, 1) := by decide +kernel
theorem dX0_moved_22 : decode cX0_moved 22 = .ok (.ireturn, 1) := by decide +kernel
theorem dX0_startStanding_0 : decode cX0_startStanding 0 = .ok (.iconst 0, 1) := by decide +kernel
theorem dX0_startStanding_1 : decode cX0_startStanding 1 = .ok (.istore_n 1, 1) := by decide +kernel
theorem dX0_startStanding_2 : decode cX0_startStanding 2 = .ok (.iconst 0, 1) := by decide +kernel
theorem dX0_startStanding_3 : decode cX0_startStanding 3 = .ok (.istore_n 2, 1) := by decide +kernel
theorem dX0_startStanding_4 : decode cX0_startStanding 4 = .ok (.iload_n 2, 1) := by decide +kernel
theorem dX0_startStanding_5 : decode cX0_startStanding 5 = .ok (.aload_n 0, 1) := by decide +kernel
theorem dX0_startStanding_6 : decode cX0_startStanding 6 = .ok (.getfield 20, 3) := by decide +kernel
theorem dX0_startStanding_9 : decode cX0_startStanding 9 = .ok (.getfield 49, 3) := by decide +kernel
theorem dX0_startStanding_12 : decode cX0_startStanding 12 = .ok (.if_icmp .ge 25, 3) := by decide +kernel
theorem dX0_startStanding_15 : decode cX0_startStanding 15 = .ok (.iload_n 1, 1) := by decide +kernel
theorem dX0_startStanding_16 : decode cX0_startStanding 16 = .ok (.aload_n 0, 1) := by decide +kernel
theorem dX0_startStanding_17 : decode cX0_startStanding 17 = .ok (.getfield 24, 3) := by decide +kernel
theorem dX0_startStanding_20 : decode cX0_startStanding 20 = .ok (.getfield 101, 3) := by decide +kernel
theorem dX0_startStanding_23 : decode cX0_startStanding 23 = .ok (.iload_n 2, 1) := by decide +kernel
theorem dX0_startStanding_24 : decode cX0_startStanding 24 = .ok (.iaload, 1) := by decide +kernel
theorem dX0_startStanding_25 : decode cX0_startStanding 25 = .ok (.iconst 3, 1) := by decide +kernel
theorem dX0_startStanding_26 : decode cX0_startStanding 26 = .ok (.iload_n 2, 1) := by decide +kernel
theorem dX0_startStanding_27 : decode cX0_startStanding 27 = .ok (.imul, 1) := by decide +kernel
theorem dX0_startStanding_28 : decode cX0_startStanding 28 = .ok (.ishl, 1) := by decide +kernel
theorem dX0_startStanding_29 : decode cX0_startStanding 29 = .ok (.ior, 1) := by decide +kernel
theorem dX0_startStanding_30 : decode cX0_startStanding 30 = .ok (.istore_n 1, 1) := by decide +kernel
theorem dX0_startStanding_31 : decode cX0_startStanding 31 = .ok (.iinc 2 1, 3) := by decide +kernel
theorem dX0_startStanding_34 : decode cX0_startStanding 34 = .ok (.goto (-30), 3) := by decide +kernel
theorem dX0_startStanding_37 : decode cX0_startStanding 37 = .ok (.iload_n 1, 1) := by decide +kernel
theorem dX0_startStanding_38 : decode cX0_startStanding 38 = .ok (.ireturn, 1) := by decide +kernel
theorem dX1_init_0 : decode cX1_init 0 = .ok (.aload_n 0, 1) := by decide +kernel
theorem dX1_init_1 : decode cX1_init 1 = .ok (.invokespecial 3, 3) := by decide +kernel
theorem dX1_init_4 : decode cX1_init 4 = .ok (.aload_n 0, 1) := by decide +kernel
theorem dX1_init_5 : decode cX1_init 5 = .ok (.aload_n 1, 1) := by decide +kernel
theorem dX1_init_6 : decode cX1_init 6 = .ok (.putfield 9, 3) := by decide +kernel
theorem dX1_init_9 : decode cX1_init 9 = .ok (.aload_n 0, 1) := by decide +kernel
theorem dX1_init_10 : decode cX1_init 10 = .ok (.aload_n 2, 1) := by decide +kernel
theorem dX1_init_11 : decode cX1_init 11 = .ok (.putfield 15, 3) := by decide +kernel
theorem dX1_init_14 : decode cX1_init 14 = .ok (.return_, 1) := by decide +kernel
set_option maxRecDepth 20000 in
theorem ggX1_markAs_X1_asLevel : GoodIn wsX1_markAs wsX1_asLevel := goodIn_r _ [6, 7, 8, 39, 40, 41, 42, 43, 44, 45, 46, 47, 48, 49, 50, 51] (by decide +kernel) (by decide +kernel)
set_option maxRecDepth 20000 in
theorem gX1_markAs_X1_asLevel : GoodIn wsX1_markAs (wsV RX1 19 RX1 yX1_asLevel wsX1_asLevel) := goodIn_app (goodIn_of _ (by decide +kernel)) ggX1_markAs_X1_asLevel
set_option maxRecDepth 20000 in
theorem ggX1_markAs_X1_asGallery : GoodIn wsX1_markAs wsX1_asGallery := goodIn_r _ [12, 7, 13, 14, 2, 3, 4, 5, 6, 8, 39, 40, 41, 52, 53, 54, 55, 56, 57, 58, 59, 60, 42, 43, 44, 45, 46, 47, 48, 49, 50, 51] (by decide +kernel) (by decide +kernel)
set_option maxRecDepth 20000 in
theorem gX1_markAs_X1_asGallery : GoodIn wsX1_markAs (wsV RX1 23 RX1 yX1_asGallery wsX1_asGallery) := goodIn_app (goodIn_of _ (by decide +kernel)) ggX1_markAs_X1_asGallery
set_option maxRecDepth 20000 in
theorem ggX1_markAs_X1_asSump : GoodIn wsX1_markAs wsX1_asSump := goodIn_r _ [18, 7, 19, 8, 2, 3, 4, 5, 6, 39, 40, 41, 42, 43, 44, 45, 46, 47, 48, 49, 50, 51] (by decide +kernel) (by decide +kernel)
set_option maxRecDepth 20000 in
theorem gX1_markAs_X1_asSump : GoodIn wsX1_markAs (wsV RX1 26 RX1 yX1_asSump wsX1_asSump) := goodIn_app (goodIn_of _ (by decide +kernel)) ggX1_markAs_X1_asSump
set_option maxRecDepth 20000 in
theorem ggX1_markAs_X1_asDeep : GoodIn wsX1_markAs wsX1_asDeep := goodIn_r _ [23, 7, 24, 9, 10, 11, 5, 12, 13, 14, 2, 3, 4, 6, 8, 39, 40, 41, 52, 53, 54, 55, 56, 57, 58, 59, 60, 42, 43, 44, 45, 46, 47, 48, 49, 50, 51] (by decide +kernel) (by decide +kernel)
set_option maxRecDepth 20000 in
theorem gX1_markAs_X1_asDeep : GoodIn wsX1_markAs (wsV RX1 29 RX1 yX1_asDeep wsX1_asDeep) := goodIn_app (goodIn_of _ (by decide +kernel)) ggX1_markAs_X1_asDeep
set_option maxRecDepth 20000 in
theorem ggX1_markAs_X1_asDrowned : GoodIn wsX1_markAs wsX1_asDrowned := goodIn_r _ [28, 7, 29, 15, 16, 17, 5, 18, 19, 8, 2, 3, 4, 6, 39, 40, 41, 42, 43, 44, 45, 46, 47, 48, 49, 50, 51] (by decide +kernel) (by decide +kernel)
set_option maxRecDepth 20000 in
theorem gX1_markAs_X1_asDrowned : GoodIn wsX1_markAs (wsV RX1 32 RX1 yX1_asDrowned wsX1_asDrowned) := goodIn_app (goodIn_of _ (by decide +kernel)) ggX1_markAs_X1_asDrowned
set_option maxRecDepth 20000 in
theorem ggX1_markAs_X1_asStage : GoodIn wsX1_markAs wsX1_asStage := goodIn_r _ [33, 7, 34, 2, 3, 4, 5, 6, 8, 35, 36, 37, 38, 14, 39, 40, 41, 42, 43, 44, 45, 46, 47, 48, 49, 50, 51, 52, 53, 54, 55, 56, 57, 58, 59, 60] (by decide +kernel) (by decide +kernel)
set_option maxRecDepth 20000 in
theorem gX1_markAs_X1_asStage : GoodIn wsX1_markAs (wsV RX1 35 RX1 yX1_asStage wsX1_asStage) := goodIn_app (goodIn_of _ (by decide +kernel)) ggX1_markAs_X1_asStage
theorem dX1_markAs_0 : decode cX1_markAs 0 = .ok (.iload_n 1, 1) := by decide +kernel
theorem dX1_markAs_1 : decode cX1_markAs 1 = .ok (.tableswitch 75 0 5 #[39, 45, 51, 57, 63, 69], 39) := by decide +kernel
theorem dX1_markAs_40 : decode cX1_markAs 40 = .ok (.aload_n 0, 1) := by decide +kernel
theorem dX1_markAs_41 : decode cX1_markAs 41 = .ok (.iload_n 2, 1) := by decide +kernel
theorem dX1_markAs_42 : decode cX1_markAs 42 = .ok (.invokevirtual 19, 3) := by decide +kernel
theorem dX1_markAs_45 : decode cX1_markAs 45 = .ok (.ireturn, 1) := by decide +kernel
theorem dX1_markAs_46 : decode cX1_markAs 46 = .ok (.aload_n 0, 1) := by decide +kernel
theorem dX1_markAs_47 : decode cX1_markAs 47 = .ok (.iload_n 2, 1) := by decide +kernel
theorem dX1_markAs_48 : decode cX1_markAs 48 = .ok (.invokevirtual 23, 3) := by decide +kernel
theorem dX1_markAs_51 : decode cX1_markAs 51 = .ok (.ireturn, 1) := by decide +kernel
theorem dX1_markAs_52 : decode cX1_markAs 52 = .ok (.aload_n 0, 1) := by decide +kernel
theorem dX1_markAs_53 : decode cX1_markAs 53 = .ok (.iload_n 2, 1) := by decide +kernel
theorem dX1_markAs_54 : decode cX1_markAs 54 = .ok (.invokevirtual 26, 3) := by decide +kernel
theorem dX1_markAs_57 : decode cX1_markAs 57 = .ok (.ireturn, 1) := by decide +kernel
theorem dX1_markAs_58 : decode cX1_markAs 58 = .ok (.aload_n 0, 1) := by decide +kernel
theorem dX1_markAs_59 : decode cX1_markAs 59 = .ok (.iload_n 2, 1) := by decide +kernel
theorem dX1_markAs_60 : decode cX1_markAs 60 = .ok (.invokevirtual 29, 3) := by decide +kernel
theorem dX1_markAs_63 : decode cX1_markAs 63 = .ok (.ireturn, 1) := by decide +kernel
theorem dX1_markAs_64 : decode cX1_markAs 64 = .ok (.aload_n 0, 1) := by decide +kernel
theorem dX1_markAs_65 : decode cX1_markAs 65 = .ok (.iload_n 2, 1) := by decide +kernel
theorem dX1_markAs_66 : decode cX1_markAs 66 = .ok (.invokevirtual 32, 3) := by decide +kernel
theorem dX1_markAs_69 : decode cX1_markAs 69 = .ok (.ireturn, 1) := by decide +kernel
theorem dX1_markAs_70 : decode cX1_markAs 70 = .ok (.aload_n 0, 1) := by decide +kernel
theorem dX1_markAs_71 : decode cX1_markAs 71 = .ok (.iload_n 2, 1) := by decide +kernel
theorem dX1_markAs_72 : decode cX1_markAs 72 = .ok (.invokevirtual 35, 3) := by decide +kernel
theorem dX1_markAs_75 : decode cX1_markAs 75 = .ok (.ireturn, 1) := by decide +kernel
theorem dX1_markAs_76 : decode cX1_markAs 76 = .ok (.ldc 38, 2) := by decide +kernel
theorem dX1_markAs_78 : decode cX1_markAs 78 = .ok (.ireturn, 1) := by decide +kernel
theorem dX1_asLevel_0 : decode cX1_asLevel 0 = .ok (.aload_n 0, 1) := by decide +kernel
theorem dX1_asLevel_1 : decode cX1_asLevel 1 = .ok (.dup, 1) := by decide +kernel
theorem dX1_asLevel_2 : decode cX1_asLevel 2 = .ok (.getfield 39, 3) := by decide +kernel
theorem dX1_asLevel_5 : decode cX1_asLevel 5 = .ok (.lconst 1, 1) := by decide +kernel
theorem dX1_asLevel_6 : decode cX1_asLevel 6 = .ok (.ladd, 1) := by decide +kernel
theorem dX1_asLevel_7 : decode cX1_asLevel 7 = .ok (.putfield 39, 3) := by decide +kernel
theorem dX1_asLevel_10 : decode cX1_asLevel 10 = .ok (.aload_n 0, 1) := by decide +kernel
theorem dX1_asLevel_11 : decode cX1_asLevel 11 = .ok (.getfield 15, 3) := by decide +kernel
theorem dX1_asLevel_14 : decode cX1_asLevel 14 = .ok (.getfield 43, 3) := by decide +kernel
theorem dX1_asLevel_17 : decode cX1_asLevel 17 = .ok (.iload_n 1, 1) := by decide +kernel
theorem dX1_asLevel_18 : decode cX1_asLevel 18 = .ok (.iaload, 1) := by decide +kernel
theorem dX1_asLevel_19 : decode cX1_asLevel 19 = .ok (.ireturn, 1) := by decide +kernel
set_option maxRecDepth 20000 in
theorem ggX1_asGallery_X1_asLevel : GoodIn wsX1_asGallery wsX1_asLevel := goodIn_r _ [8, 1, 9, 10, 11, 12, 22, 23, 24, 25, 26, 27, 28, 29, 30, 31] (by decide +kernel) (by decide +kernel)
set_option maxRecDepth 20000 in
theorem gX1_asGallery_X1_asLevel : GoodIn wsX1_asGallery (wsV RX1 19 RX1 yX1_asLevel wsX1_asLevel) := goodIn_app (goodIn_of _ (by decide +kernel)) ggX1_asGallery_X1_asLevel
theorem dX1_asGallery_0 : decode cX1_asGallery 0 = .ok (.aload_n 0, 1) := by decide +kernel
theorem dX1_asGallery_1 : decode cX1_asGallery 1 = .ok (.dup, 1) := by decide +kernel
theorem dX1_asGallery_2 : decode cX1_asGallery 2 = .ok (.getfield 39, 3) := by decide +kernel
theorem dX1_asGallery_5 : decode cX1_asGallery 5 = .ok (.ldc2_w 49, 3) := by decide +kernel
theorem dX1_asGallery_8 : decode cX1_asGallery 8 = .ok (.ladd, 1) := by decide +kernel
theorem dX1_asGallery_9 : decode cX1_asGallery 9 = .ok (.putfield 39, 3) := by decide +kernel
theorem dX1_asGallery_12 : decode cX1_asGallery 12 = .ok (.aload_n 0, 1) := by decide +kernel
theorem dX1_asGallery_13 : decode cX1_asGallery 13 = .ok (.iload_n 1, 1) := by decide +kernel
theorem dX1_asGallery_14 : decode cX1_asGallery 14 = .ok (.invokevirtual 19, 3) := by decide +kernel
theorem dX1_asGallery_17 : decode cX1_asGallery 17 = .ok (.aload_n 0, 1) := by decide +kernel
theorem dX1_asGallery_18 : decode cX1_asGallery 18 = .ok (.getfield 9, 3) := by decide +kernel
theorem dX1_asGallery_21 : decode cX1_asGallery 21 = .ok (.getfield 51, 3) := by decide +kernel
theorem dX1_asGallery_24 : decode cX1_asGallery 24 = .ok (.iload_n 1, 1) := by decide +kernel
theorem dX1_asGallery_25 : decode cX1_asGallery 25 = .ok (.iaload, 1) := by decide +kernel
theorem dX1_asGallery_26 : decode cX1_asGallery 26 = .ok (.iadd, 1) := by decide +kernel
theorem dX1_asGallery_27 : decode cX1_asGallery 27 = .ok (.ireturn, 1) := by decide +kernel
set_option maxRecDepth 20000 in
theorem ggX1_asSump_X1_asLevel : GoodIn wsX1_asSump wsX1_asLevel := goodIn_r _ [8, 1, 3, 9, 10, 11, 12, 13, 14, 15, 16, 17, 18, 19, 20, 21] (by decide +kernel) (by decide +kernel)
set_option maxRecDepth 20000 in
theorem gX1_asSump_X1_asLevel : GoodIn wsX1_asSump (wsV RX1 19 RX1 yX1_asLevel wsX1_asLevel) := goodIn_app (goodIn_of _ (by decide +kernel)) ggX1_asSump_X1_asLevel
theorem dX1_asSump_0 : decode cX1_asSump 0 = .ok (.aload_n 0, 1) := by decide +kernel
theorem dX1_asSump_1 : decode cX1_asSump 1 = .ok (.dup, 1) := by decide +kernel
theorem dX1_asSump_2 : decode cX1_asSump 2 = .ok (.getfield 39, 3) := by decide +kernel
theorem dX1_asSump_5 : decode cX1_asSump 5 = .ok (.ldc2_w 56, 3) := by decide +kernel
theorem dX1_asSump_8 : decode cX1_asSump 8 = .ok (.ladd, 1) := by decide +kernel
theorem dX1_asSump_9 : decode cX1_asSump 9 = .ok (.putfield 39, 3) := by decide +kernel
theorem dX1_asSump_12 : decode cX1_asSump 12 = .ok (.aload_n 0, 1) := by decide +kernel
theorem dX1_asSump_13 : decode cX1_asSump 13 = .ok (.iload_n 1, 1) := by decide +kernel
theorem dX1_asSump_14 : decode cX1_asSump 14 = .ok (.invokevirtual 19, 3) := by decide +kernel
theorem dX1_asSump_17 : decode cX1_asSump 17 = .ok (.aload_n 0, 1) := by decide +kernel
theorem dX1_asSump_18 : decode cX1_asSump 18 = .ok (.getfield 15, 3) := by decide +kernel
theorem dX1_asSump_21 : decode cX1_asSump 21 = .ok (.getfield 58, 3) := by decide +kernel
theorem dX1_asSump_24 : decode cX1_asSump 24 = .ok (.isub, 1) := by decide +kernel
theorem dX1_asSump_25 : decode cX1_asSump 25 = .ok (.ireturn, 1) := by decide +kernel
set_option maxRecDepth 20000 in
theorem ggX1_asDeep_X1_asGallery : GoodIn wsX1_asDeep wsX1_asGallery := goodIn_r _ [7, 1, 8, 9, 10, 11, 12, 6, 13, 14, 15, 16, 17, 18, 19, 20, 21, 22, 23, 24, 25, 26, 27, 28, 29, 30, 31, 32, 33, 34, 35, 36] (by decide +kernel) (by decide +kernel)
set_option maxRecDepth 20000 in
theorem gX1_asDeep_X1_asGallery : GoodIn wsX1_asDeep (wsV RX1 23 RX1 yX1_asGallery wsX1_asGallery) := goodIn_app (goodIn_of _ (by decide +kernel)) ggX1_asDeep_X1_asGallery
theorem dX1_asDeep_0 : decode cX1_asDeep 0 = .ok (.aload_n 0, 1) := by decide +kernel
theorem dX1_asDeep_1 : decode cX1_asDeep 1 = .ok (.dup, 1) := by decide +kernel
theorem dX1_asDeep_2 : decode cX1_asDeep 2 = .ok (.getfield 39, 3) := by decide +kernel
theorem dX1_asDeep_5 : decode cX1_asDeep 5 = .ok (.ldc2_w 62, 3) := by decide +kernel
theorem dX1_asDeep_8 : decode cX1_asDeep 8 = .ok (.ladd, 1) := by decide +kernel
theorem dX1_asDeep_9 : decode cX1_asDeep 9 = .ok (.putfield 39, 3) := by decide +kernel
theorem dX1_asDeep_12 : decode cX1_asDeep 12 = .ok (.aload_n 0, 1) := by decide +kernel
theorem dX1_asDeep_13 : decode cX1_asDeep 13 = .ok (.iload_n 1, 1) := by decide +kernel
theorem dX1_asDeep_14 : decode cX1_asDeep 14 = .ok (.invokevirtual 23, 3) := by decide +kernel
theorem dX1_asDeep_17 : decode cX1_asDeep 17 = .ok (.iconst 2, 1) := by decide +kernel
theorem dX1_asDeep_18 : decode cX1_asDeep 18 = .ok (.imul, 1) := by decide +kernel
theorem dX1_asDeep_19 : decode cX1_asDeep 19 = .ok (.ireturn, 1) := by decide +kernel
set_option maxRecDepth 20000 in
theorem ggX1_asDrowned_X1_asSump : GoodIn wsX1_asDrowned wsX1_asSump := goodIn_r _ [7, 1, 8, 9, 10, 11, 12, 6, 13, 14, 15, 16, 17, 18, 19, 20, 21, 22, 23, 24, 25, 26] (by decide +kernel) (by decide +kernel)
set_option maxRecDepth 20000 in
theorem gX1_asDrowned_X1_asSump : GoodIn wsX1_asDrowned (wsV RX1 26 RX1 yX1_asSump wsX1_asSump) := goodIn_app (goodIn_of _ (by decide +kernel)) ggX1_asDrowned_X1_asSump
theorem dX1_asDrowned_0 : decode cX1_asDrowned 0 = .ok (.aload_n 0, 1) := by decide +kernel
theorem dX1_asDrowned_1 : decode cX1_asDrowned 1 = .ok (.dup, 1) := by decide +kernel
theorem dX1_asDrowned_2 : decode cX1_asDrowned 2 = .ok (.getfield 39, 3) := by decide +kernel
theorem dX1_asDrowned_5 : decode cX1_asDrowned 5 = .ok (.ldc2_w 64, 3) := by decide +kernel
theorem dX1_asDrowned_8 : decode cX1_asDrowned 8 = .ok (.ladd, 1) := by decide +kernel
theorem dX1_asDrowned_9 : decode cX1_asDrowned 9 = .ok (.putfield 39, 3) := by decide +kernel
theorem dX1_asDrowned_12 : decode cX1_asDrowned 12 = .ok (.aload_n 0, 1) := by decide +kernel
theorem dX1_asDrowned_13 : decode cX1_asDrowned 13 = .ok (.iload_n 1, 1) := by decide +kernel
theorem dX1_asDrowned_14 : decode cX1_asDrowned 14 = .ok (.invokevirtual 26, 3) := by decide +kernel
theorem dX1_asDrowned_17 : decode cX1_asDrowned 17 = .ok (.iload_n 1, 1) := by decide +kernel
theorem dX1_asDrowned_18 : decode cX1_asDrowned 18 = .ok (.iadd, 1) := by decide +kernel
theorem dX1_asDrowned_19 : decode cX1_asDrowned 19 = .ok (.ireturn, 1) := by decide +kernel
set_option maxRecDepth 20000 in
theorem ggX1_asStage_X1_asLevel : GoodIn wsX1_asStage wsX1_asLevel := goodIn_r _ [7, 1, 8, 14, 15, 16, 17, 18, 19, 20, 21, 22, 23, 24, 25, 26] (by decide +kernel) (by decide +kernel)
set_option maxRecDepth 20000 in
theorem gX1_asStage_X1_asLevel : GoodIn wsX1_asStage (wsV RX1 19 RX1 yX1_asLevel wsX1_asLevel) := goodIn_app (goodIn_of _ (by decide +kernel)) ggX1_asStage_X1_asLevel
set_option maxRecDepth 20000 in
theorem ggX1_asStage_X1_menAt : GoodIn wsX1_asStage wsX1_menAt := goodIn_r _ [12, 13, 8, 14, 15, 16, 27, 28, 29, 30, 31, 32, 33, 34, 35, 17, 18, 19, 20, 21, 22, 23, 24, 25, 26] (by decide +kernel) (by decide +kernel)
set_option maxRecDepth 20000 in
theorem gX1_asStage_X1_menAt : GoodIn wsX1_asStage (wsV RX1 68 RX1 yX1_menAt wsX1_menAt) := goodIn_app (goodIn_of _ (by decide +kernel)) ggX1_asStage_X1_menAt
theorem dX1_asStage_0 : decode cX1_asStage 0 = .ok (.aload_n 0, 1) := by decide +kernel
theorem dX1_asStage_1 : decode cX1_asStage 1 = .ok (.dup, 1) := by decide +kernel
theorem dX1_asStage_2 : decode cX1_asStage 2 = .ok (.getfield 39, 3) := by decide +kernel
theorem dX1_asStage_5 : decode cX1_asStage 5 = .ok (.ldc2_w 66, 3) := by decide +kernel
theorem dX1_asStage_8 : decode cX1_asStage 8 = .ok (.ladd, 1) := by decide +kernel
theorem dX1_asStage_9 : decode cX1_asStage 9 = .ok (.putfield 39, 3) := by decide +kernel
theorem dX1_asStage_12 : decode cX1_asStage 12 = .ok (.aload_n 0, 1) := by decide +kernel
theorem dX1_asStage_13 : decode cX1_asStage 13 = .ok (.iload_n 1, 1) := by decide +kernel
theorem dX1_asStage_14 : decode cX1_asStage 14 = .ok (.invokevirtual 19, 3) := by decide +kernel
theorem dX1_asStage_17 : decode cX1_asStage 17 = .ok (.aload_n 0, 1) := by decide +kernel
theorem dX1_asStage_18 : decode cX1_asStage 18 = .ok (.iload_n 1, 1) := by decide +kernel
theorem dX1_asStage_19 : decode cX1_asStage 19 = .ok (.invokevirtual 68, 3) := by decide +kernel
theorem dX1_asStage_22 : decode cX1_asStage 22 = .ok (.iadd, 1) := by decide +kernel
theorem dX1_asStage_23 : decode cX1_asStage 23 = .ok (.ireturn, 1) := by decide +kernel
theorem dX1_menAt_0 : decode cX1_menAt 0 = .ok (.iconst 0, 1) := by decide +kernel
theorem dX1_menAt_1 : decode cX1_menAt 1 = .ok (.istore_n 2, 1) := by decide +kernel
theorem dX1_menAt_2 : decode cX1_menAt 2 = .ok (.iconst 0, 1) := by decide +kernel
theorem dX1_menAt_3 : decode cX1_menAt 3 = .ok (.istore_n 3, 1) := by decide +kernel
theorem dX1_menAt_4 : decode cX1_menAt 4 = .ok (.iload_n 3, 1) := by decide +kernel
theorem dX1_menAt_5 : decode cX1_menAt 5 = .ok (.aload_n 0, 1) := by decide +kernel
theorem dX1_menAt_6 : decode cX1_menAt 6 = .ok (.getfield 9, 3) := by decide +kernel
theorem dX1_menAt_9 : decode cX1_menAt 9 = .ok (.getfield 71, 3) := by decide +kernel
theorem dX1_menAt_12 : decode cX1_menAt 12 = .ok (.if_icmp .ge 25, 3) := by decide +kernel
theorem dX1_menAt_15 : decode cX1_menAt 15 = .ok (.aload_n 0, 1) := by decide +kernel
theorem dX1_menAt_16 : decode cX1_menAt 16 = .ok (.getfield 15, 3) := by decide +kernel
theorem dX1_menAt_19 : decode cX1_menAt 19 = .ok (.getfield 74, 3) := by decide +kernel
theorem dX1_menAt_22 : decode cX1_menAt 22 = .ok (.iload_n 3, 1) := by decide +kernel
theorem dX1_menAt_23 : decode cX1_menAt 23 = .ok (.iaload, 1) := by decide +kernel
theorem dX1_menAt_24 : decode cX1_menAt 24 = .ok (.iload_n 1, 1) := by decide +kernel
theorem dX1_menAt_25 : decode cX1_menAt 25 = .ok (.if_icmp .ne 6, 3) := by decide +kernel
theorem dX1_menAt_28 : decode cX1_menAt 28 = .ok (.iinc 2 1, 3) := by decide +kernel
theorem dX1_menAt_31 : decode cX1_menAt 31 = .ok (.iinc 3 1, 3) := by decide +kernel
theorem dX1_menAt_34 : decode cX1_menAt 34 = .ok (.goto (-30), 3) := by decide +kernel
theorem dX1_menAt_37 : decode cX1_menAt 37 = .ok (.iload_n 2, 1) := by decide +kernel
theorem dX1_menAt_38 : decode cX1_menAt 38 = .ok (.ireturn, 1) := by decide +kernel
theorem dX2_init_0 : decode cX2_init 0 = .ok (.aload_n 0, 1) := by decide +kernel
theorem dX2_init_1 : decode cX2_init 1 = .ok (.invokespecial 3, 3) := by decide +kernel
theorem dX2_init_4 : decode cX2_init 4 = .ok (.aload_n 0, 1) := by decide +kernel
theorem dX2_init_5 : decode cX2_init 5 = .ok (.bipush 8, 2) := by decide +kernel
theorem dX2_init_7 : decode cX2_init 7 = .ok (.newarray .int, 2) := by decide +kernel
theorem dX2_init_9 : decode cX2_init 9 = .ok (.putfield 9, 3) := by decide +kernel
theorem dX2_init_12 : decode cX2_init 12 = .ok (.aload_n 0, 1) := by decide +kernel
theorem dX2_init_13 : decode cX2_init 13 = .ok (.iconst 3, 1) := by decide +kernel
theorem dX2_init_14 : decode cX2_init 14 = .ok (.newarray .int, 2) := by decide +kernel
theorem dX2_init_16 : decode cX2_init 16 = .ok (.putfield 15, 3) := by decide +kernel
theorem dX2_init_19 : decode cX2_init 19 = .ok (.aload_n 0, 1) := by decide +kernel
theorem dX2_init_20 : decode cX2_init 20 = .ok (.bipush 6, 2) := by decide +kernel
theorem dX2_init_22 : decode cX2_init 22 = .ok (.newarray .int, 2) := by decide +kernel
theorem dX2_init_24 : decode cX2_init 24 = .ok (.putfield 18, 3) := by decide +kernel
theorem dX2_init_27 : decode cX2_init 27 = .ok (.aload_n 0, 1) := by decide +kernel
theorem dX2_init_28 : decode cX2_init 28 = .ok (.bipush 6, 2) := by decide +kernel
theorem dX2_init_30 : decode cX2_init 30 = .ok (.newarray .int, 2) := by decide +kernel
theorem dX2_init_32 : decode cX2_init 32 = .ok (.putfield 21, 3) := by decide +kernel
theorem dX2_init_35 : decode cX2_init 35 = .ok (.aload_n 0, 1) := by decide +kernel
theorem dX2_init_36 : decode cX2_init 36 = .ok (.bipush 8, 2) := by decide +kernel
theorem dX2_init_38 : decode cX2_init 38 = .ok (.newarray .int, 2) := by decide +kernel
theorem dX2_init_40 : decode cX2_init 40 = .ok (.putfield 24, 3) := by decide +kernel
theorem dX2_init_43 : decode cX2_init 43 = .ok (.aload_n 0, 1) := by decide +kernel
theorem dX2_init_44 : decode cX2_init 44 = .ok (.bipush 8, 2) := by decide +kernel
theorem dX2_init_46 : decode cX2_init 46 = .ok (.putfield 27, 3) := by decide +kernel
theorem dX2_init_49 : decode cX2_init 49 = .ok (.return_, 1) := by decide +kernel
theorem dX2_begin_0 : decode cX2_begin 0 = .ok (.aload_n 1, 1) := by decide +kernel
theorem dX2_begin_1 : decode cX2_begin 1 = .ok (.getfield 31, 3) := by decide +kernel
theorem dX2_begin_4 : decode cX2_begin 4 = .ok (.iconst 0, 1) := by decide +kernel
theorem dX2_begin_5 : decode cX2_begin 5 = .ok (.aload_n 0, 1) := by decide +kernel
theorem dX2_begin_6 : decode cX2_begin 6 = .ok (.getfield 9, 3) := by decide +kernel
theorem dX2_begin_9 : decode cX2_begin 9 = .ok (.iconst 0, 1) := by decide +kernel
theorem dX2_begin_10 : decode cX2_begin 10 = .ok (.bipush 8, 2) := by decide +kernel
theorem dX2_begin_12 : decode cX2_begin 12 = .ok (.invokestatic 34, 3) := by decide +kernel
theorem dX2_begin_15 : decode cX2_begin 15 = .ok (.aload_n 1, 1) := by decide +kernel
theorem dX2_begin_16 : decode cX2_begin 16 = .ok (.getfield 40, 3) := by decide +kernel
theorem dX2_begin_19 : decode cX2_begin 19 = .ok (.iconst 0, 1) := by decide +kernel
theorem dX2_begin_20 : decode cX2_begin 20 = .ok (.aload_n 0, 1) := by decide +kernel
theorem dX2_begin_21 : decode cX2_begin 21 = .ok (.getfield 15, 3) := by decide +kernel
theorem dX2_begin_24 : decode cX2_begin 24 = .ok (.iconst 0, 1) := by decide +kernel
theorem dX2_begin_25 : decode cX2_begin 25 = .ok (.iconst 3, 1) := by decide +kernel
theorem dX2_begin_26 : decode cX2_begin 26 = .ok (.invokestatic 34, 3) := by decide +kernel
theorem dX2_begin_29 : decode cX2_begin 29 = .ok (.aload_n 0, 1) := by decide +kernel
theorem dX2_begin_30 : decode cX2_begin 30 = .ok (.iconst 0, 1) := by decide +kernel
theorem dX2_begin_31 : decode cX2_begin 31 = .ok (.putfield 41, 3) := by decide +kernel
theorem dX2_begin_34 : decode cX2_begin 34 = .ok (.aload_n 0, 1) := by decide +kernel
theorem dX2_begin_35 : decode cX2_begin 35 = .ok (.aload_n 1, 1) := by decide +kernel
theorem dX2_begin_36 : decode cX2_begin 36 = .ok (.getfield 44, 3) := by decide +kernel
theorem dX2_begin_39 : decode cX2_begin 39 = .ok (.putfield 47, 3) := by decide +kernel
theorem dX2_begin_42 : decode cX2_begin 42 = .ok (.aload_n 0, 1) := by decide +kernel
theorem dX2_begin_43 : decode cX2_begin 43 = .ok (.bipush 8, 2) := by decide +kernel
theorem dX2_begin_45 : decode cX2_begin 45 = .ok (.putfield 27, 3) := by decide +kernel
theorem dX2_begin_48 : decode cX2_begin 48 = .ok (.aload_n 0, 1) := by decide +kernel
theorem dX2_begin_49 : decode cX2_begin 49 = .ok (.iconst 0, 1) := by decide +kernel
theorem dX2_begin_50 : decode cX2_begin 50 = .ok (.putfield 48, 3) := by decide +kernel
theorem dX2_begin_53 : decode cX2_begin 53 = .ok (.aload_n 0, 1) := by decide +kernel
theorem dX2_begin_54 : decode cX2_begin 54 = .ok (.iconst 0, 1) := by decide +kernel
theorem dX2_begin_55 : decode cX2_begin 55 = .ok (.putfield 51, 3) := by decide +kernel
theorem dX2_begin_58 : decode cX2_begin 58 = .ok (.return_, 1) := by decide +kernel
theorem dX2_copyFrom_0 : decode cX2_copyFrom 0 = .ok (.aload_n 1, 1) := by decide +kernel
theorem dX2_copyFrom_1 : decode cX2_copyFrom 1 = .ok (.getfield 9, 3) := by decide +kernel
theorem dX2_copyFrom_4 : decode cX2_copyFrom 4 = .ok (.iconst 0, 1) := by decide +kernel
theorem dX2_copyFrom_5 : decode cX2_copyFrom 5 = .ok (.aload_n 0, 1) := by decide +kernel
theorem dX2_copyFrom_6 : decode cX2_copyFrom 6 = .ok (.getfield 9, 3) := by decide +kernel
theorem dX2_copyFrom_9 : decode cX2_copyFrom 9 = .ok (.iconst 0, 1) := by decide +kernel
theorem dX2_copyFrom_10 : decode cX2_copyFrom 10 = .ok (.bipush 8, 2) := by decide +kernel
theorem dX2_copyFrom_12 : decode cX2_copyFrom 12 = .ok (.invokestatic 34, 3) := by decide +kernel
theorem dX2_copyFrom_15 : decode cX2_copyFrom 15 = .ok (.aload_n 1, 1) := by decide +kernel
theorem dX2_copyFrom_16 : decode cX2_copyFrom 16 = .ok (.getfield 15, 3) := by decide +kernel
theorem dX2_copyFrom_19 : decode cX2_copyFrom 19 = .ok (.iconst 0, 1) := by decide +kernel
theorem dX2_copyFrom_20 : decode cX2_copyFrom 20 = .ok (.aload_n 0, 1) := by decide +kernel
theorem dX2_copyFrom_21 : decode cX2_copyFrom 21 = .ok (.getfield 15, 3) := by decide +kernel
theorem dX2_copyFrom_24 : decode cX2_copyFrom 24 = .ok (.iconst 0, 1) := by decide +kernel
theorem dX2_copyFrom_25 : decode cX2_copyFrom 25 = .ok (.iconst 3, 1) := by decide +kernel
theorem dX2_copyFrom_26 : decode cX2_copyFrom 26 = .ok (.invokestatic 34, 3) := by decide +kernel
theorem dX2_copyFrom_29 : decode cX2_copyFrom 29 = .ok (.aload_n 1, 1) := by decide +kernel
theorem dX2_copyFrom_30 : decode cX2_copyFrom 30 = .ok (.getfield 18, 3) := by decide +kernel
theorem dX2_copyFrom_33 : decode cX2_copyFrom 33 = .ok (.iconst 0, 1) := by decide +kernel
theorem dX2_copyFrom_34 : decode cX2_copyFrom 34 = .ok (.aload_n 0, 1) := by decide +kernel
theorem dX2_copyFrom_35 : decode cX2_copyFrom 35 = .ok (.getfield 18, 3) := by decide +kernel
theorem dX2_copyFrom_38 : decode cX2_copyFrom 38 = .ok (.iconst 0, 1) := by decide +kernel
theorem dX2_copyFrom_39 : decode cX2_copyFrom 39 = .ok (.bipush 6, 2) := by decide +kernel
theorem dX2_copyFrom_41 : decode cX2_copyFrom 41 = .ok (.invokestatic 34, 3) := by decide +kernel
theorem dX2_copyFrom_44 : decode cX2_copyFrom 44 = .ok (.aload_n 1, 1) := by decide +kernel
theorem dX2_copyFrom_45 : decode cX2_copyFrom 45 = .ok (.getfield 21, 3) := by decide +kernel
theorem dX2_copyFrom_48 : decode cX2_copyFrom 48 = .ok (.iconst 0, 1) := by decide +kernel
theorem dX2_copyFrom_49 : decode cX2_copyFrom 49 = .ok (.aload_n 0, 1) := by decide +kernel
theorem dX2_copyFrom_50 : decode cX2_copyFrom 50 = .ok (.getfield 21, 3) := by decide +kernel
theorem dX2_copyFrom_53 : decode cX2_copyFrom 53 = .ok (.iconst 0, 1) := by decide +kernel
theorem dX2_copyFrom_54 : decode cX2_copyFrom 54 = .ok (.bipush 6, 2) := by decide +kernel
theorem dX2_copyFrom_56 : decode cX2_copyFrom 56 = .ok (.invokestatic 34, 3) := by decide +kernel
theorem dX2_copyFrom_59 : decode cX2_copyFrom 59 = .ok (.aload_n 1, 1) := by decide +kernel
theorem dX2_copyFrom_60 : decode cX2_copyFrom 60 = .ok (.getfield 24, 3) := by decide +kernel
theorem dX2_copyFrom_63 : decode cX2_copyFrom 63 = .ok (.iconst 0, 1) := by decide +kernel
theorem dX2_copyFrom_64 : decode cX2_copyFrom 64 = .ok (.aload_n 0, 1) := by decide +kernel
theorem dX2_copyFrom_65 : decode cX2_copyFrom 65 = .ok (.getfield 24, 3) := by decide +kernel
theorem dX2_copyFrom_68 : decode cX2_copyFrom 68 = .ok (.iconst 0, 1) := by decide +kernel
theorem dX2_copyFrom_69 : decode cX2_copyFrom 69 = .ok (.bipush 8, 2) := by decide +kernel
theorem dX2_copyFrom_71 : decode cX2_copyFrom 71 = .ok (.invokestatic 34, 3) := by decide +kernel
theorem dX2_copyFrom_74 : decode cX2_copyFrom 74 = .ok (.aload_n 0, 1) := by decide +kernel
theorem dX2_copyFrom_75 : decode cX2_copyFrom 75 = .ok (.aload_n 1, 1) := by decide +kernel
theorem dX2_copyFrom_76 : decode cX2_copyFrom 76 = .ok (.getfield 41, 3) := by decide +kernel
theorem dX2_copyFrom_79 : decode cX2_copyFrom 79 = .ok (.putfield 41, 3) := by decide +kernel
theorem dX2_copyFrom_82 : decode cX2_copyFrom 82 = .ok (.aload_n 0, 1) := by decide +kernel
theorem dX2_copyFrom_83 : decode cX2_copyFrom 83 = .ok (.aload_n 1, 1) := by decide +kernel
theorem dX2_copyFrom_84 : decode cX2_copyFrom 84 = .ok (.getfield 47, 3) := by decide +kernel
theorem dX2_copyFrom_87 : decode cX2_copyFrom 87 = .ok (.putfield 47, 3) := by decide +kernel
theorem dX2_copyFrom_90 : decode cX2_copyFrom 90 = .ok (.aload_n 0, 1) := by decide +kernel
theorem dX2_copyFrom_91 : decode cX2_copyFrom 91 = .ok (.aload_n 1, 1) := by decide +kernel
theorem dX2_copyFrom_92 : decode cX2_copyFrom 92 = .ok (.getfield 27, 3) := by decide +kernel
theorem dX2_copyFrom_95 : decode cX2_copyFrom 95 = .ok (.putfield 27, 3) := by decide +kernel
theorem dX2_copyFrom_98 : decode cX2_copyFrom 98 = .ok (.aload_n 0, 1) := by decide +kernel
theorem dX2_copyFrom_99 : decode cX2_copyFrom 99 = .ok (.aload_n 1, 1) := by decide +kernel
theorem dX2_copyFrom_100 : decode cX2_copyFrom 100 = .ok (.getfield 48, 3) := by decide +kernel
theorem dX2_copyFrom_103 : decode cX2_copyFrom 103 = .ok (.putfield 48, 3) := by decide +kernel
theorem dX2_copyFrom_106 : decode cX2_copyFrom 106 = .ok (.aload_n 0, 1) := by decide +kernel
theorem dX2_copyFrom_107 : decode cX2_copyFrom 107 = .ok (.aload_n 1, 1) := by decide +kernel
theorem dX2_copyFrom_108 : decode cX2_copyFrom 108 = .ok (.getfield 51, 3) := by decide +kernel
theorem dX2_copyFrom_111 : decode cX2_copyFrom 111 = .ok (.putfield 51, 3) := by decide +kernel
theorem dX2_copyFrom_114 : decode cX2_copyFrom 114 = .ok (.return_, 1) := by decide +kernel
theorem dX3_init_0 : decode cX3_init 0 = .ok (.aload_n 0, 1) := by decide +kernel
theorem dX3_init_1 : decode cX3_init 1 = .ok (.invokespecial 3, 3) := by decide +kernel
theorem dX3_init_4 : decode cX3_init 4 = .ok (.aload_n 0, 1) := by decide +kernel
theorem dX3_init_5 : decode cX3_init 5 = .ok (.bipush 8, 2) := by decide +kernel
theorem dX3_init_7 : decode cX3_init 7 = .ok (.newarray .int, 2) := by decide +kernel
theorem dX3_init_9 : decode cX3_init 9 = .ok (.putfield 9, 3) := by decide +kernel
theorem dX3_init_12 : decode cX3_init 12 = .ok (.aload_n 0, 1) := by decide +kernel
theorem dX3_init_13 : decode cX3_init 13 = .ok (.bipush 8, 2) := by decide +kernel
theorem dX3_init_15 : decode cX3_init 15 = .ok (.newarray .int, 2) := by decide +kernel
theorem dX3_init_17 : decode cX3_init 17 = .ok (.putfield 15, 3) := by decide +kernel
theorem dX3_init_20 : decode cX3_init 20 = .ok (.aload_n 0, 1) := by decide +kernel
theorem dX3_init_21 : decode cX3_init 21 = .ok (.aload_n 1, 1) := by decide +kernel
theorem dX3_init_22 : decode cX3_init 22 = .ok (.putfield 18, 3) := by decide +kernel
theorem dX3_init_25 : decode cX3_init 25 = .ok (.aload_n 0, 1) := by decide +kernel
theorem dX3_init_26 : decode cX3_init 26 = .ok (.aload_n 2, 1) := by decide +kernel
theorem dX3_init_27 : decode cX3_init 27 = .ok (.putfield 22, 3) := by decide +kernel
theorem dX3_init_30 : decode cX3_init 30 = .ok (.aload_n 0, 1) := by decide +kernel
theorem dX3_init_31 : decode cX3_init 31 = .ok (.aload_n 3, 1) := by decide +kernel
theorem dX3_init_32 : decode cX3_init 32 = .ok (.putfield 26, 3) := by decide +kernel
theorem dX3_init_35 : decode cX3_init 35 = .ok (.return_, 1) := by decide +kernel
set_option maxRecDepth 20000 in
theorem ggX3_countTracks_X6_likeSound : GoodIn wsX3_countTracks wsX6_likeSound := goodIn_r _ [7, 8, 9, 10, 11, 12, 13, 14, 15, 5, 16, 17, 18, 19, 20, 56, 57, 58, 59, 60, 61, 62, 63, 64, 65, 66, 46, 47, 48, 49, 50, 51, 52, 53, 54, 55] (by decide +kernel) (by decide +kernel)
set_option maxRecDepth 20000 in
theorem gX3_countTracks_X6_likeSound_n39 : GoodIn wsX3_countTracks (wsX6_likeSound) := ggX3_countTracks_X6_likeSound
set_option maxRecDepth 20000 in
theorem ggX3_countTracks_X3_stepTo : GoodIn wsX3_countTracks wsX3_stepTo := goodIn_r _ [25, 3, 26, 27, 28, 29, 30, 2, 1, 4, 5, 6, 7, 8, 9, 10, 11, 12, 13, 14, 15, 16, 17, 18, 19, 20, 31, 32, 33, 24, 34, 35, 36, 37, 38, 39, 40, 41, 42, 43, 44, 45, 46, 47, 48, 49, 50, 51, 52, 53, 54, 55, 56, 57, 58, 59, 60, 61, 62, 63, 64, 65, 66] (by decide +kernel) (by decide +kernel)
set_option maxRecDepth 20000 in
theorem gX3_countTracks_X3_stepTo : GoodIn wsX3_countTracks (wsV RX3 45 RX3 yX3_stepTo wsX3_stepTo) := goodIn_app (goodIn_of _ (by decide +kernel)) ggX3_countTracks_X3_stepTo
theorem dX3_countTracks_0 : decode cX3_countTracks 0 = .ok (.aload_n 0, 1) := by decide +kernel
theorem dX3_countTracks_1 : decode cX3_countTracks 1 = .ok (.getfield 22, 3) := by decide +kernel
theorem dX3_countTracks_4 : decode cX3_countTracks 4 = .ok (.getfield 30, 3) := by decide +kernel
theorem dX3_countTracks_7 : decode cX3_countTracks 7 = .ok (.ifCond .ne 5, 3) := by decide +kernel
theorem dX3_countTracks_10 : decode cX3_countTracks 10 = .ok (.iconst 1, 1) := by decide +kernel
theorem dX3_countTracks_11 : decode cX3_countTracks 11 = .ok (.ireturn, 1) := by decide +kernel
theorem dX3_countTracks_12 : decode cX3_countTracks 12 = .ok (.aload_n 0, 1) := by decide +kernel
theorem dX3_countTracks_13 : decode cX3_countTracks 13 = .ok (.getfield 26, 3) := by decide +kernel
theorem dX3_countTracks_16 : decode cX3_countTracks 16 = .ok (.aload_n 0, 1) := by decide +kernel
theorem dX3_countTracks_17 : decode cX3_countTracks 17 = .ok (.getfield 22, 3) := by decide +kernel
theorem dX3_countTracks_20 : decode cX3_countTracks 20 = .ok (.getfield 36, 3) := by decide +kernel
theorem dX3_countTracks_23 : decode cX3_countTracks 23 = .ok (.iconst 0, 1) := by decide +kernel
theorem dX3_countTracks_24 : decode cX3_countTracks 24 = .ok (.iaload, 1) := by decide +kernel
theorem dX3_countTracks_25 : decode cX3_countTracks 25 = .ok (.invokevirtual 39, 3) := by decide +kernel
theorem dX3_countTracks_28 : decode cX3_countTracks 28 = .ok (.istore_n 1, 1) := by decide +kernel
theorem dX3_countTracks_29 : decode cX3_countTracks 29 = .ok (.iconst 0, 1) := by decide +kernel
theorem dX3_countTracks_30 : decode cX3_countTracks 30 = .ok (.istore_n 2, 1) := by decide +kernel
theorem dX3_countTracks_31 : decode cX3_countTracks 31 = .ok (.iload_n 2, 1) := by decide +kernel
theorem dX3_countTracks_32 : decode cX3_countTracks 32 = .ok (.bipush 8, 2) := by decide +kernel
theorem dX3_countTracks_34 : decode cX3_countTracks 34 = .ok (.if_icmp .ge 20, 3) := by decide +kernel
theorem dX3_countTracks_37 : decode cX3_countTracks 37 = .ok (.aload_n 0, 1) := by decide +kernel
theorem dX3_countTracks_38 : decode cX3_countTracks 38 = .ok (.getfield 9, 3) := by decide +kernel
theorem dX3_countTracks_41 : decode cX3_countTracks 41 = .ok (.iload_n 2, 1) := by decide +kernel
theorem dX3_countTracks_42 : decode cX3_countTracks 42 = .ok (.iload_n 1, 1) := by decide +kernel
theorem dX3_countTracks_43 : decode cX3_countTracks 43 = .ok (.iload_n 2, 1) := by decide +kernel
theorem dX3_countTracks_44 : decode cX3_countTracks 44 = .ok (.ishr, 1) := by decide +kernel
theorem dX3_countTracks_45 : decode cX3_countTracks 45 = .ok (.iconst 1, 1) := by decide +kernel
theorem dX3_countTracks_46 : decode cX3_countTracks 46 = .ok (.iand, 1) := by decide +kernel
theorem dX3_countTracks_47 : decode cX3_countTracks 47 = .ok (.iastore, 1) := by decide +kernel
theorem dX3_countTracks_48 : decode cX3_countTracks 48 = .ok (.iinc 2 1, 3) := by decide +kernel
theorem dX3_countTracks_51 : decode cX3_countTracks 51 = .ok (.goto (-20), 3) := by decide +kernel
theorem dX3_countTracks_54 : decode cX3_countTracks 54 = .ok (.iconst 1, 1) := by decide +kernel
theorem dX3_countTracks_55 : decode cX3_countTracks 55 = .ok (.istore_n 2, 1) := by decide +kernel
theorem dX3_countTracks_56 : decode cX3_countTracks 56 = .ok (.iload_n 2, 1) := by decide +kernel
theorem dX3_countTracks_57 : decode cX3_countTracks 57 = .ok (.aload_n 0, 1) := by decide +kernel
theorem dX3_countTracks_58 : decode cX3_countTracks 58 = .ok (.getfield 22, 3) := by decide +kernel
theorem dX3_countTracks_61 : decode cX3_countTracks 61 = .ok (.getfield 30, 3) := by decide +kernel
theorem dX3_countTracks_64 : decode cX3_countTracks 64 = .ok (.if_icmp .ge 14, 3) := by decide +kernel
theorem dX3_countTracks_67 : decode cX3_countTracks 67 = .ok (.aload_n 0, 1) := by decide +kernel
theorem dX3_countTracks_68 : decode cX3_countTracks 68 = .ok (.iload_n 2, 1) := by decide +kernel
theorem dX3_countTracks_69 : decode cX3_countTracks 69 = .ok (.invokevirtual 45, 3) := by decide +kernel
theorem dX3_countTracks_72 : decode cX3_countTracks 72 = .ok (.iinc 2 1, 3) := by decide +kernel
theorem dX3_countTracks_75 : decode cX3_countTracks 75 = .ok (.goto (-19), 3) := by decide +kernel
theorem dX3_countTracks_78 : decode cX3_countTracks 78 = .ok (.iconst 0, 1) := by decide +kernel
theorem dX3_countTracks_79 : decode cX3_countTracks 79 = .ok (.istore_n 2, 1) := by decide +kernel
theorem dX3_countTracks_80 : decode cX3_countTracks 80 = .ok (.iconst 0, 1) := by decide +kernel
theorem dX3_countTracks_81 : decode cX3_countTracks 81 = .ok (.istore_n 3, 1) := by decide +kernel
theorem dX3_countTracks_82 : decode cX3_countTracks 82 = .ok (.iload_n 3, 1) := by decide +kernel
theorem dX3_countTracks_83 : decode cX3_countTracks 83 = .ok (.bipush 8, 2) := by decide +kernel
theorem dX3_countTracks_85 : decode cX3_countTracks 85 = .ok (.if_icmp .ge 18, 3) := by decide +kernel
theorem dX3_countTracks_88 : decode cX3_countTracks 88 = .ok (.iload_n 2, 1) := by decide +kernel
theorem dX3_countTracks_89 : decode cX3_countTracks 89 = .ok (.aload_n 0, 1) := by decide +kernel
theorem dX3_countTracks_90 : decode cX3_countTracks 90 = .ok (.getfield 9, 3) := by decide +kernel
theorem dX3_countTracks_93 : decode cX3_countTracks 93 = .ok (.iload_n 3, 1) := by decide +kernel
theorem dX3_countTracks_94 : decode cX3_countTracks 94 = .ok (.iaload, 1) := by decide +kernel
theorem dX3_countTracks_95 : decode cX3_countTracks 95 = .ok (.iadd, 1) := by decide +kernel
theorem dX3_countTracks_96 : decode cX3_countTracks 96 = .ok (.istore_n 2, 1) := by decide +kernel
theorem dX3_countTracks_97 : decode cX3_countTracks 97 = .ok (.iinc 3 1, 3) := by decide +kernel
theorem dX3_countTracks_100 : decode cX3_countTracks 100 = .ok (.goto (-18), 3) := by decide +kernel
theorem dX3_countTracks_103 : decode cX3_countTracks 103 = .ok (.iload_n 2, 1) := by decide +kernel
theorem dX3_countTracks_104 : decode cX3_countTracks 104 = .ok (.ireturn, 1) := by decide +kernel
set_option maxRecDepth 20000 in
theorem ggX3_stepTo_X6_likeSound : GoodIn wsX3_stepTo wsX6_likeSound := goodIn_r _ [12, 13, 14, 15, 16, 17, 18, 19, 20, 10, 21, 22, 23, 24, 25, 52, 53, 54, 55, 56, 57, 58, 59, 60, 61, 62, 42, 43, 44, 45, 46, 47, 48, 49, 50, 51] (by decide +kernel) (by decide +kernel)
set_option maxRecDepth 20000 in
theorem gX3_stepTo_X6_likeSound_n39 : GoodIn wsX3_stepTo (wsX6_likeSound) := ggX3_stepTo_X6_likeSound
set_option maxRecDepth 20000 in
theorem ggX3_stepTo_X3_stepsBetween : GoodIn wsX3_stepTo wsX3_stepsBetween := goodIn_r _ [30, 31, 8, 37, 38, 39, 40, 41, 54, 55, 56, 57, 58, 59, 60, 61, 62, 42, 43, 44, 45, 46, 47, 48, 49, 50, 51] (by decide +kernel) (by decide +kernel)
set_option maxRecDepth 20000 in
theorem gX3_stepTo_X3_stepsBetween : GoodIn wsX3_stepTo (wsV RX3 55 RX3 yX3_stepsBetween wsX3_stepsBetween) := goodIn_app (goodIn_of _ (by decide +kernel)) ggX3_stepTo_X3_stepsBetween
set_option maxRecDepth 20000 in
theorem ggX3_stepTo_X3_waysWithin : GoodIn wsX3_stepTo wsX3_waysWithin := goodIn_r _ [35, 36, 15, 16, 17, 2, 37, 38, 39, 40, 41] (by decide +kernel) (by decide +kernel)
set_option maxRecDepth 20000 in
theorem gX3_stepTo_X3_waysWithin : GoodIn wsX3_stepTo (wsV RX3 59 RX3 yX3_waysWithin wsX3_waysWithin) := goodIn_app (goodIn_of _ (by decide +kernel)) ggX3_stepTo_X3_waysWithin
theorem dX3_stepTo_0 : decode cX3_stepTo 0 = .ok (.aload_n 0, 1) := by decide +kernel
theorem dX3_stepTo_1 : decode cX3_stepTo 1 = .ok (.getfield 9, 3) := by decide +kernel
theorem dX3_stepTo_4 : decode cX3_stepTo 4 = .ok (.iconst 0, 1) := by decide +kernel
theorem dX3_stepTo_5 : decode cX3_stepTo 5 = .ok (.aload_n 0, 1) := by decide +kernel
theorem dX3_stepTo_6 : decode cX3_stepTo 6 = .ok (.getfield 15, 3) := by decide +kernel
theorem dX3_stepTo_9 : decode cX3_stepTo 9 = .ok (.iconst 0, 1) := by decide +kernel
theorem dX3_stepTo_10 : decode cX3_stepTo 10 = .ok (.bipush 8, 2) := by decide +kernel
theorem dX3_stepTo_12 : decode cX3_stepTo 12 = .ok (.invokestatic 49, 3) := by decide +kernel
theorem dX3_stepTo_15 : decode cX3_stepTo 15 = .ok (.aload_n 0, 1) := by decide +kernel
theorem dX3_stepTo_16 : decode cX3_stepTo 16 = .ok (.getfield 26, 3) := by decide +kernel
theorem dX3_stepTo_19 : decode cX3_stepTo 19 = .ok (.aload_n 0, 1) := by decide +kernel
theorem dX3_stepTo_20 : decode cX3_stepTo 20 = .ok (.getfield 22, 3) := by decide +kernel
theorem dX3_stepTo_23 : decode cX3_stepTo 23 = .ok (.getfield 36, 3) := by decide +kernel
theorem dX3_stepTo_26 : decode cX3_stepTo 26 = .ok (.iload_n 1, 1) := by decide +kernel
theorem dX3_stepTo_27 : decode cX3_stepTo 27 = .ok (.iaload, 1) := by decide +kernel
theorem dX3_stepTo_28 : decode cX3_stepTo 28 = .ok (.invokevirtual 39, 3) := by decide +kernel
theorem dX3_stepTo_31 : decode cX3_stepTo 31 = .ok (.istore_n 2, 1) := by decide +kernel
theorem dX3_stepTo_32 : decode cX3_stepTo 32 = .ok (.aload_n 0, 1) := by decide +kernel
theorem dX3_stepTo_33 : decode cX3_stepTo 33 = .ok (.iload_n 1, 1) := by decide +kernel
theorem dX3_stepTo_34 : decode cX3_stepTo 34 = .ok (.iconst 1, 1) := by decide +kernel
theorem dX3_stepTo_35 : decode cX3_stepTo 35 = .ok (.isub, 1) := by decide +kernel
theorem dX3_stepTo_36 : decode cX3_stepTo 36 = .ok (.iload_n 1, 1) := by decide +kernel
theorem dX3_stepTo_37 : decode cX3_stepTo 37 = .ok (.invokevirtual 55, 3) := by decide +kernel
theorem dX3_stepTo_40 : decode cX3_stepTo 40 = .ok (.istore_n 3, 1) := by decide +kernel
theorem dX3_stepTo_41 : decode cX3_stepTo 41 = .ok (.iconst 0, 1) := by decide +kernel
theorem dX3_stepTo_42 : decode cX3_stepTo 42 = .ok (.istore 4, 2) := by decide +kernel
theorem dX3_stepTo_44 : decode cX3_stepTo 44 = .ok (.iload 4, 2) := by decide +kernel
theorem dX3_stepTo_46 : decode cX3_stepTo 46 = .ok (.bipush 8, 2) := by decide +kernel
theorem dX3_stepTo_48 : decode cX3_stepTo 48 = .ok (.if_icmp .ge 36, 3) := by decide +kernel
theorem dX3_stepTo_51 : decode cX3_stepTo 51 = .ok (.aload_n 0, 1) := by decide +kernel
theorem dX3_stepTo_52 : decode cX3_stepTo 52 = .ok (.getfield 9, 3) := by decide +kernel
theorem dX3_stepTo_55 : decode cX3_stepTo 55 = .ok (.iload 4, 2) := by decide +kernel
theorem dX3_stepTo_57 : decode cX3_stepTo 57 = .ok (.iload_n 2, 1) := by decide +kernel
theorem dX3_stepTo_58 : decode cX3_stepTo 58 = .ok (.iload 4, 2) := by decide +kernel
theorem dX3_stepTo_60 : decode cX3_stepTo 60 = .ok (.ishr, 1) := by decide +kernel
theorem dX3_stepTo_61 : decode cX3_stepTo 61 = .ok (.iconst 1, 1) := by decide +kernel
theorem dX3_stepTo_62 : decode cX3_stepTo 62 = .ok (.iand, 1) := by decide +kernel
theorem dX3_stepTo_63 : decode cX3_stepTo 63 = .ok (.ifCond .ne 7, 3) := by decide +kernel
theorem dX3_stepTo_66 : decode cX3_stepTo 66 = .ok (.iconst 0, 1) := by decide +kernel
theorem dX3_stepTo_67 : decode cX3_stepTo 67 = .ok (.goto 10, 3) := by decide +kernel
theorem dX3_stepTo_70 : decode cX3_stepTo 70 = .ok (.aload_n 0, 1) := by decide +kernel
theorem dX3_stepTo_71 : decode cX3_stepTo 71 = .ok (.iload 4, 2) := by decide +kernel
theorem dX3_stepTo_73 : decode cX3_stepTo 73 = .ok (.iload_n 3, 1) := by decide +kernel
theorem dX3_stepTo_74 : decode cX3_stepTo 74 = .ok (.invokevirtual 59, 3) := by decide +kernel
theorem dX3_stepTo_77 : decode cX3_stepTo 77 = .ok (.iastore, 1) := by decide +kernel
theorem dX3_stepTo_78 : decode cX3_stepTo 78 = .ok (.iinc 4 1, 3) := by decide +kernel
theorem dX3_stepTo_81 : decode cX3_stepTo 81 = .ok (.goto (-37), 3) := by decide +kernel
theorem dX3_stepTo_84 : decode cX3_stepTo 84 = .ok (.return_, 1) := by decide +kernel
theorem dX3_waysWithin_0 : decode cX3_waysWithin 0 = .ok (.iconst 0, 1) := by decide +kernel
theorem dX3_waysWithin_1 : decode cX3_waysWithin 1 = .ok (.istore_n 3, 1) := by decide +kernel
theorem dX3_waysWithin_2 : decode cX3_waysWithin 2 = .ok (.iconst 0, 1) := by decide +kernel
theorem dX3_waysWithin_3 : decode cX3_waysWithin 3 = .ok (.istore 4, 2) := by decide +kernel
theorem dX3_waysWithin_5 : decode cX3_waysWithin 5 = .ok (.iload 4, 2) := by decide +kernel
theorem dX3_waysWithin_7 : decode cX3_waysWithin 7 = .ok (.bipush 8, 2) := by decide +kernel
theorem dX3_waysWithin_9 : decode cX3_waysWithin 9 = .ok (.if_icmp .ge 30, 3) := by decide +kernel
theorem dX3_waysWithin_12 : decode cX3_waysWithin 12 = .ok (.iload 4, 2) := by decide +kernel
theorem dX3_waysWithin_14 : decode cX3_waysWithin 14 = .ok (.iload_n 1, 1) := by decide +kernel
theorem dX3_waysWithin_15 : decode cX3_waysWithin 15 = .ok (.isub, 1) := by decide +kernel
theorem dX3_waysWithin_16 : decode cX3_waysWithin 16 = .ok (.invokestatic 62, 3) := by decide +kernel
theorem dX3_waysWithin_19 : decode cX3_waysWithin 19 = .ok (.iload_n 2, 1) := by decide +kernel
theorem dX3_waysWithin_20 : decode cX3_waysWithin 20 = .ok (.if_icmp .gt 13, 3) := by decide +kernel
theorem dX3_waysWithin_23 : decode cX3_waysWithin 23 = .ok (.iload_n 3, 1) := by decide +kernel
theorem dX3_waysWithin_24 : decode cX3_waysWithin 24 = .ok (.aload_n 0, 1) := by decide +kernel
theorem dX3_waysWithin_25 : decode cX3_waysWithin 25 = .ok (.getfield 15, 3) := by decide +kernel
theorem dX3_waysWithin_28 : decode cX3_waysWithin 28 = .ok (.iload 4, 2) := by decide +kernel
theorem dX3_waysWithin_30 : decode cX3_waysWithin 30 = .ok (.iaload, 1) := by decide +kernel
theorem dX3_waysWithin_31 : decode cX3_waysWithin 31 = .ok (.iadd, 1) := by decide +kernel
theorem dX3_waysWithin_32 : decode cX3_waysWithin 32 = .ok (.istore_n 3, 1) := by decide +kernel
theorem dX3_waysWithin_33 : decode cX3_waysWithin 33 = .ok (.iinc 4 1, 3) := by decide +kernel
theorem dX3_waysWithin_36 : decode cX3_waysWithin 36 = .ok (.goto (-31), 3) := by decide +kernel
theorem dX3_waysWithin_39 : decode cX3_waysWithin 39 = .ok (.iload_n 3, 1) := by decide +kernel
theorem dX3_waysWithin_40 : decode cX3_waysWithin 40 = .ok (.ireturn, 1) := by decide +kernel
theorem dX3_stepsBetween_0 : decode cX3_stepsBetween 0 = .ok (.aload_n 0, 1) := by decide +kernel
theorem dX3_stepsBetween_1 : decode cX3_stepsBetween 1 = .ok (.getfield 18, 3) := by decide +kernel
theorem dX3_stepsBetween_4 : decode cX3_stepsBetween 4 = .ok (.getfield 67, 3) := by decide +kernel
theorem dX3_stepsBetween_7 : decode cX3_stepsBetween 7 = .ok (.aload_n 0, 1) := by decide +kernel
theorem dX3_stepsBetween_8 : decode cX3_stepsBetween 8 = .ok (.getfield 22, 3) := by decide +kernel
theorem dX3_stepsBetween_11 : decode cX3_stepsBetween 11 = .ok (.getfield 72, 3) := by decide +kernel
theorem dX3_stepsBetween_14 : decode cX3_stepsBetween 14 = .ok (.iload_n 2, 1) := by decide +kernel
theorem dX3_stepsBetween_15 : decode cX3_stepsBetween 15 = .ok (.iaload, 1) := by decide +kernel
theorem dX3_stepsBetween_16 : decode cX3_stepsBetween 16 = .ok (.aload_n 0, 1) := by decide +kernel
theorem dX3_stepsBetween_17 : decode cX3_stepsBetween 17 = .ok (.getfield 22, 3) := by decide +kernel
theorem dX3_stepsBetween_20 : decode cX3_stepsBetween 20 = .ok (.getfield 72, 3) := by decide +kernel
theorem dX3_stepsBetween_23 : decode cX3_stepsBetween 23 = .ok (.iload_n 1, 1) := by decide +kernel
theorem dX3_stepsBetween_24 : decode cX3_stepsBetween 24 = .ok (.iaload, 1) := by decide +kernel
theorem dX3_stepsBetween_25 : decode cX3_stepsBetween 25 = .ok (.isub, 1) := by decide +kernel
theorem dX3_stepsBetween_26 : decode cX3_stepsBetween 26 = .ok (.imul, 1) := by decide +kernel
theorem dX3_stepsBetween_27 : decode cX3_stepsBetween 27 = .ok (.ireturn, 1) := by decide +kernel
set_option maxRecDepth 20000 in
theorem ggX3_levelsBy_X6_likeSound : GoodIn wsX3_levelsBy wsX6_likeSound := goodIn_r _ [6, 7, 8, 9, 10, 11, 12, 13, 14, 4, 15, 16, 17, 18, 19, 46, 47, 48, 49, 50, 51, 52, 53, 54, 55, 56, 36, 37, 38, 39, 40, 41, 42, 43, 44, 45] (by decide +kernel) (by decide +kernel)
set_option maxRecDepth 20000 in
theorem gX3_levelsBy_X6_likeSound_n39 : GoodIn wsX3_levelsBy (wsX6_likeSound) := ggX3_levelsBy_X6_likeSound
set_option maxRecDepth 20000 in
theorem ggX3_levelsBy_X3_stepsBetween : GoodIn wsX3_levelsBy wsX3_stepsBetween := goodIn_r _ [24, 25, 2, 31, 32, 33, 34, 35, 48, 49, 50, 51, 52, 53, 54, 55, 56, 36, 37, 38, 39, 40, 41, 42, 43, 44, 45] (by decide +kernel) (by decide +kernel)
set_option maxRecDepth 20000 in
theorem gX3_levelsBy_X3_stepsBetween : GoodIn wsX3_levelsBy (wsV RX3 55 RX3 yX3_stepsBetween wsX3_stepsBetween) := goodIn_app (goodIn_of _ (by decide +kernel)) ggX3_levelsBy_X3_stepsBetween
set_option maxRecDepth 20000 in
theorem ggX3_levelsBy_X10_spread : GoodIn wsX3_levelsBy wsX10_spread := goodIn_r _ [27, 28, 29, 10, 30] (by decide +kernel) (by decide +kernel)
set_option maxRecDepth 20000 in
theorem gX3_levelsBy_X10_spread_n75 : GoodIn wsX3_levelsBy (wsX10_spread) := ggX3_levelsBy_X10_spread
theorem dX3_levelsBy_0 : decode cX3_levelsBy 0 = .ok (.aload_n 0, 1) := by decide +kernel
theorem dX3_levelsBy_1 : decode cX3_levelsBy 1 = .ok (.getfield 26, 3) := by decide +kernel
theorem dX3_levelsBy_4 : decode cX3_levelsBy 4 = .ok (.aload_n 0, 1) := by decide +kernel
theorem dX3_levelsBy_5 : decode cX3_levelsBy 5 = .ok (.getfield 22, 3) := by decide +kernel
theorem dX3_levelsBy_8 : decode cX3_levelsBy 8 = .ok (.getfield 36, 3) := by decide +kernel
theorem dX3_levelsBy_11 : decode cX3_levelsBy 11 = .ok (.iconst 0, 1) := by decide +kernel
theorem dX3_levelsBy_12 : decode cX3_levelsBy 12 = .ok (.iaload, 1) := by decide +kernel
theorem dX3_levelsBy_13 : decode cX3_levelsBy 13 = .ok (.invokevirtual 39, 3) := by decide +kernel
theorem dX3_levelsBy_16 : decode cX3_levelsBy 16 = .ok (.istore_n 2, 1) := by decide +kernel
theorem dX3_levelsBy_17 : decode cX3_levelsBy 17 = .ok (.iconst 1, 1) := by decide +kernel
theorem dX3_levelsBy_18 : decode cX3_levelsBy 18 = .ok (.istore_n 3, 1) := by decide +kernel
theorem dX3_levelsBy_19 : decode cX3_levelsBy 19 = .ok (.iload_n 3, 1) := by decide +kernel
theorem dX3_levelsBy_20 : decode cX3_levelsBy 20 = .ok (.iload_n 1, 1) := by decide +kernel
theorem dX3_levelsBy_21 : decode cX3_levelsBy 21 = .ok (.if_icmp .gt 39, 3) := by decide +kernel
theorem dX3_levelsBy_24 : decode cX3_levelsBy 24 = .ok (.iload_n 2, 1) := by decide +kernel
theorem dX3_levelsBy_25 : decode cX3_levelsBy 25 = .ok (.aload_n 0, 1) := by decide +kernel
theorem dX3_levelsBy_26 : decode cX3_levelsBy 26 = .ok (.iload_n 3, 1) := by decide +kernel
theorem dX3_levelsBy_27 : decode cX3_levelsBy 27 = .ok (.iconst 1, 1) := by decide +kernel
theorem dX3_levelsBy_28 : decode cX3_levelsBy 28 = .ok (.isub, 1) := by decide +kernel
theorem dX3_levelsBy_29 : decode cX3_levelsBy 29 = .ok (.iload_n 3, 1) := by decide +kernel
theorem dX3_levelsBy_30 : decode cX3_levelsBy 30 = .ok (.invokevirtual 55, 3) := by decide +kernel
theorem dX3_levelsBy_33 : decode cX3_levelsBy 33 = .ok (.invokestatic 75, 3) := by decide +kernel
theorem dX3_levelsBy_36 : decode cX3_levelsBy 36 = .ok (.aload_n 0, 1) := by decide +kernel
theorem dX3_levelsBy_37 : decode cX3_levelsBy 37 = .ok (.getfield 26, 3) := by decide +kernel
theorem dX3_levelsBy_40 : decode cX3_levelsBy 40 = .ok (.aload_n 0, 1) := by decide +kernel
theorem dX3_levelsBy_41 : decode cX3_levelsBy 41 = .ok (.getfield 22, 3) := by decide +kernel
theorem dX3_levelsBy_44 : decode cX3_levelsBy 44 = .ok (.getfield 36, 3) := by decide +kernel
theorem dX3_levelsBy_47 : decode cX3_levelsBy 47 = .ok (.iload_n 3, 1) := by decide +kernel
theorem dX3_levelsBy_48 : decode cX3_levelsBy 48 = .ok (.iaload, 1) := by decide +kernel
theorem dX3_levelsBy_49 : decode cX3_levelsBy 49 = .ok (.invokevirtual 39, 3) := by decide +kernel
theorem dX3_levelsBy_52 : decode cX3_levelsBy 52 = .ok (.iand, 1) := by decide +kernel
theorem dX3_levelsBy_53 : decode cX3_levelsBy 53 = .ok (.istore_n 2, 1) := by decide +kernel
theorem dX3_levelsBy_54 : decode cX3_levelsBy 54 = .ok (.iinc 3 1, 3) := by decide +kernel
theorem dX3_levelsBy_57 : decode cX3_levelsBy 57 = .ok (.goto (-38), 3) := by decide +kernel
theorem dX3_levelsBy_60 : decode cX3_levelsBy 60 = .ok (.aload_n 0, 1) := by decide +kernel
theorem dX3_levelsBy_61 : decode cX3_levelsBy 61 = .ok (.getfield 26, 3) := by decide +kernel
theorem dX3_levelsBy_64 : decode cX3_levelsBy 64 = .ok (.aload_n 0, 1) := by decide +kernel
theorem dX3_levelsBy_65 : decode cX3_levelsBy 65 = .ok (.getfield 22, 3) := by decide +kernel
theorem dX3_levelsBy_68 : decode cX3_levelsBy 68 = .ok (.getfield 36, 3) := by decide +kernel
theorem dX3_levelsBy_71 : decode cX3_levelsBy 71 = .ok (.aload_n 0, 1) := by decide +kernel
theorem dX3_levelsBy_72 : decode cX3_levelsBy 72 = .ok (.getfield 22, 3) := by decide +kernel
theorem dX3_levelsBy_75 : decode cX3_levelsBy 75 = .ok (.getfield 30, 3) := by decide +kernel
theorem dX3_levelsBy_78 : decode cX3_levelsBy 78 = .ok (.iconst 1, 1) := by decide +kernel
theorem dX3_levelsBy_79 : decode cX3_levelsBy 79 = .ok (.isub, 1) := by decide +kernel
theorem dX3_levelsBy_80 : decode cX3_levelsBy 80 = .ok (.iaload, 1) := by decide +kernel
theorem dX3_levelsBy_81 : decode cX3_levelsBy 81 = .ok (.invokevirtual 39, 3) := by decide +kernel
theorem dX3_levelsBy_84 : decode cX3_levelsBy 84 = .ok (.istore_n 3, 1) := by decide +kernel
theorem dX3_levelsBy_85 : decode cX3_levelsBy 85 = .ok (.aload_n 0, 1) := by decide +kernel
theorem dX3_levelsBy_86 : decode cX3_levelsBy 86 = .ok (.getfield 22, 3) := by decide +kernel
theorem dX3_levelsBy_89 : decode cX3_levelsBy 89 = .ok (.getfield 30, 3) := by decide +kernel
theorem dX3_levelsBy_92 : decode cX3_levelsBy 92 = .ok (.iconst 2, 1) := by decide +kernel
theorem dX3_levelsBy_93 : decode cX3_levelsBy 93 = .ok (.isub, 1) := by decide +kernel
theorem dX3_levelsBy_94 : decode cX3_levelsBy 94 = .ok (.istore 4, 2) := by decide +kernel
theorem dX3_levelsBy_96 : decode cX3_levelsBy 96 = .ok (.iload 4, 2) := by decide +kernel
theorem dX3_levelsBy_98 : decode cX3_levelsBy 98 = .ok (.iload_n 1, 1) := by decide +kernel
theorem dX3_levelsBy_99 : decode cX3_levelsBy 99 = .ok (.if_icmp .lt 42, 3) := by decide +kernel
theorem dX3_levelsBy_102 : decode cX3_levelsBy 102 = .ok (.iload_n 3, 1) := by decide +kernel
theorem dX3_levelsBy_103 : decode cX3_levelsBy 103 = .ok (.aload_n 0, 1) := by decide +kernel
theorem dX3_levelsBy_104 : decode cX3_levelsBy 104 = .ok (.iload 4, 2) := by decide +kernel
theorem dX3_levelsBy_106 : decode cX3_levelsBy 106 = .ok (.iload 4, 2) := by decide +kernel
theorem dX3_levelsBy_108 : decode cX3_levelsBy 108 = .ok (.iconst 1, 1) := by decide +kernel
theorem dX3_levelsBy_109 : decode cX3_levelsBy 109 = .ok (.iadd, 1) := by decide +kernel
theorem dX3_levelsBy_110 : decode cX3_levelsBy 110 = .ok (.invokevirtual 55, 3) := by decide +kernel
theorem dX3_levelsBy_113 : decode cX3_levelsBy 113 = .ok (.invokestatic 75, 3) := by decide +kernel
theorem dX3_levelsBy_116 : decode cX3_levelsBy 116 = .ok (.aload_n 0, 1) := by decide +kernel
theorem dX3_levelsBy_117 : decode cX3_levelsBy 117 = .ok (.getfield 26, 3) := by decide +kernel
theorem dX3_levelsBy_120 : decode cX3_levelsBy 120 = .ok (.aload_n 0, 1) := by decide +kernel
theorem dX3_levelsBy_121 : decode cX3_levelsBy 121 = .ok (.getfield 22, 3) := by decide +kernel
theorem dX3_levelsBy_124 : decode cX3_levelsBy 124 = .ok (.getfield 36, 3) := by decide +kernel
theorem dX3_levelsBy_127 : decode cX3_levelsBy 127 = .ok (.iload 4, 2) := by decide +kernel
theorem dX3_levelsBy_129 : decode cX3_levelsBy 129 = .ok (.iaload, 1) := by decide +kernel
theorem dX3_levelsBy_130 : decode cX3_levelsBy 130 = .ok (.invokevirtual 39, 3) := by decide +kernel
theorem dX3_levelsBy_133 : decode cX3_levelsBy 133 = .ok (.iand, 1) := by decide +kernel
theorem dX3_levelsBy_134 : decode cX3_levelsBy 134 = .ok (.istore_n 3, 1) := by decide +kernel
theorem dX3_levelsBy_135 : decode cX3_levelsBy 135 = .ok (.iinc 4 (-1), 3) := by decide +kernel
theorem dX3_levelsBy_138 : decode cX3_levelsBy 138 = .ok (.goto (-42), 3) := by decide +kernel
theorem dX3_levelsBy_141 : decode cX3_levelsBy 141 = .ok (.iload_n 2, 1) := by decide +kernel
theorem dX3_levelsBy_142 : decode cX3_levelsBy 142 = .ok (.iload_n 3, 1) := by decide +kernel
theorem dX3_levelsBy_143 : decode cX3_levelsBy 143 = .ok (.iand, 1) := by decide +kernel
theorem dX3_levelsBy_144 : decode cX3_levelsBy 144 = .ok (.ireturn, 1) := by decide +kernel
theorem dX4_init_0 : decode cX4_init 0 = .ok (.aload_n 0, 1) := by decide +kernel
theorem dX4_init_1 : decode cX4_init 1 = .ok (.invokespecial 3, 3) := by decide +kernel
theorem dX4_init_4 : decode cX4_init 4 = .ok (.aload_n 0, 1) := by decide +kernel
theorem dX4_init_5 : decode cX4_init 5 = .ok (.bipush 6, 2) := by decide +kernel
theorem dX4_init_7 : decode cX4_init 7 = .ok (.newarray .int, 2) := by decide +kernel
theorem dX4_init_9 : decode cX4_init 9 = .ok (.putfield 9, 3) := by decide +kernel
theorem dX4_init_12 : decode cX4_init 12 = .ok (.aload_n 0, 1) := by decide +kernel
theorem dX4_init_13 : decode cX4_init 13 = .ok (.bipush 6, 2) := by decide +kernel
theorem dX4_init_15 : decode cX4_init 15 = .ok (.newarray .boolean, 2) := by decide +kernel
theorem dX4_init_17 : decode cX4_init 17 = .ok (.putfield 15, 3) := by decide +kernel
theorem dX4_init_20 : decode cX4_init 20 = .ok (.aload_n 0, 1) := by decide +kernel
theorem dX4_init_21 : decode cX4_init 21 = .ok (.iconst 3, 1) := by decide +kernel
theorem dX4_init_22 : decode cX4_init 22 = .ok (.newarray .int, 2) := by decide +kernel
theorem dX4_init_24 : decode cX4_init 24 = .ok (.putfield 19, 3) := by decide +kernel
theorem dX4_init_27 : decode cX4_init 27 = .ok (.aload_n 0, 1) := by decide +kernel
theorem dX4_init_28 : decode cX4_init 28 = .ok (.iconst 3, 1) := by decide +kernel
theorem dX4_init_29 : decode cX4_init 29 = .ok (.newarray .int, 2) := by decide +kernel
theorem dX4_init_31 : decode cX4_init 31 = .ok (.putfield 22, 3) := by decide +kernel
theorem dX4_init_34 : decode cX4_init 34 = .ok (.aload_n 0, 1) := by decide +kernel
theorem dX4_init_35 : decode cX4_init 35 = .ok (.aload_n 1, 1) := by decide +kernel
theorem dX4_init_36 : decode cX4_init 36 = .ok (.putfield 25, 3) := by decide +kernel
theorem dX4_init_39 : decode cX4_init 39 = .ok (.aload_n 0, 1) := by decide +kernel
theorem dX4_init_40 : decode cX4_init 40 = .ok (.aload_n 2, 1) := by decide +kernel
theorem dX4_init_41 : decode cX4_init 41 = .ok (.putfield 29, 3) := by decide +kernel
theorem dX4_init_44 : decode cX4_init 44 = .ok (.aload_n 0, 1) := by decide +kernel
theorem dX4_init_45 : decode cX4_init 45 = .ok (.aload_n 3, 1) := by decide +kernel
theorem dX4_init_46 : decode cX4_init 46 = .ok (.putfield 33, 3) := by decide +kernel
theorem dX4_init_49 : decode cX4_init 49 = .ok (.return_, 1) := by decide +kernel
set_option maxRecDepth 20000 in
theorem ggX4_fewest_X6_likeSound : GoodIn wsX4_fewest wsX6_likeSound := goodIn_r _ [11, 12, 13, 14, 15, 16, 17, 18, 19, 9, 20, 21, 22, 23, 24, 74, 75, 76, 77, 78, 79, 80, 81, 82, 83, 84, 64, 65, 66, 67, 68, 69, 70, 71, 72, 73] (by decide +kernel) (by decide +kernel)
set_option maxRecDepth 20000 in
theorem gX4_fewest_X6_likeSound_n46 : GoodIn wsX4_fewest (wsX6_likeSound) := ggX4_fewest_X6_likeSound
set_option maxRecDepth 20000 in
theorem ggX4_fewest_X8_echoLevels : GoodIn wsX4_fewest wsX8_echoLevels := goodIn_r _ [28, 29, 30, 76, 77, 78, 79, 80, 81, 82, 83, 84] (by decide +kernel) (by decide +kernel)
set_option maxRecDepth 20000 in
theorem gX4_fewest_X8_echoLevels_n52 : GoodIn wsX4_fewest (wsX8_echoLevels) := ggX4_fewest_X8_echoLevels
set_option maxRecDepth 20000 in
theorem ggX4_fewest_X4_chooseEchoes : GoodIn wsX4_fewest wsX4_chooseEchoes := goodIn_r _ [35, 1, 7, 4, 36, 37, 38, 34, 39, 40, 41, 42, 43, 44, 45, 2, 5, 46, 23, 47, 48, 49, 15, 50, 31, 32, 33, 51, 52, 53, 54, 6, 55, 56, 57, 58, 59, 60, 61, 62, 63, 64, 65, 66, 67, 68, 69, 70, 71, 72, 73, 76, 77, 78, 79, 80, 81, 82, 83, 84] (by decide +kernel) (by decide +kernel)
set_option maxRecDepth 20000 in
theorem gX4_fewest_X4_chooseEchoes : GoodIn wsX4_fewest (wsV RX4 63 RX4 yX4_chooseEchoes wsX4_chooseEchoes) := goodIn_app (goodIn_of _ (by decide +kernel)) ggX4_fewest_X4_chooseEchoes
theorem dX4_fewest_0 : decode cX4_fewest 0 = .ok (.aload_n 0, 1) := by decide +kernel
theorem dX4_fewest_1 : decode cX4_fewest 1 = .ok (.getfield 29, 3) := by decide +kernel
theorem dX4_fewest_4 : decode cX4_fewest 4 = .ok (.getfield 37, 3) := by decide +kernel
theorem dX4_fewest_7 : decode cX4_fewest 7 = .ok (.ifCond .ne 5, 3) := by decide +kernel
theorem dX4_fewest_10 : decode cX4_fewest 10 = .ok (.iconst 0, 1) := by decide +kernel
theorem dX4_fewest_11 : decode cX4_fewest 11 = .ok (.ireturn, 1) := by decide +kernel
theorem dX4_fewest_12 : decode cX4_fewest 12 = .ok (.iconst 0, 1) := by decide +kernel
theorem dX4_fewest_13 : decode cX4_fewest 13 = .ok (.istore_n 1, 1) := by decide +kernel
theorem dX4_fewest_14 : decode cX4_fewest 14 = .ok (.iload_n 1, 1) := by decide +kernel
theorem dX4_fewest_15 : decode cX4_fewest 15 = .ok (.aload_n 0, 1) := by decide +kernel
theorem dX4_fewest_16 : decode cX4_fewest 16 = .ok (.getfield 29, 3) := by decide +kernel
theorem dX4_fewest_19 : decode cX4_fewest 19 = .ok (.getfield 37, 3) := by decide +kernel
theorem dX4_fewest_22 : decode cX4_fewest 22 = .ok (.if_icmp .ge 50, 3) := by decide +kernel
theorem dX4_fewest_25 : decode cX4_fewest 25 = .ok (.aload_n 0, 1) := by decide +kernel
theorem dX4_fewest_26 : decode cX4_fewest 26 = .ok (.getfield 9, 3) := by decide +kernel
theorem dX4_fewest_29 : decode cX4_fewest 29 = .ok (.iload_n 1, 1) := by decide +kernel
theorem dX4_fewest_30 : decode cX4_fewest 30 = .ok (.aload_n 0, 1) := by decide +kernel
theorem dX4_fewest_31 : decode cX4_fewest 31 = .ok (.getfield 33, 3) := by decide +kernel
theorem dX4_fewest_34 : decode cX4_fewest 34 = .ok (.aload_n 0, 1) := by decide +kernel
theorem dX4_fewest_35 : decode cX4_fewest 35 = .ok (.getfield 29, 3) := by decide +kernel
theorem dX4_fewest_38 : decode cX4_fewest 38 = .ok (.getfield 43, 3) := by decide +kernel
theorem dX4_fewest_41 : decode cX4_fewest 41 = .ok (.iload_n 1, 1) := by decide +kernel
theorem dX4_fewest_42 : decode cX4_fewest 42 = .ok (.iaload, 1) := by decide +kernel
theorem dX4_fewest_43 : decode cX4_fewest 43 = .ok (.invokevirtual 46, 3) := by decide +kernel
theorem dX4_fewest_46 : decode cX4_fewest 46 = .ok (.iastore, 1) := by decide +kernel
theorem dX4_fewest_47 : decode cX4_fewest 47 = .ok (.aload_n 0, 1) := by decide +kernel
theorem dX4_fewest_48 : decode cX4_fewest 48 = .ok (.getfield 15, 3) := by decide +kernel
theorem dX4_fewest_51 : decode cX4_fewest 51 = .ok (.iload_n 1, 1) := by decide +kernel
theorem dX4_fewest_52 : decode cX4_fewest 52 = .ok (.iconst 0, 1) := by decide +kernel
theorem dX4_fewest_53 : decode cX4_fewest 53 = .ok (.bastore, 1) := by decide +kernel
theorem dX4_fewest_54 : decode cX4_fewest 54 = .ok (.aload_n 0, 1) := by decide +kernel
theorem dX4_fewest_55 : decode cX4_fewest 55 = .ok (.getfield 9, 3) := by decide +kernel
theorem dX4_fewest_58 : decode cX4_fewest 58 = .ok (.iload_n 1, 1) := by decide +kernel
theorem dX4_fewest_59 : decode cX4_fewest 59 = .ok (.iaload, 1) := by decide +kernel
theorem dX4_fewest_60 : decode cX4_fewest 60 = .ok (.ifCond .ne 6, 3) := by decide +kernel
theorem dX4_fewest_63 : decode cX4_fewest 63 = .ok (.bipush (-9), 2) := by decide +kernel
theorem dX4_fewest_65 : decode cX4_fewest 65 = .ok (.ireturn, 1) := by decide +kernel
theorem dX4_fewest_66 : decode cX4_fewest 66 = .ok (.iinc 1 1, 3) := by decide +kernel
theorem dX4_fewest_69 : decode cX4_fewest 69 = .ok (.goto (-55), 3) := by decide +kernel
theorem dX4_fewest_72 : decode cX4_fewest 72 = .ok (.aload_n 0, 1) := by decide +kernel
theorem dX4_fewest_73 : decode cX4_fewest 73 = .ok (.aload_n 0, 1) := by decide +kernel
theorem dX4_fewest_74 : decode cX4_fewest 74 = .ok (.getfield 25, 3) := by decide +kernel
theorem dX4_fewest_77 : decode cX4_fewest 77 = .ok (.invokevirtual 52, 3) := by decide +kernel
theorem dX4_fewest_80 : decode cX4_fewest 80 = .ok (.putfield 58, 3) := by decide +kernel
theorem dX4_fewest_83 : decode cX4_fewest 83 = .ok (.aload_n 0, 1) := by decide +kernel
theorem dX4_fewest_84 : decode cX4_fewest 84 = .ok (.iconst 4, 1) := by decide +kernel
theorem dX4_fewest_85 : decode cX4_fewest 85 = .ok (.putfield 60, 3) := by decide +kernel
theorem dX4_fewest_88 : decode cX4_fewest 88 = .ok (.aload_n 0, 1) := by decide +kernel
theorem dX4_fewest_89 : decode cX4_fewest 89 = .ok (.iconst 0, 1) := by decide +kernel
theorem dX4_fewest_90 : decode cX4_fewest 90 = .ok (.invokevirtual 63, 3) := by decide +kernel
theorem dX4_fewest_93 : decode cX4_fewest 93 = .ok (.aload_n 0, 1) := by decide +kernel
theorem dX4_fewest_94 : decode cX4_fewest 94 = .ok (.getfield 60, 3) := by decide +kernel
theorem dX4_fewest_97 : decode cX4_fewest 97 = .ok (.iconst 3, 1) := by decide +kernel
theorem dX4_fewest_98 : decode cX4_fewest 98 = .ok (.if_icmp .le 8, 3) := by decide +kernel
theorem dX4_fewest_101 : decode cX4_fewest 101 = .ok (.bipush (-9), 2) := by decide +kernel
theorem dX4_fewest_103 : decode cX4_fewest 103 = .ok (.goto 7, 3) := by decide +kernel
theorem dX4_fewest_106 : decode cX4_fewest 106 = .ok (.aload_n 0, 1) := by decide +kernel
theorem dX4_fewest_107 : decode cX4_fewest 107 = .ok (.getfield 60, 3) := by decide +kernel
theorem dX4_fewest_110 : decode cX4_fewest 110 = .ok (.ireturn, 1) := by decide +kernel
set_option maxRecDepth 20000 in
theorem ggX4_chooseEchoes_X4_giveToMen : GoodIn wsX4_chooseEchoes wsX4_giveToMen := goodIn_r _ [8, 2, 1, 3, 4, 5, 6, 7, 9, 10, 11, 12, 13, 14, 15, 16, 17, 18, 19, 20, 21, 22, 23, 32, 33, 34, 35, 36, 37, 38, 39, 40, 51, 52, 53, 54, 55, 56, 57, 58, 59, 41, 42, 43, 44, 45, 46, 47, 48, 49, 50] (by decide +kernel) (by decide +kernel)
set_option maxRecDepth 20000 in
theorem gX4_chooseEchoes_X4_giveToMen : GoodIn wsX4_chooseEchoes (wsV RX4 67 RX4 yX4_giveToMen wsX4_giveToMen) := goodIn_app (goodIn_of _ (by decide +kernel)) ggX4_chooseEchoes_X4_giveToMen
set_option maxRecDepth 20000 in
theorem ggX4_chooseEchoes_X4_chooseEchoes : GoodIn wsX4_chooseEchoes wsX4_chooseEchoes := goodIn_r _ [0, 1, 2, 3, 4, 5, 6, 7, 8, 9, 10, 11, 12, 13, 14, 15, 16, 17, 18, 19, 20, 21, 22, 23, 24, 25, 26, 27, 28, 29, 30, 31, 32, 33, 34, 35, 36, 37, 38, 39, 40, 41, 42, 43, 44, 45, 46, 47, 48, 49, 50, 51, 52, 53, 54, 55, 56, 57, 58, 59] (by decide +kernel) (by decide +kernel)
set_option maxRecDepth 20000 in
theorem gX4_chooseEchoes_X4_chooseEchoes : GoodIn wsX4_chooseEchoes (wsV RX4 63 RX4 yX4_chooseEchoes wsX4_chooseEchoes) := goodIn_app (goodIn_of _ (by decide +kernel)) ggX4_chooseEchoes_X4_chooseEchoes
set_option maxRecDepth 20000 in
theorem ggX4_chooseEchoes_X4_chooseEchoOf : GoodIn wsX4_chooseEchoes wsX4_chooseEchoOf := goodIn_r _ [30, 15, 31, 3, 24, 25, 26, 7, 0, 1, 2, 4, 5, 6, 8, 9, 10, 11, 12, 13, 14, 16, 17, 18, 19, 20, 21, 22, 23, 27, 28, 29, 32, 33, 34, 35, 36, 37, 38, 39, 40, 41, 42, 43, 44, 45, 46, 47, 48, 49, 50, 51, 52, 53, 54, 55, 56, 57, 58, 59] (by decide +kernel) (by decide +kernel)
set_option maxRecDepth 20000 in
theorem gX4_chooseEchoes_X4_chooseEchoOf : GoodIn wsX4_chooseEchoes (wsV RX4 74 RX4 yX4_chooseEchoOf wsX4_chooseEchoOf) := goodIn_app (goodIn_of _ (by decide +kernel)) ggX4_chooseEchoes_X4_chooseEchoOf
theorem dX4_chooseEchoes_0 : decode cX4_chooseEchoes 0 = .ok (.iload_n 1, 1) := by decide +kernel
theorem dX4_chooseEchoes_1 : decode cX4_chooseEchoes 1 = .ok (.aload_n 0, 1) := by decide +kernel
theorem dX4_chooseEchoes_2 : decode cX4_chooseEchoes 2 = .ok (.getfield 29, 3) := by decide +kernel
theorem dX4_chooseEchoes_5 : decode cX4_chooseEchoes 5 = .ok (.getfield 37, 3) := by decide +kernel
theorem dX4_chooseEchoes_8 : decode cX4_chooseEchoes 8 = .ok (.if_icmp .lt 10, 3) := by decide +kernel
theorem dX4_chooseEchoes_11 : decode cX4_chooseEchoes 11 = .ok (.aload_n 0, 1) := by decide +kernel
theorem dX4_chooseEchoes_12 : decode cX4_chooseEchoes 12 = .ok (.iconst 0, 1) := by decide +kernel
theorem dX4_chooseEchoes_13 : decode cX4_chooseEchoes 13 = .ok (.iconst 0, 1) := by decide +kernel
theorem dX4_chooseEchoes_14 : decode cX4_chooseEchoes 14 = .ok (.invokevirtual 67, 3) := by decide +kernel
theorem dX4_chooseEchoes_17 : decode cX4_chooseEchoes 17 = .ok (.return_, 1) := by decide +kernel
theorem dX4_chooseEchoes_18 : decode cX4_chooseEchoes 18 = .ok (.aload_n 0, 1) := by decide +kernel
theorem dX4_chooseEchoes_19 : decode cX4_chooseEchoes 19 = .ok (.iload_n 1, 1) := by decide +kernel
theorem dX4_chooseEchoes_20 : decode cX4_chooseEchoes 20 = .ok (.iconst 1, 1) := by decide +kernel
theorem dX4_chooseEchoes_21 : decode cX4_chooseEchoes 21 = .ok (.iadd, 1) := by decide +kernel
theorem dX4_chooseEchoes_22 : decode cX4_chooseEchoes 22 = .ok (.invokevirtual 63, 3) := by decide +kernel
theorem dX4_chooseEchoes_25 : decode cX4_chooseEchoes 25 = .ok (.iconst 0, 1) := by decide +kernel
theorem dX4_chooseEchoes_26 : decode cX4_chooseEchoes 26 = .ok (.istore_n 2, 1) := by decide +kernel
theorem dX4_chooseEchoes_27 : decode cX4_chooseEchoes 27 = .ok (.iload_n 2, 1) := by decide +kernel
theorem dX4_chooseEchoes_28 : decode cX4_chooseEchoes 28 = .ok (.iload_n 1, 1) := by decide +kernel
theorem dX4_chooseEchoes_29 : decode cX4_chooseEchoes 29 = .ok (.if_icmp .ge 55, 3) := by decide +kernel
theorem dX4_chooseEchoes_32 : decode cX4_chooseEchoes 32 = .ok (.aload_n 0, 1) := by decide +kernel
theorem dX4_chooseEchoes_33 : decode cX4_chooseEchoes 33 = .ok (.getfield 60, 3) := by decide +kernel
theorem dX4_chooseEchoes_36 : decode cX4_chooseEchoes 36 = .ok (.iconst 1, 1) := by decide +kernel
theorem dX4_chooseEchoes_37 : decode cX4_chooseEchoes 37 = .ok (.if_icmp .le 47, 3) := by decide +kernel
theorem dX4_chooseEchoes_40 : decode cX4_chooseEchoes 40 = .ok (.aload_n 0, 1) := by decide +kernel
theorem dX4_chooseEchoes_41 : decode cX4_chooseEchoes 41 = .ok (.getfield 15, 3) := by decide +kernel
theorem dX4_chooseEchoes_44 : decode cX4_chooseEchoes 44 = .ok (.iload_n 2, 1) := by decide +kernel
theorem dX4_chooseEchoes_45 : decode cX4_chooseEchoes 45 = .ok (.baload, 1) := by decide +kernel
theorem dX4_chooseEchoes_46 : decode cX4_chooseEchoes 46 = .ok (.ifCond .ne 32, 3) := by decide +kernel
theorem dX4_chooseEchoes_49 : decode cX4_chooseEchoes 49 = .ok (.aload_n 0, 1) := by decide +kernel
theorem dX4_chooseEchoes_50 : decode cX4_chooseEchoes 50 = .ok (.getfield 29, 3) := by decide +kernel
theorem dX4_chooseEchoes_53 : decode cX4_chooseEchoes 53 = .ok (.getfield 71, 3) := by decide +kernel
theorem dX4_chooseEchoes_56 : decode cX4_chooseEchoes 56 = .ok (.iload_n 2, 1) := by decide +kernel
theorem dX4_chooseEchoes_57 : decode cX4_chooseEchoes 57 = .ok (.iaload, 1) := by decide +kernel
theorem dX4_chooseEchoes_58 : decode cX4_chooseEchoes 58 = .ok (.iconst 2, 1) := by decide +kernel
theorem dX4_chooseEchoes_59 : decode cX4_chooseEchoes 59 = .ok (.iadd, 1) := by decide +kernel
theorem dX4_chooseEchoes_60 : decode cX4_chooseEchoes 60 = .ok (.aload_n 0, 1) := by decide +kernel
theorem dX4_chooseEchoes_61 : decode cX4_chooseEchoes 61 = .ok (.getfield 29, 3) := by decide +kernel
theorem dX4_chooseEchoes_64 : decode cX4_chooseEchoes 64 = .ok (.getfield 71, 3) := by decide +kernel
theorem dX4_chooseEchoes_67 : decode cX4_chooseEchoes 67 = .ok (.iload_n 1, 1) := by decide +kernel
theorem dX4_chooseEchoes_68 : decode cX4_chooseEchoes 68 = .ok (.iaload, 1) := by decide +kernel
theorem dX4_chooseEchoes_69 : decode cX4_chooseEchoes 69 = .ok (.if_icmp .ne 9, 3) := by decide +kernel
theorem dX4_chooseEchoes_72 : decode cX4_chooseEchoes 72 = .ok (.aload_n 0, 1) := by decide +kernel
theorem dX4_chooseEchoes_73 : decode cX4_chooseEchoes 73 = .ok (.iload_n 2, 1) := by decide +kernel
theorem dX4_chooseEchoes_74 : decode cX4_chooseEchoes 74 = .ok (.iload_n 1, 1) := by decide +kernel
theorem dX4_chooseEchoes_75 : decode cX4_chooseEchoes 75 = .ok (.invokevirtual 74, 3) := by decide +kernel
theorem dX4_chooseEchoes_78 : decode cX4_chooseEchoes 78 = .ok (.iinc 2 1, 3) := by decide +kernel
theorem dX4_chooseEchoes_81 : decode cX4_chooseEchoes 81 = .ok (.goto (-54), 3) := by decide +kernel
theorem dX4_chooseEchoes_84 : decode cX4_chooseEchoes 84 = .ok (.return_, 1) := by decide +kernel
set_option maxRecDepth 20000 in
theorem ggX4_chooseEchoOf_X4_chooseEchoes : GoodIn wsX4_chooseEchoOf wsX4_chooseEchoes := goodIn_r _ [8, 9, 10, 3, 11, 12, 13, 7, 14, 15, 16, 17, 18, 19, 20, 1, 21, 22, 23, 24, 25, 26, 27, 28, 4, 5, 6, 29, 30, 31, 0, 2, 32, 33, 34, 35, 36, 37, 38, 39, 40, 41, 42, 43, 44, 45, 46, 47, 48, 49, 50, 51, 52, 53, 54, 55, 56, 57, 58, 59] (by decide +kernel) (by decide +kernel)
set_option maxRecDepth 20000 in
theorem gX4_chooseEchoOf_X4_chooseEchoes : GoodIn wsX4_chooseEchoOf (wsV RX4 63 RX4 yX4_chooseEchoes wsX4_chooseEchoes) := goodIn_app (goodIn_of _ (by decide +kernel)) ggX4_chooseEchoOf_X4_chooseEchoes
theorem dX4_chooseEchoOf_0 : decode cX4_chooseEchoOf 0 = .ok (.aload_n 0, 1) := by decide +kernel
theorem dX4_chooseEchoOf_1 : decode cX4_chooseEchoOf 1 = .ok (.getfield 9, 3) := by decide +kernel
theorem dX4_chooseEchoOf_4 : decode cX4_chooseEchoOf 4 = .ok (.iload_n 1, 1) := by decide +kernel
theorem dX4_chooseEchoOf_5 : decode cX4_chooseEchoOf 5 = .ok (.iaload, 1) := by decide +kernel
theorem dX4_chooseEchoOf_6 : decode cX4_chooseEchoOf 6 = .ok (.istore_n 3, 1) := by decide +kernel
theorem dX4_chooseEchoOf_7 : decode cX4_chooseEchoOf 7 = .ok (.aload_n 0, 1) := by decide +kernel
theorem dX4_chooseEchoOf_8 : decode cX4_chooseEchoOf 8 = .ok (.getfield 9, 3) := by decide +kernel
theorem dX4_chooseEchoOf_11 : decode cX4_chooseEchoOf 11 = .ok (.iload_n 1, 1) := by decide +kernel
theorem dX4_chooseEchoOf_12 : decode cX4_chooseEchoOf 12 = .ok (.iload_n 3, 1) := by decide +kernel
theorem dX4_chooseEchoOf_13 : decode cX4_chooseEchoOf 13 = .ok (.aload_n 0, 1) := by decide +kernel
theorem dX4_chooseEchoOf_14 : decode cX4_chooseEchoOf 14 = .ok (.getfield 58, 3) := by decide +kernel
theorem dX4_chooseEchoOf_17 : decode cX4_chooseEchoOf 17 = .ok (.iand, 1) := by decide +kernel
theorem dX4_chooseEchoOf_18 : decode cX4_chooseEchoOf 18 = .ok (.aload_n 0, 1) := by decide +kernel
theorem dX4_chooseEchoOf_19 : decode cX4_chooseEchoOf 19 = .ok (.getfield 9, 3) := by decide +kernel
theorem dX4_chooseEchoOf_22 : decode cX4_chooseEchoOf 22 = .ok (.iload_n 2, 1) := by decide +kernel
theorem dX4_chooseEchoOf_23 : decode cX4_chooseEchoOf 23 = .ok (.iaload, 1) := by decide +kernel
theorem dX4_chooseEchoOf_24 : decode cX4_chooseEchoOf 24 = .ok (.iand, 1) := by decide +kernel
theorem dX4_chooseEchoOf_25 : decode cX4_chooseEchoOf 25 = .ok (.iastore, 1) := by decide +kernel
theorem dX4_chooseEchoOf_26 : decode cX4_chooseEchoOf 26 = .ok (.aload_n 0, 1) := by decide +kernel
theorem dX4_chooseEchoOf_27 : decode cX4_chooseEchoOf 27 = .ok (.getfield 9, 3) := by decide +kernel
theorem dX4_chooseEchoOf_30 : decode cX4_chooseEchoOf 30 = .ok (.iload_n 1, 1) := by decide +kernel
theorem dX4_chooseEchoOf_31 : decode cX4_chooseEchoOf 31 = .ok (.iaload, 1) := by decide +kernel
theorem dX4_chooseEchoOf_32 : decode cX4_chooseEchoOf 32 = .ok (.ifCond .eq 24, 3) := by decide +kernel
theorem dX4_chooseEchoOf_35 : decode cX4_chooseEchoOf 35 = .ok (.aload_n 0, 1) := by decide +kernel
theorem dX4_chooseEchoOf_36 : decode cX4_chooseEchoOf 36 = .ok (.getfield 15, 3) := by decide +kernel
theorem dX4_chooseEchoOf_39 : decode cX4_chooseEchoOf 39 = .ok (.iload_n 2, 1) := by decide +kernel
theorem dX4_chooseEchoOf_40 : decode cX4_chooseEchoOf 40 = .ok (.iconst 1, 1) := by decide +kernel
theorem dX4_chooseEchoOf_41 : decode cX4_chooseEchoOf 41 = .ok (.bastore, 1) := by decide +kernel
theorem dX4_chooseEchoOf_42 : decode cX4_chooseEchoOf 42 = .ok (.aload_n 0, 1) := by decide +kernel
theorem dX4_chooseEchoOf_43 : decode cX4_chooseEchoOf 43 = .ok (.iload_n 2, 1) := by decide +kernel
theorem dX4_chooseEchoOf_44 : decode cX4_chooseEchoOf 44 = .ok (.iconst 1, 1) := by decide +kernel
theorem dX4_chooseEchoOf_45 : decode cX4_chooseEchoOf 45 = .ok (.iadd, 1) := by decide +kernel
theorem dX4_chooseEchoOf_46 : decode cX4_chooseEchoOf 46 = .ok (.invokevirtual 63, 3) := by decide +kernel
theorem dX4_chooseEchoOf_49 : decode cX4_chooseEchoOf 49 = .ok (.aload_n 0, 1) := by decide +kernel
theorem dX4_chooseEchoOf_50 : decode cX4_chooseEchoOf 50 = .ok (.getfield 15, 3) := by decide +kernel
theorem dX4_chooseEchoOf_53 : decode cX4_chooseEchoOf 53 = .ok (.iload_n 2, 1) := by decide +kernel
theorem dX4_chooseEchoOf_54 : decode cX4_chooseEchoOf 54 = .ok (.iconst 0, 1) := by decide +kernel
theorem dX4_chooseEchoOf_55 : decode cX4_chooseEchoOf 55 = .ok (.bastore, 1) := by decide +kernel
theorem dX4_chooseEchoOf_56 : decode cX4_chooseEchoOf 56 = .ok (.aload_n 0, 1) := by decide +kernel
theorem dX4_chooseEchoOf_57 : decode cX4_chooseEchoOf 57 = .ok (.getfield 9, 3) := by decide +kernel
theorem dX4_chooseEchoOf_60 : decode cX4_chooseEchoOf 60 = .ok (.iload_n 1, 1) := by decide +kernel
theorem dX4_chooseEchoOf_61 : decode cX4_chooseEchoOf 61 = .ok (.iload_n 3, 1) := by decide +kernel
theorem dX4_chooseEchoOf_62 : decode cX4_chooseEchoOf 62 = .ok (.iastore, 1) := by decide +kernel
theorem dX4_chooseEchoOf_63 : decode cX4_chooseEchoOf 63 = .ok (.return_, 1) := by decide +kernel
set_option maxRecDepth 20000 in
theorem ggX4_giveToMen_X4_giveToMen : GoodIn wsX4_giveToMen wsX4_giveToMen := goodIn_r _ [0, 1, 2, 3, 4, 5, 6, 7, 8, 9, 10, 11, 12, 13, 14, 15, 16, 17, 18, 19, 20, 21, 22, 23, 24, 25, 26, 27, 28, 29, 30, 31, 32, 33, 34, 35, 36, 37, 38, 39, 40, 41, 42, 43, 44, 45, 46, 47, 48, 49, 50] (by decide +kernel) (by decide +kernel)
set_option maxRecDepth 20000 in
theorem gX4_giveToMen_X4_giveToMen : GoodIn wsX4_giveToMen (wsV RX4 67 RX4 yX4_giveToMen wsX4_giveToMen) := goodIn_app (goodIn_of _ (by decide +kernel)) ggX4_giveToMen_X4_giveToMen
set_option maxRecDepth 20000 in
theorem ggX4_giveToMen_X4_giveTo : GoodIn wsX4_giveToMen wsX4_giveTo := goodIn_r _ [11, 12, 13, 14, 15, 2, 16, 17, 18, 19, 20, 21, 22, 4, 5, 6, 7, 0, 1, 3, 8, 9, 10, 23, 24, 25, 26, 27, 28, 29, 30, 31, 32, 33, 34, 35, 36, 37, 38, 39, 40, 41, 42, 43, 44, 45, 46, 47, 48, 49, 50] (by decide +kernel) (by decide +kernel)
set_option maxRecDepth 20000 in
theorem gX4_giveToMen_X4_giveTo : GoodIn wsX4_giveToMen (wsV RX4 77 RX4 yX4_giveTo wsX4_giveTo) := goodIn_app (goodIn_of _ (by decide +kernel)) ggX4_giveToMen_X4_giveTo
theorem dX4_giveToMen_0 : decode cX4_giveToMen 0 = .ok (.iload_n 2, 1) := by decide +kernel
theorem dX4_giveToMen_1 : decode cX4_giveToMen 1 = .ok (.aload_n 0, 1) := by decide +kernel
theorem dX4_giveToMen_2 : decode cX4_giveToMen 2 = .ok (.getfield 60, 3) := by decide +kernel
theorem dX4_giveToMen_5 : decode cX4_giveToMen 5 = .ok (.if_icmp .lt 4, 3) := by decide +kernel
theorem dX4_giveToMen_8 : decode cX4_giveToMen 8 = .ok (.return_, 1) := by decide +kernel
theorem dX4_giveToMen_9 : decode cX4_giveToMen 9 = .ok (.iload_n 1, 1) := by decide +kernel
theorem dX4_giveToMen_10 : decode cX4_giveToMen 10 = .ok (.aload_n 0, 1) := by decide +kernel
theorem dX4_giveToMen_11 : decode cX4_giveToMen 11 = .ok (.getfield 29, 3) := by decide +kernel
theorem dX4_giveToMen_14 : decode cX4_giveToMen 14 = .ok (.getfield 37, 3) := by decide +kernel
theorem dX4_giveToMen_17 : decode cX4_giveToMen 17 = .ok (.if_icmp .lt 9, 3) := by decide +kernel
theorem dX4_giveToMen_20 : decode cX4_giveToMen 20 = .ok (.aload_n 0, 1) := by decide +kernel
theorem dX4_giveToMen_21 : decode cX4_giveToMen 21 = .ok (.iload_n 2, 1) := by decide +kernel
theorem dX4_giveToMen_22 : decode cX4_giveToMen 22 = .ok (.putfield 60, 3) := by decide +kernel
theorem dX4_giveToMen_25 : decode cX4_giveToMen 25 = .ok (.return_, 1) := by decide +kernel
theorem dX4_giveToMen_26 : decode cX4_giveToMen 26 = .ok (.aload_n 0, 1) := by decide +kernel
theorem dX4_giveToMen_27 : decode cX4_giveToMen 27 = .ok (.getfield 15, 3) := by decide +kernel
theorem dX4_giveToMen_30 : decode cX4_giveToMen 30 = .ok (.iload_n 1, 1) := by decide +kernel
theorem dX4_giveToMen_31 : decode cX4_giveToMen 31 = .ok (.baload, 1) := by decide +kernel
theorem dX4_giveToMen_32 : decode cX4_giveToMen 32 = .ok (.ifCond .eq 12, 3) := by decide +kernel
theorem dX4_giveToMen_35 : decode cX4_giveToMen 35 = .ok (.aload_n 0, 1) := by decide +kernel
theorem dX4_giveToMen_36 : decode cX4_giveToMen 36 = .ok (.iload_n 1, 1) := by decide +kernel
theorem dX4_giveToMen_37 : decode cX4_giveToMen 37 = .ok (.iconst 1, 1) := by decide +kernel
theorem dX4_giveToMen_38 : decode cX4_giveToMen 38 = .ok (.iadd, 1) := by decide +kernel
theorem dX4_giveToMen_39 : decode cX4_giveToMen 39 = .ok (.iload_n 2, 1) := by decide +kernel
theorem dX4_giveToMen_40 : decode cX4_giveToMen 40 = .ok (.invokevirtual 67, 3) := by decide +kernel
theorem dX4_giveToMen_43 : decode cX4_giveToMen 43 = .ok (.return_, 1) := by decide +kernel
theorem dX4_giveToMen_44 : decode cX4_giveToMen 44 = .ok (.iconst 0, 1) := by decide +kernel
theorem dX4_giveToMen_45 : decode cX4_giveToMen 45 = .ok (.istore_n 3, 1) := by decide +kernel
theorem dX4_giveToMen_46 : decode cX4_giveToMen 46 = .ok (.iload_n 3, 1) := by decide +kernel
theorem dX4_giveToMen_47 : decode cX4_giveToMen 47 = .ok (.iload_n 2, 1) := by decide +kernel
theorem dX4_giveToMen_48 : decode cX4_giveToMen 48 = .ok (.if_icmp .gt 21, 3) := by decide +kernel
theorem dX4_giveToMen_51 : decode cX4_giveToMen 51 = .ok (.iload_n 3, 1) := by decide +kernel
theorem dX4_giveToMen_52 : decode cX4_giveToMen 52 = .ok (.iconst 3, 1) := by decide +kernel
theorem dX4_giveToMen_53 : decode cX4_giveToMen 53 = .ok (.if_icmp .ge 16, 3) := by decide +kernel
theorem dX4_giveToMen_56 : decode cX4_giveToMen 56 = .ok (.aload_n 0, 1) := by decide +kernel
theorem dX4_giveToMen_57 : decode cX4_giveToMen 57 = .ok (.iload_n 3, 1) := by decide +kernel
theorem dX4_giveToMen_58 : decode cX4_giveToMen 58 = .ok (.iload_n 1, 1) := by decide +kernel
theorem dX4_giveToMen_59 : decode cX4_giveToMen 59 = .ok (.iload_n 2, 1) := by decide +kernel
theorem dX4_giveToMen_60 : decode cX4_giveToMen 60 = .ok (.invokevirtual 77, 3) := by decide +kernel
theorem dX4_giveToMen_63 : decode cX4_giveToMen 63 = .ok (.iinc 3 1, 3) := by decide +kernel
theorem dX4_giveToMen_66 : decode cX4_giveToMen 66 = .ok (.goto (-20), 3) := by decide +kernel
theorem dX4_giveToMen_69 : decode cX4_giveToMen 69 = .ok (.return_, 1) := by decide +kernel
set_option maxRecDepth 20000 in
theorem ggX4_giveTo_X10_spread : GoodIn wsX4_giveTo wsX10_spread := goodIn_r _ [8, 9, 10, 11, 12] (by decide +kernel) (by decide +kernel)
set_option maxRecDepth 20000 in
theorem gX4_giveTo_X10_spread_n84 : GoodIn wsX4_giveTo (wsX10_spread) := ggX4_giveTo_X10_spread
set_option maxRecDepth 20000 in
theorem ggX4_giveTo_X4_giveToMen : GoodIn wsX4_giveTo wsX4_giveToMen := goodIn_r _ [17, 18, 5, 19, 13, 14, 15, 16, 20, 21, 22, 0, 1, 2, 3, 4, 6, 7, 8, 9, 10, 11, 12, 23, 24, 25, 26, 27, 28, 29, 30, 31, 32, 33, 34, 35, 36, 37, 38, 39, 40, 41, 42, 43, 44, 45, 46, 47, 48, 49, 50] (by decide +kernel) (by decide +kernel)
set_option maxRecDepth 20000 in
theorem gX4_giveTo_X4_giveToMen : GoodIn wsX4_giveTo (wsV RX4 67 RX4 yX4_giveToMen wsX4_giveToMen) := goodIn_app (goodIn_of _ (by decide +kernel)) ggX4_giveTo_X4_giveToMen
theorem dX4_giveTo_0 : decode cX4_giveTo 0 = .ok (.iload_n 1, 1) := by decide +kernel
theorem dX4_giveTo_1 : decode cX4_giveTo 1 = .ok (.iload_n 3, 1) := by decide +kernel
theorem dX4_giveTo_2 : decode cX4_giveTo 2 = .ok (.if_icmp .ne 7, 3) := by decide +kernel
theorem dX4_giveTo_5 : decode cX4_giveTo 5 = .ok (.iconst 1, 1) := by decide +kernel
theorem dX4_giveTo_6 : decode cX4_giveTo 6 = .ok (.goto 4, 3) := by decide +kernel
theorem dX4_giveTo_9 : decode cX4_giveTo 9 = .ok (.iconst 0, 1) := by decide +kernel
theorem dX4_giveTo_10 : decode cX4_giveTo 10 = .ok (.istore 4, 2) := by decide +kernel
theorem dX4_giveTo_12 : decode cX4_giveTo 12 = .ok (.aload_n 0, 1) := by decide +kernel
theorem dX4_giveTo_13 : decode cX4_giveTo 13 = .ok (.getfield 19, 3) := by decide +kernel
theorem dX4_giveTo_16 : decode cX4_giveTo 16 = .ok (.iload_n 1, 1) := by decide +kernel
theorem dX4_giveTo_17 : decode cX4_giveTo 17 = .ok (.iaload, 1) := by decide +kernel
theorem dX4_giveTo_18 : decode cX4_giveTo 18 = .ok (.istore 5, 2) := by decide +kernel
theorem dX4_giveTo_20 : decode cX4_giveTo 20 = .ok (.aload_n 0, 1) := by decide +kernel
theorem dX4_giveTo_21 : decode cX4_giveTo 21 = .ok (.getfield 22, 3) := by decide +kernel
theorem dX4_giveTo_24 : decode cX4_giveTo 24 = .ok (.iload_n 1, 1) := by decide +kernel
theorem dX4_giveTo_25 : decode cX4_giveTo 25 = .ok (.iaload, 1) := by decide +kernel
theorem dX4_giveTo_26 : decode cX4_giveTo 26 = .ok (.istore 6, 2) := by decide +kernel
theorem dX4_giveTo_28 : decode cX4_giveTo 28 = .ok (.aload_n 0, 1) := by decide +kernel
theorem dX4_giveTo_29 : decode cX4_giveTo 29 = .ok (.getfield 9, 3) := by decide +kernel
theorem dX4_giveTo_32 : decode cX4_giveTo 32 = .ok (.iload_n 2, 1) := by decide +kernel
theorem dX4_giveTo_33 : decode cX4_giveTo 33 = .ok (.iaload, 1) := by decide +kernel
theorem dX4_giveTo_34 : decode cX4_giveTo 34 = .ok (.istore 7, 2) := by decide +kernel
theorem dX4_giveTo_36 : decode cX4_giveTo 36 = .ok (.iload 4, 2) := by decide +kernel
theorem dX4_giveTo_38 : decode cX4_giveTo 38 = .ok (.ifCond .ne 33, 3) := by decide +kernel
theorem dX4_giveTo_41 : decode cX4_giveTo 41 = .ok (.iload 7, 2) := by decide +kernel
theorem dX4_giveTo_43 : decode cX4_giveTo 43 = .ok (.iload 5, 2) := by decide +kernel
theorem dX4_giveTo_45 : decode cX4_giveTo 45 = .ok (.aload_n 0, 1) := by decide +kernel
theorem dX4_giveTo_46 : decode cX4_giveTo 46 = .ok (.getfield 25, 3) := by decide +kernel
theorem dX4_giveTo_49 : decode cX4_giveTo 49 = .ok (.getfield 81, 3) := by decide +kernel
theorem dX4_giveTo_52 : decode cX4_giveTo 52 = .ok (.aload_n 0, 1) := by decide +kernel
theorem dX4_giveTo_53 : decode cX4_giveTo 53 = .ok (.getfield 29, 3) := by decide +kernel
theorem dX4_giveTo_56 : decode cX4_giveTo 56 = .ok (.getfield 71, 3) := by decide +kernel
theorem dX4_giveTo_59 : decode cX4_giveTo 59 = .ok (.iload_n 2, 1) := by decide +kernel
theorem dX4_giveTo_60 : decode cX4_giveTo 60 = .ok (.iaload, 1) := by decide +kernel
theorem dX4_giveTo_61 : decode cX4_giveTo 61 = .ok (.iload 6, 2) := by decide +kernel
theorem dX4_giveTo_63 : decode cX4_giveTo 63 = .ok (.isub, 1) := by decide +kernel
theorem dX4_giveTo_64 : decode cX4_giveTo 64 = .ok (.imul, 1) := by decide +kernel
theorem dX4_giveTo_65 : decode cX4_giveTo 65 = .ok (.invokestatic 84, 3) := by decide +kernel
theorem dX4_giveTo_68 : decode cX4_giveTo 68 = .ok (.iand, 1) := by decide +kernel
theorem dX4_giveTo_69 : decode cX4_giveTo 69 = .ok (.istore 7, 2) := by decide +kernel
theorem dX4_giveTo_71 : decode cX4_giveTo 71 = .ok (.iload 7, 2) := by decide +kernel
theorem dX4_giveTo_73 : decode cX4_giveTo 73 = .ok (.ifCond .ne 4, 3) := by decide +kernel
theorem dX4_giveTo_76 : decode cX4_giveTo 76 = .ok (.return_, 1) := by decide +kernel
theorem dX4_giveTo_77 : decode cX4_giveTo 77 = .ok (.aload_n 0, 1) := by decide +kernel
theorem dX4_giveTo_78 : decode cX4_giveTo 78 = .ok (.getfield 19, 3) := by decide +kernel
theorem dX4_giveTo_81 : decode cX4_giveTo 81 = .ok (.iload_n 1, 1) := by decide +kernel
theorem dX4_giveTo_82 : decode cX4_giveTo 82 = .ok (.iload 7, 2) := by decide +kernel
theorem dX4_giveTo_84 : decode cX4_giveTo 84 = .ok (.iastore, 1) := by decide +kernel
theorem dX4_giveTo_85 : decode cX4_giveTo 85 = .ok (.aload_n 0, 1) := by decide +kernel
theorem dX4_giveTo_86 : decode cX4_giveTo 86 = .ok (.getfield 22, 3) := by decide +kernel
theorem dX4_giveTo_89 : decode cX4_giveTo 89 = .ok (.iload_n 1, 1) := by decide +kernel
theorem dX4_giveTo_90 : decode cX4_giveTo 90 = .ok (.aload_n 0, 1) := by decide +kernel
theorem dX4_giveTo_91 : decode cX4_giveTo 91 = .ok (.getfield 29, 3) := by decide +kernel
theorem dX4_giveTo_94 : decode cX4_giveTo 94 = .ok (.getfield 71, 3) := by decide +kernel
theorem dX4_giveTo_97 : decode cX4_giveTo 97 = .ok (.iload_n 2, 1) := by decide +kernel
theorem dX4_giveTo_98 : decode cX4_giveTo 98 = .ok (.iaload, 1) := by decide +kernel
theorem dX4_giveTo_99 : decode cX4_giveTo 99 = .ok (.iastore, 1) := by decide +kernel
theorem dX4_giveTo_100 : decode cX4_giveTo 100 = .ok (.aload_n 0, 1) := by decide +kernel
theorem dX4_giveTo_101 : decode cX4_giveTo 101 = .ok (.iload_n 2, 1) := by decide +kernel
theorem dX4_giveTo_102 : decode cX4_giveTo 102 = .ok (.iconst 1, 1) := by decide +kernel
theorem dX4_giveTo_103 : decode cX4_giveTo 103 = .ok (.iadd, 1) := by decide +kernel
theorem dX4_giveTo_104 : decode cX4_giveTo 104 = .ok (.iload 4, 2) := by decide +kernel
theorem dX4_giveTo_106 : decode cX4_giveTo 106 = .ok (.ifCond .eq 9, 3) := by decide +kernel
theorem dX4_giveTo_109 : decode cX4_giveTo 109 = .ok (.iload_n 3, 1) := by decide +kernel
theorem dX4_giveTo_110 : decode cX4_giveTo 110 = .ok (.iconst 1, 1) := by decide +kernel
theorem dX4_giveTo_111 : decode cX4_giveTo 111 = .ok (.iadd, 1) := by decide +kernel
theorem dX4_giveTo_112 : decode cX4_giveTo 112 = .ok (.goto 4, 3) := by decide +kernel
theorem dX4_giveTo_115 : decode cX4_giveTo 115 = .ok (.iload_n 3, 1) := by decide +kernel
theorem dX4_giveTo_116 : decode cX4_giveTo 116 = .ok (.invokevirtual 67, 3) := by decide +kernel
theorem dX4_giveTo_119 : decode cX4_giveTo 119 = .ok (.aload_n 0, 1) := by decide +kernel
theorem dX4_giveTo_120 : decode cX4_giveTo 120 = .ok (.getfield 19, 3) := by decide +kernel
theorem dX4_giveTo_123 : decode cX4_giveTo 123 = .ok (.iload_n 1, 1) := by decide +kernel
theorem dX4_giveTo_124 : decode cX4_giveTo 124 = .ok (.iload 5, 2) := by decide +kernel
theorem dX4_giveTo_126 : decode cX4_giveTo 126 = .ok (.iastore, 1) := by decide +kernel
theorem dX4_giveTo_127 : decode cX4_giveTo 127 = .ok (.aload_n 0, 1) := by decide +kernel
theorem dX4_giveTo_128 : decode cX4_giveTo 128 = .ok (.getfield 22, 3) := by decide +kernel
theorem dX4_giveTo_131 : decode cX4_giveTo 131 = .ok (.iload_n 1, 1) := by decide +kernel
theorem dX4_giveTo_132 : decode cX4_giveTo 132 = .ok (.iload 6, 2) := by decide +kernel
theorem dX4_giveTo_134 : decode cX4_giveTo 134 = .ok (.iastore, 1) := by decide +kernel
theorem dX4_giveTo_135 : decode cX4_giveTo 135 = .ok (.return_, 1) := by decide +kernel
theorem dX5_init_0 : decode cX5_init 0 = .ok (.aload_n 0, 1) := by decide +kernel
theorem dX5_init_1 : decode cX5_init 1 = .ok (.invokespecial 3, 3) := by decide +kernel
theorem dX5_init_4 : decode cX5_init 4 = .ok (.aload_n 0, 1) := by decide +kernel
theorem dX5_init_5 : decode cX5_init 5 = .ok (.sipush 201, 3) := by decide +kernel
theorem dX5_init_8 : decode cX5_init 8 = .ok (.newarray .int, 2) := by decide +kernel
theorem dX5_init_10 : decode cX5_init 10 = .ok (.putfield 9, 3) := by decide +kernel
theorem dX5_init_13 : decode cX5_init 13 = .ok (.aload_n 0, 1) := by decide +kernel
theorem dX5_init_14 : decode cX5_init 14 = .ok (.sipush 201, 3) := by decide +kernel
theorem dX5_init_17 : decode cX5_init 17 = .ok (.newarray .int, 2) := by decide +kernel
theorem dX5_init_19 : decode cX5_init 19 = .ok (.putfield 15, 3) := by decide +kernel
theorem dX5_init_22 : decode cX5_init 22 = .ok (.aload_n 0, 1) := by decide +kernel
theorem dX5_init_23 : decode cX5_init 23 = .ok (.sipush 201, 3) := by decide +kernel
theorem dX5_init_26 : decode cX5_init 26 = .ok (.newarray .int, 2) := by decide +kernel
theorem dX5_init_28 : decode cX5_init 28 = .ok (.putfield 18, 3) := by decide +kernel
theorem dX5_init_31 : decode cX5_init 31 = .ok (.aload_n 0, 1) := by decide +kernel
theorem dX5_init_32 : decode cX5_init 32 = .ok (.aload_n 1, 1) := by decide +kernel
theorem dX5_init_33 : decode cX5_init 33 = .ok (.putfield 21, 3) := by decide +kernel
theorem dX5_init_36 : decode cX5_init 36 = .ok (.aload_n 0, 1) := by decide +kernel
theorem dX5_init_37 : decode cX5_init 37 = .ok (.aload_n 2, 1) := by decide +kernel
theorem dX5_init_38 : decode cX5_init 38 = .ok (.putfield 25, 3) := by decide +kernel
theorem dX5_init_41 : decode cX5_init 41 = .ok (.return_, 1) := by decide +kernel
set_option maxRecDepth 20000 in
theorem ggX5_read_X5_splitText : GoodIn wsX5_read wsX5_splitText := goodIn_r _ [12, 13, 7, 6, 14, 15, 16, 11, 17, 18, 19, 20, 21, 22, 23, 24, 25, 26, 27, 28, 29, 30, 31, 32, 33, 34, 35, 36, 37, 38, 39, 40, 41, 42, 43, 44, 45, 46, 47, 48, 49, 50, 51, 52, 53, 54, 55, 56, 57, 58, 59, 60, 61, 62, 63, 64, 65, 66, 67, 68, 69, 70, 71, 72, 73, 74, 75, 76, 77, 78, 79, 80, 81, 82, 83, 84, 85, 86, 132, 133, 134, 135, 136, 137, 138, 139, 140, 141, 142] (by decide +kernel) (by decide +kernel)
set_option maxRecDepth 20000 in
theorem gX5_read_X5_splitText : GoodIn wsX5_read (wsV RX5 29 RX5 yX5_splitText wsX5_splitText) := goodIn_app (goodIn_of _ (by decide +kernel)) ggX5_read_X5_splitText
set_option maxRecDepth 20000 in
theorem ggX5_read_X8_reset : GoodIn wsX5_read wsX8_reset := goodIn_r _ [90, 91, 92, 93, 94, 95, 143, 144, 145, 146, 147, 148, 149, 150, 151] (by decide +kernel) (by decide +kernel)
set_option maxRecDepth 20000 in
theorem gX5_read_X8_reset_n32 : GoodIn wsX5_read (wsX8_reset) := ggX5_read_X8_reset
set_option maxRecDepth 20000 in
theorem ggX5_read_X5_readItem : GoodIn wsX5_read wsX5_readItem := goodIn_r _ [99, 6, 5, 100, 101, 102, 11, 103, 1, 18, 104, 105, 106, 107, 108, 109, 110, 111, 19, 20, 21, 112, 113, 114, 115, 116, 117, 118, 119, 120, 121, 122, 123, 2, 124, 125, 126, 127, 3, 128, 129, 130, 131, 4, 132, 133, 134, 135, 136, 137, 138, 139, 140, 143, 144, 145, 146, 147, 148, 149, 150, 151] (by decide +kernel) (by decide +kernel)
set_option maxRecDepth 20000 in
theorem gX5_read_X5_readItem : GoodIn wsX5_read (wsV RX5 51 RX5 yX5_readItem wsX5_readItem) := goodIn_app (goodIn_of _ (by decide +kernel)) ggX5_read_X5_readItem
set_option maxRecDepth 20000 in
theorem ggX5_read_X5_advance : GoodIn wsX5_read wsX5_advance := goodIn_r _ [111, 6, 5, 132, 133, 134, 135, 136, 137, 138, 139, 140] (by decide +kernel) (by decide +kernel)
set_option maxRecDepth 20000 in
theorem gX5_read_X5_advance : GoodIn wsX5_read (wsV RX5 55 RX5 yX5_advance wsX5_advance) := goodIn_app (goodIn_of _ (by decide +kernel)) ggX5_read_X5_advance
theorem dX5_read_0 : decode cX5_read 0 = .ok (.aload_n 0, 1) := by decide +kernel
theorem dX5_read_1 : decode cX5_read 1 = .ok (.invokevirtual 29, 3) := by decide +kernel
theorem dX5_read_4 : decode cX5_read 4 = .ok (.aload_n 0, 1) := by decide +kernel
theorem dX5_read_5 : decode cX5_read 5 = .ok (.getfield 25, 3) := by decide +kernel
theorem dX5_read_8 : decode cX5_read 8 = .ok (.invokevirtual 32, 3) := by decide +kernel
theorem dX5_read_11 : decode cX5_read 11 = .ok (.aload_n 0, 1) := by decide +kernel
theorem dX5_read_12 : decode cX5_read 12 = .ok (.iconst 0, 1) := by decide +kernel
theorem dX5_read_13 : decode cX5_read 13 = .ok (.putfield 37, 3) := by decide +kernel
theorem dX5_read_16 : decode cX5_read 16 = .ok (.aload_n 0, 1) := by decide +kernel
theorem dX5_read_17 : decode cX5_read 17 = .ok (.iconst 0, 1) := by decide +kernel
theorem dX5_read_18 : decode cX5_read 18 = .ok (.putfield 41, 3) := by decide +kernel
theorem dX5_read_21 : decode cX5_read 21 = .ok (.aload_n 0, 1) := by decide +kernel
theorem dX5_read_22 : decode cX5_read 22 = .ok (.iconst 0, 1) := by decide +kernel
theorem dX5_read_23 : decode cX5_read 23 = .ok (.putfield 44, 3) := by decide +kernel
theorem dX5_read_26 : decode cX5_read 26 = .ok (.aload_n 0, 1) := by decide +kernel
theorem dX5_read_27 : decode cX5_read 27 = .ok (.iconst 0, 1) := by decide +kernel
theorem dX5_read_28 : decode cX5_read 28 = .ok (.putfield 47, 3) := by decide +kernel
theorem dX5_read_31 : decode cX5_read 31 = .ok (.iconst 0, 1) := by decide +kernel
theorem dX5_read_32 : decode cX5_read 32 = .ok (.istore_n 1, 1) := by decide +kernel
theorem dX5_read_33 : decode cX5_read 33 = .ok (.aload_n 0, 1) := by decide +kernel
theorem dX5_read_34 : decode cX5_read 34 = .ok (.getfield 9, 3) := by decide +kernel
theorem dX5_read_37 : decode cX5_read 37 = .ok (.aload_n 0, 1) := by decide +kernel
theorem dX5_read_38 : decode cX5_read 38 = .ok (.getfield 47, 3) := by decide +kernel
theorem dX5_read_41 : decode cX5_read 41 = .ok (.iaload, 1) := by decide +kernel
theorem dX5_read_42 : decode cX5_read 42 = .ok (.ifCond .eq 40, 3) := by decide +kernel
theorem dX5_read_45 : decode cX5_read 45 = .ok (.iload_n 1, 1) := by decide +kernel
theorem dX5_read_46 : decode cX5_read 46 = .ok (.sipush 200, 3) := by decide +kernel
theorem dX5_read_49 : decode cX5_read 49 = .ok (.if_icmp .ge 33, 3) := by decide +kernel
theorem dX5_read_52 : decode cX5_read 52 = .ok (.aload_n 0, 1) := by decide +kernel
theorem dX5_read_53 : decode cX5_read 53 = .ok (.invokevirtual 51, 3) := by decide +kernel
theorem dX5_read_56 : decode cX5_read 56 = .ok (.ifCond .ne 16, 3) := by decide +kernel
theorem dX5_read_59 : decode cX5_read 59 = .ok (.bipush (-10), 2) := by decide +kernel
theorem dX5_read_61 : decode cX5_read 61 = .ok (.aload_n 0, 1) := by decide +kernel
theorem dX5_read_62 : decode cX5_read 62 = .ok (.getfield 15, 3) := by decide +kernel
theorem dX5_read_65 : decode cX5_read 65 = .ok (.aload_n 0, 1) := by decide +kernel
theorem dX5_read_66 : decode cX5_read 66 = .ok (.getfield 47, 3) := by decide +kernel
theorem dX5_read_69 : decode cX5_read 69 = .ok (.iaload, 1) := by decide +kernel
theorem dX5_read_70 : decode cX5_read 70 = .ok (.isub, 1) := by decide +kernel
theorem dX5_read_71 : decode cX5_read 71 = .ok (.ireturn, 1) := by decide +kernel
theorem dX5_read_72 : decode cX5_read 72 = .ok (.iinc 1 1, 3) := by decide +kernel
theorem dX5_read_75 : decode cX5_read 75 = .ok (.aload_n 0, 1) := by decide +kernel
theorem dX5_read_76 : decode cX5_read 76 = .ok (.invokevirtual 55, 3) := by decide +kernel
theorem dX5_read_79 : decode cX5_read 79 = .ok (.goto (-46), 3) := by decide +kernel
theorem dX5_read_82 : decode cX5_read 82 = .ok (.iload_n 1, 1) := by decide +kernel
theorem dX5_read_83 : decode cX5_read 83 = .ok (.ireturn, 1) := by decide +kernel
set_option maxRecDepth 20000 in
theorem ggX5_readItem_X5_readLevel : GoodIn wsX5_readItem wsX5_readLevel := goodIn_r _ [7, 8, 9, 2, 10, 11, 12, 6, 13, 1, 14, 15, 16, 17, 18, 19, 20, 21, 22, 23, 24, 44, 45, 46, 47, 48, 49, 50, 51, 52, 53, 54, 55, 56, 57, 58, 59, 60, 61] (by decide +kernel) (by decide +kernel)
set_option maxRecDepth 20000 in
theorem gX5_readItem_X5_readLevel : GoodIn wsX5_readItem (wsV RX5 58 RX5 yX5_readLevel wsX5_readLevel) := goodIn_app (goodIn_of _ (by decide +kernel)) ggX5_readItem_X5_readLevel
set_option maxRecDepth 20000 in
theorem ggX5_readItem_X5_readMan : GoodIn wsX5_readItem wsX5_readMan := goodIn_r _ [28, 8, 9, 2, 10, 11, 12, 6, 13, 1, 14, 15, 16, 17, 18, 19, 20, 21, 22, 23, 24, 44, 45, 46, 47, 48, 49, 50, 51, 52, 53, 54, 55, 56, 57, 58, 59, 60, 61] (by decide +kernel) (by decide +kernel)
set_option maxRecDepth 20000 in
theorem gX5_readItem_X5_readMan : GoodIn wsX5_readItem (wsV RX5 61 RX5 yX5_readMan wsX5_readMan) := goodIn_app (goodIn_of _ (by decide +kernel)) ggX5_readItem_X5_readMan
set_option maxRecDepth 20000 in
theorem ggX5_readItem_X5_readEar : GoodIn wsX5_readItem wsX5_readEar := goodIn_r _ [32, 33, 8, 9, 2, 10, 11, 12, 6, 13, 1, 14, 15, 16, 17, 18, 19, 20, 21, 22, 23, 24, 44, 45, 46, 47, 48, 49, 50, 51, 52, 53, 54, 55, 56, 57, 58, 59, 60, 61] (by decide +kernel) (by decide +kernel)
set_option maxRecDepth 20000 in
theorem gX5_readItem_X5_readEar : GoodIn wsX5_readItem (wsV RX5 64 RX5 yX5_readEar wsX5_readEar) := goodIn_app (goodIn_of _ (by decide +kernel)) ggX5_readItem_X5_readEar
set_option maxRecDepth 20000 in
theorem ggX5_readItem_X5_readWet : GoodIn wsX5_readItem wsX5_readWet := goodIn_r _ [37, 38, 8, 9, 2, 10, 11, 12, 6, 13, 1, 14, 15, 16, 17, 18, 19, 20, 21, 22, 23, 24, 44, 45, 46, 47, 48, 49, 50, 51, 52, 53, 54, 55, 56, 57, 58, 59, 60, 61] (by decide +kernel) (by decide +kernel)
set_option maxRecDepth 20000 in
theorem gX5_readItem_X5_readWet : GoodIn wsX5_readItem (wsV RX5 67 RX5 yX5_readWet wsX5_readWet) := goodIn_app (goodIn_of _ (by decide +kernel)) ggX5_readItem_X5_readWet
set_option maxRecDepth 20000 in
theorem ggX5_readItem_X5_readPace : GoodIn wsX5_readItem wsX5_readPace := goodIn_r _ [42, 43, 8, 9, 2, 10, 11, 12, 6, 13, 1, 14, 15, 16, 17, 18, 19, 20, 21, 22, 23, 24, 44, 45, 46, 47, 48, 49, 50, 51, 52, 53, 54, 55, 56, 57, 58, 59, 60, 61] (by decide +kernel) (by decide +kernel)
set_option maxRecDepth 20000 in
theorem gX5_readItem_X5_readPace : GoodIn wsX5_readItem (wsV RX5 70 RX5 yX5_readPace wsX5_readPace) := goodIn_app (goodIn_of _ (by decide +kernel)) ggX5_readItem_X5_readPace
theorem dX5_readItem_0 : decode cX5_readItem 0 = .ok (.aload_n 0, 1) := by decide +kernel
theorem dX5_readItem_1 : decode cX5_readItem 1 = .ok (.getfield 9, 3) := by decide +kernel
theorem dX5_readItem_4 : decode cX5_readItem 4 = .ok (.aload_n 0, 1) := by decide +kernel
theorem dX5_readItem_5 : decode cX5_readItem 5 = .ok (.getfield 47, 3) := by decide +kernel
theorem dX5_readItem_8 : decode cX5_readItem 8 = .ok (.iaload, 1) := by decide +kernel
theorem dX5_readItem_9 : decode cX5_readItem 9 = .ok (.tableswitch 60 4 8 #[35, 40, 45, 50, 55], 35) := by decide +kernel
theorem dX5_readItem_44 : decode cX5_readItem 44 = .ok (.aload_n 0, 1) := by decide +kernel
theorem dX5_readItem_45 : decode cX5_readItem 45 = .ok (.invokevirtual 58, 3) := by decide +kernel
theorem dX5_readItem_48 : decode cX5_readItem 48 = .ok (.ireturn, 1) := by decide +kernel
theorem dX5_readItem_49 : decode cX5_readItem 49 = .ok (.aload_n 0, 1) := by decide +kernel
theorem dX5_readItem_50 : decode cX5_readItem 50 = .ok (.invokevirtual 61, 3) := by decide +kernel
theorem dX5_readItem_53 : decode cX5_readItem 53 = .ok (.ireturn, 1) := by decide +kernel
theorem dX5_readItem_54 : decode cX5_readItem 54 = .ok (.aload_n 0, 1) := by decide +kernel
theorem dX5_readItem_55 : decode cX5_readItem 55 = .ok (.invokevirtual 64, 3) := by decide +kernel
theorem dX5_readItem_58 : decode cX5_readItem 58 = .ok (.ireturn, 1) := by decide +kernel
theorem dX5_readItem_59 : decode cX5_readItem 59 = .ok (.aload_n 0, 1) := by decide +kernel
theorem dX5_readItem_60 : decode cX5_readItem 60 = .ok (.invokevirtual 67, 3) := by decide +kernel
theorem dX5_readItem_63 : decode cX5_readItem 63 = .ok (.ireturn, 1) := by decide +kernel
theorem dX5_readItem_64 : decode cX5_readItem 64 = .ok (.aload_n 0, 1) := by decide +kernel
theorem dX5_readItem_65 : decode cX5_readItem 65 = .ok (.invokevirtual 70, 3) := by decide +kernel
theorem dX5_readItem_68 : decode cX5_readItem 68 = .ok (.ireturn, 1) := by decide +kernel
theorem dX5_readItem_69 : decode cX5_readItem 69 = .ok (.iconst 0, 1) := by decide +kernel
theorem dX5_readItem_70 : decode cX5_readItem 70 = .ok (.ireturn, 1) := by decide +kernel
set_option maxRecDepth 20000 in
theorem ggX5_readLevel_X5_readNumber : GoodIn wsX5_readLevel wsX5_readNumber := goodIn_r _ [8, 9, 3, 2, 10, 11, 12, 7, 13, 14, 15, 16, 21, 22, 23, 24, 25, 26, 27, 28, 29] (by decide +kernel) (by decide +kernel)
set_option maxRecDepth 20000 in
theorem gX5_readLevel_X5_readNumber : GoodIn wsX5_readLevel (wsV RX5 76 RX5 yX5_readNumber wsX5_readNumber) := goodIn_app (goodIn_of _ (by decide +kernel)) ggX5_readLevel_X5_readNumber
set_option maxRecDepth 20000 in
theorem ggX5_readLevel_X5_readSemicolon : GoodIn wsX5_readLevel wsX5_readSemicolon := goodIn_r _ [20, 9, 3, 10, 11, 12, 7, 13, 21, 22, 23, 24, 25, 26, 27, 28, 29] (by decide +kernel) (by decide +kernel)
set_option maxRecDepth 20000 in
theorem gX5_readLevel_X5_readSemicolon : GoodIn wsX5_readLevel (wsV RX5 89 RX5 yX5_readSemicolon wsX5_readSemicolon) := goodIn_app (goodIn_of _ (by decide +kernel)) ggX5_readLevel_X5_readSemicolon
theorem dX5_readLevel_0 : decode cX5_readLevel 0 = .ok (.aload_n 0, 1) := by decide +kernel
theorem dX5_readLevel_1 : decode cX5_readLevel 1 = .ok (.getfield 25, 3) := by decide +kernel
theorem dX5_readLevel_4 : decode cX5_readLevel 4 = .ok (.getfield 73, 3) := by decide +kernel
theorem dX5_readLevel_7 : decode cX5_readLevel 7 = .ok (.istore_n 1, 1) := by decide +kernel
theorem dX5_readLevel_8 : decode cX5_readLevel 8 = .ok (.iload_n 1, 1) := by decide +kernel
theorem dX5_readLevel_9 : decode cX5_readLevel 9 = .ok (.bipush 8, 2) := by decide +kernel
theorem dX5_readLevel_11 : decode cX5_readLevel 11 = .ok (.if_icmp .lt 5, 3) := by decide +kernel
theorem dX5_readLevel_14 : decode cX5_readLevel 14 = .ok (.iconst 0, 1) := by decide +kernel
theorem dX5_readLevel_15 : decode cX5_readLevel 15 = .ok (.ireturn, 1) := by decide +kernel
theorem dX5_readLevel_16 : decode cX5_readLevel 16 = .ok (.aload_n 0, 1) := by decide +kernel
theorem dX5_readLevel_17 : decode cX5_readLevel 17 = .ok (.iconst 0, 1) := by decide +kernel
theorem dX5_readLevel_18 : decode cX5_readLevel 18 = .ok (.bipush 60, 2) := by decide +kernel
theorem dX5_readLevel_20 : decode cX5_readLevel 20 = .ok (.invokevirtual 76, 3) := by decide +kernel
theorem dX5_readLevel_23 : decode cX5_readLevel 23 = .ok (.ifCond .ne 5, 3) := by decide +kernel
theorem dX5_readLevel_26 : decode cX5_readLevel 26 = .ok (.iconst 0, 1) := by decide +kernel
theorem dX5_readLevel_27 : decode cX5_readLevel 27 = .ok (.ireturn, 1) := by decide +kernel
theorem dX5_readLevel_28 : decode cX5_readLevel 28 = .ok (.aload_n 0, 1) := by decide +kernel
theorem dX5_readLevel_29 : decode cX5_readLevel 29 = .ok (.getfield 25, 3) := by decide +kernel
theorem dX5_readLevel_32 : decode cX5_readLevel 32 = .ok (.getfield 80, 3) := by decide +kernel
theorem dX5_readLevel_35 : decode cX5_readLevel 35 = .ok (.iload_n 1, 1) := by decide +kernel
theorem dX5_readLevel_36 : decode cX5_readLevel 36 = .ok (.aload_n 0, 1) := by decide +kernel
theorem dX5_readLevel_37 : decode cX5_readLevel 37 = .ok (.getfield 18, 3) := by decide +kernel
theorem dX5_readLevel_40 : decode cX5_readLevel 40 = .ok (.aload_n 0, 1) := by decide +kernel
theorem dX5_readLevel_41 : decode cX5_readLevel 41 = .ok (.getfield 47, 3) := by decide +kernel
theorem dX5_readLevel_44 : decode cX5_readLevel 44 = .ok (.iaload, 1) := by decide +kernel
theorem dX5_readLevel_45 : decode cX5_readLevel 45 = .ok (.iastore, 1) := by decide +kernel
theorem dX5_readLevel_46 : decode cX5_readLevel 46 = .ok (.aload_n 0, 1) := by decide +kernel
theorem dX5_readLevel_47 : decode cX5_readLevel 47 = .ok (.iconst 0, 1) := by decide +kernel
theorem dX5_readLevel_48 : decode cX5_readLevel 48 = .ok (.bipush 9, 2) := by decide +kernel
theorem dX5_readLevel_50 : decode cX5_readLevel 50 = .ok (.invokevirtual 76, 3) := by decide +kernel
theorem dX5_readLevel_53 : decode cX5_readLevel 53 = .ok (.ifCond .ne 5, 3) := by decide +kernel
theorem dX5_readLevel_56 : decode cX5_readLevel 56 = .ok (.iconst 0, 1) := by decide +kernel
theorem dX5_readLevel_57 : decode cX5_readLevel 57 = .ok (.ireturn, 1) := by decide +kernel
theorem dX5_readLevel_58 : decode cX5_readLevel 58 = .ok (.aload_n 0, 1) := by decide +kernel
theorem dX5_readLevel_59 : decode cX5_readLevel 59 = .ok (.getfield 25, 3) := by decide +kernel
theorem dX5_readLevel_62 : decode cX5_readLevel 62 = .ok (.getfield 83, 3) := by decide +kernel
theorem dX5_readLevel_65 : decode cX5_readLevel 65 = .ok (.iload_n 1, 1) := by decide +kernel
theorem dX5_readLevel_66 : decode cX5_readLevel 66 = .ok (.aload_n 0, 1) := by decide +kernel
theorem dX5_readLevel_67 : decode cX5_readLevel 67 = .ok (.getfield 18, 3) := by decide +kernel
theorem dX5_readLevel_70 : decode cX5_readLevel 70 = .ok (.aload_n 0, 1) := by decide +kernel
theorem dX5_readLevel_71 : decode cX5_readLevel 71 = .ok (.getfield 47, 3) := by decide +kernel
theorem dX5_readLevel_74 : decode cX5_readLevel 74 = .ok (.iaload, 1) := by decide +kernel
theorem dX5_readLevel_75 : decode cX5_readLevel 75 = .ok (.iastore, 1) := by decide +kernel
theorem dX5_readLevel_76 : decode cX5_readLevel 76 = .ok (.aload_n 0, 1) := by decide +kernel
theorem dX5_readLevel_77 : decode cX5_readLevel 77 = .ok (.iconst 0, 1) := by decide +kernel
theorem dX5_readLevel_78 : decode cX5_readLevel 78 = .ok (.iconst 1, 1) := by decide +kernel
theorem dX5_readLevel_79 : decode cX5_readLevel 79 = .ok (.invokevirtual 76, 3) := by decide +kernel
theorem dX5_readLevel_82 : decode cX5_readLevel 82 = .ok (.ifCond .ne 5, 3) := by decide +kernel
theorem dX5_readLevel_85 : decode cX5_readLevel 85 = .ok (.iconst 0, 1) := by decide +kernel
theorem dX5_readLevel_86 : decode cX5_readLevel 86 = .ok (.ireturn, 1) := by decide +kernel
theorem dX5_readLevel_87 : decode cX5_readLevel 87 = .ok (.aload_n 0, 1) := by decide +kernel
theorem dX5_readLevel_88 : decode cX5_readLevel 88 = .ok (.getfield 25, 3) := by decide +kernel
theorem dX5_readLevel_91 : decode cX5_readLevel 91 = .ok (.getfield 86, 3) := by decide +kernel
theorem dX5_readLevel_94 : decode cX5_readLevel 94 = .ok (.iload_n 1, 1) := by decide +kernel
theorem dX5_readLevel_95 : decode cX5_readLevel 95 = .ok (.aload_n 0, 1) := by decide +kernel
theorem dX5_readLevel_96 : decode cX5_readLevel 96 = .ok (.getfield 18, 3) := by decide +kernel
theorem dX5_readLevel_99 : decode cX5_readLevel 99 = .ok (.aload_n 0, 1) := by decide +kernel
theorem dX5_readLevel_100 : decode cX5_readLevel 100 = .ok (.getfield 47, 3) := by decide +kernel
theorem dX5_readLevel_103 : decode cX5_readLevel 103 = .ok (.iaload, 1) := by decide +kernel
theorem dX5_readLevel_104 : decode cX5_readLevel 104 = .ok (.iastore, 1) := by decide +kernel
theorem dX5_readLevel_105 : decode cX5_readLevel 105 = .ok (.aload_n 0, 1) := by decide +kernel
theorem dX5_readLevel_106 : decode cX5_readLevel 106 = .ok (.getfield 25, 3) := by decide +kernel
theorem dX5_readLevel_109 : decode cX5_readLevel 109 = .ok (.iload_n 1, 1) := by decide +kernel
theorem dX5_readLevel_110 : decode cX5_readLevel 110 = .ok (.iconst 1, 1) := by decide +kernel
theorem dX5_readLevel_111 : decode cX5_readLevel 111 = .ok (.iadd, 1) := by decide +kernel
theorem dX5_readLevel_112 : decode cX5_readLevel 112 = .ok (.putfield 73, 3) := by decide +kernel
theorem dX5_readLevel_115 : decode cX5_readLevel 115 = .ok (.aload_n 0, 1) := by decide +kernel
theorem dX5_readLevel_116 : decode cX5_readLevel 116 = .ok (.invokevirtual 89, 3) := by decide +kernel
theorem dX5_readLevel_119 : decode cX5_readLevel 119 = .ok (.ireturn, 1) := by decide +kernel
set_option maxRecDepth 20000 in
theorem ggX5_readMan_X5_readNumber : GoodIn wsX5_readMan wsX5_readNumber := goodIn_r _ [8, 9, 3, 2, 10, 11, 12, 7, 13, 14, 15, 16, 21, 22, 23, 24, 25, 26, 27, 28, 29] (by decide +kernel) (by decide +kernel)
set_option maxRecDepth 20000 in
theorem gX5_readMan_X5_readNumber : GoodIn wsX5_readMan (wsV RX5 76 RX5 yX5_readNumber wsX5_readNumber) := goodIn_app (goodIn_of _ (by decide +kernel)) ggX5_readMan_X5_readNumber
set_option maxRecDepth 20000 in
theorem ggX5_readMan_X5_readSemicolon : GoodIn wsX5_readMan wsX5_readSemicolon := goodIn_r _ [20, 9, 3, 10, 11, 12, 7, 13, 21, 22, 23, 24, 25, 26, 27, 28, 29] (by decide +kernel) (by decide +kernel)
set_option maxRecDepth 20000 in
theorem gX5_readMan_X5_readSemicolon : GoodIn wsX5_readMan (wsV RX5 89 RX5 yX5_readSemicolon wsX5_readSemicolon) := goodIn_app (goodIn_of _ (by decide +kernel)) ggX5_readMan_X5_readSemicolon
theorem dX5_readMan_0 : decode cX5_readMan 0 = .ok (.aload_n 0, 1) := by decide +kernel
theorem dX5_readMan_1 : decode cX5_readMan 1 = .ok (.getfield 25, 3) := by decide +kernel
theorem dX5_readMan_4 : decode cX5_readMan 4 = .ok (.getfield 92, 3) := by decide +kernel
theorem dX5_readMan_7 : decode cX5_readMan 7 = .ok (.istore_n 1, 1) := by decide +kernel
theorem dX5_readMan_8 : decode cX5_readMan 8 = .ok (.iload_n 1, 1) := by decide +kernel
theorem dX5_readMan_9 : decode cX5_readMan 9 = .ok (.iconst 3, 1) := by decide +kernel
theorem dX5_readMan_10 : decode cX5_readMan 10 = .ok (.if_icmp .ge 20, 3) := by decide +kernel
theorem dX5_readMan_13 : decode cX5_readMan 13 = .ok (.aload_n 0, 1) := by decide +kernel
theorem dX5_readMan_14 : decode cX5_readMan 14 = .ok (.iconst 0, 1) := by decide +kernel
theorem dX5_readMan_15 : decode cX5_readMan 15 = .ok (.aload_n 0, 1) := by decide +kernel
theorem dX5_readMan_16 : decode cX5_readMan 16 = .ok (.getfield 25, 3) := by decide +kernel
theorem dX5_readMan_19 : decode cX5_readMan 19 = .ok (.getfield 73, 3) := by decide +kernel
theorem dX5_readMan_22 : decode cX5_readMan 22 = .ok (.iconst 1, 1) := by decide +kernel
theorem dX5_readMan_23 : decode cX5_readMan 23 = .ok (.isub, 1) := by decide +kernel
theorem dX5_readMan_24 : decode cX5_readMan 24 = .ok (.invokevirtual 76, 3) := by decide +kernel
theorem dX5_readMan_27 : decode cX5_readMan 27 = .ok (.ifCond .ne 5, 3) := by decide +kernel
theorem dX5_readMan_30 : decode cX5_readMan 30 = .ok (.iconst 0, 1) := by decide +kernel
theorem dX5_readMan_31 : decode cX5_readMan 31 = .ok (.ireturn, 1) := by decide +kernel
theorem dX5_readMan_32 : decode cX5_readMan 32 = .ok (.aload_n 0, 1) := by decide +kernel
theorem dX5_readMan_33 : decode cX5_readMan 33 = .ok (.getfield 25, 3) := by decide +kernel
theorem dX5_readMan_36 : decode cX5_readMan 36 = .ok (.getfield 95, 3) := by decide +kernel
theorem dX5_readMan_39 : decode cX5_readMan 39 = .ok (.iload_n 1, 1) := by decide +kernel
theorem dX5_readMan_40 : decode cX5_readMan 40 = .ok (.aload_n 0, 1) := by decide +kernel
theorem dX5_readMan_41 : decode cX5_readMan 41 = .ok (.getfield 18, 3) := by decide +kernel
theorem dX5_readMan_44 : decode cX5_readMan 44 = .ok (.aload_n 0, 1) := by decide +kernel
theorem dX5_readMan_45 : decode cX5_readMan 45 = .ok (.getfield 47, 3) := by decide +kernel
theorem dX5_readMan_48 : decode cX5_readMan 48 = .ok (.iaload, 1) := by decide +kernel
theorem dX5_readMan_49 : decode cX5_readMan 49 = .ok (.iastore, 1) := by decide +kernel
theorem dX5_readMan_50 : decode cX5_readMan 50 = .ok (.aload_n 0, 1) := by decide +kernel
theorem dX5_readMan_51 : decode cX5_readMan 51 = .ok (.getfield 25, 3) := by decide +kernel
theorem dX5_readMan_54 : decode cX5_readMan 54 = .ok (.iload_n 1, 1) := by decide +kernel
theorem dX5_readMan_55 : decode cX5_readMan 55 = .ok (.iconst 1, 1) := by decide +kernel
theorem dX5_readMan_56 : decode cX5_readMan 56 = .ok (.iadd, 1) := by decide +kernel
theorem dX5_readMan_57 : decode cX5_readMan 57 = .ok (.putfield 92, 3) := by decide +kernel
theorem dX5_readMan_60 : decode cX5_readMan 60 = .ok (.aload_n 0, 1) := by decide +kernel
theorem dX5_readMan_61 : decode cX5_readMan 61 = .ok (.invokevirtual 89, 3) := by decide +kernel
theorem dX5_readMan_64 : decode cX5_readMan 64 = .ok (.ireturn, 1) := by decide +kernel
set_option maxRecDepth 20000 in
theorem ggX5_readEar_X5_readNumber : GoodIn wsX5_readEar wsX5_readNumber := goodIn_r _ [9, 10, 4, 3, 11, 12, 13, 8, 14, 15, 16, 17, 22, 23, 24, 25, 26, 27, 28, 29, 30] (by decide +kernel) (by decide +kernel)
set_option maxRecDepth 20000 in
theorem gX5_readEar_X5_readNumber : GoodIn wsX5_readEar (wsV RX5 76 RX5 yX5_readNumber wsX5_readNumber) := goodIn_app (goodIn_of _ (by decide +kernel)) ggX5_readEar_X5_readNumber
set_option maxRecDepth 20000 in
theorem ggX5_readEar_X5_readSemicolon : GoodIn wsX5_readEar wsX5_readSemicolon := goodIn_r _ [21, 10, 4, 11, 12, 13, 8, 14, 22, 23, 24, 25, 26, 27, 28, 29, 30] (by decide +kernel) (by decide +kernel)
set_option maxRecDepth 20000 in
theorem gX5_readEar_X5_readSemicolon : GoodIn wsX5_readEar (wsV RX5 89 RX5 yX5_readSemicolon wsX5_readSemicolon) := goodIn_app (goodIn_of _ (by decide +kernel)) ggX5_readEar_X5_readSemicolon
theorem dX5_readEar_0 : decode cX5_readEar 0 = .ok (.aload_n 0, 1) := by decide +kernel
theorem dX5_readEar_1 : decode cX5_readEar 1 = .ok (.getfield 37, 3) := by decide +kernel
theorem dX5_readEar_4 : decode cX5_readEar 4 = .ok (.ifCond .ne 13, 3) := by decide +kernel
theorem dX5_readEar_7 : decode cX5_readEar 7 = .ok (.aload_n 0, 1) := by decide +kernel
theorem dX5_readEar_8 : decode cX5_readEar 8 = .ok (.iconst 0, 1) := by decide +kernel
theorem dX5_readEar_9 : decode cX5_readEar 9 = .ok (.bipush 9, 2) := by decide +kernel
theorem dX5_readEar_11 : decode cX5_readEar 11 = .ok (.invokevirtual 76, 3) := by decide +kernel
theorem dX5_readEar_14 : decode cX5_readEar 14 = .ok (.ifCond .ne 5, 3) := by decide +kernel
theorem dX5_readEar_17 : decode cX5_readEar 17 = .ok (.iconst 0, 1) := by decide +kernel
theorem dX5_readEar_18 : decode cX5_readEar 18 = .ok (.ireturn, 1) := by decide +kernel
theorem dX5_readEar_19 : decode cX5_readEar 19 = .ok (.aload_n 0, 1) := by decide +kernel
theorem dX5_readEar_20 : decode cX5_readEar 20 = .ok (.getfield 25, 3) := by decide +kernel
theorem dX5_readEar_23 : decode cX5_readEar 23 = .ok (.aload_n 0, 1) := by decide +kernel
theorem dX5_readEar_24 : decode cX5_readEar 24 = .ok (.getfield 18, 3) := by decide +kernel
theorem dX5_readEar_27 : decode cX5_readEar 27 = .ok (.aload_n 0, 1) := by decide +kernel
theorem dX5_readEar_28 : decode cX5_readEar 28 = .ok (.getfield 47, 3) := by decide +kernel
theorem dX5_readEar_31 : decode cX5_readEar 31 = .ok (.iaload, 1) := by decide +kernel
theorem dX5_readEar_32 : decode cX5_readEar 32 = .ok (.putfield 98, 3) := by decide +kernel
theorem dX5_readEar_35 : decode cX5_readEar 35 = .ok (.aload_n 0, 1) := by decide +kernel
theorem dX5_readEar_36 : decode cX5_readEar 36 = .ok (.iconst 1, 1) := by decide +kernel
theorem dX5_readEar_37 : decode cX5_readEar 37 = .ok (.putfield 37, 3) := by decide +kernel
theorem dX5_readEar_40 : decode cX5_readEar 40 = .ok (.aload_n 0, 1) := by decide +kernel
theorem dX5_readEar_41 : decode cX5_readEar 41 = .ok (.invokevirtual 89, 3) := by decide +kernel
theorem dX5_readEar_44 : decode cX5_readEar 44 = .ok (.ireturn, 1) := by decide +kernel
set_option maxRecDepth 20000 in
theorem ggX5_readWet_X5_readNumber : GoodIn wsX5_readWet wsX5_readNumber := goodIn_r _ [9, 10, 4, 3, 11, 12, 13, 8, 14, 15, 16, 17, 22, 23, 24, 25, 26, 27, 28, 29, 30] (by decide +kernel) (by decide +kernel)
set_option maxRecDepth 20000 in
theorem gX5_readWet_X5_readNumber : GoodIn wsX5_readWet (wsV RX5 76 RX5 yX5_readNumber wsX5_readNumber) := goodIn_app (goodIn_of _ (by decide +kernel)) ggX5_readWet_X5_readNumber
set_option maxRecDepth 20000 in
theorem ggX5_readWet_X5_readSemicolon : GoodIn wsX5_readWet wsX5_readSemicolon := goodIn_r _ [21, 10, 4, 11, 12, 13, 8, 14, 22, 23, 24, 25, 26, 27, 28, 29, 30] (by decide +kernel) (by decide +kernel)
set_option maxRecDepth 20000 in
theorem gX5_readWet_X5_readSemicolon : GoodIn wsX5_readWet (wsV RX5 89 RX5 yX5_readSemicolon wsX5_readSemicolon) := goodIn_app (goodIn_of _ (by decide +kernel)) ggX5_readWet_X5_readSemicolon
theorem dX5_readWet_0 : decode cX5_readWet 0 = .ok (.aload_n 0, 1) := by decide +kernel
theorem dX5_readWet_1 : decode cX5_readWet 1 = .ok (.getfield 41, 3) := by decide +kernel
theorem dX5_readWet_4 : decode cX5_readWet 4 = .ok (.ifCond .ne 13, 3) := by decide +kernel
theorem dX5_readWet_7 : decode cX5_readWet 7 = .ok (.aload_n 0, 1) := by decide +kernel
theorem dX5_readWet_8 : decode cX5_readWet 8 = .ok (.iconst 0, 1) := by decide +kernel
theorem dX5_readWet_9 : decode cX5_readWet 9 = .ok (.bipush 9, 2) := by decide +kernel
theorem dX5_readWet_11 : decode cX5_readWet 11 = .ok (.invokevirtual 76, 3) := by decide +kernel
theorem dX5_readWet_14 : decode cX5_readWet 14 = .ok (.ifCond .ne 5, 3) := by decide +kernel
theorem dX5_readWet_17 : decode cX5_readWet 17 = .ok (.iconst 0, 1) := by decide +kernel
theorem dX5_readWet_18 : decode cX5_readWet 18 = .ok (.ireturn, 1) := by decide +kernel
theorem dX5_readWet_19 : decode cX5_readWet 19 = .ok (.aload_n 0, 1) := by decide +kernel
theorem dX5_readWet_20 : decode cX5_readWet 20 = .ok (.getfield 25, 3) := by decide +kernel
theorem dX5_readWet_23 : decode cX5_readWet 23 = .ok (.aload_n 0, 1) := by decide +kernel
theorem dX5_readWet_24 : decode cX5_readWet 24 = .ok (.getfield 18, 3) := by decide +kernel
theorem dX5_readWet_27 : decode cX5_readWet 27 = .ok (.aload_n 0, 1) := by decide +kernel
theorem dX5_readWet_28 : decode cX5_readWet 28 = .ok (.getfield 47, 3) := by decide +kernel
theorem dX5_readWet_31 : decode cX5_readWet 31 = .ok (.iaload, 1) := by decide +kernel
theorem dX5_readWet_32 : decode cX5_readWet 32 = .ok (.putfield 101, 3) := by decide +kernel
theorem dX5_readWet_35 : decode cX5_readWet 35 = .ok (.aload_n 0, 1) := by decide +kernel
theorem dX5_readWet_36 : decode cX5_readWet 36 = .ok (.iconst 1, 1) := by decide +kernel
theorem dX5_readWet_37 : decode cX5_readWet 37 = .ok (.putfield 41, 3) := by decide +kernel
theorem dX5_readWet_40 : decode cX5_readWet 40 = .ok (.aload_n 0, 1) := by decide +kernel
theorem dX5_readWet_41 : decode cX5_readWet 41 = .ok (.invokevirtual 89, 3) := by decide +kernel
theorem dX5_readWet_44 : decode cX5_readWet 44 = .ok (.ireturn, 1) := by decide +kernel
set_option maxRecDepth 20000 in
theorem ggX5_readPace_X5_readNumber : GoodIn wsX5_readPace wsX5_readNumber := goodIn_r _ [9, 10, 4, 3, 11, 12, 13, 8, 14, 15, 16, 17, 22, 23, 24, 25, 26, 27, 28, 29, 30] (by decide +kernel) (by decide +kernel)
set_option maxRecDepth 20000 in
theorem gX5_readPace_X5_readNumber : GoodIn wsX5_readPace (wsV RX5 76 RX5 yX5_readNumber wsX5_readNumber) := goodIn_app (goodIn_of _ (by decide +kernel)) ggX5_readPace_X5_readNumber
set_option maxRecDepth 20000 in
theorem ggX5_readPace_X5_readSemicolon : GoodIn wsX5_readPace wsX5_readSemicolon := goodIn_r _ [21, 10, 4, 11, 12, 13, 8, 14, 22, 23, 24, 25, 26, 27, 28, 29, 30] (by decide +kernel) (by decide +kernel)
set_option maxRecDepth 20000 in
theorem gX5_readPace_X5_readSemicolon : GoodIn wsX5_readPace (wsV RX5 89 RX5 yX5_readSemicolon wsX5_readSemicolon) := goodIn_app (goodIn_of _ (by decide +kernel)) ggX5_readPace_X5_readSemicolon
theorem dX5_readPace_0 : decode cX5_readPace 0 = .ok (.aload_n 0, 1) := by decide +kernel
theorem dX5_readPace_1 : decode cX5_readPace 1 = .ok (.getfield 44, 3) := by decide +kernel
theorem dX5_readPace_4 : decode cX5_readPace 4 = .ok (.ifCond .ne 12, 3) := by decide +kernel
theorem dX5_readPace_7 : decode cX5_readPace 7 = .ok (.aload_n 0, 1) := by decide +kernel
theorem dX5_readPace_8 : decode cX5_readPace 8 = .ok (.iconst 1, 1) := by decide +kernel
theorem dX5_readPace_9 : decode cX5_readPace 9 = .ok (.iconst 4, 1) := by decide +kernel
theorem dX5_readPace_10 : decode cX5_readPace 10 = .ok (.invokevirtual 76, 3) := by decide +kernel
theorem dX5_readPace_13 : decode cX5_readPace 13 = .ok (.ifCond .ne 5, 3) := by decide +kernel
theorem dX5_readPace_16 : decode cX5_readPace 16 = .ok (.iconst 0, 1) := by decide +kernel
theorem dX5_readPace_17 : decode cX5_readPace 17 = .ok (.ireturn, 1) := by decide +kernel
theorem dX5_readPace_18 : decode cX5_readPace 18 = .ok (.aload_n 0, 1) := by decide +kernel
theorem dX5_readPace_19 : decode cX5_readPace 19 = .ok (.getfield 25, 3) := by decide +kernel
theorem dX5_readPace_22 : decode cX5_readPace 22 = .ok (.aload_n 0, 1) := by decide +kernel
theorem dX5_readPace_23 : decode cX5_readPace 23 = .ok (.getfield 18, 3) := by decide +kernel
theorem dX5_readPace_26 : decode cX5_readPace 26 = .ok (.aload_n 0, 1) := by decide +kernel
theorem dX5_readPace_27 : decode cX5_readPace 27 = .ok (.getfield 47, 3) := by decide +kernel
theorem dX5_readPace_30 : decode cX5_readPace 30 = .ok (.iaload, 1) := by decide +kernel
theorem dX5_readPace_31 : decode cX5_readPace 31 = .ok (.putfield 104, 3) := by decide +kernel
theorem dX5_readPace_34 : decode cX5_readPace 34 = .ok (.aload_n 0, 1) := by decide +kernel
theorem dX5_readPace_35 : decode cX5_readPace 35 = .ok (.iconst 1, 1) := by decide +kernel
theorem dX5_readPace_36 : decode cX5_readPace 36 = .ok (.putfield 44, 3) := by decide +kernel
theorem dX5_readPace_39 : decode cX5_readPace 39 = .ok (.aload_n 0, 1) := by decide +kernel
theorem dX5_readPace_40 : decode cX5_readPace 40 = .ok (.invokevirtual 89, 3) := by decide +kernel
theorem dX5_readPace_43 : decode cX5_readPace 43 = .ok (.ireturn, 1) := by decide +kernel
set_option maxRecDepth 20000 in
theorem ggX5_readNumber_X5_advance : GoodIn wsX5_readNumber wsX5_advance := goodIn_r _ [8, 1, 2, 12, 13, 14, 15, 16, 17, 18, 19, 20] (by decide +kernel) (by decide +kernel)
set_option maxRecDepth 20000 in
theorem gX5_readNumber_X5_advance : GoodIn wsX5_readNumber (wsV RX5 55 RX5 yX5_advance wsX5_advance) := goodIn_app (goodIn_of _ (by decide +kernel)) ggX5_readNumber_X5_advance
set_option maxRecDepth 20000 in
theorem ggX5_readNumber_X10_isWithin : GoodIn wsX5_readNumber wsX10_isWithin := goodIn_r _ [11] (by decide +kernel) (by decide +kernel)
set_option maxRecDepth 20000 in
theorem gX5_readNumber_X10_isWithin_n107 : GoodIn wsX5_readNumber (wsX10_isWithin) := ggX5_readNumber_X10_isWithin
theorem dX5_readNumber_0 : decode cX5_readNumber 0 = .ok (.aload_n 0, 1) := by decide +kernel
theorem dX5_readNumber_1 : decode cX5_readNumber 1 = .ok (.invokevirtual 55, 3) := by decide +kernel
theorem dX5_readNumber_4 : decode cX5_readNumber 4 = .ok (.aload_n 0, 1) := by decide +kernel
theorem dX5_readNumber_5 : decode cX5_readNumber 5 = .ok (.getfield 9, 3) := by decide +kernel
theorem dX5_readNumber_8 : decode cX5_readNumber 8 = .ok (.aload_n 0, 1) := by decide +kernel
theorem dX5_readNumber_9 : decode cX5_readNumber 9 = .ok (.getfield 47, 3) := by decide +kernel
theorem dX5_readNumber_12 : decode cX5_readNumber 12 = .ok (.iaload, 1) := by decide +kernel
theorem dX5_readNumber_13 : decode cX5_readNumber 13 = .ok (.iconst 2, 1) := by decide +kernel
theorem dX5_readNumber_14 : decode cX5_readNumber 14 = .ok (.if_icmp .ne 24, 3) := by decide +kernel
theorem dX5_readNumber_17 : decode cX5_readNumber 17 = .ok (.aload_n 0, 1) := by decide +kernel
theorem dX5_readNumber_18 : decode cX5_readNumber 18 = .ok (.getfield 18, 3) := by decide +kernel
theorem dX5_readNumber_21 : decode cX5_readNumber 21 = .ok (.aload_n 0, 1) := by decide +kernel
theorem dX5_readNumber_22 : decode cX5_readNumber 22 = .ok (.getfield 47, 3) := by decide +kernel
theorem dX5_readNumber_25 : decode cX5_readNumber 25 = .ok (.iaload, 1) := by decide +kernel
theorem dX5_readNumber_26 : decode cX5_readNumber 26 = .ok (.iload_n 1, 1) := by decide +kernel
theorem dX5_readNumber_27 : decode cX5_readNumber 27 = .ok (.iload_n 2, 1) := by decide +kernel
theorem dX5_readNumber_28 : decode cX5_readNumber 28 = .ok (.invokestatic 107, 3) := by decide +kernel
theorem dX5_readNumber_31 : decode cX5_readNumber 31 = .ok (.ifCond .eq 7, 3) := by decide +kernel
theorem dX5_readNumber_34 : decode cX5_readNumber 34 = .ok (.iconst 1, 1) := by decide +kernel
theorem dX5_readNumber_35 : decode cX5_readNumber 35 = .ok (.goto 4, 3) := by decide +kernel
theorem dX5_readNumber_38 : decode cX5_readNumber 38 = .ok (.iconst 0, 1) := by decide +kernel
theorem dX5_readNumber_39 : decode cX5_readNumber 39 = .ok (.ireturn, 1) := by decide +kernel
set_option maxRecDepth 20000 in
theorem ggX5_readSemicolon_X5_advance : GoodIn wsX5_readSemicolon wsX5_advance := goodIn_r _ [7, 1, 2, 8, 9, 10, 11, 12, 13, 14, 15, 16] (by decide +kernel) (by decide +kernel)
set_option maxRecDepth 20000 in
theorem gX5_readSemicolon_X5_advance : GoodIn wsX5_readSemicolon (wsV RX5 55 RX5 yX5_advance wsX5_advance) := goodIn_app (goodIn_of _ (by decide +kernel)) ggX5_readSemicolon_X5_advance
theorem dX5_readSemicolon_0 : decode cX5_readSemicolon 0 = .ok (.aload_n 0, 1) := by decide +kernel
theorem dX5_readSemicolon_1 : decode cX5_readSemicolon 1 = .ok (.invokevirtual 55, 3) := by decide +kernel
theorem dX5_readSemicolon_4 : decode cX5_readSemicolon 4 = .ok (.aload_n 0, 1) := by decide +kernel
theorem dX5_readSemicolon_5 : decode cX5_readSemicolon 5 = .ok (.getfield 9, 3) := by decide +kernel
theorem dX5_readSemicolon_8 : decode cX5_readSemicolon 8 = .ok (.aload_n 0, 1) := by decide +kernel
theorem dX5_readSemicolon_9 : decode cX5_readSemicolon 9 = .ok (.getfield 47, 3) := by decide +kernel
theorem dX5_readSemicolon_12 : decode cX5_readSemicolon 12 = .ok (.iaload, 1) := by decide +kernel
theorem dX5_readSemicolon_13 : decode cX5_readSemicolon 13 = .ok (.iconst 3, 1) := by decide +kernel
theorem dX5_readSemicolon_14 : decode cX5_readSemicolon 14 = .ok (.if_icmp .ne 7, 3) := by decide +kernel
theorem dX5_readSemicolon_17 : decode cX5_readSemicolon 17 = .ok (.iconst 1, 1) := by decide +kernel
theorem dX5_readSemicolon_18 : decode cX5_readSemicolon 18 = .ok (.goto 4, 3) := by decide +kernel
theorem dX5_readSemicolon_21 : decode cX5_readSemicolon 21 = .ok (.iconst 0, 1) := by decide +kernel
theorem dX5_readSemicolon_22 : decode cX5_readSemicolon 22 = .ok (.ireturn, 1) := by decide +kernel
theorem dX5_advance_0 : decode cX5_advance 0 = .ok (.aload_n 0, 1) := by decide +kernel
theorem dX5_advance_1 : decode cX5_advance 1 = .ok (.getfield 9, 3) := by decide +kernel
theorem dX5_advance_4 : decode cX5_advance 4 = .ok (.aload_n 0, 1) := by decide +kernel
theorem dX5_advance_5 : decode cX5_advance 5 = .ok (.getfield 47, 3) := by decide +kernel
theorem dX5_advance_8 : decode cX5_advance 8 = .ok (.iaload, 1) := by decide +kernel
theorem dX5_advance_9 : decode cX5_advance 9 = .ok (.ifCond .eq 23, 3) := by decide +kernel
theorem dX5_advance_12 : decode cX5_advance 12 = .ok (.aload_n 0, 1) := by decide +kernel
theorem dX5_advance_13 : decode cX5_advance 13 = .ok (.getfield 47, 3) := by decide +kernel
theorem dX5_advance_16 : decode cX5_advance 16 = .ok (.sipush 200, 3) := by decide +kernel
theorem dX5_advance_19 : decode cX5_advance 19 = .ok (.if_icmp .ge 13, 3) := by decide +kernel
theorem dX5_advance_22 : decode cX5_advance 22 = .ok (.aload_n 0, 1) := by decide +kernel
theorem dX5_advance_23 : decode cX5_advance 23 = .ok (.dup, 1) := by decide +kernel
theorem dX5_advance_24 : decode cX5_advance 24 = .ok (.getfield 47, 3) := by decide +kernel
theorem dX5_advance_27 : decode cX5_advance 27 = .ok (.iconst 1, 1) := by decide +kernel
theorem dX5_advance_28 : decode cX5_advance 28 = .ok (.iadd, 1) := by decide +kernel
theorem dX5_advance_29 : decode cX5_advance 29 = .ok (.putfield 47, 3) := by decide +kernel
theorem dX5_advance_32 : decode cX5_advance 32 = .ok (.return_, 1) := by decide +kernel
set_option maxRecDepth 20000 in
theorem ggX5_splitText_X5_takeToken : GoodIn wsX5_splitText wsX5_takeToken := goodIn_r _ [8, 1, 3, 9, 10, 11, 12, 13, 14, 15, 7, 16, 17, 18, 19, 20, 21, 22, 23, 24, 25, 26, 27, 28, 29, 30, 31, 32, 33, 34, 35, 36, 37, 38, 39, 40, 41, 42, 43, 44, 45, 46, 47, 48, 49, 50, 51, 52, 53, 54, 55, 56, 57, 58, 59, 60, 61, 62, 63, 64, 65, 66, 67, 68, 69, 70, 71, 72, 73, 74, 75, 76, 77, 78, 79, 80, 81, 82, 83, 84, 85, 86, 87, 88] (by decide +kernel) (by decide +kernel)
set_option maxRecDepth 20000 in
theorem gX5_splitText_X5_takeToken : GoodIn wsX5_splitText (wsV RX5 119 RX5 yX5_takeToken wsX5_takeToken) := goodIn_app (goodIn_of _ (by decide +kernel)) ggX5_splitText_X5_takeToken
theorem dX5_splitText_0 : decode cX5_splitText 0 = .ok (.iconst 0, 1) := by decide +kernel
theorem dX5_splitText_1 : decode cX5_splitText 1 = .ok (.istore_n 1, 1) := by decide +kernel
theorem dX5_splitText_2 : decode cX5_splitText 2 = .ok (.iconst 0, 1) := by decide +kernel
theorem dX5_splitText_3 : decode cX5_splitText 3 = .ok (.istore_n 2, 1) := by decide +kernel
theorem dX5_splitText_4 : decode cX5_splitText 4 = .ok (.iload_n 2, 1) := by decide +kernel
theorem dX5_splitText_5 : decode cX5_splitText 5 = .ok (.aload_n 0, 1) := by decide +kernel
theorem dX5_splitText_6 : decode cX5_splitText 6 = .ok (.getfield 21, 3) := by decide +kernel
theorem dX5_splitText_9 : decode cX5_splitText 9 = .ok (.getfield 111, 3) := by decide +kernel
theorem dX5_splitText_12 : decode cX5_splitText 12 = .ok (.if_icmp .ge 50, 3) := by decide +kernel
theorem dX5_splitText_15 : decode cX5_splitText 15 = .ok (.iload_n 1, 1) := by decide +kernel
theorem dX5_splitText_16 : decode cX5_splitText 16 = .ok (.sipush 200, 3) := by decide +kernel
theorem dX5_splitText_19 : decode cX5_splitText 19 = .ok (.if_icmp .ge 43, 3) := by decide +kernel
theorem dX5_splitText_22 : decode cX5_splitText 22 = .ok (.aload_n 0, 1) := by decide +kernel
theorem dX5_splitText_23 : decode cX5_splitText 23 = .ok (.getfield 21, 3) := by decide +kernel
theorem dX5_splitText_26 : decode cX5_splitText 26 = .ok (.getfield 116, 3) := by decide +kernel
theorem dX5_splitText_29 : decode cX5_splitText 29 = .ok (.iload_n 2, 1) := by decide +kernel
theorem dX5_splitText_30 : decode cX5_splitText 30 = .ok (.iaload, 1) := by decide +kernel
theorem dX5_splitText_31 : decode cX5_splitText 31 = .ok (.bipush 32, 2) := by decide +kernel
theorem dX5_splitText_33 : decode cX5_splitText 33 = .ok (.if_icmp .ne 9, 3) := by decide +kernel
theorem dX5_splitText_36 : decode cX5_splitText 36 = .ok (.iinc 2 1, 3) := by decide +kernel
theorem dX5_splitText_39 : decode cX5_splitText 39 = .ok (.goto (-35), 3) := by decide +kernel
theorem dX5_splitText_42 : decode cX5_splitText 42 = .ok (.aload_n 0, 1) := by decide +kernel
theorem dX5_splitText_43 : decode cX5_splitText 43 = .ok (.getfield 15, 3) := by decide +kernel
theorem dX5_splitText_46 : decode cX5_splitText 46 = .ok (.iload_n 1, 1) := by decide +kernel
theorem dX5_splitText_47 : decode cX5_splitText 47 = .ok (.iload_n 2, 1) := by decide +kernel
theorem dX5_splitText_48 : decode cX5_splitText 48 = .ok (.iastore, 1) := by decide +kernel
theorem dX5_splitText_49 : decode cX5_splitText 49 = .ok (.aload_n 0, 1) := by decide +kernel
theorem dX5_splitText_50 : decode cX5_splitText 50 = .ok (.iload_n 1, 1) := by decide +kernel
theorem dX5_splitText_51 : decode cX5_splitText 51 = .ok (.iload_n 2, 1) := by decide +kernel
theorem dX5_splitText_52 : decode cX5_splitText 52 = .ok (.invokevirtual 119, 3) := by decide +kernel
theorem dX5_splitText_55 : decode cX5_splitText 55 = .ok (.istore_n 2, 1) := by decide +kernel
theorem dX5_splitText_56 : decode cX5_splitText 56 = .ok (.iinc 1 1, 3) := by decide +kernel
theorem dX5_splitText_59 : decode cX5_splitText 59 = .ok (.goto (-55), 3) := by decide +kernel
theorem dX5_splitText_62 : decode cX5_splitText 62 = .ok (.aload_n 0, 1) := by decide +kernel
theorem dX5_splitText_63 : decode cX5_splitText 63 = .ok (.getfield 9, 3) := by decide +kernel
theorem dX5_splitText_66 : decode cX5_splitText 66 = .ok (.iload_n 1, 1) := by decide +kernel
theorem dX5_splitText_67 : decode cX5_splitText 67 = .ok (.iconst 0, 1) := by decide +kernel
theorem dX5_splitText_68 : decode cX5_splitText 68 = .ok (.iastore, 1) := by decide +kernel
theorem dX5_splitText_69 : decode cX5_splitText 69 = .ok (.aload_n 0, 1) := by decide +kernel
theorem dX5_splitText_70 : decode cX5_splitText 70 = .ok (.getfield 15, 3) := by decide +kernel
theorem dX5_splitText_73 : decode cX5_splitText 73 = .ok (.iload_n 1, 1) := by decide +kernel
theorem dX5_splitText_74 : decode cX5_splitText 74 = .ok (.aload_n 0, 1) := by decide +kernel
theorem dX5_splitText_75 : decode cX5_splitText 75 = .ok (.getfield 21, 3) := by decide +kernel
theorem dX5_splitText_78 : decode cX5_splitText 78 = .ok (.getfield 111, 3) := by decide +kernel
theorem dX5_splitText_81 : decode cX5_splitText 81 = .ok (.iastore, 1) := by decide +kernel
theorem dX5_splitText_82 : decode cX5_splitText 82 = .ok (.return_, 1) := by decide +kernel
set_option maxRecDepth 20000 in
theorem ggX5_takeToken_X10_isWithin : GoodIn wsX5_takeToken wsX10_isWithin := goodIn_r _ [6] (by decide +kernel) (by decide +kernel)
set_option maxRecDepth 20000 in
theorem gX5_takeToken_X10_isWithin_n107 : GoodIn wsX5_takeToken (wsX10_isWithin) := ggX5_takeToken_X10_isWithin
set_option maxRecDepth 20000 in
theorem ggX5_takeToken_X5_endOfRun : GoodIn wsX5_takeToken wsX5_endOfRun := goodIn_r _ [11, 1, 4, 5, 6, 73, 74, 75, 76, 77, 78, 79, 80, 81, 82, 83] (by decide +kernel) (by decide +kernel)
set_option maxRecDepth 20000 in
theorem gX5_takeToken_X5_endOfRun : GoodIn wsX5_takeToken (wsV RX5 123 RX5 yX5_endOfRun wsX5_endOfRun) := goodIn_app (goodIn_of _ (by decide +kernel)) ggX5_takeToken_X5_endOfRun
set_option maxRecDepth 20000 in
theorem ggX5_takeToken_X5_wordAt : GoodIn wsX5_takeToken wsX5_wordAt := goodIn_r _ [15, 16, 17, 18, 10, 19, 1, 20, 21, 22, 23, 24, 25, 26, 27, 28, 29, 30, 31, 32, 33, 34, 35, 36, 37, 38, 39, 40, 41, 42, 43, 44, 45, 46, 47, 48, 49, 50, 51, 52, 53, 54, 55, 56, 57, 58, 59, 60, 61, 62, 63, 64, 65, 66, 67, 68, 73, 74, 75, 76, 77, 78, 79, 80, 81, 82, 83] (by decide +kernel) (by decide +kernel)
set_option maxRecDepth 20000 in
theorem gX5_takeToken_X5_wordAt : GoodIn wsX5_takeToken (wsV RX5 127 RX5 yX5_wordAt wsX5_wordAt) := goodIn_app (goodIn_of _ (by decide +kernel)) ggX5_takeToken_X5_wordAt
set_option maxRecDepth 20000 in
theorem ggX5_takeToken_X5_numberAt : GoodIn wsX5_takeToken wsX5_numberAt := goodIn_r _ [72, 1, 73, 74, 75, 76, 77, 78, 79, 80, 81, 82, 83] (by decide +kernel) (by decide +kernel)
set_option maxRecDepth 20000 in
theorem gX5_takeToken_X5_numberAt : GoodIn wsX5_takeToken (wsV RX5 130 RX5 yX5_numberAt wsX5_numberAt) := goodIn_app (goodIn_of _ (by decide +kernel)) ggX5_takeToken_X5_numberAt
theorem dX5_takeToken_0 : decode cX5_takeToken 0 = .ok (.aload_n 0, 1) := by decide +kernel
theorem dX5_takeToken_1 : decode cX5_takeToken 1 = .ok (.getfield 21, 3) := by decide +kernel
theorem dX5_takeToken_4 : decode cX5_takeToken 4 = .ok (.getfield 116, 3) := by decide +kernel
theorem dX5_takeToken_7 : decode cX5_takeToken 7 = .ok (.iload_n 2, 1) := by decide +kernel
theorem dX5_takeToken_8 : decode cX5_takeToken 8 = .ok (.iaload, 1) := by decide +kernel
theorem dX5_takeToken_9 : decode cX5_takeToken 9 = .ok (.istore_n 3, 1) := by decide +kernel
theorem dX5_takeToken_10 : decode cX5_takeToken 10 = .ok (.iload_n 3, 1) := by decide +kernel
theorem dX5_takeToken_11 : decode cX5_takeToken 11 = .ok (.bipush 97, 2) := by decide +kernel
theorem dX5_takeToken_13 : decode cX5_takeToken 13 = .ok (.bipush 122, 2) := by decide +kernel
theorem dX5_takeToken_15 : decode cX5_takeToken 15 = .ok (.invokestatic 107, 3) := by decide +kernel
theorem dX5_takeToken_18 : decode cX5_takeToken 18 = .ok (.ifCond .eq 30, 3) := by decide +kernel
theorem dX5_takeToken_21 : decode cX5_takeToken 21 = .ok (.aload_n 0, 1) := by decide +kernel
theorem dX5_takeToken_22 : decode cX5_takeToken 22 = .ok (.iload_n 2, 1) := by decide +kernel
theorem dX5_takeToken_23 : decode cX5_takeToken 23 = .ok (.bipush 97, 2) := by decide +kernel
theorem dX5_takeToken_25 : decode cX5_takeToken 25 = .ok (.bipush 122, 2) := by decide +kernel
theorem dX5_takeToken_27 : decode cX5_takeToken 27 = .ok (.invokevirtual 123, 3) := by decide +kernel
theorem dX5_takeToken_30 : decode cX5_takeToken 30 = .ok (.istore 4, 2) := by decide +kernel
theorem dX5_takeToken_32 : decode cX5_takeToken 32 = .ok (.aload_n 0, 1) := by decide +kernel
theorem dX5_takeToken_33 : decode cX5_takeToken 33 = .ok (.getfield 9, 3) := by decide +kernel
theorem dX5_takeToken_36 : decode cX5_takeToken 36 = .ok (.iload_n 1, 1) := by decide +kernel
theorem dX5_takeToken_37 : decode cX5_takeToken 37 = .ok (.aload_n 0, 1) := by decide +kernel
theorem dX5_takeToken_38 : decode cX5_takeToken 38 = .ok (.iload_n 2, 1) := by decide +kernel
theorem dX5_takeToken_39 : decode cX5_takeToken 39 = .ok (.iload 4, 2) := by decide +kernel
theorem dX5_takeToken_41 : decode cX5_takeToken 41 = .ok (.invokevirtual 127, 3) := by decide +kernel
theorem dX5_takeToken_44 : decode cX5_takeToken 44 = .ok (.iastore, 1) := by decide +kernel
theorem dX5_takeToken_45 : decode cX5_takeToken 45 = .ok (.iload 4, 2) := by decide +kernel
theorem dX5_takeToken_47 : decode cX5_takeToken 47 = .ok (.ireturn, 1) := by decide +kernel
theorem dX5_takeToken_48 : decode cX5_takeToken 48 = .ok (.iload_n 3, 1) := by decide +kernel
theorem dX5_takeToken_49 : decode cX5_takeToken 49 = .ok (.bipush 48, 2) := by decide +kernel
theorem dX5_takeToken_51 : decode cX5_takeToken 51 = .ok (.bipush 57, 2) := by decide +kernel
theorem dX5_takeToken_53 : decode cX5_takeToken 53 = .ok (.invokestatic 107, 3) := by decide +kernel
theorem dX5_takeToken_56 : decode cX5_takeToken 56 = .ok (.ifCond .eq 50, 3) := by decide +kernel
theorem dX5_takeToken_59 : decode cX5_takeToken 59 = .ok (.aload_n 0, 1) := by decide +kernel
theorem dX5_takeToken_60 : decode cX5_takeToken 60 = .ok (.iload_n 2, 1) := by decide +kernel
theorem dX5_takeToken_61 : decode cX5_takeToken 61 = .ok (.bipush 48, 2) := by decide +kernel
theorem dX5_takeToken_63 : decode cX5_takeToken 63 = .ok (.bipush 57, 2) := by decide +kernel
theorem dX5_takeToken_65 : decode cX5_takeToken 65 = .ok (.invokevirtual 123, 3) := by decide +kernel
theorem dX5_takeToken_68 : decode cX5_takeToken 68 = .ok (.istore 4, 2) := by decide +kernel
theorem dX5_takeToken_70 : decode cX5_takeToken 70 = .ok (.aload_n 0, 1) := by decide +kernel
theorem dX5_takeToken_71 : decode cX5_takeToken 71 = .ok (.getfield 18, 3) := by decide +kernel
theorem dX5_takeToken_74 : decode cX5_takeToken 74 = .ok (.iload_n 1, 1) := by decide +kernel
theorem dX5_takeToken_75 : decode cX5_takeToken 75 = .ok (.aload_n 0, 1) := by decide +kernel
theorem dX5_takeToken_76 : decode cX5_takeToken 76 = .ok (.iload_n 2, 1) := by decide +kernel
theorem dX5_takeToken_77 : decode cX5_takeToken 77 = .ok (.iload 4, 2) := by decide +kernel
theorem dX5_takeToken_79 : decode cX5_takeToken 79 = .ok (.invokevirtual 130, 3) := by decide +kernel
theorem dX5_takeToken_82 : decode cX5_takeToken 82 = .ok (.iastore, 1) := by decide +kernel
theorem dX5_takeToken_83 : decode cX5_takeToken 83 = .ok (.aload_n 0, 1) := by decide +kernel
theorem dX5_takeToken_84 : decode cX5_takeToken 84 = .ok (.getfield 9, 3) := by decide +kernel
theorem dX5_takeToken_87 : decode cX5_takeToken 87 = .ok (.iload_n 1, 1) := by decide +kernel
theorem dX5_takeToken_88 : decode cX5_takeToken 88 = .ok (.aload_n 0, 1) := by decide +kernel
theorem dX5_takeToken_89 : decode cX5_takeToken 89 = .ok (.getfield 18, 3) := by decide +kernel
theorem dX5_takeToken_92 : decode cX5_takeToken 92 = .ok (.iload_n 1, 1) := by decide +kernel
theorem dX5_takeToken_93 : decode cX5_takeToken 93 = .ok (.iaload, 1) := by decide +kernel
theorem dX5_takeToken_94 : decode cX5_takeToken 94 = .ok (.ifCond .ge 7, 3) := by decide +kernel
theorem dX5_takeToken_97 : decode cX5_takeToken 97 = .ok (.iconst 1, 1) := by decide +kernel
theorem dX5_takeToken_98 : decode cX5_takeToken 98 = .ok (.goto 4, 3) := by decide +kernel
theorem dX5_takeToken_101 : decode cX5_takeToken 101 = .ok (.iconst 2, 1) := by decide +kernel
theorem dX5_takeToken_102 : decode cX5_takeToken 102 = .ok (.iastore, 1) := by decide +kernel
theorem dX5_takeToken_103 : decode cX5_takeToken 103 = .ok (.iload 4, 2) := by decide +kernel
theorem dX5_takeToken_105 : decode cX5_takeToken 105 = .ok (.ireturn, 1) := by decide +kernel
theorem dX5_takeToken_106 : decode cX5_takeToken 106 = .ok (.aload_n 0, 1) := by decide +kernel
theorem dX5_takeToken_107 : decode cX5_takeToken 107 = .ok (.getfield 9, 3) := by decide +kernel
theorem dX5_takeToken_110 : decode cX5_takeToken 110 = .ok (.iload_n 1, 1) := by decide +kernel
theorem dX5_takeToken_111 : decode cX5_takeToken 111 = .ok (.iload_n 3, 1) := by decide +kernel
theorem dX5_takeToken_112 : decode cX5_takeToken 112 = .ok (.bipush 59, 2) := by decide +kernel
theorem dX5_takeToken_114 : decode cX5_takeToken 114 = .ok (.if_icmp .ne 7, 3) := by decide +kernel
theorem dX5_takeToken_117 : decode cX5_takeToken 117 = .ok (.iconst 3, 1) := by decide +kernel
theorem dX5_takeToken_118 : decode cX5_takeToken 118 = .ok (.goto 4, 3) := by decide +kernel
theorem dX5_takeToken_121 : decode cX5_takeToken 121 = .ok (.iconst 1, 1) := by decide +kernel
theorem dX5_takeToken_122 : decode cX5_takeToken 122 = .ok (.iastore, 1) := by decide +kernel
theorem dX5_takeToken_123 : decode cX5_takeToken 123 = .ok (.iload_n 2, 1) := by decide +kernel
theorem dX5_takeToken_124 : decode cX5_takeToken 124 = .ok (.iconst 1, 1) := by decide +kernel
theorem dX5_takeToken_125 : decode cX5_takeToken 125 = .ok (.iadd, 1) := by decide +kernel
theorem dX5_takeToken_126 : decode cX5_takeToken 126 = .ok (.ireturn, 1) := by decide +kernel
set_option maxRecDepth 20000 in
theorem ggX5_endOfRun_X10_isWithin : GoodIn wsX5_endOfRun wsX10_isWithin := goodIn_r _ [4] (by decide +kernel) (by decide +kernel)
set_option maxRecDepth 20000 in
theorem gX5_endOfRun_X10_isWithin_n107 : GoodIn wsX5_endOfRun (wsX10_isWithin) := ggX5_endOfRun_X10_isWithin
theorem dX5_endOfRun_0 : decode cX5_endOfRun 0 = .ok (.iload_n 1, 1) := by decide +kernel
theorem dX5_endOfRun_1 : decode cX5_endOfRun 1 = .ok (.iconst 1, 1) := by decide +kernel
theorem dX5_endOfRun_2 : decode cX5_endOfRun 2 = .ok (.iadd, 1) := by decide +kernel
theorem dX5_endOfRun_3 : decode cX5_endOfRun 3 = .ok (.istore 4, 2) := by decide +kernel
theorem dX5_endOfRun_5 : decode cX5_endOfRun 5 = .ok (.iload 4, 2) := by decide +kernel
theorem dX5_endOfRun_7 : decode cX5_endOfRun 7 = .ok (.aload_n 0, 1) := by decide +kernel
theorem dX5_endOfRun_8 : decode cX5_endOfRun 8 = .ok (.getfield 21, 3) := by decide +kernel
theorem dX5_endOfRun_11 : decode cX5_endOfRun 11 = .ok (.getfield 111, 3) := by decide +kernel
theorem dX5_endOfRun_14 : decode cX5_endOfRun 14 = .ok (.if_icmp .ge 27, 3) := by decide +kernel
theorem dX5_endOfRun_17 : decode cX5_endOfRun 17 = .ok (.aload_n 0, 1) := by decide +kernel
theorem dX5_endOfRun_18 : decode cX5_endOfRun 18 = .ok (.getfield 21, 3) := by decide +kernel
theorem dX5_endOfRun_21 : decode cX5_endOfRun 21 = .ok (.getfield 116, 3) := by decide +kernel
theorem dX5_endOfRun_24 : decode cX5_endOfRun 24 = .ok (.iload 4, 2) := by decide +kernel
theorem dX5_endOfRun_26 : decode cX5_endOfRun 26 = .ok (.iaload, 1) := by decide +kernel
theorem dX5_endOfRun_27 : decode cX5_endOfRun 27 = .ok (.iload_n 2, 1) := by decide +kernel
theorem dX5_endOfRun_28 : decode cX5_endOfRun 28 = .ok (.iload_n 3, 1) := by decide +kernel
theorem dX5_endOfRun_29 : decode cX5_endOfRun 29 = .ok (.invokestatic 107, 3) := by decide +kernel
theorem dX5_endOfRun_32 : decode cX5_endOfRun 32 = .ok (.ifCond .eq 9, 3) := by decide +kernel
theorem dX5_endOfRun_35 : decode cX5_endOfRun 35 = .ok (.iinc 4 1, 3) := by decide +kernel
theorem dX5_endOfRun_38 : decode cX5_endOfRun 38 = .ok (.goto (-33), 3) := by decide +kernel
theorem dX5_endOfRun_41 : decode cX5_endOfRun 41 = .ok (.iload 4, 2) := by decide +kernel
theorem dX5_endOfRun_43 : decode cX5_endOfRun 43 = .ok (.ireturn, 1) := by decide +kernel
set_option maxRecDepth 20000 in
theorem ggX5_wordAt_X5_isWord : GoodIn wsX5_wordAt wsX5_isWord := goodIn_r _ [5, 6, 7, 8, 9, 10, 11, 12, 13, 14, 15, 16, 17, 18, 19, 20, 21, 22, 23, 24, 25, 26, 27, 28, 29, 30, 31, 32, 33, 34, 35, 36, 37, 38, 39, 40, 41, 42, 43, 44, 45, 46, 47, 48, 49, 50, 51, 52, 53, 54, 55, 56, 57, 58, 59, 60, 61, 62, 63, 64, 65, 66] (by decide +kernel) (by decide +kernel)
set_option maxRecDepth 20000 in
theorem gX5_wordAt_X5_isWord : GoodIn wsX5_wordAt (wsV RX5 135 RX5 yX5_isWord wsX5_isWord) := goodIn_app (goodIn_of _ (by decide +kernel)) ggX5_wordAt_X5_isWord
theorem dX5_wordAt_0 : decode cX5_wordAt 0 = .ok (.aload_n 0, 1) := by decide +kernel
theorem dX5_wordAt_1 : decode cX5_wordAt 1 = .ok (.ldc 133, 2) := by decide +kernel
theorem dX5_wordAt_3 : decode cX5_wordAt 3 = .ok (.iload_n 1, 1) := by decide +kernel
theorem dX5_wordAt_4 : decode cX5_wordAt 4 = .ok (.iload_n 2, 1) := by decide +kernel
theorem dX5_wordAt_5 : decode cX5_wordAt 5 = .ok (.invokevirtual 135, 3) := by decide +kernel
theorem dX5_wordAt_8 : decode cX5_wordAt 8 = .ok (.ifCond .eq 5, 3) := by decide +kernel
theorem dX5_wordAt_11 : decode cX5_wordAt 11 = .ok (.iconst 4, 1) := by decide +kernel
theorem dX5_wordAt_12 : decode cX5_wordAt 12 = .ok (.ireturn, 1) := by decide +kernel
theorem dX5_wordAt_13 : decode cX5_wordAt 13 = .ok (.aload_n 0, 1) := by decide +kernel
theorem dX5_wordAt_14 : decode cX5_wordAt 14 = .ok (.ldc 139, 2) := by decide +kernel
theorem dX5_wordAt_16 : decode cX5_wordAt 16 = .ok (.iload_n 1, 1) := by decide +kernel
theorem dX5_wordAt_17 : decode cX5_wordAt 17 = .ok (.iload_n 2, 1) := by decide +kernel
theorem dX5_wordAt_18 : decode cX5_wordAt 18 = .ok (.invokevirtual 135, 3) := by decide +kernel
theorem dX5_wordAt_21 : decode cX5_wordAt 21 = .ok (.ifCond .eq 5, 3) := by decide +kernel
theorem dX5_wordAt_24 : decode cX5_wordAt 24 = .ok (.iconst 5, 1) := by decide +kernel
theorem dX5_wordAt_25 : decode cX5_wordAt 25 = .ok (.ireturn, 1) := by decide +kernel
theorem dX5_wordAt_26 : decode cX5_wordAt 26 = .ok (.aload_n 0, 1) := by decide +kernel
theorem dX5_wordAt_27 : decode cX5_wordAt 27 = .ok (.ldc 141, 2) := by decide +kernel
theorem dX5_wordAt_29 : decode cX5_wordAt 29 = .ok (.iload_n 1, 1) := by decide +kernel
theorem dX5_wordAt_30 : decode cX5_wordAt 30 = .ok (.iload_n 2, 1) := by decide +kernel
theorem dX5_wordAt_31 : decode cX5_wordAt 31 = .ok (.invokevirtual 135, 3) := by decide +kernel
theorem dX5_wordAt_34 : decode cX5_wordAt 34 = .ok (.ifCond .eq 6, 3) := by decide +kernel
theorem dX5_wordAt_37 : decode cX5_wordAt 37 = .ok (.bipush 6, 2) := by decide +kernel
theorem dX5_wordAt_39 : decode cX5_wordAt 39 = .ok (.ireturn, 1) := by decide +kernel
theorem dX5_wordAt_40 : decode cX5_wordAt 40 = .ok (.aload_n 0, 1) := by decide +kernel
theorem dX5_wordAt_41 : decode cX5_wordAt 41 = .ok (.ldc 142, 2) := by decide +kernel
theorem dX5_wordAt_43 : decode cX5_wordAt 43 = .ok (.iload_n 1, 1) := by decide +kernel
theorem dX5_wordAt_44 : decode cX5_wordAt 44 = .ok (.iload_n 2, 1) := by decide +kernel
theorem dX5_wordAt_45 : decode cX5_wordAt 45 = .ok (.invokevirtual 135, 3) := by decide +kernel
theorem dX5_wordAt_48 : decode cX5_wordAt 48 = .ok (.ifCond .eq 6, 3) := by decide +kernel
theorem dX5_wordAt_51 : decode cX5_wordAt 51 = .ok (.bipush 7, 2) := by decide +kernel
theorem dX5_wordAt_53 : decode cX5_wordAt 53 = .ok (.ireturn, 1) := by decide +kernel
theorem dX5_wordAt_54 : decode cX5_wordAt 54 = .ok (.aload_n 0, 1) := by decide +kernel
theorem dX5_wordAt_55 : decode cX5_wordAt 55 = .ok (.ldc 144, 2) := by decide +kernel
theorem dX5_wordAt_57 : decode cX5_wordAt 57 = .ok (.iload_n 1, 1) := by decide +kernel
theorem dX5_wordAt_58 : decode cX5_wordAt 58 = .ok (.iload_n 2, 1) := by decide +kernel
theorem dX5_wordAt_59 : decode cX5_wordAt 59 = .ok (.invokevirtual 135, 3) := by decide +kernel
theorem dX5_wordAt_62 : decode cX5_wordAt 62 = .ok (.ifCond .eq 8, 3) := by decide +kernel
theorem dX5_wordAt_65 : decode cX5_wordAt 65 = .ok (.bipush 8, 2) := by decide +kernel
theorem dX5_wordAt_67 : decode cX5_wordAt 67 = .ok (.goto 4, 3) := by decide +kernel
theorem dX5_wordAt_70 : decode cX5_wordAt 70 = .ok (.iconst 1, 1) := by decide +kernel
theorem dX5_wordAt_71 : decode cX5_wordAt 71 = .ok (.ireturn, 1) := by decide +kernel
set_option maxRecDepth 20000 in
theorem ggX5_isWord_J0_length_8abf5 : GoodIn wsX5_isWord wsJ0_length_8abf5 := goodIn_r _ [6, 7, 8, 9, 10, 5, 11, 12, 13] (by decide +kernel) (by decide +kernel)
set_option maxRecDepth 20000 in
theorem gX5_isWord_J0_length_8abf5 : GoodIn wsX5_isWord (wsV RX5 145 RJ0 yJ0_length_8abf5 wsJ0_length_8abf5) := goodIn_app (goodIn_of _ (by decide +kernel)) ggX5_isWord_J0_length_8abf5
set_option maxRecDepth 20000 in
theorem ggX5_isWord_J0_charAt_5068e : GoodIn wsX5_isWord wsJ0_charAt_5068e := goodIn_r _ [17, 7, 18, 19, 20, 5, 21, 12, 13, 22, 23, 24, 25, 26, 27, 28, 29, 30, 31, 32, 33, 34, 35, 36, 37, 38, 39, 40, 41, 42, 43, 44, 45, 46, 47, 48, 49, 50] (by decide +kernel) (by decide +kernel)
set_option maxRecDepth 20000 in
theorem gX5_isWord_J0_charAt_5068e : GoodIn wsX5_isWord (wsV RX5 150 RJ0 yJ0_charAt_5068e wsJ0_charAt_5068e) := goodIn_app (goodIn_of _ (by decide +kernel)) ggX5_isWord_J0_charAt_5068e
theorem dX5_isWord_0 : decode cX5_isWord 0 = .ok (.iload_n 3, 1) := by decide +kernel
theorem dX5_isWord_1 : decode cX5_isWord 1 = .ok (.iload_n 2, 1) := by decide +kernel
theorem dX5_isWord_2 : decode cX5_isWord 2 = .ok (.isub, 1) := by decide +kernel
theorem dX5_isWord_3 : decode cX5_isWord 3 = .ok (.aload_n 1, 1) := by decide +kernel
theorem dX5_isWord_4 : decode cX5_isWord 4 = .ok (.invokevirtual 145, 3) := by decide +kernel
theorem dX5_isWord_7 : decode cX5_isWord 7 = .ok (.if_icmp .eq 5, 3) := by decide +kernel
theorem dX5_isWord_10 : decode cX5_isWord 10 = .ok (.iconst 0, 1) := by decide +kernel
theorem dX5_isWord_11 : decode cX5_isWord 11 = .ok (.ireturn, 1) := by decide +kernel
theorem dX5_isWord_12 : decode cX5_isWord 12 = .ok (.iconst 0, 1) := by decide +kernel
theorem dX5_isWord_13 : decode cX5_isWord 13 = .ok (.istore 4, 2) := by decide +kernel
theorem dX5_isWord_15 : decode cX5_isWord 15 = .ok (.iload 4, 2) := by decide +kernel
theorem dX5_isWord_17 : decode cX5_isWord 17 = .ok (.aload_n 1, 1) := by decide +kernel
theorem dX5_isWord_18 : decode cX5_isWord 18 = .ok (.invokevirtual 145, 3) := by decide +kernel
theorem dX5_isWord_21 : decode cX5_isWord 21 = .ok (.if_icmp .ge 32, 3) := by decide +kernel
theorem dX5_isWord_24 : decode cX5_isWord 24 = .ok (.aload_n 0, 1) := by decide +kernel
theorem dX5_isWord_25 : decode cX5_isWord 25 = .ok (.getfield 21, 3) := by decide +kernel
theorem dX5_isWord_28 : decode cX5_isWord 28 = .ok (.getfield 116, 3) := by decide +kernel
theorem dX5_isWord_31 : decode cX5_isWord 31 = .ok (.iload_n 2, 1) := by decide +kernel
theorem dX5_isWord_32 : decode cX5_isWord 32 = .ok (.iload 4, 2) := by decide +kernel
theorem dX5_isWord_34 : decode cX5_isWord 34 = .ok (.iadd, 1) := by decide +kernel
theorem dX5_isWord_35 : decode cX5_isWord 35 = .ok (.iaload, 1) := by decide +kernel
theorem dX5_isWord_36 : decode cX5_isWord 36 = .ok (.aload_n 1, 1) := by decide +kernel
theorem dX5_isWord_37 : decode cX5_isWord 37 = .ok (.iload 4, 2) := by decide +kernel
theorem dX5_isWord_39 : decode cX5_isWord 39 = .ok (.invokevirtual 150, 3) := by decide +kernel
theorem dX5_isWord_42 : decode cX5_isWord 42 = .ok (.if_icmp .eq 5, 3) := by decide +kernel
theorem dX5_isWord_45 : decode cX5_isWord 45 = .ok (.iconst 0, 1) := by decide +kernel
theorem dX5_isWord_46 : decode cX5_isWord 46 = .ok (.ireturn, 1) := by decide +kernel
theorem dX5_isWord_47 : decode cX5_isWord 47 = .ok (.iinc 4 1, 3) := by decide +kernel
theorem dX5_isWord_50 : decode cX5_isWord 50 = .ok (.goto (-35), 3) := by decide +kernel
theorem dX5_isWord_53 : decode cX5_isWord 53 = .ok (.iconst 1, 1) := by decide +kernel
theorem dX5_isWord_54 : decode cX5_isWord 54 = .ok (.ireturn, 1) := by decide +kernel
theorem dX5_numberAt_0 : decode cX5_numberAt 0 = .ok (.aload_n 0, 1) := by decide +kernel
theorem dX5_numberAt_1 : decode cX5_numberAt 1 = .ok (.getfield 21, 3) := by decide +kernel
theorem dX5_numberAt_4 : decode cX5_numberAt 4 = .ok (.getfield 116, 3) := by decide +kernel
theorem dX5_numberAt_7 : decode cX5_numberAt 7 = .ok (.iload_n 2, 1) := by decide +kernel
theorem dX5_numberAt_8 : decode cX5_numberAt 8 = .ok (.iconst 1, 1) := by decide +kernel
theorem dX5_numberAt_9 : decode cX5_numberAt 9 = .ok (.isub, 1) := by decide +kernel
theorem dX5_numberAt_10 : decode cX5_numberAt 10 = .ok (.iaload, 1) := by decide +kernel
theorem dX5_numberAt_11 : decode cX5_numberAt 11 = .ok (.bipush 48, 2) := by decide +kernel
theorem dX5_numberAt_13 : decode cX5_numberAt 13 = .ok (.isub, 1) := by decide +kernel
theorem dX5_numberAt_14 : decode cX5_numberAt 14 = .ok (.istore_n 3, 1) := by decide +kernel
theorem dX5_numberAt_15 : decode cX5_numberAt 15 = .ok (.iload_n 2, 1) := by decide +kernel
theorem dX5_numberAt_16 : decode cX5_numberAt 16 = .ok (.iload_n 1, 1) := by decide +kernel
theorem dX5_numberAt_17 : decode cX5_numberAt 17 = .ok (.isub, 1) := by decide +kernel
theorem dX5_numberAt_18 : decode cX5_numberAt 18 = .ok (.iconst 1, 1) := by decide +kernel
theorem dX5_numberAt_19 : decode cX5_numberAt 19 = .ok (.if_icmp .ne 5, 3) := by decide +kernel
theorem dX5_numberAt_22 : decode cX5_numberAt 22 = .ok (.iload_n 3, 1) := by decide +kernel
theorem dX5_numberAt_23 : decode cX5_numberAt 23 = .ok (.ireturn, 1) := by decide +kernel
theorem dX5_numberAt_24 : decode cX5_numberAt 24 = .ok (.iload_n 2, 1) := by decide +kernel
theorem dX5_numberAt_25 : decode cX5_numberAt 25 = .ok (.iload_n 1, 1) := by decide +kernel
theorem dX5_numberAt_26 : decode cX5_numberAt 26 = .ok (.isub, 1) := by decide +kernel
theorem dX5_numberAt_27 : decode cX5_numberAt 27 = .ok (.iconst 2, 1) := by decide +kernel
theorem dX5_numberAt_28 : decode cX5_numberAt 28 = .ok (.if_icmp .gt 17, 3) := by decide +kernel
theorem dX5_numberAt_31 : decode cX5_numberAt 31 = .ok (.aload_n 0, 1) := by decide +kernel
theorem dX5_numberAt_32 : decode cX5_numberAt 32 = .ok (.getfield 21, 3) := by decide +kernel
theorem dX5_numberAt_35 : decode cX5_numberAt 35 = .ok (.getfield 116, 3) := by decide +kernel
theorem dX5_numberAt_38 : decode cX5_numberAt 38 = .ok (.iload_n 1, 1) := by decide +kernel
theorem dX5_numberAt_39 : decode cX5_numberAt 39 = .ok (.iaload, 1) := by decide +kernel
theorem dX5_numberAt_40 : decode cX5_numberAt 40 = .ok (.bipush 48, 2) := by decide +kernel
theorem dX5_numberAt_42 : decode cX5_numberAt 42 = .ok (.if_icmp .ne 5, 3) := by decide +kernel
theorem dX5_numberAt_45 : decode cX5_numberAt 45 = .ok (.iconst (-1), 1) := by decide +kernel
theorem dX5_numberAt_46 : decode cX5_numberAt 46 = .ok (.ireturn, 1) := by decide +kernel
theorem dX5_numberAt_47 : decode cX5_numberAt 47 = .ok (.aload_n 0, 1) := by decide +kernel
theorem dX5_numberAt_48 : decode cX5_numberAt 48 = .ok (.getfield 21, 3) := by decide +kernel
theorem dX5_numberAt_51 : decode cX5_numberAt 51 = .ok (.getfield 116, 3) := by decide +kernel
theorem dX5_numberAt_54 : decode cX5_numberAt 54 = .ok (.iload_n 1, 1) := by decide +kernel
theorem dX5_numberAt_55 : decode cX5_numberAt 55 = .ok (.iaload, 1) := by decide +kernel
theorem dX5_numberAt_56 : decode cX5_numberAt 56 = .ok (.bipush 48, 2) := by decide +kernel
theorem dX5_numberAt_58 : decode cX5_numberAt 58 = .ok (.isub, 1) := by decide +kernel
theorem dX5_numberAt_59 : decode cX5_numberAt 59 = .ok (.bipush 10, 2) := by decide +kernel
theorem dX5_numberAt_61 : decode cX5_numberAt 61 = .ok (.imul, 1) := by decide +kernel
theorem dX5_numberAt_62 : decode cX5_numberAt 62 = .ok (.iload_n 3, 1) := by decide +kernel
theorem dX5_numberAt_63 : decode cX5_numberAt 63 = .ok (.iadd, 1) := by decide +kernel
theorem dX5_numberAt_64 : decode cX5_numberAt 64 = .ok (.ireturn, 1) := by decide +kernel
theorem dX6_init_0 : decode cX6_init 0 = .ok (.aload_n 0, 1) := by decide +kernel
theorem dX6_init_1 : decode cX6_init 1 = .ok (.invokespecial 1, 3) := by decide +kernel
theorem dX6_init_4 : decode cX6_init 4 = .ok (.aload_n 0, 1) := by decide +kernel
theorem dX6_init_5 : decode cX6_init 5 = .ok (.aload_n 1, 1) := by decide +kernel
theorem dX6_init_6 : decode cX6_init 6 = .ok (.putfield 7, 3) := by decide +kernel
theorem dX6_init_9 : decode cX6_init 9 = .ok (.aload_n 0, 1) := by decide +kernel
theorem dX6_init_10 : decode cX6_init 10 = .ok (.aload_n 2, 1) := by decide +kernel
theorem dX6_init_11 : decode cX6_init 11 = .ok (.putfield 13, 3) := by decide +kernel
theorem dX6_init_14 : decode cX6_init 14 = .ok (.return_, 1) := by decide +kernel
set_option maxRecDepth 20000 in
theorem ggX6_soundOf_X10_soundAt : GoodIn wsX6_soundOf wsX10_soundAt := goodIn_r _ [4] (by decide +kernel) (by decide +kernel)
set_option maxRecDepth 20000 in
theorem gX6_soundOf_X10_soundAt_n27 : GoodIn wsX6_soundOf (wsX10_soundAt) := ggX6_soundOf_X10_soundAt
theorem dX6_soundOf_0 : decode cX6_soundOf 0 = .ok (.aload_n 0, 1) := by decide +kernel
theorem dX6_soundOf_1 : decode cX6_soundOf 1 = .ok (.getfield 13, 3) := by decide +kernel
theorem dX6_soundOf_4 : decode cX6_soundOf 4 = .ok (.getfield 17, 3) := by decide +kernel
theorem dX6_soundOf_7 : decode cX6_soundOf 7 = .ok (.iload_n 1, 1) := by decide +kernel
theorem dX6_soundOf_8 : decode cX6_soundOf 8 = .ok (.iaload, 1) := by decide +kernel
theorem dX6_soundOf_9 : decode cX6_soundOf 9 = .ok (.iload_n 1, 1) := by decide +kernel
theorem dX6_soundOf_10 : decode cX6_soundOf 10 = .ok (.aload_n 0, 1) := by decide +kernel
theorem dX6_soundOf_11 : decode cX6_soundOf 11 = .ok (.getfield 13, 3) := by decide +kernel
theorem dX6_soundOf_14 : decode cX6_soundOf 14 = .ok (.getfield 23, 3) := by decide +kernel
theorem dX6_soundOf_17 : decode cX6_soundOf 17 = .ok (.invokestatic 27, 3) := by decide +kernel
theorem dX6_soundOf_20 : decode cX6_soundOf 20 = .ok (.ireturn, 1) := by decide +kernel
set_option maxRecDepth 20000 in
theorem ggX6_likeSound_X6_soundOf : GoodIn wsX6_likeSound wsX6_soundOf := goodIn_r _ [10, 11, 12, 13, 14, 15, 16, 26, 27, 28, 29, 30, 31, 32, 33, 34, 35] (by decide +kernel) (by decide +kernel)
set_option maxRecDepth 20000 in
theorem gX6_likeSound_X6_soundOf : GoodIn wsX6_likeSound (wsV RX6 38 RX6 yX6_soundOf wsX6_soundOf) := goodIn_app (goodIn_of _ (by decide +kernel)) ggX6_likeSound_X6_soundOf
theorem dX6_likeSound_0 : decode cX6_likeSound 0 = .ok (.iconst 0, 1) := by decide +kernel
theorem dX6_likeSound_1 : decode cX6_likeSound 1 = .ok (.istore_n 2, 1) := by decide +kernel
theorem dX6_likeSound_2 : decode cX6_likeSound 2 = .ok (.iconst 0, 1) := by decide +kernel
theorem dX6_likeSound_3 : decode cX6_likeSound 3 = .ok (.istore_n 3, 1) := by decide +kernel
theorem dX6_likeSound_4 : decode cX6_likeSound 4 = .ok (.iload_n 3, 1) := by decide +kernel
theorem dX6_likeSound_5 : decode cX6_likeSound 5 = .ok (.aload_n 0, 1) := by decide +kernel
theorem dX6_likeSound_6 : decode cX6_likeSound 6 = .ok (.getfield 7, 3) := by decide +kernel
theorem dX6_likeSound_9 : decode cX6_likeSound 9 = .ok (.getfield 33, 3) := by decide +kernel
theorem dX6_likeSound_12 : decode cX6_likeSound 12 = .ok (.if_icmp .ge 35, 3) := by decide +kernel
theorem dX6_likeSound_15 : decode cX6_likeSound 15 = .ok (.aload_n 0, 1) := by decide +kernel
theorem dX6_likeSound_16 : decode cX6_likeSound 16 = .ok (.iload_n 3, 1) := by decide +kernel
theorem dX6_likeSound_17 : decode cX6_likeSound 17 = .ok (.invokevirtual 38, 3) := by decide +kernel
theorem dX6_likeSound_20 : decode cX6_likeSound 20 = .ok (.iload_n 1, 1) := by decide +kernel
theorem dX6_likeSound_21 : decode cX6_likeSound 21 = .ok (.isub, 1) := by decide +kernel
theorem dX6_likeSound_22 : decode cX6_likeSound 22 = .ok (.invokestatic 42, 3) := by decide +kernel
theorem dX6_likeSound_25 : decode cX6_likeSound 25 = .ok (.aload_n 0, 1) := by decide +kernel
theorem dX6_likeSound_26 : decode cX6_likeSound 26 = .ok (.getfield 7, 3) := by decide +kernel
theorem dX6_likeSound_29 : decode cX6_likeSound 29 = .ok (.getfield 47, 3) := by decide +kernel
theorem dX6_likeSound_32 : decode cX6_likeSound 32 = .ok (.if_icmp .gt 9, 3) := by decide +kernel
theorem dX6_likeSound_35 : decode cX6_likeSound 35 = .ok (.iload_n 2, 1) := by decide +kernel
theorem dX6_likeSound_36 : decode cX6_likeSound 36 = .ok (.iconst 1, 1) := by decide +kernel
theorem dX6_likeSound_37 : decode cX6_likeSound 37 = .ok (.iload_n 3, 1) := by decide +kernel
theorem dX6_likeSound_38 : decode cX6_likeSound 38 = .ok (.ishl, 1) := by decide +kernel
theorem dX6_likeSound_39 : decode cX6_likeSound 39 = .ok (.ior, 1) := by decide +kernel
theorem dX6_likeSound_40 : decode cX6_likeSound 40 = .ok (.istore_n 2, 1) := by decide +kernel
theorem dX6_likeSound_41 : decode cX6_likeSound 41 = .ok (.iinc 3 1, 3) := by decide +kernel
theorem dX6_likeSound_44 : decode cX6_likeSound 44 = .ok (.goto (-40), 3) := by decide +kernel
theorem dX6_likeSound_47 : decode cX6_likeSound 47 = .ok (.iload_n 2, 1) := by decide +kernel
theorem dX6_likeSound_48 : decode cX6_likeSound 48 = .ok (.ireturn, 1) := by decide +kernel
theorem dX7_init_0 : decode cX7_init 0 = .ok (.aload_n 0, 1) := by decide +kernel
theorem dX7_init_1 : decode cX7_init 1 = .ok (.invokespecial 3, 3) := by decide +kernel
theorem dX7_init_4 : decode cX7_init 4 = .ok (.aload_n 0, 1) := by decide +kernel
theorem dX7_init_5 : decode cX7_init 5 = .ok (.sipush 200, 3) := by decide +kernel
theorem dX7_init_8 : decode cX7_init 8 = .ok (.newarray .int, 2) := by decide +kernel
theorem dX7_init_10 : decode cX7_init 10 = .ok (.putfield 9, 3) := by decide +kernel
theorem dX7_init_13 : decode cX7_init 13 = .ok (.return_, 1) := by decide +kernel
set_option maxRecDepth 20000 in
theorem ggX7_append_X10_isWithin : GoodIn wsX7_append wsX10_isWithin := goodIn_r _ [5] (by decide +kernel) (by decide +kernel)
set_option maxRecDepth 20000 in
theorem gX7_append_X10_isWithin_n15 : GoodIn wsX7_append (wsX10_isWithin) := ggX7_append_X10_isWithin
theorem dX7_append_0 : decode cX7_append 0 = .ok (.iload_n 3, 1) := by decide +kernel
theorem dX7_append_1 : decode cX7_append 1 = .ok (.iconst 1, 1) := by decide +kernel
theorem dX7_append_2 : decode cX7_append 2 = .ok (.bipush 8, 2) := by decide +kernel
theorem dX7_append_4 : decode cX7_append 4 = .ok (.invokestatic 15, 3) := by decide +kernel
theorem dX7_append_7 : decode cX7_append 7 = .ok (.ifCond .ne 5, 3) := by decide +kernel
theorem dX7_append_10 : decode cX7_append 10 = .ok (.iconst (-1), 1) := by decide +kernel
theorem dX7_append_11 : decode cX7_append 11 = .ok (.ireturn, 1) := by decide +kernel
theorem dX7_append_12 : decode cX7_append 12 = .ok (.aload_n 0, 1) := by decide +kernel
theorem dX7_append_13 : decode cX7_append 13 = .ok (.getfield 19, 3) := by decide +kernel
theorem dX7_append_16 : decode cX7_append 16 = .ok (.iload_n 3, 1) := by decide +kernel
theorem dX7_append_17 : decode cX7_append 17 = .ok (.iadd, 1) := by decide +kernel
theorem dX7_append_18 : decode cX7_append 18 = .ok (.sipush 200, 3) := by decide +kernel
theorem dX7_append_21 : decode cX7_append 21 = .ok (.if_icmp .le 6, 3) := by decide +kernel
theorem dX7_append_24 : decode cX7_append 24 = .ok (.bipush (-3), 2) := by decide +kernel
theorem dX7_append_26 : decode cX7_append 26 = .ok (.ireturn, 1) := by decide +kernel
theorem dX7_append_27 : decode cX7_append 27 = .ok (.iload_n 3, 1) := by decide +kernel
theorem dX7_append_28 : decode cX7_append 28 = .ok (.iconst 1, 1) := by decide +kernel
theorem dX7_append_29 : decode cX7_append 29 = .ok (.isub, 1) := by decide +kernel
theorem dX7_append_30 : decode cX7_append 30 = .ok (.istore 4, 2) := by decide +kernel
theorem dX7_append_32 : decode cX7_append 32 = .ok (.iload 4, 2) := by decide +kernel
theorem dX7_append_34 : decode cX7_append 34 = .ok (.ifCond .lt 40, 3) := by decide +kernel
theorem dX7_append_37 : decode cX7_append 37 = .ok (.aload_n 0, 1) := by decide +kernel
theorem dX7_append_38 : decode cX7_append 38 = .ok (.getfield 9, 3) := by decide +kernel
theorem dX7_append_41 : decode cX7_append 41 = .ok (.aload_n 0, 1) := by decide +kernel
theorem dX7_append_42 : decode cX7_append 42 = .ok (.getfield 19, 3) := by decide +kernel
theorem dX7_append_45 : decode cX7_append 45 = .ok (.lload_n 1, 1) := by decide +kernel
theorem dX7_append_46 : decode cX7_append 46 = .ok (.bipush 8, 2) := by decide +kernel
theorem dX7_append_48 : decode cX7_append 48 = .ok (.iload 4, 2) := by decide +kernel
theorem dX7_append_50 : decode cX7_append 50 = .ok (.imul, 1) := by decide +kernel
theorem dX7_append_51 : decode cX7_append 51 = .ok (.lushr, 1) := by decide +kernel
theorem dX7_append_52 : decode cX7_append 52 = .ok (.l2i, 1) := by decide +kernel
theorem dX7_append_53 : decode cX7_append 53 = .ok (.sipush 255, 3) := by decide +kernel
theorem dX7_append_56 : decode cX7_append 56 = .ok (.iand, 1) := by decide +kernel
theorem dX7_append_57 : decode cX7_append 57 = .ok (.iastore, 1) := by decide +kernel
theorem dX7_append_58 : decode cX7_append 58 = .ok (.aload_n 0, 1) := by decide +kernel
theorem dX7_append_59 : decode cX7_append 59 = .ok (.dup, 1) := by decide +kernel
theorem dX7_append_60 : decode cX7_append 60 = .ok (.getfield 19, 3) := by decide +kernel
theorem dX7_append_63 : decode cX7_append 63 = .ok (.iconst 1, 1) := by decide +kernel
theorem dX7_append_64 : decode cX7_append 64 = .ok (.iadd, 1) := by decide +kernel
theorem dX7_append_65 : decode cX7_append 65 = .ok (.putfield 19, 3) := by decide +kernel
theorem dX7_append_68 : decode cX7_append 68 = .ok (.iinc 4 (-1), 3) := by decide +kernel
theorem dX7_append_71 : decode cX7_append 71 = .ok (.goto (-39), 3) := by decide +kernel
theorem dX7_append_74 : decode cX7_append 74 = .ok (.aload_n 0, 1) := by decide +kernel
theorem dX7_append_75 : decode cX7_append 75 = .ok (.getfield 19, 3) := by decide +kernel
theorem dX7_append_78 : decode cX7_append 78 = .ok (.ireturn, 1) := by decide +kernel
theorem dX7_drop_0 : decode cX7_drop 0 = .ok (.aload_n 0, 1) := by decide +kernel
theorem dX7_drop_1 : decode cX7_drop 1 = .ok (.getfield 19, 3) := by decide +kernel
theorem dX7_drop_4 : decode cX7_drop 4 = .ok (.istore_n 1, 1) := by decide +kernel
theorem dX7_drop_5 : decode cX7_drop 5 = .ok (.aload_n 0, 1) := by decide +kernel
theorem dX7_drop_6 : decode cX7_drop 6 = .ok (.iconst 0, 1) := by decide +kernel
theorem dX7_drop_7 : decode cX7_drop 7 = .ok (.putfield 19, 3) := by decide +kernel
theorem dX7_drop_10 : decode cX7_drop 10 = .ok (.iload_n 1, 1) := by decide +kernel
theorem dX7_drop_11 : decode cX7_drop 11 = .ok (.ireturn, 1) := by decide +kernel
theorem dX8_init_0 : decode cX8_init 0 = .ok (.aload_n 0, 1) := by decide +kernel
theorem dX8_init_1 : decode cX8_init 1 = .ok (.invokespecial 3, 3) := by decide +kernel
theorem dX8_init_4 : decode cX8_init 4 = .ok (.aload_n 0, 1) := by decide +kernel
theorem dX8_init_5 : decode cX8_init 5 = .ok (.bipush 8, 2) := by decide +kernel
theorem dX8_init_7 : decode cX8_init 7 = .ok (.newarray .int, 2) := by decide +kernel
theorem dX8_init_9 : decode cX8_init 9 = .ok (.putfield 9, 3) := by decide +kernel
theorem dX8_init_12 : decode cX8_init 12 = .ok (.aload_n 0, 1) := by decide +kernel
theorem dX8_init_13 : decode cX8_init 13 = .ok (.bipush 8, 2) := by decide +kernel
theorem dX8_init_15 : decode cX8_init 15 = .ok (.newarray .int, 2) := by decide +kernel
theorem dX8_init_17 : decode cX8_init 17 = .ok (.putfield 15, 3) := by decide +kernel
theorem dX8_init_20 : decode cX8_init 20 = .ok (.aload_n 0, 1) := by decide +kernel
theorem dX8_init_21 : decode cX8_init 21 = .ok (.bipush 8, 2) := by decide +kernel
theorem dX8_init_23 : decode cX8_init 23 = .ok (.newarray .int, 2) := by decide +kernel
theorem dX8_init_25 : decode cX8_init 25 = .ok (.putfield 18, 3) := by decide +kernel
theorem dX8_init_28 : decode cX8_init 28 = .ok (.aload_n 0, 1) := by decide +kernel
theorem dX8_init_29 : decode cX8_init 29 = .ok (.iconst 3, 1) := by decide +kernel
theorem dX8_init_30 : decode cX8_init 30 = .ok (.newarray .int, 2) := by decide +kernel
theorem dX8_init_32 : decode cX8_init 32 = .ok (.putfield 21, 3) := by decide +kernel
theorem dX8_init_35 : decode cX8_init 35 = .ok (.aload_n 0, 1) := by decide +kernel
theorem dX8_init_36 : decode cX8_init 36 = .ok (.iconst 1, 1) := by decide +kernel
theorem dX8_init_37 : decode cX8_init 37 = .ok (.putfield 24, 3) := by decide +kernel
theorem dX8_init_40 : decode cX8_init 40 = .ok (.return_, 1) := by decide +kernel
theorem dX8_reset_0 : decode cX8_reset 0 = .ok (.aload_n 0, 1) := by decide +kernel
theorem dX8_reset_1 : decode cX8_reset 1 = .ok (.iconst 0, 1) := by decide +kernel
theorem dX8_reset_2 : decode cX8_reset 2 = .ok (.putfield 28, 3) := by decide +kernel
theorem dX8_reset_5 : decode cX8_reset 5 = .ok (.aload_n 0, 1) := by decide +kernel
theorem dX8_reset_6 : decode cX8_reset 6 = .ok (.iconst 0, 1) := by decide +kernel
theorem dX8_reset_7 : decode cX8_reset 7 = .ok (.putfield 31, 3) := by decide +kernel
theorem dX8_reset_10 : decode cX8_reset 10 = .ok (.aload_n 0, 1) := by decide +kernel
theorem dX8_reset_11 : decode cX8_reset 11 = .ok (.iconst 0, 1) := by decide +kernel
theorem dX8_reset_12 : decode cX8_reset 12 = .ok (.putfield 34, 3) := by decide +kernel
theorem dX8_reset_15 : decode cX8_reset 15 = .ok (.aload_n 0, 1) := by decide +kernel
theorem dX8_reset_16 : decode cX8_reset 16 = .ok (.iconst 0, 1) := by decide +kernel
theorem dX8_reset_17 : decode cX8_reset 17 = .ok (.putfield 37, 3) := by decide +kernel
theorem dX8_reset_20 : decode cX8_reset 20 = .ok (.aload_n 0, 1) := by decide +kernel
theorem dX8_reset_21 : decode cX8_reset 21 = .ok (.iconst 1, 1) := by decide +kernel
theorem dX8_reset_22 : decode cX8_reset 22 = .ok (.putfield 24, 3) := by decide +kernel
theorem dX8_reset_25 : decode cX8_reset 25 = .ok (.return_, 1) := by decide +kernel
theorem dX8_copyFrom_0 : decode cX8_copyFrom 0 = .ok (.aload_n 1, 1) := by decide +kernel
theorem dX8_copyFrom_1 : decode cX8_copyFrom 1 = .ok (.getfield 9, 3) := by decide +kernel
theorem dX8_copyFrom_4 : decode cX8_copyFrom 4 = .ok (.iconst 0, 1) := by decide +kernel
theorem dX8_copyFrom_5 : decode cX8_copyFrom 5 = .ok (.aload_n 0, 1) := by decide +kernel
theorem dX8_copyFrom_6 : decode cX8_copyFrom 6 = .ok (.getfield 9, 3) := by decide +kernel
theorem dX8_copyFrom_9 : decode cX8_copyFrom 9 = .ok (.iconst 0, 1) := by decide +kernel
theorem dX8_copyFrom_10 : decode cX8_copyFrom 10 = .ok (.bipush 8, 2) := by decide +kernel
theorem dX8_copyFrom_12 : decode cX8_copyFrom 12 = .ok (.invokestatic 40, 3) := by decide +kernel
theorem dX8_copyFrom_15 : decode cX8_copyFrom 15 = .ok (.aload_n 1, 1) := by decide +kernel
theorem dX8_copyFrom_16 : decode cX8_copyFrom 16 = .ok (.getfield 15, 3) := by decide +kernel
theorem dX8_copyFrom_19 : decode cX8_copyFrom 19 = .ok (.iconst 0, 1) := by decide +kernel
theorem dX8_copyFrom_20 : decode cX8_copyFrom 20 = .ok (.aload_n 0, 1) := by decide +kernel
theorem dX8_copyFrom_21 : decode cX8_copyFrom 21 = .ok (.getfield 15, 3) := by decide +kernel
theorem dX8_copyFrom_24 : decode cX8_copyFrom 24 = .ok (.iconst 0, 1) := by decide +kernel
theorem dX8_copyFrom_25 : decode cX8_copyFrom 25 = .ok (.bipush 8, 2) := by decide +kernel
theorem dX8_copyFrom_27 : decode cX8_copyFrom 27 = .ok (.invokestatic 40, 3) := by decide +kernel
theorem dX8_copyFrom_30 : decode cX8_copyFrom 30 = .ok (.aload_n 1, 1) := by decide +kernel
theorem dX8_copyFrom_31 : decode cX8_copyFrom 31 = .ok (.getfield 18, 3) := by decide +kernel
theorem dX8_copyFrom_34 : decode cX8_copyFrom 34 = .ok (.iconst 0, 1) := by decide +kernel
theorem dX8_copyFrom_35 : decode cX8_copyFrom 35 = .ok (.aload_n 0, 1) := by decide +kernel
theorem dX8_copyFrom_36 : decode cX8_copyFrom 36 = .ok (.getfield 18, 3) := by decide +kernel
theorem dX8_copyFrom_39 : decode cX8_copyFrom 39 = .ok (.iconst 0, 1) := by decide +kernel
theorem dX8_copyFrom_40 : decode cX8_copyFrom 40 = .ok (.bipush 8, 2) := by decide +kernel
theorem dX8_copyFrom_42 : decode cX8_copyFrom 42 = .ok (.invokestatic 40, 3) := by decide +kernel
theorem dX8_copyFrom_45 : decode cX8_copyFrom 45 = .ok (.aload_n 1, 1) := by decide +kernel
theorem dX8_copyFrom_46 : decode cX8_copyFrom 46 = .ok (.getfield 21, 3) := by decide +kernel
theorem dX8_copyFrom_49 : decode cX8_copyFrom 49 = .ok (.iconst 0, 1) := by decide +kernel
theorem dX8_copyFrom_50 : decode cX8_copyFrom 50 = .ok (.aload_n 0, 1) := by decide +kernel
theorem dX8_copyFrom_51 : decode cX8_copyFrom 51 = .ok (.getfield 21, 3) := by decide +kernel
theorem dX8_copyFrom_54 : decode cX8_copyFrom 54 = .ok (.iconst 0, 1) := by decide +kernel
theorem dX8_copyFrom_55 : decode cX8_copyFrom 55 = .ok (.iconst 3, 1) := by decide +kernel
theorem dX8_copyFrom_56 : decode cX8_copyFrom 56 = .ok (.invokestatic 40, 3) := by decide +kernel
theorem dX8_copyFrom_59 : decode cX8_copyFrom 59 = .ok (.aload_n 0, 1) := by decide +kernel
theorem dX8_copyFrom_60 : decode cX8_copyFrom 60 = .ok (.aload_n 1, 1) := by decide +kernel
theorem dX8_copyFrom_61 : decode cX8_copyFrom 61 = .ok (.getfield 28, 3) := by decide +kernel
theorem dX8_copyFrom_64 : decode cX8_copyFrom 64 = .ok (.putfield 28, 3) := by decide +kernel
theorem dX8_copyFrom_67 : decode cX8_copyFrom 67 = .ok (.aload_n 0, 1) := by decide +kernel
theorem dX8_copyFrom_68 : decode cX8_copyFrom 68 = .ok (.aload_n 1, 1) := by decide +kernel
theorem dX8_copyFrom_69 : decode cX8_copyFrom 69 = .ok (.getfield 31, 3) := by decide +kernel
theorem dX8_copyFrom_72 : decode cX8_copyFrom 72 = .ok (.putfield 31, 3) := by decide +kernel
theorem dX8_copyFrom_75 : decode cX8_copyFrom 75 = .ok (.aload_n 0, 1) := by decide +kernel
theorem dX8_copyFrom_76 : decode cX8_copyFrom 76 = .ok (.aload_n 1, 1) := by decide +kernel
theorem dX8_copyFrom_77 : decode cX8_copyFrom 77 = .ok (.getfield 34, 3) := by decide +kernel
theorem dX8_copyFrom_80 : decode cX8_copyFrom 80 = .ok (.putfield 34, 3) := by decide +kernel
theorem dX8_copyFrom_83 : decode cX8_copyFrom 83 = .ok (.aload_n 0, 1) := by decide +kernel
theorem dX8_copyFrom_84 : decode cX8_copyFrom 84 = .ok (.aload_n 1, 1) := by decide +kernel
theorem dX8_copyFrom_85 : decode cX8_copyFrom 85 = .ok (.getfield 37, 3) := by decide +kernel
theorem dX8_copyFrom_88 : decode cX8_copyFrom 88 = .ok (.putfield 37, 3) := by decide +kernel
theorem dX8_copyFrom_91 : decode cX8_copyFrom 91 = .ok (.aload_n 0, 1) := by decide +kernel
theorem dX8_copyFrom_92 : decode cX8_copyFrom 92 = .ok (.aload_n 1, 1) := by decide +kernel
theorem dX8_copyFrom_93 : decode cX8_copyFrom 93 = .ok (.getfield 24, 3) := by decide +kernel
theorem dX8_copyFrom_96 : decode cX8_copyFrom 96 = .ok (.putfield 24, 3) := by decide +kernel
theorem dX8_copyFrom_99 : decode cX8_copyFrom 99 = .ok (.return_, 1) := by decide +kernel
theorem dX8_echoLevels_0 : decode cX8_echoLevels 0 = .ok (.iconst 0, 1) := by decide +kernel
theorem dX8_echoLevels_1 : decode cX8_echoLevels 1 = .ok (.istore_n 1, 1) := by decide +kernel
theorem dX8_echoLevels_2 : decode cX8_echoLevels 2 = .ok (.iconst 0, 1) := by decide +kernel
theorem dX8_echoLevels_3 : decode cX8_echoLevels 3 = .ok (.istore_n 2, 1) := by decide +kernel
theorem dX8_echoLevels_4 : decode cX8_echoLevels 4 = .ok (.iload_n 2, 1) := by decide +kernel
theorem dX8_echoLevels_5 : decode cX8_echoLevels 5 = .ok (.aload_n 0, 1) := by decide +kernel
theorem dX8_echoLevels_6 : decode cX8_echoLevels 6 = .ok (.getfield 28, 3) := by decide +kernel
theorem dX8_echoLevels_9 : decode cX8_echoLevels 9 = .ok (.if_icmp .ge 20, 3) := by decide +kernel
theorem dX8_echoLevels_12 : decode cX8_echoLevels 12 = .ok (.iload_n 1, 1) := by decide +kernel
theorem dX8_echoLevels_13 : decode cX8_echoLevels 13 = .ok (.aload_n 0, 1) := by decide +kernel
theorem dX8_echoLevels_14 : decode cX8_echoLevels 14 = .ok (.getfield 18, 3) := by decide +kernel
theorem dX8_echoLevels_17 : decode cX8_echoLevels 17 = .ok (.iload_n 2, 1) := by decide +kernel
theorem dX8_echoLevels_18 : decode cX8_echoLevels 18 = .ok (.iaload, 1) := by decide +kernel
theorem dX8_echoLevels_19 : decode cX8_echoLevels 19 = .ok (.iload_n 2, 1) := by decide +kernel
theorem dX8_echoLevels_20 : decode cX8_echoLevels 20 = .ok (.ishl, 1) := by decide +kernel
theorem dX8_echoLevels_21 : decode cX8_echoLevels 21 = .ok (.ior, 1) := by decide +kernel
theorem dX8_echoLevels_22 : decode cX8_echoLevels 22 = .ok (.istore_n 1, 1) := by decide +kernel
theorem dX8_echoLevels_23 : decode cX8_echoLevels 23 = .ok (.iinc 2 1, 3) := by decide +kernel
theorem dX8_echoLevels_26 : decode cX8_echoLevels 26 = .ok (.goto (-22), 3) := by decide +kernel
theorem dX8_echoLevels_29 : decode cX8_echoLevels 29 = .ok (.iload_n 1, 1) := by decide +kernel
theorem dX8_echoLevels_30 : decode cX8_echoLevels 30 = .ok (.ireturn, 1) := by decide +kernel
theorem dX9_init_0 : decode cX9_init 0 = .ok (.aload_n 0, 1) := by decide +kernel
theorem dX9_init_1 : decode cX9_init 1 = .ok (.invokespecial 3, 3) := by decide +kernel
theorem dX9_init_4 : decode cX9_init 4 = .ok (.aload_n 0, 1) := by decide +kernel
theorem dX9_init_5 : decode cX9_init 5 = .ok (.bipush 8, 2) := by decide +kernel
theorem dX9_init_7 : decode cX9_init 7 = .ok (.newarray .int, 2) := by decide +kernel
theorem dX9_init_9 : decode cX9_init 9 = .ok (.putfield 9, 3) := by decide +kernel
theorem dX9_init_12 : decode cX9_init 12 = .ok (.aload_n 0, 1) := by decide +kernel
theorem dX9_init_13 : decode cX9_init 13 = .ok (.aload_n 1, 1) := by decide +kernel
theorem dX9_init_14 : decode cX9_init 14 = .ok (.putfield 15, 3) := by decide +kernel
theorem dX9_init_17 : decode cX9_init 17 = .ok (.aload_n 0, 1) := by decide +kernel
theorem dX9_init_18 : decode cX9_init 18 = .ok (.aload_n 2, 1) := by decide +kernel
theorem dX9_init_19 : decode cX9_init 19 = .ok (.putfield 19, 3) := by decide +kernel
theorem dX9_init_22 : decode cX9_init 22 = .ok (.return_, 1) := by decide +kernel
set_option maxRecDepth 20000 in
theorem ggX9_largestSet_X9_findClashes : GoodIn wsX9_largestSet wsX9_findClashes := goodIn_r _ [6, 1, 7, 8, 9, 10, 5, 11, 12, 13, 14, 15, 16, 17, 18, 19, 20, 21, 22, 23, 35, 36, 37, 38, 39, 40, 41, 42, 43, 44, 45, 46, 47, 48, 49, 50, 51, 52, 53, 54, 55, 56] (by decide +kernel) (by decide +kernel)
set_option maxRecDepth 20000 in
theorem gX9_largestSet_X9_findClashes : GoodIn wsX9_largestSet (wsV RX9 23 RX9 yX9_findClashes wsX9_findClashes) := goodIn_app (goodIn_of _ (by decide +kernel)) ggX9_largestSet_X9_findClashes
set_option maxRecDepth 20000 in
theorem ggX9_largestSet_J6_bitCount_0f7a4 : GoodIn wsX9_largestSet wsJ6_bitCount_0f7a4 := goodIn_r _ [27, 28, 29, 30] (by decide +kernel) (by decide +kernel)
set_option maxRecDepth 20000 in
theorem gX9_largestSet_J6_bitCount_0f7a4 : GoodIn wsX9_largestSet (va_wsS RX9 32 yJ6_bitCount_0f7a4 wsJ6_bitCount_0f7a4) := goodIn_app (goodIn_of _ (by decide +kernel)) ggX9_largestSet_J6_bitCount_0f7a4
set_option maxRecDepth 20000 in
theorem ggX9_largestSet_X9_isClear : GoodIn wsX9_largestSet wsX9_isClear := goodIn_r _ [34, 1, 7, 35, 36, 37, 38, 39, 40, 41, 42, 43, 44, 45, 46] (by decide +kernel) (by decide +kernel)
set_option maxRecDepth 20000 in
theorem gX9_largestSet_X9_isClear : GoodIn wsX9_largestSet (wsV RX9 38 RX9 yX9_isClear wsX9_isClear) := goodIn_app (goodIn_of _ (by decide +kernel)) ggX9_largestSet_X9_isClear
theorem dX9_largestSet_0 : decode cX9_largestSet 0 = .ok (.aload_n 0, 1) := by decide +kernel
theorem dX9_largestSet_1 : decode cX9_largestSet 1 = .ok (.invokevirtual 23, 3) := by decide +kernel
theorem dX9_largestSet_4 : decode cX9_largestSet 4 = .ok (.iconst 0, 1) := by decide +kernel
theorem dX9_largestSet_5 : decode cX9_largestSet 5 = .ok (.istore_n 1, 1) := by decide +kernel
theorem dX9_largestSet_6 : decode cX9_largestSet 6 = .ok (.iconst 1, 1) := by decide +kernel
theorem dX9_largestSet_7 : decode cX9_largestSet 7 = .ok (.istore_n 2, 1) := by decide +kernel
theorem dX9_largestSet_8 : decode cX9_largestSet 8 = .ok (.iload_n 2, 1) := by decide +kernel
theorem dX9_largestSet_9 : decode cX9_largestSet 9 = .ok (.iconst 1, 1) := by decide +kernel
theorem dX9_largestSet_10 : decode cX9_largestSet 10 = .ok (.aload_n 0, 1) := by decide +kernel
theorem dX9_largestSet_11 : decode cX9_largestSet 11 = .ok (.getfield 15, 3) := by decide +kernel
theorem dX9_largestSet_14 : decode cX9_largestSet 14 = .ok (.getfield 26, 3) := by decide +kernel
theorem dX9_largestSet_17 : decode cX9_largestSet 17 = .ok (.ishl, 1) := by decide +kernel
theorem dX9_largestSet_18 : decode cX9_largestSet 18 = .ok (.if_icmp .ge 30, 3) := by decide +kernel
theorem dX9_largestSet_21 : decode cX9_largestSet 21 = .ok (.iload_n 2, 1) := by decide +kernel
theorem dX9_largestSet_22 : decode cX9_largestSet 22 = .ok (.invokestatic 32, 3) := by decide +kernel
theorem dX9_largestSet_25 : decode cX9_largestSet 25 = .ok (.iload_n 1, 1) := by decide +kernel
theorem dX9_largestSet_26 : decode cX9_largestSet 26 = .ok (.invokestatic 32, 3) := by decide +kernel
theorem dX9_largestSet_29 : decode cX9_largestSet 29 = .ok (.if_icmp .le 13, 3) := by decide +kernel
theorem dX9_largestSet_32 : decode cX9_largestSet 32 = .ok (.aload_n 0, 1) := by decide +kernel
theorem dX9_largestSet_33 : decode cX9_largestSet 33 = .ok (.iload_n 2, 1) := by decide +kernel
theorem dX9_largestSet_34 : decode cX9_largestSet 34 = .ok (.invokevirtual 38, 3) := by decide +kernel
theorem dX9_largestSet_37 : decode cX9_largestSet 37 = .ok (.ifCond .eq 5, 3) := by decide +kernel
theorem dX9_largestSet_40 : decode cX9_largestSet 40 = .ok (.iload_n 2, 1) := by decide +kernel
theorem dX9_largestSet_41 : decode cX9_largestSet 41 = .ok (.istore_n 1, 1) := by decide +kernel
theorem dX9_largestSet_42 : decode cX9_largestSet 42 = .ok (.iinc 2 1, 3) := by decide +kernel
theorem dX9_largestSet_45 : decode cX9_largestSet 45 = .ok (.goto (-37), 3) := by decide +kernel
theorem dX9_largestSet_48 : decode cX9_largestSet 48 = .ok (.iload_n 1, 1) := by decide +kernel
theorem dX9_largestSet_49 : decode cX9_largestSet 49 = .ok (.ireturn, 1) := by decide +kernel
set_option maxRecDepth 20000 in
theorem ggX9_findClashes_X9_clashAtSomeWet : GoodIn wsX9_findClashes wsX9_clashAtSomeWet := goodIn_r _ [7, 8, 9, 10, 11, 6, 12, 13, 14, 15, 16, 1, 17, 18, 19, 20, 21, 22, 32, 33, 34, 35, 36, 37, 38, 39, 40, 41, 23, 24, 25, 26, 27, 28, 29, 30, 31] (by decide +kernel) (by decide +kernel)
set_option maxRecDepth 20000 in
theorem gX9_findClashes_X9_clashAtSomeWet : GoodIn wsX9_findClashes (wsV RX9 42 RX9 yX9_clashAtSomeWet wsX9_clashAtSomeWet) := goodIn_app (goodIn_of _ (by decide +kernel)) ggX9_findClashes_X9_clashAtSomeWet
theorem dX9_findClashes_0 : decode cX9_findClashes 0 = .ok (.iconst 0, 1) := by decide +kernel
theorem dX9_findClashes_1 : decode cX9_findClashes 1 = .ok (.istore_n 1, 1) := by decide +kernel
theorem dX9_findClashes_2 : decode cX9_findClashes 2 = .ok (.iload_n 1, 1) := by decide +kernel
theorem dX9_findClashes_3 : decode cX9_findClashes 3 = .ok (.aload_n 0, 1) := by decide +kernel
theorem dX9_findClashes_4 : decode cX9_findClashes 4 = .ok (.getfield 15, 3) := by decide +kernel
theorem dX9_findClashes_7 : decode cX9_findClashes 7 = .ok (.getfield 26, 3) := by decide +kernel
theorem dX9_findClashes_10 : decode cX9_findClashes 10 = .ok (.if_icmp .ge 61, 3) := by decide +kernel
theorem dX9_findClashes_13 : decode cX9_findClashes 13 = .ok (.aload_n 0, 1) := by decide +kernel
theorem dX9_findClashes_14 : decode cX9_findClashes 14 = .ok (.getfield 9, 3) := by decide +kernel
theorem dX9_findClashes_17 : decode cX9_findClashes 17 = .ok (.iload_n 1, 1) := by decide +kernel
theorem dX9_findClashes_18 : decode cX9_findClashes 18 = .ok (.iconst 0, 1) := by decide +kernel
theorem dX9_findClashes_19 : decode cX9_findClashes 19 = .ok (.iastore, 1) := by decide +kernel
theorem dX9_findClashes_20 : decode cX9_findClashes 20 = .ok (.iconst 0, 1) := by decide +kernel
theorem dX9_findClashes_21 : decode cX9_findClashes 21 = .ok (.istore_n 2, 1) := by decide +kernel
theorem dX9_findClashes_22 : decode cX9_findClashes 22 = .ok (.iload_n 2, 1) := by decide +kernel
theorem dX9_findClashes_23 : decode cX9_findClashes 23 = .ok (.aload_n 0, 1) := by decide +kernel
theorem dX9_findClashes_24 : decode cX9_findClashes 24 = .ok (.getfield 15, 3) := by decide +kernel
theorem dX9_findClashes_27 : decode cX9_findClashes 27 = .ok (.getfield 26, 3) := by decide +kernel
theorem dX9_findClashes_30 : decode cX9_findClashes 30 = .ok (.if_icmp .ge 35, 3) := by decide +kernel
theorem dX9_findClashes_33 : decode cX9_findClashes 33 = .ok (.iload_n 1, 1) := by decide +kernel
theorem dX9_findClashes_34 : decode cX9_findClashes 34 = .ok (.iload_n 2, 1) := by decide +kernel
theorem dX9_findClashes_35 : decode cX9_findClashes 35 = .ok (.if_icmp .eq 24, 3) := by decide +kernel
theorem dX9_findClashes_38 : decode cX9_findClashes 38 = .ok (.aload_n 0, 1) := by decide +kernel
theorem dX9_findClashes_39 : decode cX9_findClashes 39 = .ok (.iload_n 1, 1) := by decide +kernel
theorem dX9_findClashes_40 : decode cX9_findClashes 40 = .ok (.iload_n 2, 1) := by decide +kernel
theorem dX9_findClashes_41 : decode cX9_findClashes 41 = .ok (.invokevirtual 42, 3) := by decide +kernel
theorem dX9_findClashes_44 : decode cX9_findClashes 44 = .ok (.ifCond .eq 15, 3) := by decide +kernel
theorem dX9_findClashes_47 : decode cX9_findClashes 47 = .ok (.aload_n 0, 1) := by decide +kernel
theorem dX9_findClashes_48 : decode cX9_findClashes 48 = .ok (.getfield 9, 3) := by decide +kernel
theorem dX9_findClashes_51 : decode cX9_findClashes 51 = .ok (.iload_n 1, 1) := by decide +kernel
theorem dX9_findClashes_52 : decode cX9_findClashes 52 = .ok (.dup2, 1) := by decide +kernel
theorem dX9_findClashes_53 : decode cX9_findClashes 53 = .ok (.iaload, 1) := by decide +kernel
theorem dX9_findClashes_54 : decode cX9_findClashes 54 = .ok (.iconst 1, 1) := by decide +kernel
theorem dX9_findClashes_55 : decode cX9_findClashes 55 = .ok (.iload_n 2, 1) := by decide +kernel
theorem dX9_findClashes_56 : decode cX9_findClashes 56 = .ok (.ishl, 1) := by decide +kernel
theorem dX9_findClashes_57 : decode cX9_findClashes 57 = .ok (.ior, 1) := by decide +kernel
theorem dX9_findClashes_58 : decode cX9_findClashes 58 = .ok (.iastore, 1) := by decide +kernel
theorem dX9_findClashes_59 : decode cX9_findClashes 59 = .ok (.iinc 2 1, 3) := by decide +kernel
theorem dX9_findClashes_62 : decode cX9_findClashes 62 = .ok (.goto (-40), 3) := by decide +kernel
theorem dX9_findClashes_65 : decode cX9_findClashes 65 = .ok (.iinc 1 1, 3) := by decide +kernel
theorem dX9_findClashes_68 : decode cX9_findClashes 68 = .ok (.goto (-66), 3) := by decide +kernel
theorem dX9_findClashes_71 : decode cX9_findClashes 71 = .ok (.return_, 1) := by decide +kernel
set_option maxRecDepth 20000 in
theorem ggX9_clashAtSomeWet_X9_soundAlike : GoodIn wsX9_clashAtSomeWet wsX9_soundAlike := goodIn_r _ [6, 7, 8, 9, 10, 11, 12, 13, 14, 15, 16, 17, 28, 29, 30, 31, 32, 33, 34, 35, 36] (by decide +kernel) (by decide +kernel)
set_option maxRecDepth 20000 in
theorem gX9_clashAtSomeWet_X9_soundAlike : GoodIn wsX9_clashAtSomeWet (wsV RX9 51 RX9 yX9_soundAlike wsX9_soundAlike) := goodIn_app (goodIn_of _ (by decide +kernel)) ggX9_clashAtSomeWet_X9_soundAlike
theorem dX9_clashAtSomeWet_0 : decode cX9_clashAtSomeWet 0 = .ok (.iconst 0, 1) := by decide +kernel
theorem dX9_clashAtSomeWet_1 : decode cX9_clashAtSomeWet 1 = .ok (.istore_n 3, 1) := by decide +kernel
theorem dX9_clashAtSomeWet_2 : decode cX9_clashAtSomeWet 2 = .ok (.iload_n 3, 1) := by decide +kernel
theorem dX9_clashAtSomeWet_3 : decode cX9_clashAtSomeWet 3 = .ok (.bipush 9, 2) := by decide +kernel
theorem dX9_clashAtSomeWet_5 : decode cX9_clashAtSomeWet 5 = .ok (.if_icmp .gt 39, 3) := by decide +kernel
theorem dX9_clashAtSomeWet_8 : decode cX9_clashAtSomeWet 8 = .ok (.aload_n 0, 1) := by decide +kernel
theorem dX9_clashAtSomeWet_9 : decode cX9_clashAtSomeWet 9 = .ok (.iload_n 1, 1) := by decide +kernel
theorem dX9_clashAtSomeWet_10 : decode cX9_clashAtSomeWet 10 = .ok (.aload_n 0, 1) := by decide +kernel
theorem dX9_clashAtSomeWet_11 : decode cX9_clashAtSomeWet 11 = .ok (.getfield 19, 3) := by decide +kernel
theorem dX9_clashAtSomeWet_14 : decode cX9_clashAtSomeWet 14 = .ok (.getfield 46, 3) := by decide +kernel
theorem dX9_clashAtSomeWet_17 : decode cX9_clashAtSomeWet 17 = .ok (.iload_n 1, 1) := by decide +kernel
theorem dX9_clashAtSomeWet_18 : decode cX9_clashAtSomeWet 18 = .ok (.iaload, 1) := by decide +kernel
theorem dX9_clashAtSomeWet_19 : decode cX9_clashAtSomeWet 19 = .ok (.iload_n 2, 1) := by decide +kernel
theorem dX9_clashAtSomeWet_20 : decode cX9_clashAtSomeWet 20 = .ok (.aload_n 0, 1) := by decide +kernel
theorem dX9_clashAtSomeWet_21 : decode cX9_clashAtSomeWet 21 = .ok (.getfield 19, 3) := by decide +kernel
theorem dX9_clashAtSomeWet_24 : decode cX9_clashAtSomeWet 24 = .ok (.getfield 46, 3) := by decide +kernel
theorem dX9_clashAtSomeWet_27 : decode cX9_clashAtSomeWet 27 = .ok (.iload_n 2, 1) := by decide +kernel
theorem dX9_clashAtSomeWet_28 : decode cX9_clashAtSomeWet 28 = .ok (.iaload, 1) := by decide +kernel
theorem dX9_clashAtSomeWet_29 : decode cX9_clashAtSomeWet 29 = .ok (.iload_n 3, 1) := by decide +kernel
theorem dX9_clashAtSomeWet_30 : decode cX9_clashAtSomeWet 30 = .ok (.invokevirtual 51, 3) := by decide +kernel
theorem dX9_clashAtSomeWet_33 : decode cX9_clashAtSomeWet 33 = .ok (.ifCond .eq 5, 3) := by decide +kernel
theorem dX9_clashAtSomeWet_36 : decode cX9_clashAtSomeWet 36 = .ok (.iconst 1, 1) := by decide +kernel
theorem dX9_clashAtSomeWet_37 : decode cX9_clashAtSomeWet 37 = .ok (.ireturn, 1) := by decide +kernel
theorem dX9_clashAtSomeWet_38 : decode cX9_clashAtSomeWet 38 = .ok (.iinc 3 1, 3) := by decide +kernel
theorem dX9_clashAtSomeWet_41 : decode cX9_clashAtSomeWet 41 = .ok (.goto (-39), 3) := by decide +kernel
theorem dX9_clashAtSomeWet_44 : decode cX9_clashAtSomeWet 44 = .ok (.iconst 0, 1) := by decide +kernel
theorem dX9_clashAtSomeWet_45 : decode cX9_clashAtSomeWet 45 = .ok (.ireturn, 1) := by decide +kernel
theorem dX9_isClear_0 : decode cX9_isClear 0 = .ok (.iconst 0, 1) := by decide +kernel
theorem dX9_isClear_1 : decode cX9_isClear 1 = .ok (.istore_n 2, 1) := by decide +kernel
theorem dX9_isClear_2 : decode cX9_isClear 2 = .ok (.iload_n 2, 1) := by decide +kernel
theorem dX9_isClear_3 : decode cX9_isClear 3 = .ok (.aload_n 0, 1) := by decide +kernel
theorem dX9_isClear_4 : decode cX9_isClear 4 = .ok (.getfield 15, 3) := by decide +kernel
theorem dX9_isClear_7 : decode cX9_isClear 7 = .ok (.getfield 26, 3) := by decide +kernel
theorem dX9_isClear_10 : decode cX9_isClear 10 = .ok (.if_icmp .ge 31, 3) := by decide +kernel
theorem dX9_isClear_13 : decode cX9_isClear 13 = .ok (.iload_n 1, 1) := by decide +kernel
theorem dX9_isClear_14 : decode cX9_isClear 14 = .ok (.iload_n 2, 1) := by decide +kernel
theorem dX9_isClear_15 : decode cX9_isClear 15 = .ok (.ishr, 1) := by decide +kernel
theorem dX9_isClear_16 : decode cX9_isClear 16 = .ok (.iconst 1, 1) := by decide +kernel
theorem dX9_isClear_17 : decode cX9_isClear 17 = .ok (.iand, 1) := by decide +kernel
theorem dX9_isClear_18 : decode cX9_isClear 18 = .ok (.iconst 1, 1) := by decide +kernel
theorem dX9_isClear_19 : decode cX9_isClear 19 = .ok (.if_icmp .ne 16, 3) := by decide +kernel
theorem dX9_isClear_22 : decode cX9_isClear 22 = .ok (.aload_n 0, 1) := by decide +kernel
theorem dX9_isClear_23 : decode cX9_isClear 23 = .ok (.getfield 9, 3) := by decide +kernel
theorem dX9_isClear_26 : decode cX9_isClear 26 = .ok (.iload_n 2, 1) := by decide +kernel
theorem dX9_isClear_27 : decode cX9_isClear 27 = .ok (.iaload, 1) := by decide +kernel
theorem dX9_isClear_28 : decode cX9_isClear 28 = .ok (.iload_n 1, 1) := by decide +kernel
theorem dX9_isClear_29 : decode cX9_isClear 29 = .ok (.iand, 1) := by decide +kernel
theorem dX9_isClear_30 : decode cX9_isClear 30 = .ok (.ifCond .eq 5, 3) := by decide +kernel
theorem dX9_isClear_33 : decode cX9_isClear 33 = .ok (.iconst 0, 1) := by decide +kernel
theorem dX9_isClear_34 : decode cX9_isClear 34 = .ok (.ireturn, 1) := by decide +kernel
theorem dX9_isClear_35 : decode cX9_isClear 35 = .ok (.iinc 2 1, 3) := by decide +kernel
theorem dX9_isClear_38 : decode cX9_isClear 38 = .ok (.goto (-36), 3) := by decide +kernel
theorem dX9_isClear_41 : decode cX9_isClear 41 = .ok (.iconst 1, 1) := by decide +kernel
theorem dX9_isClear_42 : decode cX9_isClear 42 = .ok (.ireturn, 1) := by decide +kernel
set_option maxRecDepth 20000 in
theorem ggX9_soundAlike_X10_soundAt : GoodIn wsX9_soundAlike wsX10_soundAt := goodIn_r _ [8] (by decide +kernel) (by decide +kernel)
set_option maxRecDepth 20000 in
theorem gX9_soundAlike_X10_soundAt_n55 : GoodIn wsX9_soundAlike (wsX10_soundAt) := ggX9_soundAlike_X10_soundAt
theorem dX9_soundAlike_0 : decode cX9_soundAlike 0 = .ok (.iload_n 2, 1) := by decide +kernel
theorem dX9_soundAlike_1 : decode cX9_soundAlike 1 = .ok (.iload_n 1, 1) := by decide +kernel
theorem dX9_soundAlike_2 : decode cX9_soundAlike 2 = .ok (.iload 5, 2) := by decide +kernel
theorem dX9_soundAlike_4 : decode cX9_soundAlike 4 = .ok (.invokestatic 55, 3) := by decide +kernel
theorem dX9_soundAlike_7 : decode cX9_soundAlike 7 = .ok (.iload 4, 2) := by decide +kernel
theorem dX9_soundAlike_9 : decode cX9_soundAlike 9 = .ok (.iload_n 3, 1) := by decide +kernel
theorem dX9_soundAlike_10 : decode cX9_soundAlike 10 = .ok (.iload 5, 2) := by decide +kernel
theorem dX9_soundAlike_12 : decode cX9_soundAlike 12 = .ok (.invokestatic 55, 3) := by decide +kernel
theorem dX9_soundAlike_15 : decode cX9_soundAlike 15 = .ok (.isub, 1) := by decide +kernel
theorem dX9_soundAlike_16 : decode cX9_soundAlike 16 = .ok (.invokestatic 59, 3) := by decide +kernel
theorem dX9_soundAlike_19 : decode cX9_soundAlike 19 = .ok (.aload_n 0, 1) := by decide +kernel
theorem dX9_soundAlike_20 : decode cX9_soundAlike 20 = .ok (.getfield 15, 3) := by decide +kernel
theorem dX9_soundAlike_23 : decode cX9_soundAlike 23 = .ok (.getfield 64, 3) := by decide +kernel
theorem dX9_soundAlike_26 : decode cX9_soundAlike 26 = .ok (.if_icmp .gt 7, 3) := by decide +kernel
theorem dX9_soundAlike_29 : decode cX9_soundAlike 29 = .ok (.iconst 1, 1) := by decide +kernel
theorem dX9_soundAlike_30 : decode cX9_soundAlike 30 = .ok (.goto 4, 3) := by decide +kernel
theorem dX9_soundAlike_33 : decode cX9_soundAlike 33 = .ok (.iconst 0, 1) := by decide +kernel
theorem dX9_soundAlike_34 : decode cX9_soundAlike 34 = .ok (.ireturn, 1) := by decide +kernel
set_option maxRecDepth 20000 in
theorem ggX9_yearsToMeet_X10_worn : GoodIn wsX9_yearsToMeet wsX10_worn := goodIn_r _ [5, 6, 7, 8, 9] (by decide +kernel) (by decide +kernel)
set_option maxRecDepth 20000 in
theorem gX9_yearsToMeet_X10_worn_n70 : GoodIn wsX9_yearsToMeet (wsX10_worn) := ggX9_yearsToMeet_X10_worn
set_option maxRecDepth 20000 in
theorem ggX9_yearsToMeet_X9_soundAlike : GoodIn wsX9_yearsToMeet wsX9_soundAlike := goodIn_r _ [14, 15, 16, 8, 17, 2, 18, 4, 19, 20, 21, 22, 33, 34, 35, 36, 37, 38, 39, 40, 41] (by decide +kernel) (by decide +kernel)
set_option maxRecDepth 20000 in
theorem gX9_yearsToMeet_X9_soundAlike : GoodIn wsX9_yearsToMeet (wsV RX9 51 RX9 yX9_soundAlike wsX9_soundAlike) := goodIn_app (goodIn_of _ (by decide +kernel)) ggX9_yearsToMeet_X9_soundAlike
theorem dX9_yearsToMeet_0 : decode cX9_yearsToMeet 0 = .ok (.iconst 0, 1) := by decide +kernel
theorem dX9_yearsToMeet_1 : decode cX9_yearsToMeet 1 = .ok (.istore_n 3, 1) := by decide +kernel
theorem dX9_yearsToMeet_2 : decode cX9_yearsToMeet 2 = .ok (.iload_n 3, 1) := by decide +kernel
theorem dX9_yearsToMeet_3 : decode cX9_yearsToMeet 3 = .ok (.bipush 99, 2) := by decide +kernel
theorem dX9_yearsToMeet_5 : decode cX9_yearsToMeet 5 = .ok (.if_icmp .gt 79, 3) := by decide +kernel
theorem dX9_yearsToMeet_8 : decode cX9_yearsToMeet 8 = .ok (.aload_n 0, 1) := by decide +kernel
theorem dX9_yearsToMeet_9 : decode cX9_yearsToMeet 9 = .ok (.getfield 19, 3) := by decide +kernel
theorem dX9_yearsToMeet_12 : decode cX9_yearsToMeet 12 = .ok (.getfield 46, 3) := by decide +kernel
theorem dX9_yearsToMeet_15 : decode cX9_yearsToMeet 15 = .ok (.iload_n 1, 1) := by decide +kernel
theorem dX9_yearsToMeet_16 : decode cX9_yearsToMeet 16 = .ok (.iaload, 1) := by decide +kernel
theorem dX9_yearsToMeet_17 : decode cX9_yearsToMeet 17 = .ok (.aload_n 0, 1) := by decide +kernel
theorem dX9_yearsToMeet_18 : decode cX9_yearsToMeet 18 = .ok (.getfield 15, 3) := by decide +kernel
theorem dX9_yearsToMeet_21 : decode cX9_yearsToMeet 21 = .ok (.getfield 67, 3) := by decide +kernel
theorem dX9_yearsToMeet_24 : decode cX9_yearsToMeet 24 = .ok (.iload_n 1, 1) := by decide +kernel
theorem dX9_yearsToMeet_25 : decode cX9_yearsToMeet 25 = .ok (.iaload, 1) := by decide +kernel
theorem dX9_yearsToMeet_26 : decode cX9_yearsToMeet 26 = .ok (.iload_n 3, 1) := by decide +kernel
theorem dX9_yearsToMeet_27 : decode cX9_yearsToMeet 27 = .ok (.invokestatic 70, 3) := by decide +kernel
theorem dX9_yearsToMeet_30 : decode cX9_yearsToMeet 30 = .ok (.istore 4, 2) := by decide +kernel
theorem dX9_yearsToMeet_32 : decode cX9_yearsToMeet 32 = .ok (.aload_n 0, 1) := by decide +kernel
theorem dX9_yearsToMeet_33 : decode cX9_yearsToMeet 33 = .ok (.getfield 19, 3) := by decide +kernel
theorem dX9_yearsToMeet_36 : decode cX9_yearsToMeet 36 = .ok (.getfield 46, 3) := by decide +kernel
theorem dX9_yearsToMeet_39 : decode cX9_yearsToMeet 39 = .ok (.iload_n 2, 1) := by decide +kernel
theorem dX9_yearsToMeet_40 : decode cX9_yearsToMeet 40 = .ok (.iaload, 1) := by decide +kernel
theorem dX9_yearsToMeet_41 : decode cX9_yearsToMeet 41 = .ok (.aload_n 0, 1) := by decide +kernel
theorem dX9_yearsToMeet_42 : decode cX9_yearsToMeet 42 = .ok (.getfield 15, 3) := by decide +kernel
theorem dX9_yearsToMeet_45 : decode cX9_yearsToMeet 45 = .ok (.getfield 67, 3) := by decide +kernel
theorem dX9_yearsToMeet_48 : decode cX9_yearsToMeet 48 = .ok (.iload_n 2, 1) := by decide +kernel
theorem dX9_yearsToMeet_49 : decode cX9_yearsToMeet 49 = .ok (.iaload, 1) := by decide +kernel
theorem dX9_yearsToMeet_50 : decode cX9_yearsToMeet 50 = .ok (.iload_n 3, 1) := by decide +kernel
theorem dX9_yearsToMeet_51 : decode cX9_yearsToMeet 51 = .ok (.invokestatic 70, 3) := by decide +kernel
theorem dX9_yearsToMeet_54 : decode cX9_yearsToMeet 54 = .ok (.istore 5, 2) := by decide +kernel
theorem dX9_yearsToMeet_56 : decode cX9_yearsToMeet 56 = .ok (.aload_n 0, 1) := by decide +kernel
theorem dX9_yearsToMeet_57 : decode cX9_yearsToMeet 57 = .ok (.iload_n 1, 1) := by decide +kernel
theorem dX9_yearsToMeet_58 : decode cX9_yearsToMeet 58 = .ok (.iload 4, 2) := by decide +kernel
theorem dX9_yearsToMeet_60 : decode cX9_yearsToMeet 60 = .ok (.iload_n 2, 1) := by decide +kernel
theorem dX9_yearsToMeet_61 : decode cX9_yearsToMeet 61 = .ok (.iload 5, 2) := by decide +kernel
theorem dX9_yearsToMeet_63 : decode cX9_yearsToMeet 63 = .ok (.aload_n 0, 1) := by decide +kernel
theorem dX9_yearsToMeet_64 : decode cX9_yearsToMeet 64 = .ok (.getfield 19, 3) := by decide +kernel
theorem dX9_yearsToMeet_67 : decode cX9_yearsToMeet 67 = .ok (.getfield 73, 3) := by decide +kernel
theorem dX9_yearsToMeet_70 : decode cX9_yearsToMeet 70 = .ok (.invokevirtual 51, 3) := by decide +kernel
theorem dX9_yearsToMeet_73 : decode cX9_yearsToMeet 73 = .ok (.ifCond .eq 5, 3) := by decide +kernel
theorem dX9_yearsToMeet_76 : decode cX9_yearsToMeet 76 = .ok (.iload_n 3, 1) := by decide +kernel
theorem dX9_yearsToMeet_77 : decode cX9_yearsToMeet 77 = .ok (.ireturn, 1) := by decide +kernel
theorem dX9_yearsToMeet_78 : decode cX9_yearsToMeet 78 = .ok (.iinc 3 1, 3) := by decide +kernel
theorem dX9_yearsToMeet_81 : decode cX9_yearsToMeet 81 = .ok (.goto (-79), 3) := by decide +kernel
theorem dX9_yearsToMeet_84 : decode cX9_yearsToMeet 84 = .ok (.bipush (-9), 2) := by decide +kernel
theorem dX9_yearsToMeet_86 : decode cX9_yearsToMeet 86 = .ok (.ireturn, 1) := by decide +kernel
set_option maxRecDepth 20000 in
theorem ggX9_earliestPair_X9_yearsToMeet : GoodIn wsX9_earliestPair wsX9_yearsToMeet := goodIn_r _ [6, 7, 1, 8, 9, 10, 11, 12, 13, 14, 15, 16, 17, 5, 18, 19, 20, 21, 22, 23, 24, 25, 26, 36, 37, 38, 39, 40, 41, 42, 43, 44, 45, 27, 28, 29, 30, 31, 32, 33, 34, 35] (by decide +kernel) (by decide +kernel)
set_option maxRecDepth 20000 in
theorem gX9_earliestPair_X9_yearsToMeet : GoodIn wsX9_earliestPair (wsV RX9 76 RX9 yX9_yearsToMeet wsX9_yearsToMeet) := goodIn_app (goodIn_of _ (by decide +kernel)) ggX9_earliestPair_X9_yearsToMeet
theorem dX9_earliestPair_0 : decode cX9_earliestPair 0 = .ok (.bipush (-9), 2) := by decide +kernel
theorem dX9_earliestPair_2 : decode cX9_earliestPair 2 = .ok (.istore_n 1, 1) := by decide +kernel
theorem dX9_earliestPair_3 : decode cX9_earliestPair 3 = .ok (.bipush 100, 2) := by decide +kernel
theorem dX9_earliestPair_5 : decode cX9_earliestPair 5 = .ok (.istore_n 2, 1) := by decide +kernel
theorem dX9_earliestPair_6 : decode cX9_earliestPair 6 = .ok (.iconst 0, 1) := by decide +kernel
theorem dX9_earliestPair_7 : decode cX9_earliestPair 7 = .ok (.istore_n 3, 1) := by decide +kernel
theorem dX9_earliestPair_8 : decode cX9_earliestPair 8 = .ok (.iload_n 3, 1) := by decide +kernel
theorem dX9_earliestPair_9 : decode cX9_earliestPair 9 = .ok (.aload_n 0, 1) := by decide +kernel
theorem dX9_earliestPair_10 : decode cX9_earliestPair 10 = .ok (.getfield 15, 3) := by decide +kernel
theorem dX9_earliestPair_13 : decode cX9_earliestPair 13 = .ok (.getfield 26, 3) := by decide +kernel
theorem dX9_earliestPair_16 : decode cX9_earliestPair 16 = .ok (.if_icmp .ge 65, 3) := by decide +kernel
theorem dX9_earliestPair_19 : decode cX9_earliestPair 19 = .ok (.iload_n 3, 1) := by decide +kernel
theorem dX9_earliestPair_20 : decode cX9_earliestPair 20 = .ok (.iconst 1, 1) := by decide +kernel
theorem dX9_earliestPair_21 : decode cX9_earliestPair 21 = .ok (.iadd, 1) := by decide +kernel
theorem dX9_earliestPair_22 : decode cX9_earliestPair 22 = .ok (.istore 4, 2) := by decide +kernel
theorem dX9_earliestPair_24 : decode cX9_earliestPair 24 = .ok (.iload 4, 2) := by decide +kernel
theorem dX9_earliestPair_26 : decode cX9_earliestPair 26 = .ok (.aload_n 0, 1) := by decide +kernel
theorem dX9_earliestPair_27 : decode cX9_earliestPair 27 = .ok (.getfield 15, 3) := by decide +kernel
theorem dX9_earliestPair_30 : decode cX9_earliestPair 30 = .ok (.getfield 26, 3) := by decide +kernel
theorem dX9_earliestPair_33 : decode cX9_earliestPair 33 = .ok (.if_icmp .ge 42, 3) := by decide +kernel
theorem dX9_earliestPair_36 : decode cX9_earliestPair 36 = .ok (.aload_n 0, 1) := by decide +kernel
theorem dX9_earliestPair_37 : decode cX9_earliestPair 37 = .ok (.iload_n 3, 1) := by decide +kernel
theorem dX9_earliestPair_38 : decode cX9_earliestPair 38 = .ok (.iload 4, 2) := by decide +kernel
theorem dX9_earliestPair_40 : decode cX9_earliestPair 40 = .ok (.invokevirtual 76, 3) := by decide +kernel
theorem dX9_earliestPair_43 : decode cX9_earliestPair 43 = .ok (.istore 5, 2) := by decide +kernel
theorem dX9_earliestPair_45 : decode cX9_earliestPair 45 = .ok (.iload 5, 2) := by decide +kernel
theorem dX9_earliestPair_47 : decode cX9_earliestPair 47 = .ok (.bipush (-9), 2) := by decide +kernel
theorem dX9_earliestPair_49 : decode cX9_earliestPair 49 = .ok (.if_icmp .eq 20, 3) := by decide +kernel
theorem dX9_earliestPair_52 : decode cX9_earliestPair 52 = .ok (.iload 5, 2) := by decide +kernel
theorem dX9_earliestPair_54 : decode cX9_earliestPair 54 = .ok (.iload_n 2, 1) := by decide +kernel
theorem dX9_earliestPair_55 : decode cX9_earliestPair 55 = .ok (.if_icmp .ge 14, 3) := by decide +kernel
theorem dX9_earliestPair_58 : decode cX9_earliestPair 58 = .ok (.iload 5, 2) := by decide +kernel
theorem dX9_earliestPair_60 : decode cX9_earliestPair 60 = .ok (.istore_n 2, 1) := by decide +kernel
theorem dX9_earliestPair_61 : decode cX9_earliestPair 61 = .ok (.bipush 10, 2) := by decide +kernel
theorem dX9_earliestPair_63 : decode cX9_earliestPair 63 = .ok (.iload_n 3, 1) := by decide +kernel
theorem dX9_earliestPair_64 : decode cX9_earliestPair 64 = .ok (.imul, 1) := by decide +kernel
theorem dX9_earliestPair_65 : decode cX9_earliestPair 65 = .ok (.iload 4, 2) := by decide +kernel
theorem dX9_earliestPair_67 : decode cX9_earliestPair 67 = .ok (.iadd, 1) := by decide +kernel
theorem dX9_earliestPair_68 : decode cX9_earliestPair 68 = .ok (.istore_n 1, 1) := by decide +kernel
theorem dX9_earliestPair_69 : decode cX9_earliestPair 69 = .ok (.iinc 4 1, 3) := by decide +kernel
theorem dX9_earliestPair_72 : decode cX9_earliestPair 72 = .ok (.goto (-48), 3) := by decide +kernel
theorem dX9_earliestPair_75 : decode cX9_earliestPair 75 = .ok (.iinc 3 1, 3) := by decide +kernel
theorem dX9_earliestPair_78 : decode cX9_earliestPair 78 = .ok (.goto (-70), 3) := by decide +kernel
theorem dX9_earliestPair_81 : decode cX9_earliestPair 81 = .ok (.iload_n 1, 1) := by decide +kernel
theorem dX9_earliestPair_82 : decode cX9_earliestPair 82 = .ok (.ireturn, 1) := by decide +kernel
set_option maxRecDepth 20000 in
theorem ggX10_init_X7_init : GoodIn wsX10_init wsX7_init := goodIn_r _ [49, 50, 2, 3, 51, 52, 121, 122] (by decide +kernel) (by decide +kernel)
set_option maxRecDepth 20000 in
theorem gX10_init_X7_init_n9 : GoodIn wsX10_init (wsX7_init) := ggX10_init_X7_init
set_option maxRecDepth 20000 in
theorem ggX10_init_X8_init : GoodIn wsX10_init wsX8_init := goodIn_r _ [54, 55, 2, 3, 51, 56, 57, 58, 59, 60, 136, 137, 138, 139, 140, 141, 142, 143, 144] (by decide +kernel) (by decide +kernel)
set_option maxRecDepth 20000 in
theorem gX10_init_X8_init_n18 : GoodIn wsX10_init (wsX8_init) := ggX10_init_X8_init
set_option maxRecDepth 20000 in
theorem ggX10_init_X5_init : GoodIn wsX10_init wsX5_init := goodIn_r _ [62, 63, 2, 3, 51, 64, 65, 66, 67, 68, 145, 146, 147, 148, 149, 150, 151, 152, 153] (by decide +kernel) (by decide +kernel)
set_option maxRecDepth 20000 in
theorem gX10_init_X5_init_n28 : GoodIn wsX10_init (wsX5_init) := ggX10_init_X5_init
set_option maxRecDepth 20000 in
theorem ggX10_init_X2_init : GoodIn wsX10_init wsX2_init := goodIn_r _ [70, 71, 2, 3, 51, 72, 73, 74, 75, 76, 77, 154, 155, 156, 157, 158, 159, 160, 161, 162, 163] (by decide +kernel) (by decide +kernel)
set_option maxRecDepth 20000 in
theorem gX10_init_X2_init_n37 : GoodIn wsX10_init (wsX2_init) := ggX10_init_X2_init
set_option maxRecDepth 20000 in
theorem ggX10_init_X6_init : GoodIn wsX10_init wsX6_init := goodIn_r _ [79, 80, 2, 3, 81, 82, 164, 165] (by decide +kernel) (by decide +kernel)
set_option maxRecDepth 20000 in
theorem gX10_init_X6_init_n52 : GoodIn wsX10_init (wsX6_init) := ggX10_init_X6_init
