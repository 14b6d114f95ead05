set_option maxRecDepth 20000 in
theorem ggX0_init_X3_init : GoodIn wsX0_init wsX3_init := goodIn_r _ [20, 21, 2, 3, 22, 23, 4, 24, 25, 26, 27, 28, 29, 49, 50, 51, 52, 53, 54, 55] (by decide +kernel) (by decide +kernel)
set_option maxRecDepth 20000 in
theorem gX0_init_X3_init_n26 : GoodIn wsX0_init (wsX3_init) := ggX0_init_X3_init
set_option maxRecDepth 20000 in
theorem ggX0_init_X2_init : GoodIn wsX0_init wsX2_init := goodIn_r _ [31, 32, 2, 3, 4, 33, 56, 57, 58] (by decide +kernel) (by decide +kernel)
set_option maxRecDepth 20000 in
theorem gX0_init_X2_init_n33 : GoodIn wsX0_init (wsX2_init) := ggX0_init_X2_init
set_option maxRecDepth 20000 in
theorem ggX0_init_X1_init : GoodIn wsX0_init wsX1_init := goodIn_r _ [35, 36, 2, 3, 4, 37, 38, 39, 59, 60, 61] (by decide +kernel) (by decide +kernel)
set_option maxRecDepth 20000 in
theorem gX0_init_X1_init_n38 : GoodIn wsX0_init (wsX1_init) := ggX0_init_X1_init
theorem dX0_init_0 : decode cX0_init 0 = .ok (.aload_n 0, 1) := by decide +kernel
theorem dX0_init_1 : decode cX0_init 1 = .ok (.invokespecial 3, 3) := by decide +kernel
theorem dX0_init_4 : decode cX0_init 4 = .ok (.aload_n 0, 1) := by decide +kernel
theorem dX0_init_5 : decode cX0_init 5 = .ok (.bipush 7, 2) := by decide +kernel
theorem dX0_init_7 : decode cX0_init 7 = .ok (.newarray .int, 2) := by decide +kernel
theorem dX0_init_9 : decode cX0_init 9 = .ok (.putfield 9, 3) := by decide +kernel
theorem dX0_init_12 : decode cX0_init 12 = .ok (.aload_n 0, 1) := by decide +kernel
theorem dX0_init_13 : decode cX0_init 13 = .ok (.iconst 4, 1) := by decide +kernel
theorem dX0_init_14 : decode cX0_init 14 = .ok (.newarray .int, 2) := by decide +kernel
theorem dX0_init_16 : decode cX0_init 16 = .ok (.putfield 15, 3) := by decide +kernel
theorem dX0_init_19 : decode cX0_init 19 = .ok (.aload_n 0, 1) := by decide +kernel
theorem dX0_init_20 : decode cX0_init 20 = .ok (.iconst 3, 1) := by decide +kernel
theorem dX0_init_21 : decode cX0_init 21 = .ok (.anewarray 18, 3) := by decide +kernel
theorem dX0_init_24 : decode cX0_init 24 = .ok (.putfield 20, 3) := by decide +kernel
theorem dX0_init_27 : decode cX0_init 27 = .ok (.aload_n 0, 1) := by decide +kernel
theorem dX0_init_28 : decode cX0_init 28 = .ok (.new 24, 3) := by decide +kernel
theorem dX0_init_31 : decode cX0_init 31 = .ok (.dup, 1) := by decide +kernel
theorem dX0_init_32 : decode cX0_init 32 = .ok (.invokespecial 26, 3) := by decide +kernel
theorem dX0_init_35 : decode cX0_init 35 = .ok (.putfield 27, 3) := by decide +kernel
theorem dX0_init_38 : decode cX0_init 38 = .ok (.aload_n 0, 1) := by decide +kernel
theorem dX0_init_39 : decode cX0_init 39 = .ok (.new 31, 3) := by decide +kernel
theorem dX0_init_42 : decode cX0_init 42 = .ok (.dup, 1) := by decide +kernel
theorem dX0_init_43 : decode cX0_init 43 = .ok (.invokespecial 33, 3) := by decide +kernel
theorem dX0_init_46 : decode cX0_init 46 = .ok (.putfield 34, 3) := by decide +kernel
theorem dX0_init_49 : decode cX0_init 49 = .ok (.iconst 0, 1) := by decide +kernel
theorem dX0_init_50 : decode cX0_init 50 = .ok (.istore_n 1, 1) := by decide +kernel
theorem dX0_init_51 : decode cX0_init 51 = .ok (.iload_n 1, 1) := by decide +kernel
theorem dX0_init_52 : decode cX0_init 52 = .ok (.iconst 3, 1) := by decide +kernel
theorem dX0_init_53 : decode cX0_init 53 = .ok (.if_icmp .ge 22, 3) := by decide +kernel
theorem dX0_init_56 : decode cX0_init 56 = .ok (.aload_n 0, 1) := by decide +kernel
theorem dX0_init_57 : decode cX0_init 57 = .ok (.getfield 20, 3) := by decide +kernel
theorem dX0_init_60 : decode cX0_init 60 = .ok (.iload_n 1, 1) := by decide +kernel
theorem dX0_init_61 : decode cX0_init 61 = .ok (.new 18, 3) := by decide +kernel
theorem dX0_init_64 : decode cX0_init 64 = .ok (.dup, 1) := by decide +kernel
theorem dX0_init_65 : decode cX0_init 65 = .ok (.invokespecial 38, 3) := by decide +kernel
theorem dX0_init_68 : decode cX0_init 68 = .ok (.aastore, 1) := by decide +kernel
theorem dX0_init_69 : decode cX0_init 69 = .ok (.iinc 1 1, 3) := by decide +kernel
theorem dX0_init_72 : decode cX0_init 72 = .ok (.goto (-21), 3) := by decide +kernel
theorem dX0_init_75 : decode cX0_init 75 = .ok (.return_, 1) := by decide +kernel
set_option maxRecDepth 20000 in
theorem ggX0_raiseWalls_X1_clear : GoodIn wsX0_raiseWalls wsX1_clear := goodIn_r _ [14, 15, 16, 33, 34, 35] (by decide +kernel) (by decide +kernel)
set_option maxRecDepth 20000 in
theorem gX0_raiseWalls_X1_clear : GoodIn wsX0_raiseWalls (wsV RX0 52 RX1 yX1_clear wsX1_clear) := goodIn_app (goodIn_of _ (by decide +kernel)) ggX0_raiseWalls_X1_clear
theorem dX0_raiseWalls_0 : decode cX0_raiseWalls 0 = .ok (.aload_n 0, 1) := by decide +kernel
theorem dX0_raiseWalls_1 : decode cX0_raiseWalls 1 = .ok (.iload_n 1, 1) := by decide +kernel
theorem dX0_raiseWalls_2 : decode cX0_raiseWalls 2 = .ok (.putfield 39, 3) := by decide +kernel
theorem dX0_raiseWalls_5 : decode cX0_raiseWalls 5 = .ok (.aload_n 0, 1) := by decide +kernel
theorem dX0_raiseWalls_6 : decode cX0_raiseWalls 6 = .ok (.iload_n 2, 1) := by decide +kernel
theorem dX0_raiseWalls_7 : decode cX0_raiseWalls 7 = .ok (.putfield 43, 3) := by decide +kernel
theorem dX0_raiseWalls_10 : decode cX0_raiseWalls 10 = .ok (.aload_n 0, 1) := by decide +kernel
theorem dX0_raiseWalls_11 : decode cX0_raiseWalls 11 = .ok (.dup, 1) := by decide +kernel
theorem dX0_raiseWalls_12 : decode cX0_raiseWalls 12 = .ok (.getfield 46, 3) := by decide +kernel
theorem dX0_raiseWalls_15 : decode cX0_raiseWalls 15 = .ok (.iconst 1, 1) := by decide +kernel
theorem dX0_raiseWalls_16 : decode cX0_raiseWalls 16 = .ok (.iadd, 1) := by decide +kernel
theorem dX0_raiseWalls_17 : decode cX0_raiseWalls 17 = .ok (.putfield 46, 3) := by decide +kernel
theorem dX0_raiseWalls_20 : decode cX0_raiseWalls 20 = .ok (.aload_n 0, 1) := by decide +kernel
theorem dX0_raiseWalls_21 : decode cX0_raiseWalls 21 = .ok (.iconst 1, 1) := by decide +kernel
theorem dX0_raiseWalls_22 : decode cX0_raiseWalls 22 = .ok (.iload_n 1, 1) := by decide +kernel
theorem dX0_raiseWalls_23 : decode cX0_raiseWalls 23 = .ok (.ishl, 1) := by decide +kernel
theorem dX0_raiseWalls_24 : decode cX0_raiseWalls 24 = .ok (.iconst 1, 1) := by decide +kernel
theorem dX0_raiseWalls_25 : decode cX0_raiseWalls 25 = .ok (.isub, 1) := by decide +kernel
theorem dX0_raiseWalls_26 : decode cX0_raiseWalls 26 = .ok (.putfield 49, 3) := by decide +kernel
theorem dX0_raiseWalls_29 : decode cX0_raiseWalls 29 = .ok (.iconst 0, 1) := by decide +kernel
theorem dX0_raiseWalls_30 : decode cX0_raiseWalls 30 = .ok (.istore_n 3, 1) := by decide +kernel
theorem dX0_raiseWalls_31 : decode cX0_raiseWalls 31 = .ok (.iload_n 3, 1) := by decide +kernel
theorem dX0_raiseWalls_32 : decode cX0_raiseWalls 32 = .ok (.bipush 7, 2) := by decide +kernel
theorem dX0_raiseWalls_34 : decode cX0_raiseWalls 34 = .ok (.if_icmp .ge 16, 3) := by decide +kernel
theorem dX0_raiseWalls_37 : decode cX0_raiseWalls 37 = .ok (.aload_n 0, 1) := by decide +kernel
theorem dX0_raiseWalls_38 : decode cX0_raiseWalls 38 = .ok (.getfield 9, 3) := by decide +kernel
theorem dX0_raiseWalls_41 : decode cX0_raiseWalls 41 = .ok (.iload_n 3, 1) := by decide +kernel
theorem dX0_raiseWalls_42 : decode cX0_raiseWalls 42 = .ok (.iconst 0, 1) := by decide +kernel
theorem dX0_raiseWalls_43 : decode cX0_raiseWalls 43 = .ok (.iastore, 1) := by decide +kernel
theorem dX0_raiseWalls_44 : decode cX0_raiseWalls 44 = .ok (.iinc 3 1, 3) := by decide +kernel
theorem dX0_raiseWalls_47 : decode cX0_raiseWalls 47 = .ok (.goto (-16), 3) := by decide +kernel
theorem dX0_raiseWalls_50 : decode cX0_raiseWalls 50 = .ok (.iconst 0, 1) := by decide +kernel
theorem dX0_raiseWalls_51 : decode cX0_raiseWalls 51 = .ok (.istore_n 3, 1) := by decide +kernel
theorem dX0_raiseWalls_52 : decode cX0_raiseWalls 52 = .ok (.iload_n 3, 1) := by decide +kernel
theorem dX0_raiseWalls_53 : decode cX0_raiseWalls 53 = .ok (.iconst 4, 1) := by decide +kernel
theorem dX0_raiseWalls_54 : decode cX0_raiseWalls 54 = .ok (.if_icmp .ge 16, 3) := by decide +kernel
theorem dX0_raiseWalls_57 : decode cX0_raiseWalls 57 = .ok (.aload_n 0, 1) := by decide +kernel
theorem dX0_raiseWalls_58 : decode cX0_raiseWalls 58 = .ok (.getfield 15, 3) := by decide +kernel
theorem dX0_raiseWalls_61 : decode cX0_raiseWalls 61 = .ok (.iload_n 3, 1) := by decide +kernel
theorem dX0_raiseWalls_62 : decode cX0_raiseWalls 62 = .ok (.iconst 0, 1) := by decide +kernel
theorem dX0_raiseWalls_63 : decode cX0_raiseWalls 63 = .ok (.iastore, 1) := by decide +kernel
theorem dX0_raiseWalls_64 : decode cX0_raiseWalls 64 = .ok (.iinc 3 1, 3) := by decide +kernel
theorem dX0_raiseWalls_67 : decode cX0_raiseWalls 67 = .ok (.goto (-15), 3) := by decide +kernel
theorem dX0_raiseWalls_70 : decode cX0_raiseWalls 70 = .ok (.iconst 0, 1) := by decide +kernel
theorem dX0_raiseWalls_71 : decode cX0_raiseWalls 71 = .ok (.istore_n 3, 1) := by decide +kernel
theorem dX0_raiseWalls_72 : decode cX0_raiseWalls 72 = .ok (.iload_n 3, 1) := by decide +kernel
theorem dX0_raiseWalls_73 : decode cX0_raiseWalls 73 = .ok (.iconst 3, 1) := by decide +kernel
theorem dX0_raiseWalls_74 : decode cX0_raiseWalls 74 = .ok (.if_icmp .ge 18, 3) := by decide +kernel
theorem dX0_raiseWalls_77 : decode cX0_raiseWalls 77 = .ok (.aload_n 0, 1) := by decide +kernel
theorem dX0_raiseWalls_78 : decode cX0_raiseWalls 78 = .ok (.getfield 20, 3) := by decide +kernel
theorem dX0_raiseWalls_81 : decode cX0_raiseWalls 81 = .ok (.iload_n 3, 1) := by decide +kernel
theorem dX0_raiseWalls_82 : decode cX0_raiseWalls 82 = .ok (.aaload, 1) := by decide +kernel
theorem dX0_raiseWalls_83 : decode cX0_raiseWalls 83 = .ok (.invokevirtual 52, 3) := by decide +kernel
theorem dX0_raiseWalls_86 : decode cX0_raiseWalls 86 = .ok (.iinc 3 1, 3) := by decide +kernel
theorem dX0_raiseWalls_89 : decode cX0_raiseWalls 89 = .ok (.goto (-17), 3) := by decide +kernel
theorem dX0_raiseWalls_92 : decode cX0_raiseWalls 92 = .ok (.aload_n 0, 1) := by decide +kernel
theorem dX0_raiseWalls_93 : decode cX0_raiseWalls 93 = .ok (.getfield 27, 3) := by decide +kernel
theorem dX0_raiseWalls_96 : decode cX0_raiseWalls 96 = .ok (.iconst 0, 1) := by decide +kernel
theorem dX0_raiseWalls_97 : decode cX0_raiseWalls 97 = .ok (.putfield 55, 3) := by decide +kernel
theorem dX0_raiseWalls_100 : decode cX0_raiseWalls 100 = .ok (.return_, 1) := by decide +kernel
set_option maxRecDepth 20000 in
theorem ggX0_isQuorum_J6_bitCount_0f7a4 : GoodIn wsX0_isQuorum wsJ6_bitCount_0f7a4 := goodIn_r _ [5, 6, 7, 8] (by decide +kernel) (by decide +kernel)
set_option maxRecDepth 20000 in
theorem gX0_isQuorum_J6_bitCount_0f7a4 : GoodIn wsX0_isQuorum (va_wsS RX0 58 yJ6_bitCount_0f7a4 wsJ6_bitCount_0f7a4) := goodIn_app (goodIn_of _ (by decide +kernel)) ggX0_isQuorum_J6_bitCount_0f7a4
theorem dX0_isQuorum_0 : decode cX0_isQuorum 0 = .ok (.iconst 2, 1) := by decide +kernel
theorem dX0_isQuorum_1 : decode cX0_isQuorum 1 = .ok (.iload_n 1, 1) := by decide +kernel
theorem dX0_isQuorum_2 : decode cX0_isQuorum 2 = .ok (.invokestatic 58, 3) := by decide +kernel
theorem dX0_isQuorum_5 : decode cX0_isQuorum 5 = .ok (.imul, 1) := by decide +kernel
theorem dX0_isQuorum_6 : decode cX0_isQuorum 6 = .ok (.aload_n 0, 1) := by decide +kernel
theorem dX0_isQuorum_7 : decode cX0_isQuorum 7 = .ok (.getfield 39, 3) := by decide +kernel
theorem dX0_isQuorum_10 : decode cX0_isQuorum 10 = .ok (.if_icmp .le 7, 3) := by decide +kernel
theorem dX0_isQuorum_13 : decode cX0_isQuorum 13 = .ok (.iconst 1, 1) := by decide +kernel
theorem dX0_isQuorum_14 : decode cX0_isQuorum 14 = .ok (.goto 4, 3) := by decide +kernel
theorem dX0_isQuorum_17 : decode cX0_isQuorum 17 = .ok (.iconst 0, 1) := by decide +kernel
theorem dX0_isQuorum_18 : decode cX0_isQuorum 18 = .ok (.ireturn, 1) := by decide +kernel
set_option maxRecDepth 20000 in
theorem ggX0_isUp_X6_contains : GoodIn wsX0_isUp wsX6_contains := goodIn_r _ [4] (by decide +kernel) (by decide +kernel)
set_option maxRecDepth 20000 in
theorem gX0_isUp_X6_contains_n64 : GoodIn wsX0_isUp (wsX6_contains) := ggX0_isUp_X6_contains
theorem dX0_isUp_0 : decode cX0_isUp 0 = .ok (.aload_n 0, 1) := by decide +kernel
theorem dX0_isUp_1 : decode cX0_isUp 1 = .ok (.getfield 49, 3) := by decide +kernel
theorem dX0_isUp_4 : decode cX0_isUp 4 = .ok (.iload_n 1, 1) := by decide +kernel
theorem dX0_isUp_5 : decode cX0_isUp 5 = .ok (.invokestatic 64, 3) := by decide +kernel
theorem dX0_isUp_8 : decode cX0_isUp 8 = .ok (.ireturn, 1) := by decide +kernel
theorem dX0_isWaiting_0 : decode cX0_isWaiting 0 = .ok (.iload_n 2, 1) := by decide +kernel
theorem dX0_isWaiting_1 : decode cX0_isWaiting 1 = .ok (.aload_n 0, 1) := by decide +kernel
theorem dX0_isWaiting_2 : decode cX0_isWaiting 2 = .ok (.getfield 9, 3) := by decide +kernel
theorem dX0_isWaiting_5 : decode cX0_isWaiting 5 = .ok (.iload_n 1, 1) := by decide +kernel
theorem dX0_isWaiting_6 : decode cX0_isWaiting 6 = .ok (.iaload, 1) := by decide +kernel
theorem dX0_isWaiting_7 : decode cX0_isWaiting 7 = .ok (.if_icmp .ge 7, 3) := by decide +kernel
theorem dX0_isWaiting_10 : decode cX0_isWaiting 10 = .ok (.iconst 1, 1) := by decide +kernel
theorem dX0_isWaiting_11 : decode cX0_isWaiting 11 = .ok (.goto 4, 3) := by decide +kernel
theorem dX0_isWaiting_14 : decode cX0_isWaiting 14 = .ok (.iconst 0, 1) := by decide +kernel
theorem dX0_isWaiting_15 : decode cX0_isWaiting 15 = .ok (.ireturn, 1) := by decide +kernel
theorem dX0_bringDown_0 : decode cX0_bringDown 0 = .ok (.aload_n 0, 1) := by decide +kernel
theorem dX0_bringDown_1 : decode cX0_bringDown 1 = .ok (.dup, 1) := by decide +kernel
theorem dX0_bringDown_2 : decode cX0_bringDown 2 = .ok (.getfield 49, 3) := by decide +kernel
theorem dX0_bringDown_5 : decode cX0_bringDown 5 = .ok (.iconst 1, 1) := by decide +kernel
theorem dX0_bringDown_6 : decode cX0_bringDown 6 = .ok (.iload_n 1, 1) := by decide +kernel
theorem dX0_bringDown_7 : decode cX0_bringDown 7 = .ok (.ishl, 1) := by decide +kernel
theorem dX0_bringDown_8 : decode cX0_bringDown 8 = .ok (.iconst (-1), 1) := by decide +kernel
theorem dX0_bringDown_9 : decode cX0_bringDown 9 = .ok (.ixor, 1) := by decide +kernel
theorem dX0_bringDown_10 : decode cX0_bringDown 10 = .ok (.iand, 1) := by decide +kernel
theorem dX0_bringDown_11 : decode cX0_bringDown 11 = .ok (.putfield 49, 3) := by decide +kernel
theorem dX0_bringDown_14 : decode cX0_bringDown 14 = .ok (.iconst 0, 1) := by decide +kernel
theorem dX0_bringDown_15 : decode cX0_bringDown 15 = .ok (.istore_n 2, 1) := by decide +kernel
theorem dX0_bringDown_16 : decode cX0_bringDown 16 = .ok (.iload_n 2, 1) := by decide +kernel
theorem dX0_bringDown_17 : decode cX0_bringDown 17 = .ok (.iconst 3, 1) := by decide +kernel
theorem dX0_bringDown_18 : decode cX0_bringDown 18 = .ok (.if_icmp .ge 21, 3) := by decide +kernel
theorem dX0_bringDown_21 : decode cX0_bringDown 21 = .ok (.aload_n 0, 1) := by decide +kernel
theorem dX0_bringDown_22 : decode cX0_bringDown 22 = .ok (.getfield 20, 3) := by decide +kernel
theorem dX0_bringDown_25 : decode cX0_bringDown 25 = .ok (.iload_n 2, 1) := by decide +kernel
theorem dX0_bringDown_26 : decode cX0_bringDown 26 = .ok (.aaload, 1) := by decide +kernel
theorem dX0_bringDown_27 : decode cX0_bringDown 27 = .ok (.getfield 68, 3) := by decide +kernel
theorem dX0_bringDown_30 : decode cX0_bringDown 30 = .ok (.iload_n 1, 1) := by decide +kernel
theorem dX0_bringDown_31 : decode cX0_bringDown 31 = .ok (.iconst 0, 1) := by decide +kernel
theorem dX0_bringDown_32 : decode cX0_bringDown 32 = .ok (.iastore, 1) := by decide +kernel
theorem dX0_bringDown_33 : decode cX0_bringDown 33 = .ok (.iinc 2 1, 3) := by decide +kernel
theorem dX0_bringDown_36 : decode cX0_bringDown 36 = .ok (.goto (-20), 3) := by decide +kernel
theorem dX0_bringDown_39 : decode cX0_bringDown 39 = .ok (.return_, 1) := by decide +kernel
theorem dX0_bringUp_0 : decode cX0_bringUp 0 = .ok (.aload_n 0, 1) := by decide +kernel
theorem dX0_bringUp_1 : decode cX0_bringUp 1 = .ok (.dup, 1) := by decide +kernel
theorem dX0_bringUp_2 : decode cX0_bringUp 2 = .ok (.getfield 49, 3) := by decide +kernel
theorem dX0_bringUp_5 : decode cX0_bringUp 5 = .ok (.iconst 1, 1) := by decide +kernel
theorem dX0_bringUp_6 : decode cX0_bringUp 6 = .ok (.iload_n 1, 1) := by decide +kernel
theorem dX0_bringUp_7 : decode cX0_bringUp 7 = .ok (.ishl, 1) := by decide +kernel
theorem dX0_bringUp_8 : decode cX0_bringUp 8 = .ok (.ior, 1) := by decide +kernel
theorem dX0_bringUp_9 : decode cX0_bringUp 9 = .ok (.putfield 49, 3) := by decide +kernel
theorem dX0_bringUp_12 : decode cX0_bringUp 12 = .ok (.aload_n 0, 1) := by decide +kernel
theorem dX0_bringUp_13 : decode cX0_bringUp 13 = .ok (.getfield 9, 3) := by decide +kernel
theorem dX0_bringUp_16 : decode cX0_bringUp 16 = .ok (.iload_n 1, 1) := by decide +kernel
theorem dX0_bringUp_17 : decode cX0_bringUp 17 = .ok (.iload_n 2, 1) := by decide +kernel
theorem dX0_bringUp_18 : decode cX0_bringUp 18 = .ok (.iastore, 1) := by decide +kernel
theorem dX0_bringUp_19 : decode cX0_bringUp 19 = .ok (.return_, 1) := by decide +kernel
set_option maxRecDepth 20000 in
theorem ggX0_setCut_X6_contains : GoodIn wsX0_setCut wsX6_contains := goodIn_r _ [4] (by decide +kernel) (by decide +kernel)
set_option maxRecDepth 20000 in
theorem gX0_setCut_X6_contains_n64 : GoodIn wsX0_setCut (wsX6_contains) := ggX0_setCut_X6_contains
theorem dX0_setCut_0 : decode cX0_setCut 0 = .ok (.aload_n 0, 1) := by decide +kernel
theorem dX0_setCut_1 : decode cX0_setCut 1 = .ok (.getfield 15, 3) := by decide +kernel
theorem dX0_setCut_4 : decode cX0_setCut 4 = .ok (.iload_n 2, 1) := by decide +kernel
theorem dX0_setCut_5 : decode cX0_setCut 5 = .ok (.iaload, 1) := by decide +kernel
theorem dX0_setCut_6 : decode cX0_setCut 6 = .ok (.iload_n 1, 1) := by decide +kernel
theorem dX0_setCut_7 : decode cX0_setCut 7 = .ok (.invokestatic 64, 3) := by decide +kernel
theorem dX0_setCut_10 : decode cX0_setCut 10 = .ok (.istore 4, 2) := by decide +kernel
theorem dX0_setCut_12 : decode cX0_setCut 12 = .ok (.iload 4, 2) := by decide +kernel
theorem dX0_setCut_14 : decode cX0_setCut 14 = .ok (.iload_n 3, 1) := by decide +kernel
theorem dX0_setCut_15 : decode cX0_setCut 15 = .ok (.if_icmp .eq 15, 3) := by decide +kernel
theorem dX0_setCut_18 : decode cX0_setCut 18 = .ok (.aload_n 0, 1) := by decide +kernel
theorem dX0_setCut_19 : decode cX0_setCut 19 = .ok (.getfield 15, 3) := by decide +kernel
theorem dX0_setCut_22 : decode cX0_setCut 22 = .ok (.iload_n 2, 1) := by decide +kernel
theorem dX0_setCut_23 : decode cX0_setCut 23 = .ok (.dup2, 1) := by decide +kernel
theorem dX0_setCut_24 : decode cX0_setCut 24 = .ok (.iaload, 1) := by decide +kernel
theorem dX0_setCut_25 : decode cX0_setCut 25 = .ok (.iconst 1, 1) := by decide +kernel
theorem dX0_setCut_26 : decode cX0_setCut 26 = .ok (.iload_n 1, 1) := by decide +kernel
theorem dX0_setCut_27 : decode cX0_setCut 27 = .ok (.ishl, 1) := by decide +kernel
theorem dX0_setCut_28 : decode cX0_setCut 28 = .ok (.ixor, 1) := by decide +kernel
theorem dX0_setCut_29 : decode cX0_setCut 29 = .ok (.iastore, 1) := by decide +kernel
theorem dX0_setCut_30 : decode cX0_setCut 30 = .ok (.iload 4, 2) := by decide +kernel
theorem dX0_setCut_32 : decode cX0_setCut 32 = .ok (.ireturn, 1) := by decide +kernel
theorem dX0_towersNear_0 : decode cX0_towersNear 0 = .ok (.aload_n 0, 1) := by decide +kernel
theorem dX0_towersNear_1 : decode cX0_towersNear 1 = .ok (.getfield 49, 3) := by decide +kernel
theorem dX0_towersNear_4 : decode cX0_towersNear 4 = .ok (.aload_n 0, 1) := by decide +kernel
theorem dX0_towersNear_5 : decode cX0_towersNear 5 = .ok (.getfield 15, 3) := by decide +kernel
theorem dX0_towersNear_8 : decode cX0_towersNear 8 = .ok (.iload_n 1, 1) := by decide +kernel
theorem dX0_towersNear_9 : decode cX0_towersNear 9 = .ok (.iaload, 1) := by decide +kernel
theorem dX0_towersNear_10 : decode cX0_towersNear 10 = .ok (.iconst (-1), 1) := by decide +kernel
theorem dX0_towersNear_11 : decode cX0_towersNear 11 = .ok (.ixor, 1) := by decide +kernel
theorem dX0_towersNear_12 : decode cX0_towersNear 12 = .ok (.iand, 1) := by decide +kernel
theorem dX0_towersNear_13 : decode cX0_towersNear 13 = .ok (.ireturn, 1) := by decide +kernel
set_option maxRecDepth 20000 in
theorem ggX0_votersFor_X0_towersNear : GoodIn wsX0_votersFor wsX0_towersNear := goodIn_r _ [7, 8, 9, 26, 27, 28, 29, 30, 31, 32, 33, 34] (by decide +kernel) (by decide +kernel)
set_option maxRecDepth 20000 in
theorem gX0_votersFor_X0_towersNear : GoodIn wsX0_votersFor (wsV RX0 71 RX0 yX0_towersNear wsX0_towersNear) := goodIn_app (goodIn_of _ (by decide +kernel)) ggX0_votersFor_X0_towersNear
set_option maxRecDepth 20000 in
theorem ggX0_votersFor_X0_isWaiting : GoodIn wsX0_votersFor wsX0_isWaiting := goodIn_r _ [13, 14, 26, 27, 28, 29, 30, 31, 32, 33, 34] (by decide +kernel) (by decide +kernel)
set_option maxRecDepth 20000 in
theorem gX0_votersFor_X0_isWaiting : GoodIn wsX0_votersFor (wsV RX0 74 RX0 yX0_isWaiting wsX0_isWaiting) := goodIn_app (goodIn_of _ (by decide +kernel)) ggX0_votersFor_X0_isWaiting
set_option maxRecDepth 20000 in
theorem ggX0_votersFor_X1_isVoteOfAnother : GoodIn wsX0_votersFor wsX1_isVoteOfAnother := goodIn_r _ [19, 20, 21, 22, 23, 18, 24, 25, 35, 36, 37] (by decide +kernel) (by decide +kernel)
set_option maxRecDepth 20000 in
theorem gX0_votersFor_X1_isVoteOfAnother : GoodIn wsX0_votersFor (wsV RX0 77 RX1 yX1_isVoteOfAnother wsX1_isVoteOfAnother) := goodIn_app (goodIn_of _ (by decide +kernel)) ggX0_votersFor_X1_isVoteOfAnother
theorem dX0_votersFor_0 : decode cX0_votersFor 0 = .ok (.aload_n 0, 1) := by decide +kernel
theorem dX0_votersFor_1 : decode cX0_votersFor 1 = .ok (.iload_n 1, 1) := by decide +kernel
theorem dX0_votersFor_2 : decode cX0_votersFor 2 = .ok (.invokevirtual 71, 3) := by decide +kernel
theorem dX0_votersFor_5 : decode cX0_votersFor 5 = .ok (.istore 4, 2) := by decide +kernel
theorem dX0_votersFor_7 : decode cX0_votersFor 7 = .ok (.iconst 0, 1) := by decide +kernel
theorem dX0_votersFor_8 : decode cX0_votersFor 8 = .ok (.istore 5, 2) := by decide +kernel
theorem dX0_votersFor_10 : decode cX0_votersFor 10 = .ok (.iload 5, 2) := by decide +kernel
theorem dX0_votersFor_12 : decode cX0_votersFor 12 = .ok (.aload_n 0, 1) := by decide +kernel
theorem dX0_votersFor_13 : decode cX0_votersFor 13 = .ok (.getfield 39, 3) := by decide +kernel
theorem dX0_votersFor_16 : decode cX0_votersFor 16 = .ok (.if_icmp .ge 46, 3) := by decide +kernel
theorem dX0_votersFor_19 : decode cX0_votersFor 19 = .ok (.aload_n 0, 1) := by decide +kernel
theorem dX0_votersFor_20 : decode cX0_votersFor 20 = .ok (.iload 5, 2) := by decide +kernel
theorem dX0_votersFor_22 : decode cX0_votersFor 22 = .ok (.iload_n 3, 1) := by decide +kernel
theorem dX0_votersFor_23 : decode cX0_votersFor 23 = .ok (.invokevirtual 74, 3) := by decide +kernel
theorem dX0_votersFor_26 : decode cX0_votersFor 26 = .ok (.ifCond .ne 19, 3) := by decide +kernel
theorem dX0_votersFor_29 : decode cX0_votersFor 29 = .ok (.aload_n 0, 1) := by decide +kernel
theorem dX0_votersFor_30 : decode cX0_votersFor 30 = .ok (.getfield 20, 3) := by decide +kernel
theorem dX0_votersFor_33 : decode cX0_votersFor 33 = .ok (.iload_n 2, 1) := by decide +kernel
theorem dX0_votersFor_34 : decode cX0_votersFor 34 = .ok (.aaload, 1) := by decide +kernel
theorem dX0_votersFor_35 : decode cX0_votersFor 35 = .ok (.iload 5, 2) := by decide +kernel
theorem dX0_votersFor_37 : decode cX0_votersFor 37 = .ok (.iload_n 1, 1) := by decide +kernel
theorem dX0_votersFor_38 : decode cX0_votersFor 38 = .ok (.iload_n 3, 1) := by decide +kernel
theorem dX0_votersFor_39 : decode cX0_votersFor 39 = .ok (.invokevirtual 77, 3) := by decide +kernel
theorem dX0_votersFor_42 : decode cX0_votersFor 42 = .ok (.ifCond .eq 14, 3) := by decide +kernel
theorem dX0_votersFor_45 : decode cX0_votersFor 45 = .ok (.iload 4, 2) := by decide +kernel
theorem dX0_votersFor_47 : decode cX0_votersFor 47 = .ok (.iconst 1, 1) := by decide +kernel
theorem dX0_votersFor_48 : decode cX0_votersFor 48 = .ok (.iload 5, 2) := by decide +kernel
theorem dX0_votersFor_50 : decode cX0_votersFor 50 = .ok (.ishl, 1) := by decide +kernel
theorem dX0_votersFor_51 : decode cX0_votersFor 51 = .ok (.iconst (-1), 1) := by decide +kernel
theorem dX0_votersFor_52 : decode cX0_votersFor 52 = .ok (.ixor, 1) := by decide +kernel
theorem dX0_votersFor_53 : decode cX0_votersFor 53 = .ok (.iand, 1) := by decide +kernel
theorem dX0_votersFor_54 : decode cX0_votersFor 54 = .ok (.istore 4, 2) := by decide +kernel
theorem dX0_votersFor_56 : decode cX0_votersFor 56 = .ok (.iinc 5 1, 3) := by decide +kernel
theorem dX0_votersFor_59 : decode cX0_votersFor 59 = .ok (.goto (-49), 3) := by decide +kernel
theorem dX0_votersFor_62 : decode cX0_votersFor 62 = .ok (.iload 4, 2) := by decide +kernel
theorem dX0_votersFor_64 : decode cX0_votersFor 64 = .ok (.ireturn, 1) := by decide +kernel
set_option maxRecDepth 20000 in
theorem ggX0_writeEntry_X3_append : GoodIn wsX0_writeEntry wsX3_append := goodIn_r _ [7, 8, 9, 10, 11, 12, 41, 42, 43, 44, 45, 46, 47] (by decide +kernel) (by decide +kernel)
set_option maxRecDepth 20000 in
theorem gX0_writeEntry_X3_append : GoodIn wsX0_writeEntry (wsV RX0 81 RX3 yX3_append wsX3_append) := goodIn_app (goodIn_of _ (by decide +kernel)) ggX0_writeEntry_X3_append
set_option maxRecDepth 20000 in
theorem ggX0_writeEntry_X0_spreadEntry : GoodIn wsX0_writeEntry wsX0_spreadEntry := goodIn_r _ [17, 1, 18, 19, 20, 21, 22, 23, 24, 25, 26, 27, 28, 29, 16, 30, 31, 32, 33, 34, 35, 36, 37, 38, 39, 40, 41, 42, 43, 44, 45, 46, 47] (by decide +kernel) (by decide +kernel)
set_option maxRecDepth 20000 in
theorem gX0_writeEntry_X0_spreadEntry : GoodIn wsX0_writeEntry (wsV RX0 88 RX0 yX0_spreadEntry wsX0_spreadEntry) := goodIn_app (goodIn_of _ (by decide +kernel)) ggX0_writeEntry_X0_spreadEntry
theorem dX0_writeEntry_0 : decode cX0_writeEntry 0 = .ok (.aload_n 0, 1) := by decide +kernel
theorem dX0_writeEntry_1 : decode cX0_writeEntry 1 = .ok (.getfield 27, 3) := by decide +kernel
theorem dX0_writeEntry_4 : decode cX0_writeEntry 4 = .ok (.iload_n 1, 1) := by decide +kernel
theorem dX0_writeEntry_5 : decode cX0_writeEntry 5 = .ok (.iload_n 2, 1) := by decide +kernel
theorem dX0_writeEntry_6 : decode cX0_writeEntry 6 = .ok (.invokevirtual 81, 3) := by decide +kernel
theorem dX0_writeEntry_9 : decode cX0_writeEntry 9 = .ok (.istore 5, 2) := by decide +kernel
theorem dX0_writeEntry_11 : decode cX0_writeEntry 11 = .ok (.aload_n 0, 1) := by decide +kernel
theorem dX0_writeEntry_12 : decode cX0_writeEntry 12 = .ok (.getfield 27, 3) := by decide +kernel
theorem dX0_writeEntry_15 : decode cX0_writeEntry 15 = .ok (.getfield 85, 3) := by decide +kernel
theorem dX0_writeEntry_18 : decode cX0_writeEntry 18 = .ok (.iload 5, 2) := by decide +kernel
theorem dX0_writeEntry_20 : decode cX0_writeEntry 20 = .ok (.iload_n 3, 1) := by decide +kernel
theorem dX0_writeEntry_21 : decode cX0_writeEntry 21 = .ok (.iastore, 1) := by decide +kernel
theorem dX0_writeEntry_22 : decode cX0_writeEntry 22 = .ok (.aload_n 0, 1) := by decide +kernel
theorem dX0_writeEntry_23 : decode cX0_writeEntry 23 = .ok (.iload 5, 2) := by decide +kernel
theorem dX0_writeEntry_25 : decode cX0_writeEntry 25 = .ok (.iload 4, 2) := by decide +kernel
theorem dX0_writeEntry_27 : decode cX0_writeEntry 27 = .ok (.invokevirtual 88, 3) := by decide +kernel
theorem dX0_writeEntry_30 : decode cX0_writeEntry 30 = .ok (.pop, 1) := by decide +kernel
theorem dX0_writeEntry_31 : decode cX0_writeEntry 31 = .ok (.iload 5, 2) := by decide +kernel
theorem dX0_writeEntry_33 : decode cX0_writeEntry 33 = .ok (.ireturn, 1) := by decide +kernel
set_option maxRecDepth 20000 in
theorem ggX0_writeTruceEntry_X3_append : GoodIn wsX0_writeTruceEntry wsX3_append := goodIn_r _ [7, 8, 9, 10, 11, 12, 41, 42, 43, 44, 45, 46, 47] (by decide +kernel) (by decide +kernel)
set_option maxRecDepth 20000 in
theorem gX0_writeTruceEntry_X3_append : GoodIn wsX0_writeTruceEntry (wsV RX0 81 RX3 yX3_append wsX3_append) := goodIn_app (goodIn_of _ (by decide +kernel)) ggX0_writeTruceEntry_X3_append
set_option maxRecDepth 20000 in
theorem ggX0_writeTruceEntry_X0_spreadEntry : GoodIn wsX0_writeTruceEntry wsX0_spreadEntry := goodIn_r _ [17, 1, 18, 19, 20, 21, 22, 23, 24, 25, 26, 27, 28, 29, 16, 30, 31, 32, 33, 34, 35, 36, 37, 38, 39, 40, 41, 42, 43, 44, 45, 46, 47] (by decide +kernel) (by decide +kernel)
set_option maxRecDepth 20000 in
theorem gX0_writeTruceEntry_X0_spreadEntry : GoodIn wsX0_writeTruceEntry (wsV RX0 88 RX0 yX0_spreadEntry wsX0_spreadEntry) := goodIn_app (goodIn_of _ (by decide +kernel)) ggX0_writeTruceEntry_X0_spreadEntry
theorem dX0_writeTruceEntry_0 : decode cX0_writeTruceEntry 0 = .ok (.aload_n 0, 1) := by decide +kernel
theorem dX0_writeTruceEntry_1 : decode cX0_writeTruceEntry 1 = .ok (.getfield 27, 3) := by decide +kernel
theorem dX0_writeTruceEntry_4 : decode cX0_writeTruceEntry 4 = .ok (.iload_n 1, 1) := by decide +kernel
theorem dX0_writeTruceEntry_5 : decode cX0_writeTruceEntry 5 = .ok (.iload_n 2, 1) := by decide +kernel
theorem dX0_writeTruceEntry_6 : decode cX0_writeTruceEntry 6 = .ok (.invokevirtual 81, 3) := by decide +kernel
theorem dX0_writeTruceEntry_9 : decode cX0_writeTruceEntry 9 = .ok (.istore 5, 2) := by decide +kernel
theorem dX0_writeTruceEntry_11 : decode cX0_writeTruceEntry 11 = .ok (.aload_n 0, 1) := by decide +kernel
theorem dX0_writeTruceEntry_12 : decode cX0_writeTruceEntry 12 = .ok (.getfield 27, 3) := by decide +kernel
theorem dX0_writeTruceEntry_15 : decode cX0_writeTruceEntry 15 = .ok (.getfield 92, 3) := by decide +kernel
theorem dX0_writeTruceEntry_18 : decode cX0_writeTruceEntry 18 = .ok (.iload 5, 2) := by decide +kernel
theorem dX0_writeTruceEntry_20 : decode cX0_writeTruceEntry 20 = .ok (.iload_n 3, 1) := by decide +kernel
theorem dX0_writeTruceEntry_21 : decode cX0_writeTruceEntry 21 = .ok (.bastore, 1) := by decide +kernel
theorem dX0_writeTruceEntry_22 : decode cX0_writeTruceEntry 22 = .ok (.aload_n 0, 1) := by decide +kernel
theorem dX0_writeTruceEntry_23 : decode cX0_writeTruceEntry 23 = .ok (.iload 5, 2) := by decide +kernel
theorem dX0_writeTruceEntry_25 : decode cX0_writeTruceEntry 25 = .ok (.iload 4, 2) := by decide +kernel
theorem dX0_writeTruceEntry_27 : decode cX0_writeTruceEntry 27 = .ok (.invokevirtual 88, 3) := by decide +kernel
theorem dX0_writeTruceEntry_30 : decode cX0_writeTruceEntry 30 = .ok (.pop, 1) := by decide +kernel
theorem dX0_writeTruceEntry_31 : decode cX0_writeTruceEntry 31 = .ok (.iload 5, 2) := by decide +kernel
theorem dX0_writeTruceEntry_33 : decode cX0_writeTruceEntry 33 = .ok (.ireturn, 1) := by decide +kernel
set_option maxRecDepth 20000 in
theorem ggX0_spreadEntries_X0_spreadEntry : GoodIn wsX0_spreadEntries wsX0_spreadEntry := goodIn_r _ [9, 1, 3, 10, 11, 12, 13, 14, 15, 16, 17, 18, 19, 20, 8, 21, 22, 23, 24, 25, 26, 27, 28, 29, 30, 31, 32, 33, 34, 35, 36, 37, 38] (by decide +kernel) (by decide +kernel)
set_option maxRecDepth 20000 in
theorem gX0_spreadEntries_X0_spreadEntry : GoodIn wsX0_spreadEntries (wsV RX0 88 RX0 yX0_spreadEntry wsX0_spreadEntry) := goodIn_app (goodIn_of _ (by decide +kernel)) ggX0_spreadEntries_X0_spreadEntry
theorem dX0_spreadEntries_0 : decode cX0_spreadEntries 0 = .ok (.iconst 0, 1) := by decide +kernel
theorem dX0_spreadEntries_1 : decode cX0_spreadEntries 1 = .ok (.istore_n 1, 1) := by decide +kernel
theorem dX0_spreadEntries_2 : decode cX0_spreadEntries 2 = .ok (.iconst 0, 1) := by decide +kernel
theorem dX0_spreadEntries_3 : decode cX0_spreadEntries 3 = .ok (.istore_n 2, 1) := by decide +kernel
theorem dX0_spreadEntries_4 : decode cX0_spreadEntries 4 = .ok (.iload_n 2, 1) := by decide +kernel
theorem dX0_spreadEntries_5 : decode cX0_spreadEntries 5 = .ok (.aload_n 0, 1) := by decide +kernel
theorem dX0_spreadEntries_6 : decode cX0_spreadEntries 6 = .ok (.getfield 27, 3) := by decide +kernel
theorem dX0_spreadEntries_9 : decode cX0_spreadEntries 9 = .ok (.getfield 55, 3) := by decide +kernel
theorem dX0_spreadEntries_12 : decode cX0_spreadEntries 12 = .ok (.if_icmp .ge 38, 3) := by decide +kernel
theorem dX0_spreadEntries_15 : decode cX0_spreadEntries 15 = .ok (.aload_n 0, 1) := by decide +kernel
theorem dX0_spreadEntries_16 : decode cX0_spreadEntries 16 = .ok (.getfield 27, 3) := by decide +kernel
theorem dX0_spreadEntries_19 : decode cX0_spreadEntries 19 = .ok (.getfield 96, 3) := by decide +kernel
theorem dX0_spreadEntries_22 : decode cX0_spreadEntries 22 = .ok (.iload_n 2, 1) := by decide +kernel
theorem dX0_spreadEntries_23 : decode cX0_spreadEntries 23 = .ok (.iaload, 1) := by decide +kernel
theorem dX0_spreadEntries_24 : decode cX0_spreadEntries 24 = .ok (.aload_n 0, 1) := by decide +kernel
theorem dX0_spreadEntries_25 : decode cX0_spreadEntries 25 = .ok (.getfield 49, 3) := by decide +kernel
theorem dX0_spreadEntries_28 : decode cX0_spreadEntries 28 = .ok (.iand, 1) := by decide +kernel
theorem dX0_spreadEntries_29 : decode cX0_spreadEntries 29 = .ok (.ifCond .eq 15, 3) := by decide +kernel
theorem dX0_spreadEntries_32 : decode cX0_spreadEntries 32 = .ok (.iload_n 1, 1) := by decide +kernel
theorem dX0_spreadEntries_33 : decode cX0_spreadEntries 33 = .ok (.aload_n 0, 1) := by decide +kernel
theorem dX0_spreadEntries_34 : decode cX0_spreadEntries 34 = .ok (.iload_n 2, 1) := by decide +kernel
theorem dX0_spreadEntries_35 : decode cX0_spreadEntries 35 = .ok (.aload_n 0, 1) := by decide +kernel
theorem dX0_spreadEntries_36 : decode cX0_spreadEntries 36 = .ok (.getfield 49, 3) := by decide +kernel
theorem dX0_spreadEntries_39 : decode cX0_spreadEntries 39 = .ok (.invokevirtual 88, 3) := by decide +kernel
theorem dX0_spreadEntries_42 : decode cX0_spreadEntries 42 = .ok (.iadd, 1) := by decide +kernel
theorem dX0_spreadEntries_43 : decode cX0_spreadEntries 43 = .ok (.istore_n 1, 1) := by decide +kernel
theorem dX0_spreadEntries_44 : decode cX0_spreadEntries 44 = .ok (.iinc 2 1, 3) := by decide +kernel
theorem dX0_spreadEntries_47 : decode cX0_spreadEntries 47 = .ok (.goto (-43), 3) := by decide +kernel
theorem dX0_spreadEntries_50 : decode cX0_spreadEntries 50 = .ok (.iload_n 1, 1) := by decide +kernel
theorem dX0_spreadEntries_51 : decode cX0_spreadEntries 51 = .ok (.ireturn, 1) := by decide +kernel
set_option maxRecDepth 20000 in
theorem ggX0_spreadEntry_J6_bitCount_0f7a4 : GoodIn wsX0_spreadEntry wsJ6_bitCount_0f7a4 := goodIn_r _ [7, 8, 9, 10] (by decide +kernel) (by decide +kernel)
set_option maxRecDepth 20000 in
theorem gX0_spreadEntry_J6_bitCount_0f7a4 : GoodIn wsX0_spreadEntry (va_wsS RX0 58 yJ6_bitCount_0f7a4 wsJ6_bitCount_0f7a4) := goodIn_app (goodIn_of _ (by decide +kernel)) ggX0_spreadEntry_J6_bitCount_0f7a4
set_option maxRecDepth 20000 in
theorem ggX0_spreadEntry_X0_isQuorum : GoodIn wsX0_spreadEntry wsX0_isQuorum := goodIn_r _ [15, 16, 4, 5, 6, 7, 8, 9, 10, 17, 18, 19, 20, 21, 22, 23, 24, 25] (by decide +kernel) (by decide +kernel)
set_option maxRecDepth 20000 in
theorem gX0_spreadEntry_X0_isQuorum : GoodIn wsX0_spreadEntry (wsV RX0 99 RX0 yX0_isQuorum wsX0_isQuorum) := goodIn_app (goodIn_of _ (by decide +kernel)) ggX0_spreadEntry_X0_isQuorum
theorem dX0_spreadEntry_0 : decode cX0_spreadEntry 0 = .ok (.iload_n 2, 1) := by decide +kernel
theorem dX0_spreadEntry_1 : decode cX0_spreadEntry 1 = .ok (.aload_n 0, 1) := by decide +kernel
theorem dX0_spreadEntry_2 : decode cX0_spreadEntry 2 = .ok (.getfield 27, 3) := by decide +kernel
theorem dX0_spreadEntry_5 : decode cX0_spreadEntry 5 = .ok (.getfield 96, 3) := by decide +kernel
theorem dX0_spreadEntry_8 : decode cX0_spreadEntry 8 = .ok (.iload_n 1, 1) := by decide +kernel
theorem dX0_spreadEntry_9 : decode cX0_spreadEntry 9 = .ok (.iaload, 1) := by decide +kernel
theorem dX0_spreadEntry_10 : decode cX0_spreadEntry 10 = .ok (.iconst (-1), 1) := by decide +kernel
theorem dX0_spreadEntry_11 : decode cX0_spreadEntry 11 = .ok (.ixor, 1) := by decide +kernel
theorem dX0_spreadEntry_12 : decode cX0_spreadEntry 12 = .ok (.iand, 1) := by decide +kernel
theorem dX0_spreadEntry_13 : decode cX0_spreadEntry 13 = .ok (.invokestatic 58, 3) := by decide +kernel
theorem dX0_spreadEntry_16 : decode cX0_spreadEntry 16 = .ok (.istore_n 3, 1) := by decide +kernel
theorem dX0_spreadEntry_17 : decode cX0_spreadEntry 17 = .ok (.aload_n 0, 1) := by decide +kernel
theorem dX0_spreadEntry_18 : decode cX0_spreadEntry 18 = .ok (.getfield 27, 3) := by decide +kernel
theorem dX0_spreadEntry_21 : decode cX0_spreadEntry 21 = .ok (.getfield 96, 3) := by decide +kernel
theorem dX0_spreadEntry_24 : decode cX0_spreadEntry 24 = .ok (.iload_n 1, 1) := by decide +kernel
theorem dX0_spreadEntry_25 : decode cX0_spreadEntry 25 = .ok (.dup2, 1) := by decide +kernel
theorem dX0_spreadEntry_26 : decode cX0_spreadEntry 26 = .ok (.iaload, 1) := by decide +kernel
theorem dX0_spreadEntry_27 : decode cX0_spreadEntry 27 = .ok (.iload_n 2, 1) := by decide +kernel
theorem dX0_spreadEntry_28 : decode cX0_spreadEntry 28 = .ok (.ior, 1) := by decide +kernel
theorem dX0_spreadEntry_29 : decode cX0_spreadEntry 29 = .ok (.iastore, 1) := by decide +kernel
theorem dX0_spreadEntry_30 : decode cX0_spreadEntry 30 = .ok (.aload_n 0, 1) := by decide +kernel
theorem dX0_spreadEntry_31 : decode cX0_spreadEntry 31 = .ok (.aload_n 0, 1) := by decide +kernel
theorem dX0_spreadEntry_32 : decode cX0_spreadEntry 32 = .ok (.getfield 27, 3) := by decide +kernel
theorem dX0_spreadEntry_35 : decode cX0_spreadEntry 35 = .ok (.getfield 96, 3) := by decide +kernel
theorem dX0_spreadEntry_38 : decode cX0_spreadEntry 38 = .ok (.iload_n 1, 1) := by decide +kernel
theorem dX0_spreadEntry_39 : decode cX0_spreadEntry 39 = .ok (.iaload, 1) := by decide +kernel
theorem dX0_spreadEntry_40 : decode cX0_spreadEntry 40 = .ok (.invokevirtual 99, 3) := by decide +kernel
theorem dX0_spreadEntry_43 : decode cX0_spreadEntry 43 = .ok (.ifCond .eq 13, 3) := by decide +kernel
theorem dX0_spreadEntry_46 : decode cX0_spreadEntry 46 = .ok (.aload_n 0, 1) := by decide +kernel
theorem dX0_spreadEntry_47 : decode cX0_spreadEntry 47 = .ok (.getfield 27, 3) := by decide +kernel
theorem dX0_spreadEntry_50 : decode cX0_spreadEntry 50 = .ok (.getfield 103, 3) := by decide +kernel
theorem dX0_spreadEntry_53 : decode cX0_spreadEntry 53 = .ok (.iload_n 1, 1) := by decide +kernel
theorem dX0_spreadEntry_54 : decode cX0_spreadEntry 54 = .ok (.iconst 1, 1) := by decide +kernel
theorem dX0_spreadEntry_55 : decode cX0_spreadEntry 55 = .ok (.bastore, 1) := by decide +kernel
theorem dX0_spreadEntry_56 : decode cX0_spreadEntry 56 = .ok (.iload_n 3, 1) := by decide +kernel
theorem dX0_spreadEntry_57 : decode cX0_spreadEntry 57 = .ok (.ireturn, 1) := by decide +kernel
set_option maxRecDepth 20000 in
theorem ggX0_tellLedger_X2_tell : GoodIn wsX0_tellLedger wsX2_tell := goodIn_r _ [8, 9, 10, 11, 12, 13, 14, 15, 16, 17, 18, 19, 20, 21, 22, 23, 24, 25, 26, 7, 27, 28, 29, 30, 31, 32, 33, 34, 35, 45, 46, 47, 48, 49, 50, 51, 52, 53, 54] (by decide +kernel) (by decide +kernel)
set_option maxRecDepth 20000 in
theorem gX0_tellLedger_X2_tell : GoodIn wsX0_tellLedger (wsV RX0 106 RX2 yX2_tell wsX2_tell) := goodIn_app (goodIn_of _ (by decide +kernel)) ggX0_tellLedger_X2_tell
theorem dX0_tellLedger_0 : decode cX0_tellLedger 0 = .ok (.aload_n 0, 1) := by decide +kernel
theorem dX0_tellLedger_1 : decode cX0_tellLedger 1 = .ok (.getfield 34, 3) := by decide +kernel
theorem dX0_tellLedger_4 : decode cX0_tellLedger 4 = .ok (.aload_n 0, 1) := by decide +kernel
theorem dX0_tellLedger_5 : decode cX0_tellLedger 5 = .ok (.getfield 27, 3) := by decide +kernel
theorem dX0_tellLedger_8 : decode cX0_tellLedger 8 = .ok (.aload_n 0, 1) := by decide +kernel
theorem dX0_tellLedger_9 : decode cX0_tellLedger 9 = .ok (.getfield 43, 3) := by decide +kernel
theorem dX0_tellLedger_12 : decode cX0_tellLedger 12 = .ok (.invokevirtual 106, 3) := by decide +kernel
theorem dX0_tellLedger_15 : decode cX0_tellLedger 15 = .ok (.aload_n 0, 1) := by decide +kernel
theorem dX0_tellLedger_16 : decode cX0_tellLedger 16 = .ok (.getfield 34, 3) := by decide +kernel
theorem dX0_tellLedger_19 : decode cX0_tellLedger 19 = .ok (.areturn, 1) := by decide +kernel
set_option maxRecDepth 20000 in
theorem ggX0_addTo_X0_tellLedger : GoodIn wsX0_addTo wsX0_tellLedger := goodIn_r _ [9, 2, 10, 11, 12, 13, 14, 15, 16, 17, 18, 19, 20, 21, 22, 23, 24, 25, 26, 27, 28, 29, 30, 31, 32, 33, 34, 35, 36, 37, 38, 39, 40, 41, 42, 43, 44, 45, 46, 47, 48, 49, 50, 51, 52, 53, 54, 55, 56, 57, 58, 59, 60, 61, 62] (by decide +kernel) (by decide +kernel)
set_option maxRecDepth 20000 in
theorem gX0_addTo_X0_tellLedger : GoodIn wsX0_addTo (wsV RX0 110 RX0 yX0_tellLedger wsX0_tellLedger) := goodIn_app (goodIn_of _ (by decide +kernel)) ggX0_addTo_X0_tellLedger
theorem dX0_addTo_0 : decode cX0_addTo 0 = .ok (.aload_n 0, 1) := by decide +kernel
theorem dX0_addTo_1 : decode cX0_addTo 1 = .ok (.invokevirtual 110, 3) := by decide +kernel
theorem dX0_addTo_4 : decode cX0_addTo 4 = .ok (.pop, 1) := by decide +kernel
theorem dX0_addTo_5 : decode cX0_addTo 5 = .ok (.ldc2_w 114, 3) := by decide +kernel
theorem dX0_addTo_8 : decode cX0_addTo 8 = .ok (.lload_n 1, 1) := by decide +kernel
theorem dX0_addTo_9 : decode cX0_addTo 9 = .ok (.lmul, 1) := by decide +kernel
theorem dX0_addTo_10 : decode cX0_addTo 10 = .ok (.aload_n 0, 1) := by decide +kernel
theorem dX0_addTo_11 : decode cX0_addTo 11 = .ok (.getfield 34, 3) := by decide +kernel
theorem dX0_addTo_14 : decode cX0_addTo 14 = .ok (.getfield 116, 3) := by decide +kernel
theorem dX0_addTo_17 : decode cX0_addTo 17 = .ok (.i2l, 1) := by decide +kernel
theorem dX0_addTo_18 : decode cX0_addTo 18 = .ok (.ladd, 1) := by decide +kernel
theorem dX0_addTo_19 : decode cX0_addTo 19 = .ok (.lstore_n 3, 1) := by decide +kernel
theorem dX0_addTo_20 : decode cX0_addTo 20 = .ok (.iconst 0, 1) := by decide +kernel
theorem dX0_addTo_21 : decode cX0_addTo 21 = .ok (.istore 5, 2) := by decide +kernel
theorem dX0_addTo_23 : decode cX0_addTo 23 = .ok (.iload 5, 2) := by decide +kernel
theorem dX0_addTo_25 : decode cX0_addTo 25 = .ok (.iconst 4, 1) := by decide +kernel
theorem dX0_addTo_26 : decode cX0_addTo 26 = .ok (.if_icmp .ge 27, 3) := by decide +kernel
theorem dX0_addTo_29 : decode cX0_addTo 29 = .ok (.ldc2_w 114, 3) := by decide +kernel
theorem dX0_addTo_32 : decode cX0_addTo 32 = .ok (.lload_n 3, 1) := by decide +kernel
theorem dX0_addTo_33 : decode cX0_addTo 33 = .ok (.lmul, 1) := by decide +kernel
theorem dX0_addTo_34 : decode cX0_addTo 34 = .ok (.aload_n 0, 1) := by decide +kernel
theorem dX0_addTo_35 : decode cX0_addTo 35 = .ok (.getfield 34, 3) := by decide +kernel
theorem dX0_addTo_38 : decode cX0_addTo 38 = .ok (.getfield 119, 3) := by decide +kernel
theorem dX0_addTo_41 : decode cX0_addTo 41 = .ok (.iload 5, 2) := by decide +kernel
theorem dX0_addTo_43 : decode cX0_addTo 43 = .ok (.iaload, 1) := by decide +kernel
theorem dX0_addTo_44 : decode cX0_addTo 44 = .ok (.i2l, 1) := by decide +kernel
theorem dX0_addTo_45 : decode cX0_addTo 45 = .ok (.ladd, 1) := by decide +kernel
theorem dX0_addTo_46 : decode cX0_addTo 46 = .ok (.lstore_n 3, 1) := by decide +kernel
theorem dX0_addTo_47 : decode cX0_addTo 47 = .ok (.iinc 5 1, 3) := by decide +kernel
theorem dX0_addTo_50 : decode cX0_addTo 50 = .ok (.goto (-27), 3) := by decide +kernel
theorem dX0_addTo_53 : decode cX0_addTo 53 = .ok (.lload_n 3, 1) := by decide +kernel
theorem dX0_addTo_54 : decode cX0_addTo 54 = .ok (.lreturn, 1) := by decide +kernel
set_option maxRecDepth 20000 in
theorem ggX0_isSoundAt_X1_openCount : GoodIn wsX0_isSoundAt wsX1_openCount := goodIn_r _ [9, 10, 11, 12, 8, 13, 14, 76, 77, 78] (by decide +kernel) (by decide +kernel)
set_option maxRecDepth 20000 in
theorem gX0_isSoundAt_X1_openCount : GoodIn wsX0_isSoundAt (wsV RX0 122 RX1 yX1_openCount wsX1_openCount) := goodIn_app (goodIn_of _ (by decide +kernel)) ggX0_isSoundAt_X1_openCount
set_option maxRecDepth 20000 in
theorem ggX0_isSoundAt_X0_tellLedger : GoodIn wsX0_isSoundAt wsX0_tellLedger := goodIn_r _ [19, 2, 4, 3, 20, 21, 22, 23, 24, 25, 26, 27, 28, 29, 30, 31, 32, 33, 34, 35, 36, 37, 38, 39, 40, 41, 42, 43, 44, 45, 46, 47, 48, 49, 50, 51, 67, 68, 69, 70, 71, 72, 73, 74, 75, 79, 80, 81, 82, 83, 84, 85, 86, 87, 88] (by decide +kernel) (by decide +kernel)
set_option maxRecDepth 20000 in
theorem gX0_isSoundAt_X0_tellLedger : GoodIn wsX0_isSoundAt (wsV RX0 110 RX0 yX0_tellLedger wsX0_tellLedger) := goodIn_app (goodIn_of _ (by decide +kernel)) ggX0_isSoundAt_X0_tellLedger
set_option maxRecDepth 20000 in
theorem ggX0_isSoundAt_X2_isInBounds : GoodIn wsX0_isSoundAt wsX2_isInBounds := goodIn_r _ [55, 27, 26, 25, 79, 80, 81] (by decide +kernel) (by decide +kernel)
set_option maxRecDepth 20000 in
theorem gX0_isSoundAt_X2_isInBounds : GoodIn wsX0_isSoundAt (wsV RX0 125 RX2 yX2_isInBounds wsX2_isInBounds) := goodIn_app (goodIn_of _ (by decide +kernel)) ggX0_isSoundAt_X2_isInBounds
set_option maxRecDepth 20000 in
theorem ggX0_isSoundAt_X2_sum : GoodIn wsX0_isSoundAt wsX2_sum := goodIn_r _ [59, 25, 27, 79, 80, 81] (by decide +kernel) (by decide +kernel)
set_option maxRecDepth 20000 in
theorem gX0_isSoundAt_X2_sum : GoodIn wsX0_isSoundAt (wsV RX0 129 RX2 yX2_sum wsX2_sum) := goodIn_app (goodIn_of _ (by decide +kernel)) ggX0_isSoundAt_X2_sum
set_option maxRecDepth 20000 in
theorem ggX0_isSoundAt_X3_movedByTruces : GoodIn wsX0_isSoundAt wsX3_movedByTruces := goodIn_r _ [63, 39, 64, 65, 66, 33, 34, 35, 36, 37, 38, 82, 83, 84, 85, 86, 87, 88] (by decide +kernel) (by decide +kernel)
set_option maxRecDepth 20000 in
theorem gX0_isSoundAt_X3_movedByTruces : GoodIn wsX0_isSoundAt (wsV RX0 133 RX3 yX3_movedByTruces wsX3_movedByTruces) := goodIn_app (goodIn_of _ (by decide +kernel)) ggX0_isSoundAt_X3_movedByTruces
theorem dX0_isSoundAt_0 : decode cX0_isSoundAt 0 = .ok (.iconst 0, 1) := by decide +kernel
theorem dX0_isSoundAt_1 : decode cX0_isSoundAt 1 = .ok (.istore_n 2, 1) := by decide +kernel
theorem dX0_isSoundAt_2 : decode cX0_isSoundAt 2 = .ok (.iload_n 2, 1) := by decide +kernel
theorem dX0_isSoundAt_3 : decode cX0_isSoundAt 3 = .ok (.iconst 3, 1) := by decide +kernel
theorem dX0_isSoundAt_4 : decode cX0_isSoundAt 4 = .ok (.if_icmp .ge 25, 3) := by decide +kernel
theorem dX0_isSoundAt_7 : decode cX0_isSoundAt 7 = .ok (.aload_n 0, 1) := by decide +kernel
theorem dX0_isSoundAt_8 : decode cX0_isSoundAt 8 = .ok (.getfield 20, 3) := by decide +kernel
theorem dX0_isSoundAt_11 : decode cX0_isSoundAt 11 = .ok (.iload_n 2, 1) := by decide +kernel
theorem dX0_isSoundAt_12 : decode cX0_isSoundAt 12 = .ok (.aaload, 1) := by decide +kernel
theorem dX0_isSoundAt_13 : decode cX0_isSoundAt 13 = .ok (.iload_n 1, 1) := by decide +kernel
theorem dX0_isSoundAt_14 : decode cX0_isSoundAt 14 = .ok (.invokevirtual 122, 3) := by decide +kernel
theorem dX0_isSoundAt_17 : decode cX0_isSoundAt 17 = .ok (.iconst 1, 1) := by decide +kernel
theorem dX0_isSoundAt_18 : decode cX0_isSoundAt 18 = .ok (.if_icmp .le 5, 3) := by decide +kernel
theorem dX0_isSoundAt_21 : decode cX0_isSoundAt 21 = .ok (.iconst 0, 1) := by decide +kernel
theorem dX0_isSoundAt_22 : decode cX0_isSoundAt 22 = .ok (.ireturn, 1) := by decide +kernel
theorem dX0_isSoundAt_23 : decode cX0_isSoundAt 23 = .ok (.iinc 2 1, 3) := by decide +kernel
theorem dX0_isSoundAt_26 : decode cX0_isSoundAt 26 = .ok (.goto (-24), 3) := by decide +kernel
theorem dX0_isSoundAt_29 : decode cX0_isSoundAt 29 = .ok (.aload_n 0, 1) := by decide +kernel
theorem dX0_isSoundAt_30 : decode cX0_isSoundAt 30 = .ok (.invokevirtual 110, 3) := by decide +kernel
theorem dX0_isSoundAt_33 : decode cX0_isSoundAt 33 = .ok (.pop, 1) := by decide +kernel
theorem dX0_isSoundAt_34 : decode cX0_isSoundAt 34 = .ok (.aload_n 0, 1) := by decide +kernel
theorem dX0_isSoundAt_35 : decode cX0_isSoundAt 35 = .ok (.getfield 34, 3) := by decide +kernel
theorem dX0_isSoundAt_38 : decode cX0_isSoundAt 38 = .ok (.invokevirtual 125, 3) := by decide +kernel
theorem dX0_isSoundAt_41 : decode cX0_isSoundAt 41 = .ok (.ifCond .eq 29, 3) := by decide +kernel
theorem dX0_isSoundAt_44 : decode cX0_isSoundAt 44 = .ok (.aload_n 0, 1) := by decide +kernel
theorem dX0_isSoundAt_45 : decode cX0_isSoundAt 45 = .ok (.getfield 34, 3) := by decide +kernel
theorem dX0_isSoundAt_48 : decode cX0_isSoundAt 48 = .ok (.invokevirtual 129, 3) := by decide +kernel
theorem dX0_isSoundAt_51 : decode cX0_isSoundAt 51 = .ok (.aload_n 0, 1) := by decide +kernel
theorem dX0_isSoundAt_52 : decode cX0_isSoundAt 52 = .ok (.getfield 43, 3) := by decide +kernel
theorem dX0_isSoundAt_55 : decode cX0_isSoundAt 55 = .ok (.aload_n 0, 1) := by decide +kernel
theorem dX0_isSoundAt_56 : decode cX0_isSoundAt 56 = .ok (.getfield 27, 3) := by decide +kernel
theorem dX0_isSoundAt_59 : decode cX0_isSoundAt 59 = .ok (.invokevirtual 133, 3) := by decide +kernel
theorem dX0_isSoundAt_62 : decode cX0_isSoundAt 62 = .ok (.iadd, 1) := by decide +kernel
theorem dX0_isSoundAt_63 : decode cX0_isSoundAt 63 = .ok (.if_icmp .ne 7, 3) := by decide +kernel
theorem dX0_isSoundAt_66 : decode cX0_isSoundAt 66 = .ok (.iconst 1, 1) := by decide +kernel
theorem dX0_isSoundAt_67 : decode cX0_isSoundAt 67 = .ok (.goto 4, 3) := by decide +kernel
theorem dX0_isSoundAt_70 : decode cX0_isSoundAt 70 = .ok (.iconst 0, 1) := by decide +kernel
theorem dX0_isSoundAt_71 : decode cX0_isSoundAt 71 = .ok (.ireturn, 1) := by decide +kernel
theorem dX1_init_0 : decode cX1_init 0 = .ok (.aload_n 0, 1) := by decide +kernel
theorem dX1_init_1 : decode cX1_init 1 = .ok (.invokespecial 3, 3) := by decide +kernel
theorem dX1_init_4 : decode cX1_init 4 = .ok (.aload_n 0, 1) := by decide +kernel
theorem dX1_init_5 : decode cX1_init 5 = .ok (.bipush 7, 2) := by decide +kernel
theorem dX1_init_7 : decode cX1_init 7 = .ok (.newarray .int, 2) := by decide +kernel
theorem dX1_init_9 : decode cX1_init 9 = .ok (.putfield 9, 3) := by decide +kernel
theorem dX1_init_12 : decode cX1_init 12 = .ok (.aload_n 0, 1) := by decide +kernel
theorem dX1_init_13 : decode cX1_init 13 = .ok (.bipush 7, 2) := by decide +kernel
theorem dX1_init_15 : decode cX1_init 15 = .ok (.newarray .int, 2) := by decide +kernel
theorem dX1_init_17 : decode cX1_init 17 = .ok (.putfield 15, 3) := by decide +kernel
theorem dX1_init_20 : decode cX1_init 20 = .ok (.aload_n 0, 1) := by decide +kernel
theorem dX1_init_21 : decode cX1_init 21 = .ok (.iconst 4, 1) := by decide +kernel
theorem dX1_init_22 : decode cX1_init 22 = .ok (.newarray .int, 2) := by decide +kernel
theorem dX1_init_24 : decode cX1_init 24 = .ok (.putfield 18, 3) := by decide +kernel
theorem dX1_init_27 : decode cX1_init 27 = .ok (.return_, 1) := by decide +kernel
theorem dX1_clear_0 : decode cX1_clear 0 = .ok (.iconst 0, 1) := by decide +kernel
theorem dX1_clear_1 : decode cX1_clear 1 = .ok (.istore_n 1, 1) := by decide +kernel
theorem dX1_clear_2 : decode cX1_clear 2 = .ok (.iload_n 1, 1) := by decide +kernel
theorem dX1_clear_3 : decode cX1_clear 3 = .ok (.bipush 7, 2) := by decide +kernel
theorem dX1_clear_5 : decode cX1_clear 5 = .ok (.if_icmp .ge 16, 3) := by decide +kernel
theorem dX1_clear_8 : decode cX1_clear 8 = .ok (.aload_n 0, 1) := by decide +kernel
theorem dX1_clear_9 : decode cX1_clear 9 = .ok (.getfield 15, 3) := by decide +kernel
theorem dX1_clear_12 : decode cX1_clear 12 = .ok (.iload_n 1, 1) := by decide +kernel
theorem dX1_clear_13 : decode cX1_clear 13 = .ok (.iconst 0, 1) := by decide +kernel
theorem dX1_clear_14 : decode cX1_clear 14 = .ok (.iastore, 1) := by decide +kernel
theorem dX1_clear_15 : decode cX1_clear 15 = .ok (.iinc 1 1, 3) := by decide +kernel
theorem dX1_clear_18 : decode cX1_clear 18 = .ok (.goto (-16), 3) := by decide +kernel
theorem dX1_clear_21 : decode cX1_clear 21 = .ok (.iconst 0, 1) := by decide +kernel
theorem dX1_clear_22 : decode cX1_clear 22 = .ok (.istore_n 1, 1) := by decide +kernel
theorem dX1_clear_23 : decode cX1_clear 23 = .ok (.iload_n 1, 1) := by decide +kernel
theorem dX1_clear_24 : decode cX1_clear 24 = .ok (.iconst 4, 1) := by decide +kernel
theorem dX1_clear_25 : decode cX1_clear 25 = .ok (.if_icmp .ge 16, 3) := by decide +kernel
theorem dX1_clear_28 : decode cX1_clear 28 = .ok (.aload_n 0, 1) := by decide +kernel
theorem dX1_clear_29 : decode cX1_clear 29 = .ok (.getfield 18, 3) := by decide +kernel
theorem dX1_clear_32 : decode cX1_clear 32 = .ok (.iload_n 1, 1) := by decide +kernel
theorem dX1_clear_33 : decode cX1_clear 33 = .ok (.iconst 0, 1) := by decide +kernel
theorem dX1_clear_34 : decode cX1_clear 34 = .ok (.iastore, 1) := by decide +kernel
theorem dX1_clear_35 : decode cX1_clear 35 = .ok (.iinc 1 1, 3) := by decide +kernel
theorem dX1_clear_38 : decode cX1_clear 38 = .ok (.goto (-15), 3) := by decide +kernel
theorem dX1_clear_41 : decode cX1_clear 41 = .ok (.return_, 1) := by decide +kernel
theorem dX1_isOpenFor_0 : decode cX1_isOpenFor 0 = .ok (.iload_n 2, 1) := by decide +kernel
theorem dX1_isOpenFor_1 : decode cX1_isOpenFor 1 = .ok (.aload_n 0, 1) := by decide +kernel
theorem dX1_isOpenFor_2 : decode cX1_isOpenFor 2 = .ok (.getfield 18, 3) := by decide +kernel
theorem dX1_isOpenFor_5 : decode cX1_isOpenFor 5 = .ok (.iload_n 1, 1) := by decide +kernel
theorem dX1_isOpenFor_6 : decode cX1_isOpenFor 6 = .ok (.iaload, 1) := by decide +kernel
theorem dX1_isOpenFor_7 : decode cX1_isOpenFor 7 = .ok (.if_icmp .ge 7, 3) := by decide +kernel
theorem dX1_isOpenFor_10 : decode cX1_isOpenFor 10 = .ok (.iconst 1, 1) := by decide +kernel
theorem dX1_isOpenFor_11 : decode cX1_isOpenFor 11 = .ok (.goto 4, 3) := by decide +kernel
theorem dX1_isOpenFor_14 : decode cX1_isOpenFor 14 = .ok (.iconst 0, 1) := by decide +kernel
theorem dX1_isOpenFor_15 : decode cX1_isOpenFor 15 = .ok (.ireturn, 1) := by decide +kernel
set_option maxRecDepth 20000 in
theorem ggX1_openCount_X1_isOpenFor : GoodIn wsX1_openCount wsX1_isOpenFor := goodIn_r _ [5, 6, 7, 8, 9] (by decide +kernel) (by decide +kernel)
set_option maxRecDepth 20000 in
theorem gX1_openCount_X1_isOpenFor : GoodIn wsX1_openCount (wsV RX1 21 RX1 yX1_isOpenFor wsX1_isOpenFor) := goodIn_app (goodIn_of _ (by decide +kernel)) ggX1_openCount_X1_isOpenFor
theorem dX1_openCount_0 : decode cX1_openCount 0 = .ok (.iconst 0, 1) := by decide +kernel
theorem dX1_openCount_1 : decode cX1_openCount 1 = .ok (.istore_n 2, 1) := by decide +kernel
theorem dX1_openCount_2 : decode cX1_openCount 2 = .ok (.iconst 0, 1) := by decide +kernel
theorem dX1_openCount_3 : decode cX1_openCount 3 = .ok (.istore_n 3, 1) := by decide +kernel
theorem dX1_openCount_4 : decode cX1_openCount 4 = .ok (.iload_n 3, 1) := by decide +kernel
theorem dX1_openCount_5 : decode cX1_openCount 5 = .ok (.iconst 4, 1) := by decide +kernel
theorem dX1_openCount_6 : decode cX1_openCount 6 = .ok (.if_icmp .ge 21, 3) := by decide +kernel
theorem dX1_openCount_9 : decode cX1_openCount 9 = .ok (.aload_n 0, 1) := by decide +kernel
theorem dX1_openCount_10 : decode cX1_openCount 10 = .ok (.iload_n 3, 1) := by decide +kernel
theorem dX1_openCount_11 : decode cX1_openCount 11 = .ok (.iload_n 1, 1) := by decide +kernel
theorem dX1_openCount_12 : decode cX1_openCount 12 = .ok (.invokevirtual 21, 3) := by decide +kernel
theorem dX1_openCount_15 : decode cX1_openCount 15 = .ok (.ifCond .eq 6, 3) := by decide +kernel
theorem dX1_openCount_18 : decode cX1_openCount 18 = .ok (.iinc 2 1, 3) := by decide +kernel
theorem dX1_openCount_21 : decode cX1_openCount 21 = .ok (.iinc 3 1, 3) := by decide +kernel
theorem dX1_openCount_24 : decode cX1_openCount 24 = .ok (.goto (-20), 3) := by decide +kernel
theorem dX1_openCount_27 : decode cX1_openCount 27 = .ok (.iload_n 2, 1) := by decide +kernel
theorem dX1_openCount_28 : decode cX1_openCount 28 = .ok (.ireturn, 1) := by decide +kernel
theorem dX1_isVoteHeld_0 : decode cX1_isVoteHeld 0 = .ok (.iload_n 2, 1) := by decide +kernel
theorem dX1_isVoteHeld_1 : decode cX1_isVoteHeld 1 = .ok (.aload_n 0, 1) := by decide +kernel
theorem dX1_isVoteHeld_2 : decode cX1_isVoteHeld 2 = .ok (.getfield 15, 3) := by decide +kernel
theorem dX1_isVoteHeld_5 : decode cX1_isVoteHeld 5 = .ok (.iload_n 1, 1) := by decide +kernel
theorem dX1_isVoteHeld_6 : decode cX1_isVoteHeld 6 = .ok (.iaload, 1) := by decide +kernel
theorem dX1_isVoteHeld_7 : decode cX1_isVoteHeld 7 = .ok (.if_icmp .ge 7, 3) := by decide +kernel
theorem dX1_isVoteHeld_10 : decode cX1_isVoteHeld 10 = .ok (.iconst 1, 1) := by decide +kernel
theorem dX1_isVoteHeld_11 : decode cX1_isVoteHeld 11 = .ok (.goto 4, 3) := by decide +kernel
theorem dX1_isVoteHeld_14 : decode cX1_isVoteHeld 14 = .ok (.iconst 0, 1) := by decide +kernel
theorem dX1_isVoteHeld_15 : decode cX1_isVoteHeld 15 = .ok (.ireturn, 1) := by decide +kernel
set_option maxRecDepth 20000 in
theorem ggX1_isVoteOfAnother_X1_isVoteHeld : GoodIn wsX1_isVoteOfAnother wsX1_isVoteHeld := goodIn_r _ [6, 7, 8, 9, 10] (by decide +kernel) (by decide +kernel)
set_option maxRecDepth 20000 in
theorem gX1_isVoteOfAnother_X1_isVoteHeld : GoodIn wsX1_isVoteOfAnother (wsV RX1 25 RX1 yX1_isVoteHeld wsX1_isVoteHeld) := goodIn_app (goodIn_of _ (by decide +kernel)) ggX1_isVoteOfAnother_X1_isVoteHeld
theorem dX1_isVoteOfAnother_0 : decode cX1_isVoteOfAnother 0 = .ok (.aload_n 0, 1) := by decide +kernel
theorem dX1_isVoteOfAnother_1 : decode cX1_isVoteOfAnother 1 = .ok (.iload_n 1, 1) := by decide +kernel
theorem dX1_isVoteOfAnother_2 : decode cX1_isVoteOfAnother 2 = .ok (.iload_n 3, 1) := by decide +kernel
theorem dX1_isVoteOfAnother_3 : decode cX1_isVoteOfAnother 3 = .ok (.invokevirtual 25, 3) := by decide +kernel
theorem dX1_isVoteOfAnother_6 : decode cX1_isVoteOfAnother 6 = .ok (.ifCond .eq 17, 3) := by decide +kernel
theorem dX1_isVoteOfAnother_9 : decode cX1_isVoteOfAnother 9 = .ok (.aload_n 0, 1) := by decide +kernel
theorem dX1_isVoteOfAnother_10 : decode cX1_isVoteOfAnother 10 = .ok (.getfield 9, 3) := by decide +kernel
theorem dX1_isVoteOfAnother_13 : decode cX1_isVoteOfAnother 13 = .ok (.iload_n 1, 1) := by decide +kernel
theorem dX1_isVoteOfAnother_14 : decode cX1_isVoteOfAnother 14 = .ok (.iaload, 1) := by decide +kernel
theorem dX1_isVoteOfAnother_15 : decode cX1_isVoteOfAnother 15 = .ok (.iload_n 2, 1) := by decide +kernel
theorem dX1_isVoteOfAnother_16 : decode cX1_isVoteOfAnother 16 = .ok (.if_icmp .eq 7, 3) := by decide +kernel
theorem dX1_isVoteOfAnother_19 : decode cX1_isVoteOfAnother 19 = .ok (.iconst 1, 1) := by decide +kernel
theorem dX1_isVoteOfAnother_20 : decode cX1_isVoteOfAnother 20 = .ok (.goto 4, 3) := by decide +kernel
theorem dX1_isVoteOfAnother_23 : decode cX1_isVoteOfAnother 23 = .ok (.iconst 0, 1) := by decide +kernel
theorem dX1_isVoteOfAnother_24 : decode cX1_isVoteOfAnother 24 = .ok (.ireturn, 1) := by decide +kernel
set_option maxRecDepth 20000 in
theorem ggX1_grant_X6_contains : GoodIn wsX1_grant wsX6_contains := goodIn_r _ [10] (by decide +kernel) (by decide +kernel)
set_option maxRecDepth 20000 in
theorem gX1_grant_X6_contains_n28 : GoodIn wsX1_grant (wsX6_contains) := ggX1_grant_X6_contains
theorem dX1_grant_0 : decode cX1_grant 0 = .ok (.iconst 0, 1) := by decide +kernel
theorem dX1_grant_1 : decode cX1_grant 1 = .ok (.istore 4, 2) := by decide +kernel
theorem dX1_grant_3 : decode cX1_grant 3 = .ok (.iload 4, 2) := by decide +kernel
theorem dX1_grant_5 : decode cX1_grant 5 = .ok (.bipush 7, 2) := by decide +kernel
theorem dX1_grant_7 : decode cX1_grant 7 = .ok (.if_icmp .ge 44, 3) := by decide +kernel
theorem dX1_grant_10 : decode cX1_grant 10 = .ok (.iload_n 2, 1) := by decide +kernel
theorem dX1_grant_11 : decode cX1_grant 11 = .ok (.iload 4, 2) := by decide +kernel
theorem dX1_grant_13 : decode cX1_grant 13 = .ok (.invokestatic 28, 3) := by decide +kernel
theorem dX1_grant_16 : decode cX1_grant 16 = .ok (.ifCond .eq 29, 3) := by decide +kernel
theorem dX1_grant_19 : decode cX1_grant 19 = .ok (.aload_n 0, 1) := by decide +kernel
theorem dX1_grant_20 : decode cX1_grant 20 = .ok (.getfield 9, 3) := by decide +kernel
theorem dX1_grant_23 : decode cX1_grant 23 = .ok (.iload 4, 2) := by decide +kernel
theorem dX1_grant_25 : decode cX1_grant 25 = .ok (.iload_n 1, 1) := by decide +kernel
theorem dX1_grant_26 : decode cX1_grant 26 = .ok (.iastore, 1) := by decide +kernel
theorem dX1_grant_27 : decode cX1_grant 27 = .ok (.aload_n 0, 1) := by decide +kernel
theorem dX1_grant_28 : decode cX1_grant 28 = .ok (.getfield 15, 3) := by decide +kernel
theorem dX1_grant_31 : decode cX1_grant 31 = .ok (.iload 4, 2) := by decide +kernel
theorem dX1_grant_33 : decode cX1_grant 33 = .ok (.aload_n 0, 1) := by decide +kernel
theorem dX1_grant_34 : decode cX1_grant 34 = .ok (.getfield 15, 3) := by decide +kernel
theorem dX1_grant_37 : decode cX1_grant 37 = .ok (.iload 4, 2) := by decide +kernel
theorem dX1_grant_39 : decode cX1_grant 39 = .ok (.iaload, 1) := by decide +kernel
theorem dX1_grant_40 : decode cX1_grant 40 = .ok (.iload_n 3, 1) := by decide +kernel
theorem dX1_grant_41 : decode cX1_grant 41 = .ok (.invokestatic 31, 3) := by decide +kernel
theorem dX1_grant_44 : decode cX1_grant 44 = .ok (.iastore, 1) := by decide +kernel
theorem dX1_grant_45 : decode cX1_grant 45 = .ok (.iinc 4 1, 3) := by decide +kernel
theorem dX1_grant_48 : decode cX1_grant 48 = .ok (.goto (-45), 3) := by decide +kernel
theorem dX1_grant_51 : decode cX1_grant 51 = .ok (.aload_n 0, 1) := by decide +kernel
theorem dX1_grant_52 : decode cX1_grant 52 = .ok (.getfield 18, 3) := by decide +kernel
theorem dX1_grant_55 : decode cX1_grant 55 = .ok (.iload_n 1, 1) := by decide +kernel
theorem dX1_grant_56 : decode cX1_grant 56 = .ok (.aload_n 0, 1) := by decide +kernel
theorem dX1_grant_57 : decode cX1_grant 57 = .ok (.getfield 18, 3) := by decide +kernel
theorem dX1_grant_60 : decode cX1_grant 60 = .ok (.iload_n 1, 1) := by decide +kernel
theorem dX1_grant_61 : decode cX1_grant 61 = .ok (.iaload, 1) := by decide +kernel
theorem dX1_grant_62 : decode cX1_grant 62 = .ok (.iload_n 3, 1) := by decide +kernel
theorem dX1_grant_63 : decode cX1_grant 63 = .ok (.invokestatic 31, 3) := by decide +kernel
theorem dX1_grant_66 : decode cX1_grant 66 = .ok (.iastore, 1) := by decide +kernel
theorem dX1_grant_67 : decode cX1_grant 67 = .ok (.aload_n 0, 1) := by decide +kernel
theorem dX1_grant_68 : decode cX1_grant 68 = .ok (.getfield 18, 3) := by decide +kernel
theorem dX1_grant_71 : decode cX1_grant 71 = .ok (.iload_n 1, 1) := by decide +kernel
theorem dX1_grant_72 : decode cX1_grant 72 = .ok (.iaload, 1) := by decide +kernel
theorem dX1_grant_73 : decode cX1_grant 73 = .ok (.ireturn, 1) := by decide +kernel
set_option maxRecDepth 20000 in
theorem ggX1_endLease_X6_contains : GoodIn wsX1_endLease wsX6_contains := goodIn_r _ [6] (by decide +kernel) (by decide +kernel)
set_option maxRecDepth 20000 in
theorem gX1_endLease_X6_contains_n28 : GoodIn wsX1_endLease (wsX6_contains) := ggX1_endLease_X6_contains
set_option maxRecDepth 20000 in
theorem ggX1_endLease_X1_isVoteHeld : GoodIn wsX1_endLease wsX1_isVoteHeld := goodIn_r _ [11, 2, 12, 13, 14] (by decide +kernel) (by decide +kernel)
set_option maxRecDepth 20000 in
theorem gX1_endLease_X1_isVoteHeld : GoodIn wsX1_endLease (wsV RX1 25 RX1 yX1_isVoteHeld wsX1_isVoteHeld) := goodIn_app (goodIn_of _ (by decide +kernel)) ggX1_endLease_X1_isVoteHeld
theorem dX1_endLease_0 : decode cX1_endLease 0 = .ok (.iconst 0, 1) := by decide +kernel
theorem dX1_endLease_1 : decode cX1_endLease 1 = .ok (.istore 4, 2) := by decide +kernel
theorem dX1_endLease_3 : decode cX1_endLease 3 = .ok (.iconst 0, 1) := by decide +kernel
theorem dX1_endLease_4 : decode cX1_endLease 4 = .ok (.istore 5, 2) := by decide +kernel
theorem dX1_endLease_6 : decode cX1_endLease 6 = .ok (.iload 5, 2) := by decide +kernel
theorem dX1_endLease_8 : decode cX1_endLease 8 = .ok (.bipush 7, 2) := by decide +kernel
theorem dX1_endLease_10 : decode cX1_endLease 10 = .ok (.if_icmp .ge 50, 3) := by decide +kernel
theorem dX1_endLease_13 : decode cX1_endLease 13 = .ok (.iload_n 2, 1) := by decide +kernel
theorem dX1_endLease_14 : decode cX1_endLease 14 = .ok (.iload 5, 2) := by decide +kernel
theorem dX1_endLease_16 : decode cX1_endLease 16 = .ok (.invokestatic 28, 3) := by decide +kernel
theorem dX1_endLease_19 : decode cX1_endLease 19 = .ok (.ifCond .eq 35, 3) := by decide +kernel
theorem dX1_endLease_22 : decode cX1_endLease 22 = .ok (.aload_n 0, 1) := by decide +kernel
theorem dX1_endLease_23 : decode cX1_endLease 23 = .ok (.iload 5, 2) := by decide +kernel
theorem dX1_endLease_25 : decode cX1_endLease 25 = .ok (.iload_n 3, 1) := by decide +kernel
theorem dX1_endLease_26 : decode cX1_endLease 26 = .ok (.invokevirtual 25, 3) := by decide +kernel
theorem dX1_endLease_29 : decode cX1_endLease 29 = .ok (.ifCond .eq 25, 3) := by decide +kernel
theorem dX1_endLease_32 : decode cX1_endLease 32 = .ok (.aload_n 0, 1) := by decide +kernel
theorem dX1_endLease_33 : decode cX1_endLease 33 = .ok (.getfield 9, 3) := by decide +kernel
theorem dX1_endLease_36 : decode cX1_endLease 36 = .ok (.iload 5, 2) := by decide +kernel
theorem dX1_endLease_38 : decode cX1_endLease 38 = .ok (.iaload, 1) := by decide +kernel
theorem dX1_endLease_39 : decode cX1_endLease 39 = .ok (.iload_n 1, 1) := by decide +kernel
theorem dX1_endLease_40 : decode cX1_endLease 40 = .ok (.if_icmp .ne 14, 3) := by decide +kernel
theorem dX1_endLease_43 : decode cX1_endLease 43 = .ok (.aload_n 0, 1) := by decide +kernel
theorem dX1_endLease_44 : decode cX1_endLease 44 = .ok (.getfield 15, 3) := by decide +kernel
theorem dX1_endLease_47 : decode cX1_endLease 47 = .ok (.iload 5, 2) := by decide +kernel
theorem dX1_endLease_49 : decode cX1_endLease 49 = .ok (.iconst 0, 1) := by decide +kernel
theorem dX1_endLease_50 : decode cX1_endLease 50 = .ok (.iastore, 1) := by decide +kernel
theorem dX1_endLease_51 : decode cX1_endLease 51 = .ok (.iinc 4 1, 3) := by decide +kernel
theorem dX1_endLease_54 : decode cX1_endLease 54 = .ok (.iinc 5 1, 3) := by decide +kernel
theorem dX1_endLease_57 : decode cX1_endLease 57 = .ok (.goto (-51), 3) := by decide +kernel
theorem dX1_endLease_60 : decode cX1_endLease 60 = .ok (.aload_n 0, 1) := by decide +kernel
theorem dX1_endLease_61 : decode cX1_endLease 61 = .ok (.getfield 18, 3) := by decide +kernel
theorem dX1_endLease_64 : decode cX1_endLease 64 = .ok (.iload_n 1, 1) := by decide +kernel
theorem dX1_endLease_65 : decode cX1_endLease 65 = .ok (.iconst 0, 1) := by decide +kernel
theorem dX1_endLease_66 : decode cX1_endLease 66 = .ok (.iastore, 1) := by decide +kernel
theorem dX1_endLease_67 : decode cX1_endLease 67 = .ok (.iload 4, 2) := by decide +kernel
theorem dX1_endLease_69 : decode cX1_endLease 69 = .ok (.ireturn, 1) := by decide +kernel
theorem dX2_init_0 : decode cX2_init 0 = .ok (.aload_n 0, 1) := by decide +kernel
theorem dX2_init_1 : decode cX2_init 1 = .ok (.invokespecial 3, 3) := by decide +kernel
theorem dX2_init_4 : decode cX2_init 4 = .ok (.aload_n 0, 1) := by decide +kernel
theorem dX2_init_5 : decode cX2_init 5 = .ok (.iconst 4, 1) := by decide +kernel
theorem dX2_init_6 : decode cX2_init 6 = .ok (.newarray .int, 2) := by decide +kernel
theorem dX2_init_8 : decode cX2_init 8 = .ok (.putfield 9, 3) := by decide +kernel
theorem dX2_init_11 : decode cX2_init 11 = .ok (.return_, 1) := by decide +kernel
set_option maxRecDepth 20000 in
theorem ggX2_tell_X3_countingSize : GoodIn wsX2_tell wsX3_countingSize := goodIn_r _ [12, 13, 14, 15, 32, 33, 34, 35, 36, 37, 38] (by decide +kernel) (by decide +kernel)
set_option maxRecDepth 20000 in
theorem gX2_tell_X3_countingSize : GoodIn wsX2_tell (wsV RX2 22 RX3 yX3_countingSize wsX3_countingSize) := goodIn_app (goodIn_of _ (by decide +kernel)) ggX2_tell_X3_countingSize
set_option maxRecDepth 20000 in
theorem ggX2_tell_X2_tellOrder : GoodIn wsX2_tell wsX2_tellOrder := goodIn_r _ [20, 3, 1, 21, 22, 23, 19, 24, 2, 29, 30, 31] (by decide +kernel) (by decide +kernel)
set_option maxRecDepth 20000 in
theorem gX2_tell_X2_tellOrder : GoodIn wsX2_tell (wsV RX2 38 RX2 yX2_tellOrder wsX2_tellOrder) := goodIn_app (goodIn_of _ (by decide +kernel)) ggX2_tell_X2_tellOrder
set_option maxRecDepth 20000 in
theorem ggX2_tell_X2_tellTruce : GoodIn wsX2_tell wsX2_tellTruce := goodIn_r _ [28, 1, 2, 29, 30, 31] (by decide +kernel) (by decide +kernel)
set_option maxRecDepth 20000 in
theorem gX2_tell_X2_tellTruce : GoodIn wsX2_tell (wsV RX2 46 RX2 yX2_tellTruce wsX2_tellTruce) := goodIn_app (goodIn_of _ (by decide +kernel)) ggX2_tell_X2_tellTruce
theorem dX2_tell_0 : decode cX2_tell 0 = .ok (.aload_n 0, 1) := by decide +kernel
theorem dX2_tell_1 : decode cX2_tell 1 = .ok (.iload_n 2, 1) := by decide +kernel
theorem dX2_tell_2 : decode cX2_tell 2 = .ok (.putfield 15, 3) := by decide +kernel
theorem dX2_tell_5 : decode cX2_tell 5 = .ok (.aload_n 0, 1) := by decide +kernel
theorem dX2_tell_6 : decode cX2_tell 6 = .ok (.iconst 0, 1) := by decide +kernel
theorem dX2_tell_7 : decode cX2_tell 7 = .ok (.putfield 19, 3) := by decide +kernel
theorem dX2_tell_10 : decode cX2_tell 10 = .ok (.iconst 0, 1) := by decide +kernel
theorem dX2_tell_11 : decode cX2_tell 11 = .ok (.istore_n 3, 1) := by decide +kernel
theorem dX2_tell_12 : decode cX2_tell 12 = .ok (.iload_n 3, 1) := by decide +kernel
theorem dX2_tell_13 : decode cX2_tell 13 = .ok (.iconst 4, 1) := by decide +kernel
theorem dX2_tell_14 : decode cX2_tell 14 = .ok (.if_icmp .ge 16, 3) := by decide +kernel
theorem dX2_tell_17 : decode cX2_tell 17 = .ok (.aload_n 0, 1) := by decide +kernel
theorem dX2_tell_18 : decode cX2_tell 18 = .ok (.getfield 9, 3) := by decide +kernel
theorem dX2_tell_21 : decode cX2_tell 21 = .ok (.iload_n 3, 1) := by decide +kernel
theorem dX2_tell_22 : decode cX2_tell 22 = .ok (.iconst 0, 1) := by decide +kernel
theorem dX2_tell_23 : decode cX2_tell 23 = .ok (.iastore, 1) := by decide +kernel
theorem dX2_tell_24 : decode cX2_tell 24 = .ok (.iinc 3 1, 3) := by decide +kernel
theorem dX2_tell_27 : decode cX2_tell 27 = .ok (.goto (-15), 3) := by decide +kernel
theorem dX2_tell_30 : decode cX2_tell 30 = .ok (.aload_n 1, 1) := by decide +kernel
theorem dX2_tell_31 : decode cX2_tell 31 = .ok (.invokevirtual 22, 3) := by decide +kernel
theorem dX2_tell_34 : decode cX2_tell 34 = .ok (.istore_n 3, 1) := by decide +kernel
theorem dX2_tell_35 : decode cX2_tell 35 = .ok (.iconst 0, 1) := by decide +kernel
theorem dX2_tell_36 : decode cX2_tell 36 = .ok (.istore 4, 2) := by decide +kernel
theorem dX2_tell_38 : decode cX2_tell 38 = .ok (.iload 4, 2) := by decide +kernel
theorem dX2_tell_40 : decode cX2_tell 40 = .ok (.iload_n 3, 1) := by decide +kernel
theorem dX2_tell_41 : decode cX2_tell 41 = .ok (.if_icmp .ge 82, 3) := by decide +kernel
theorem dX2_tell_44 : decode cX2_tell 44 = .ok (.aload_n 1, 1) := by decide +kernel
theorem dX2_tell_45 : decode cX2_tell 45 = .ok (.getfield 28, 3) := by decide +kernel
theorem dX2_tell_48 : decode cX2_tell 48 = .ok (.iload 4, 2) := by decide +kernel
theorem dX2_tell_50 : decode cX2_tell 50 = .ok (.caload, 1) := by decide +kernel
theorem dX2_tell_51 : decode cX2_tell 51 = .ok (.istore 5, 2) := by decide +kernel
theorem dX2_tell_53 : decode cX2_tell 53 = .ok (.iload 5, 2) := by decide +kernel
theorem dX2_tell_55 : decode cX2_tell 55 = .ok (.bipush 105, 2) := by decide +kernel
theorem dX2_tell_57 : decode cX2_tell 57 = .ok (.if_icmp .eq 17, 3) := by decide +kernel
theorem dX2_tell_60 : decode cX2_tell 60 = .ok (.iload 5, 2) := by decide +kernel
theorem dX2_tell_62 : decode cX2_tell 62 = .ok (.bipush 111, 2) := by decide +kernel
theorem dX2_tell_64 : decode cX2_tell 64 = .ok (.if_icmp .eq 10, 3) := by decide +kernel
theorem dX2_tell_67 : decode cX2_tell 67 = .ok (.iload 5, 2) := by decide +kernel
theorem dX2_tell_69 : decode cX2_tell 69 = .ok (.bipush 114, 2) := by decide +kernel
theorem dX2_tell_71 : decode cX2_tell 71 = .ok (.if_icmp .ne 26, 3) := by decide +kernel
theorem dX2_tell_74 : decode cX2_tell 74 = .ok (.aload_n 0, 1) := by decide +kernel
theorem dX2_tell_75 : decode cX2_tell 75 = .ok (.iload 5, 2) := by decide +kernel
theorem dX2_tell_77 : decode cX2_tell 77 = .ok (.aload_n 1, 1) := by decide +kernel
theorem dX2_tell_78 : decode cX2_tell 78 = .ok (.getfield 32, 3) := by decide +kernel
theorem dX2_tell_81 : decode cX2_tell 81 = .ok (.iload 4, 2) := by decide +kernel
theorem dX2_tell_83 : decode cX2_tell 83 = .ok (.iaload, 1) := by decide +kernel
theorem dX2_tell_84 : decode cX2_tell 84 = .ok (.aload_n 1, 1) := by decide +kernel
theorem dX2_tell_85 : decode cX2_tell 85 = .ok (.getfield 35, 3) := by decide +kernel
theorem dX2_tell_88 : decode cX2_tell 88 = .ok (.iload 4, 2) := by decide +kernel
theorem dX2_tell_90 : decode cX2_tell 90 = .ok (.iaload, 1) := by decide +kernel
theorem dX2_tell_91 : decode cX2_tell 91 = .ok (.invokevirtual 38, 3) := by decide +kernel
theorem dX2_tell_94 : decode cX2_tell 94 = .ok (.goto 23, 3) := by decide +kernel
theorem dX2_tell_97 : decode cX2_tell 97 = .ok (.aload_n 0, 1) := by decide +kernel
theorem dX2_tell_98 : decode cX2_tell 98 = .ok (.iload 5, 2) := by decide +kernel
theorem dX2_tell_100 : decode cX2_tell 100 = .ok (.aload_n 1, 1) := by decide +kernel
theorem dX2_tell_101 : decode cX2_tell 101 = .ok (.getfield 32, 3) := by decide +kernel
theorem dX2_tell_104 : decode cX2_tell 104 = .ok (.iload 4, 2) := by decide +kernel
theorem dX2_tell_106 : decode cX2_tell 106 = .ok (.iaload, 1) := by decide +kernel
theorem dX2_tell_107 : decode cX2_tell 107 = .ok (.aload_n 1, 1) := by decide +kernel
theorem dX2_tell_108 : decode cX2_tell 108 = .ok (.getfield 42, 3) := by decide +kernel
theorem dX2_tell_111 : decode cX2_tell 111 = .ok (.iload 4, 2) := by decide +kernel
theorem dX2_tell_113 : decode cX2_tell 113 = .ok (.baload, 1) := by decide +kernel
theorem dX2_tell_114 : decode cX2_tell 114 = .ok (.invokevirtual 46, 3) := by decide +kernel
theorem dX2_tell_117 : decode cX2_tell 117 = .ok (.iinc 4 1, 3) := by decide +kernel
theorem dX2_tell_120 : decode cX2_tell 120 = .ok (.goto (-82), 3) := by decide +kernel
theorem dX2_tell_123 : decode cX2_tell 123 = .ok (.return_, 1) := by decide +kernel
set_option maxRecDepth 20000 in
theorem ggX2_tellOrder_X2_freeGold : GoodIn wsX2_tellOrder wsX2_freeGold := goodIn_r _ [7, 2, 8, 9, 10, 11] (by decide +kernel) (by decide +kernel)
set_option maxRecDepth 20000 in
theorem gX2_tellOrder_X2_freeGold : GoodIn wsX2_tellOrder (wsV RX2 50 RX2 yX2_freeGold wsX2_freeGold) := goodIn_app (goodIn_of _ (by decide +kernel)) ggX2_tellOrder_X2_freeGold
theorem dX2_tellOrder_0 : decode cX2_tellOrder 0 = .ok (.iload_n 1, 1) := by decide +kernel
theorem dX2_tellOrder_1 : decode cX2_tellOrder 1 = .ok (.bipush 105, 2) := by decide +kernel
theorem dX2_tellOrder_3 : decode cX2_tellOrder 3 = .ok (.if_icmp .ne 36, 3) := by decide +kernel
theorem dX2_tellOrder_6 : decode cX2_tellOrder 6 = .ok (.aload_n 0, 1) := by decide +kernel
theorem dX2_tellOrder_7 : decode cX2_tellOrder 7 = .ok (.getfield 9, 3) := by decide +kernel
theorem dX2_tellOrder_10 : decode cX2_tellOrder 10 = .ok (.iload_n 3, 1) := by decide +kernel
theorem dX2_tellOrder_11 : decode cX2_tellOrder 11 = .ok (.iaload, 1) := by decide +kernel
theorem dX2_tellOrder_12 : decode cX2_tellOrder 12 = .ok (.iload_n 2, 1) := by decide +kernel
theorem dX2_tellOrder_13 : decode cX2_tellOrder 13 = .ok (.if_icmp .lt 54, 3) := by decide +kernel
theorem dX2_tellOrder_16 : decode cX2_tellOrder 16 = .ok (.aload_n 0, 1) := by decide +kernel
theorem dX2_tellOrder_17 : decode cX2_tellOrder 17 = .ok (.getfield 9, 3) := by decide +kernel
theorem dX2_tellOrder_20 : decode cX2_tellOrder 20 = .ok (.iload_n 3, 1) := by decide +kernel
theorem dX2_tellOrder_21 : decode cX2_tellOrder 21 = .ok (.dup2, 1) := by decide +kernel
theorem dX2_tellOrder_22 : decode cX2_tellOrder 22 = .ok (.iaload, 1) := by decide +kernel
theorem dX2_tellOrder_23 : decode cX2_tellOrder 23 = .ok (.iload_n 2, 1) := by decide +kernel
theorem dX2_tellOrder_24 : decode cX2_tellOrder 24 = .ok (.isub, 1) := by decide +kernel
theorem dX2_tellOrder_25 : decode cX2_tellOrder 25 = .ok (.iastore, 1) := by decide +kernel
theorem dX2_tellOrder_26 : decode cX2_tellOrder 26 = .ok (.aload_n 0, 1) := by decide +kernel
theorem dX2_tellOrder_27 : decode cX2_tellOrder 27 = .ok (.dup, 1) := by decide +kernel
theorem dX2_tellOrder_28 : decode cX2_tellOrder 28 = .ok (.getfield 15, 3) := by decide +kernel
theorem dX2_tellOrder_31 : decode cX2_tellOrder 31 = .ok (.iload_n 2, 1) := by decide +kernel
theorem dX2_tellOrder_32 : decode cX2_tellOrder 32 = .ok (.iadd, 1) := by decide +kernel
theorem dX2_tellOrder_33 : decode cX2_tellOrder 33 = .ok (.putfield 15, 3) := by decide +kernel
theorem dX2_tellOrder_36 : decode cX2_tellOrder 36 = .ok (.goto 31, 3) := by decide +kernel
theorem dX2_tellOrder_39 : decode cX2_tellOrder 39 = .ok (.aload_n 0, 1) := by decide +kernel
theorem dX2_tellOrder_40 : decode cX2_tellOrder 40 = .ok (.invokevirtual 50, 3) := by decide +kernel
theorem dX2_tellOrder_43 : decode cX2_tellOrder 43 = .ok (.iload_n 2, 1) := by decide +kernel
theorem dX2_tellOrder_44 : decode cX2_tellOrder 44 = .ok (.if_icmp .lt 23, 3) := by decide +kernel
theorem dX2_tellOrder_47 : decode cX2_tellOrder 47 = .ok (.aload_n 0, 1) := by decide +kernel
theorem dX2_tellOrder_48 : decode cX2_tellOrder 48 = .ok (.dup, 1) := by decide +kernel
theorem dX2_tellOrder_49 : decode cX2_tellOrder 49 = .ok (.getfield 15, 3) := by decide +kernel
theorem dX2_tellOrder_52 : decode cX2_tellOrder 52 = .ok (.iload_n 2, 1) := by decide +kernel
theorem dX2_tellOrder_53 : decode cX2_tellOrder 53 = .ok (.isub, 1) := by decide +kernel
theorem dX2_tellOrder_54 : decode cX2_tellOrder 54 = .ok (.putfield 15, 3) := by decide +kernel
theorem dX2_tellOrder_57 : decode cX2_tellOrder 57 = .ok (.aload_n 0, 1) := by decide +kernel
theorem dX2_tellOrder_58 : decode cX2_tellOrder 58 = .ok (.getfield 9, 3) := by decide +kernel
theorem dX2_tellOrder_61 : decode cX2_tellOrder 61 = .ok (.iload_n 3, 1) := by decide +kernel
theorem dX2_tellOrder_62 : decode cX2_tellOrder 62 = .ok (.dup2, 1) := by decide +kernel
theorem dX2_tellOrder_63 : decode cX2_tellOrder 63 = .ok (.iaload, 1) := by decide +kernel
theorem dX2_tellOrder_64 : decode cX2_tellOrder 64 = .ok (.iload_n 2, 1) := by decide +kernel
theorem dX2_tellOrder_65 : decode cX2_tellOrder 65 = .ok (.iadd, 1) := by decide +kernel
theorem dX2_tellOrder_66 : decode cX2_tellOrder 66 = .ok (.iastore, 1) := by decide +kernel
theorem dX2_tellOrder_67 : decode cX2_tellOrder 67 = .ok (.return_, 1) := by decide +kernel
theorem dX2_tellTruce_0 : decode cX2_tellTruce 0 = .ok (.iload_n 1, 1) := by decide +kernel
theorem dX2_tellTruce_1 : decode cX2_tellTruce 1 = .ok (.bipush 100, 2) := by decide +kernel
theorem dX2_tellTruce_3 : decode cX2_tellTruce 3 = .ok (.if_icmp .ne 22, 3) := by decide +kernel
theorem dX2_tellTruce_6 : decode cX2_tellTruce 6 = .ok (.aload_n 0, 1) := by decide +kernel
theorem dX2_tellTruce_7 : decode cX2_tellTruce 7 = .ok (.dup, 1) := by decide +kernel
theorem dX2_tellTruce_8 : decode cX2_tellTruce 8 = .ok (.getfield 15, 3) := by decide +kernel
theorem dX2_tellTruce_11 : decode cX2_tellTruce 11 = .ok (.iload_n 3, 1) := by decide +kernel
theorem dX2_tellTruce_12 : decode cX2_tellTruce 12 = .ok (.ifCond .eq 8, 3) := by decide +kernel
theorem dX2_tellTruce_15 : decode cX2_tellTruce 15 = .ok (.iload_n 2, 1) := by decide +kernel
theorem dX2_tellTruce_16 : decode cX2_tellTruce 16 = .ok (.ineg, 1) := by decide +kernel
theorem dX2_tellTruce_17 : decode cX2_tellTruce 17 = .ok (.goto 4, 3) := by decide +kernel
theorem dX2_tellTruce_20 : decode cX2_tellTruce 20 = .ok (.iload_n 2, 1) := by decide +kernel
theorem dX2_tellTruce_21 : decode cX2_tellTruce 21 = .ok (.iadd, 1) := by decide +kernel
theorem dX2_tellTruce_22 : decode cX2_tellTruce 22 = .ok (.putfield 15, 3) := by decide +kernel
theorem dX2_tellTruce_25 : decode cX2_tellTruce 25 = .ok (.iload_n 3, 1) := by decide +kernel
theorem dX2_tellTruce_26 : decode cX2_tellTruce 26 = .ok (.ifCond .eq 22, 3) := by decide +kernel
theorem dX2_tellTruce_29 : decode cX2_tellTruce 29 = .ok (.iload_n 1, 1) := by decide +kernel
theorem dX2_tellTruce_30 : decode cX2_tellTruce 30 = .ok (.bipush 112, 2) := by decide +kernel
theorem dX2_tellTruce_32 : decode cX2_tellTruce 32 = .ok (.if_icmp .ne 16, 3) := by decide +kernel
theorem dX2_tellTruce_35 : decode cX2_tellTruce 35 = .ok (.aload_n 0, 1) := by decide +kernel
theorem dX2_tellTruce_36 : decode cX2_tellTruce 36 = .ok (.dup, 1) := by decide +kernel
theorem dX2_tellTruce_37 : decode cX2_tellTruce 37 = .ok (.getfield 19, 3) := by decide +kernel
theorem dX2_tellTruce_40 : decode cX2_tellTruce 40 = .ok (.iload_n 2, 1) := by decide +kernel
theorem dX2_tellTruce_41 : decode cX2_tellTruce 41 = .ok (.iadd, 1) := by decide +kernel
theorem dX2_tellTruce_42 : decode cX2_tellTruce 42 = .ok (.putfield 19, 3) := by decide +kernel
theorem dX2_tellTruce_45 : decode cX2_tellTruce 45 = .ok (.goto 29, 3) := by decide +kernel
theorem dX2_tellTruce_48 : decode cX2_tellTruce 48 = .ok (.iload_n 3, 1) := by decide +kernel
theorem dX2_tellTruce_49 : decode cX2_tellTruce 49 = .ok (.ifCond .eq 25, 3) := by decide +kernel
theorem dX2_tellTruce_52 : decode cX2_tellTruce 52 = .ok (.iload_n 1, 1) := by decide +kernel
theorem dX2_tellTruce_53 : decode cX2_tellTruce 53 = .ok (.bipush 100, 2) := by decide +kernel
theorem dX2_tellTruce_55 : decode cX2_tellTruce 55 = .ok (.if_icmp .eq 9, 3) := by decide +kernel
theorem dX2_tellTruce_58 : decode cX2_tellTruce 58 = .ok (.iload_n 1, 1) := by decide +kernel
theorem dX2_tellTruce_59 : decode cX2_tellTruce 59 = .ok (.bipush 97, 2) := by decide +kernel
theorem dX2_tellTruce_61 : decode cX2_tellTruce 61 = .ok (.if_icmp .ne 13, 3) := by decide +kernel
theorem dX2_tellTruce_64 : decode cX2_tellTruce 64 = .ok (.aload_n 0, 1) := by decide +kernel
theorem dX2_tellTruce_65 : decode cX2_tellTruce 65 = .ok (.dup, 1) := by decide +kernel
theorem dX2_tellTruce_66 : decode cX2_tellTruce 66 = .ok (.getfield 19, 3) := by decide +kernel
theorem dX2_tellTruce_69 : decode cX2_tellTruce 69 = .ok (.iload_n 2, 1) := by decide +kernel
theorem dX2_tellTruce_70 : decode cX2_tellTruce 70 = .ok (.isub, 1) := by decide +kernel
theorem dX2_tellTruce_71 : decode cX2_tellTruce 71 = .ok (.putfield 19, 3) := by decide +kernel
theorem dX2_tellTruce_74 : decode cX2_tellTruce 74 = .ok (.return_, 1) := by decide +kernel
theorem dX2_freeGold_0 : decode cX2_freeGold 0 = .ok (.aload_n 0, 1) := by decide +kernel
theorem dX2_freeGold_1 : decode cX2_freeGold 1 = .ok (.getfield 15, 3) := by decide +kernel
theorem dX2_freeGold_4 : decode cX2_freeGold 4 = .ok (.aload_n 0, 1) := by decide +kernel
theorem dX2_freeGold_5 : decode cX2_freeGold 5 = .ok (.getfield 19, 3) := by decide +kernel
theorem dX2_freeGold_8 : decode cX2_freeGold 8 = .ok (.isub, 1) := by decide +kernel
theorem dX2_freeGold_9 : decode cX2_freeGold 9 = .ok (.ireturn, 1) := by decide +kernel
theorem dX2_sum_0 : decode cX2_sum 0 = .ok (.aload_n 0, 1) := by decide +kernel
theorem dX2_sum_1 : decode cX2_sum 1 = .ok (.getfield 15, 3) := by decide +kernel
theorem dX2_sum_4 : decode cX2_sum 4 = .ok (.istore_n 1, 1) := by decide +kernel
theorem dX2_sum_5 : decode cX2_sum 5 = .ok (.iconst 0, 1) := by decide +kernel
theorem dX2_sum_6 : decode cX2_sum 6 = .ok (.istore_n 2, 1) := by decide +kernel
theorem dX2_sum_7 : decode cX2_sum 7 = .ok (.iload_n 2, 1) := by decide +kernel
theorem dX2_sum_8 : decode cX2_sum 8 = .ok (.iconst 4, 1) := by decide +kernel
theorem dX2_sum_9 : decode cX2_sum 9 = .ok (.if_icmp .ge 18, 3) := by decide +kernel
theorem dX2_sum_12 : decode cX2_sum 12 = .ok (.iload_n 1, 1) := by decide +kernel
theorem dX2_sum_13 : decode cX2_sum 13 = .ok (.aload_n 0, 1) := by decide +kernel
theorem dX2_sum_14 : decode cX2_sum 14 = .ok (.getfield 9, 3) := by decide +kernel
theorem dX2_sum_17 : decode cX2_sum 17 = .ok (.iload_n 2, 1) := by decide +kernel
theorem dX2_sum_18 : decode cX2_sum 18 = .ok (.iaload, 1) := by decide +kernel
theorem dX2_sum_19 : decode cX2_sum 19 = .ok (.iadd, 1) := by decide +kernel
theorem dX2_sum_20 : decode cX2_sum 20 = .ok (.istore_n 1, 1) := by decide +kernel
theorem dX2_sum_21 : decode cX2_sum 21 = .ok (.iinc 2 1, 3) := by decide +kernel
theorem dX2_sum_24 : decode cX2_sum 24 = .ok (.goto (-17), 3) := by decide +kernel
theorem dX2_sum_27 : decode cX2_sum 27 = .ok (.iload_n 1, 1) := by decide +kernel
theorem dX2_sum_28 : decode cX2_sum 28 = .ok (.ireturn, 1) := by decide +kernel
theorem dX2_isInBounds_0 : decode cX2_isInBounds 0 = .ok (.iconst 0, 1) := by decide +kernel
theorem dX2_isInBounds_1 : decode cX2_isInBounds 1 = .ok (.istore_n 1, 1) := by decide +kernel
theorem dX2_isInBounds_2 : decode cX2_isInBounds 2 = .ok (.iload_n 1, 1) := by decide +kernel
theorem dX2_isInBounds_3 : decode cX2_isInBounds 3 = .ok (.iconst 4, 1) := by decide +kernel
theorem dX2_isInBounds_4 : decode cX2_isInBounds 4 = .ok (.if_icmp .ge 20, 3) := by decide +kernel
theorem dX2_isInBounds_7 : decode cX2_isInBounds 7 = .ok (.aload_n 0, 1) := by decide +kernel
theorem dX2_isInBounds_8 : decode cX2_isInBounds 8 = .ok (.getfield 9, 3) := by decide +kernel
theorem dX2_isInBounds_11 : decode cX2_isInBounds 11 = .ok (.iload_n 1, 1) := by decide +kernel
theorem dX2_isInBounds_12 : decode cX2_isInBounds 12 = .ok (.iaload, 1) := by decide +kernel
theorem dX2_isInBounds_13 : decode cX2_isInBounds 13 = .ok (.ifCond .ge 5, 3) := by decide +kernel
theorem dX2_isInBounds_16 : decode cX2_isInBounds 16 = .ok (.iconst 0, 1) := by decide +kernel
theorem dX2_isInBounds_17 : decode cX2_isInBounds 17 = .ok (.ireturn, 1) := by decide +kernel
theorem dX2_isInBounds_18 : decode cX2_isInBounds 18 = .ok (.iinc 1 1, 3) := by decide +kernel
theorem dX2_isInBounds_21 : decode cX2_isInBounds 21 = .ok (.goto (-19), 3) := by decide +kernel
theorem dX2_isInBounds_24 : decode cX2_isInBounds 24 = .ok (.aload_n 0, 1) := by decide +kernel
theorem dX2_isInBounds_25 : decode cX2_isInBounds 25 = .ok (.getfield 19, 3) := by decide +kernel
theorem dX2_isInBounds_28 : decode cX2_isInBounds 28 = .ok (.ifCond .lt 18, 3) := by decide +kernel
theorem dX2_isInBounds_31 : decode cX2_isInBounds 31 = .ok (.aload_n 0, 1) := by decide +kernel
theorem dX2_isInBounds_32 : decode cX2_isInBounds 32 = .ok (.getfield 15, 3) := by decide +kernel
theorem dX2_isInBounds_35 : decode cX2_isInBounds 35 = .ok (.aload_n 0, 1) := by decide +kernel
theorem dX2_isInBounds_36 : decode cX2_isInBounds 36 = .ok (.getfield 19, 3) := by decide +kernel
theorem dX2_isInBounds_39 : decode cX2_isInBounds 39 = .ok (.if_icmp .lt 7, 3) := by decide +kernel
theorem dX2_isInBounds_42 : decode cX2_isInBounds 42 = .ok (.iconst 1, 1) := by decide +kernel
theorem dX2_isInBounds_43 : decode cX2_isInBounds 43 = .ok (.goto 4, 3) := by decide +kernel
theorem dX2_isInBounds_46 : decode cX2_isInBounds 46 = .ok (.iconst 0, 1) := by decide +kernel
theorem dX2_isInBounds_47 : decode cX2_isInBounds 47 = .ok (.ireturn, 1) := by decide +kernel
theorem dX3_init_0 : decode cX3_init 0 = .ok (.aload_n 0, 1) := by decide +kernel
theorem dX3_init_1 : decode cX3_init 1 = .ok (.invokespecial 3, 3) := by decide +kernel
theorem dX3_init_4 : decode cX3_init 4 = .ok (.aload_n 0, 1) := by decide +kernel
theorem dX3_init_5 : decode cX3_init 5 = .ok (.bipush 60, 2) := by decide +kernel
theorem dX3_init_7 : decode cX3_init 7 = .ok (.newarray .char, 2) := by decide +kernel
theorem dX3_init_9 : decode cX3_init 9 = .ok (.putfield 9, 3) := by decide +kernel
theorem dX3_init_12 : decode cX3_init 12 = .ok (.aload_n 0, 1) := by decide +kernel
theorem dX3_init_13 : decode cX3_init 13 = .ok (.bipush 60, 2) := by decide +kernel
theorem dX3_init_15 : decode cX3_init 15 = .ok (.newarray .int, 2) := by decide +kernel
theorem dX3_init_17 : decode cX3_init 17 = .ok (.putfield 15, 3) := by decide +kernel
theorem dX3_init_20 : decode cX3_init 20 = .ok (.aload_n 0, 1) := by decide +kernel
theorem dX3_init_21 : decode cX3_init 21 = .ok (.bipush 60, 2) := by decide +kernel
theorem dX3_init_23 : decode cX3_init 23 = .ok (.newarray .int, 2) := by decide +kernel
theorem dX3_init_25 : decode cX3_init 25 = .ok (.putfield 19, 3) := by decide +kernel
theorem dX3_init_28 : decode cX3_init 28 = .ok (.aload_n 0, 1) := by decide +kernel
theorem dX3_init_29 : decode cX3_init 29 = .ok (.bipush 60, 2) := by decide +kernel
theorem dX3_init_31 : decode cX3_init 31 = .ok (.newarray .int, 2) := by decide +kernel
theorem dX3_init_33 : decode cX3_init 33 = .ok (.putfield 22, 3) := by decide +kernel
theorem dX3_init_36 : decode cX3_init 36 = .ok (.aload_n 0, 1) := by decide +kernel
theorem dX3_init_37 : decode cX3_init 37 = .ok (.bipush 60, 2) := by decide +kernel
theorem dX3_init_39 : decode cX3_init 39 = .ok (.newarray .boolean, 2) := by decide +kernel
theorem dX3_init_41 : decode cX3_init 41 = .ok (.putfield 25, 3) := by decide +kernel
theorem dX3_init_44 : decode cX3_init 44 = .ok (.aload_n 0, 1) := by decide +kernel
theorem dX3_init_45 : decode cX3_init 45 = .ok (.bipush 60, 2) := by decide +kernel
theorem dX3_init_47 : decode cX3_init 47 = .ok (.newarray .boolean, 2) := by decide +kernel
theorem dX3_init_49 : decode cX3_init 49 = .ok (.putfield 29, 3) := by decide +kernel
theorem dX3_init_52 : decode cX3_init 52 = .ok (.return_, 1) := by decide +kernel
theorem dX3_append_0 : decode cX3_append 0 = .ok (.aload_n 0, 1) := by decide +kernel
theorem dX3_append_1 : decode cX3_append 1 = .ok (.dup, 1) := by decide +kernel
theorem dX3_append_2 : decode cX3_append 2 = .ok (.getfield 32, 3) := by decide +kernel
theorem dX3_append_5 : decode cX3_append 5 = .ok (.dup_x1, 1) := by decide +kernel
theorem dX3_append_6 : decode cX3_append 6 = .ok (.iconst 1, 1) := by decide +kernel
theorem dX3_append_7 : decode cX3_append 7 = .ok (.iadd, 1) := by decide +kernel
theorem dX3_append_8 : decode cX3_append 8 = .ok (.putfield 32, 3) := by decide +kernel
theorem dX3_append_11 : decode cX3_append 11 = .ok (.istore_n 3, 1) := by decide +kernel
theorem dX3_append_12 : decode cX3_append 12 = .ok (.aload_n 0, 1) := by decide +kernel
theorem dX3_append_13 : decode cX3_append 13 = .ok (.getfield 9, 3) := by decide +kernel
theorem dX3_append_16 : decode cX3_append 16 = .ok (.iload_n 3, 1) := by decide +kernel
theorem dX3_append_17 : decode cX3_append 17 = .ok (.iload_n 1, 1) := by decide +kernel
theorem dX3_append_18 : decode cX3_append 18 = .ok (.castore, 1) := by decide +kernel
theorem dX3_append_19 : decode cX3_append 19 = .ok (.aload_n 0, 1) := by decide +kernel
theorem dX3_append_20 : decode cX3_append 20 = .ok (.getfield 15, 3) := by decide +kernel
theorem dX3_append_23 : decode cX3_append 23 = .ok (.iload_n 3, 1) := by decide +kernel
theorem dX3_append_24 : decode cX3_append 24 = .ok (.iload_n 2, 1) := by decide +kernel
theorem dX3_append_25 : decode cX3_append 25 = .ok (.iastore, 1) := by decide +kernel
theorem dX3_append_26 : decode cX3_append 26 = .ok (.aload_n 0, 1) := by decide +kernel
theorem dX3_append_27 : decode cX3_append 27 = .ok (.getfield 22, 3) := by decide +kernel
theorem dX3_append_30 : decode cX3_append 30 = .ok (.iload_n 3, 1) := by decide +kernel
theorem dX3_append_31 : decode cX3_append 31 = .ok (.iconst 0, 1) := by decide +kernel
theorem dX3_append_32 : decode cX3_append 32 = .ok (.iastore, 1) := by decide +kernel
theorem dX3_append_33 : decode cX3_append 33 = .ok (.aload_n 0, 1) := by decide +kernel
theorem dX3_append_34 : decode cX3_append 34 = .ok (.getfield 29, 3) := by decide +kernel
theorem dX3_append_37 : decode cX3_append 37 = .ok (.iload_n 3, 1) := by decide +kernel
theorem dX3_append_38 : decode cX3_append 38 = .ok (.iconst 0, 1) := by decide +kernel
theorem dX3_append_39 : decode cX3_append 39 = .ok (.bastore, 1) := by decide +kernel
theorem dX3_append_40 : decode cX3_append 40 = .ok (.iload_n 3, 1) := by decide +kernel
theorem dX3_append_41 : decode cX3_append 41 = .ok (.ireturn, 1) := by decide +kernel
theorem dX3_countingSize_0 : decode cX3_countingSize 0 = .ok (.iconst 0, 1) := by decide +kernel
theorem dX3_countingSize_1 : decode cX3_countingSize 1 = .ok (.istore_n 1, 1) := by decide +kernel
theorem dX3_countingSize_2 : decode cX3_countingSize 2 = .ok (.iload_n 1, 1) := by decide +kernel
theorem dX3_countingSize_3 : decode cX3_countingSize 3 = .ok (.aload_n 0, 1) := by decide +kernel
theorem dX3_countingSize_4 : decode cX3_countingSize 4 = .ok (.getfield 32, 3) := by decide +kernel
theorem dX3_countingSize_7 : decode cX3_countingSize 7 = .ok (.if_icmp .ge 29, 3) := by decide +kernel
theorem dX3_countingSize_10 : decode cX3_countingSize 10 = .ok (.aload_n 0, 1) := by decide +kernel
theorem dX3_countingSize_11 : decode cX3_countingSize 11 = .ok (.getfield 29, 3) := by decide +kernel
theorem dX3_countingSize_14 : decode cX3_countingSize 14 = .ok (.iload_n 1, 1) := by decide +kernel
theorem dX3_countingSize_15 : decode cX3_countingSize 15 = .ok (.baload, 1) := by decide +kernel
theorem dX3_countingSize_16 : decode cX3_countingSize 16 = .ok (.ifCond .ne 14, 3) := by decide +kernel
theorem dX3_countingSize_19 : decode cX3_countingSize 19 = .ok (.aload_n 0, 1) := by decide +kernel
theorem dX3_countingSize_20 : decode cX3_countingSize 20 = .ok (.getfield 9, 3) := by decide +kernel
theorem dX3_countingSize_23 : decode cX3_countingSize 23 = .ok (.iload_n 1, 1) := by decide +kernel
theorem dX3_countingSize_24 : decode cX3_countingSize 24 = .ok (.caload, 1) := by decide +kernel
theorem dX3_countingSize_25 : decode cX3_countingSize 25 = .ok (.bipush 45, 2) := by decide +kernel
theorem dX3_countingSize_27 : decode cX3_countingSize 27 = .ok (.if_icmp .ne 9, 3) := by decide +kernel
theorem dX3_countingSize_30 : decode cX3_countingSize 30 = .ok (.iinc 1 1, 3) := by decide +kernel
theorem dX3_countingSize_33 : decode cX3_countingSize 33 = .ok (.goto (-31), 3) := by decide +kernel
theorem dX3_countingSize_36 : decode cX3_countingSize 36 = .ok (.iload_n 1, 1) := by decide +kernel
theorem dX3_countingSize_37 : decode cX3_countingSize 37 = .ok (.ireturn, 1) := by decide +kernel
set_option maxRecDepth 20000 in
theorem ggX3_isHanging_X3_countingSize : GoodIn wsX3_isHanging wsX3_countingSize := goodIn_r _ [6, 1, 7, 8, 9, 10, 11, 12, 13, 14, 15] (by decide +kernel) (by decide +kernel)
set_option maxRecDepth 20000 in
theorem gX3_isHanging_X3_countingSize : GoodIn wsX3_isHanging (wsV RX3 36 RX3 yX3_countingSize wsX3_countingSize) := goodIn_app (goodIn_of _ (by decide +kernel)) ggX3_isHanging_X3_countingSize
theorem dX3_isHanging_0 : decode cX3_isHanging 0 = .ok (.aload_n 0, 1) := by decide +kernel
theorem dX3_isHanging_1 : decode cX3_isHanging 1 = .ok (.invokevirtual 36, 3) := by decide +kernel
theorem dX3_isHanging_4 : decode cX3_isHanging 4 = .ok (.aload_n 0, 1) := by decide +kernel
theorem dX3_isHanging_5 : decode cX3_isHanging 5 = .ok (.getfield 32, 3) := by decide +kernel
theorem dX3_isHanging_8 : decode cX3_isHanging 8 = .ok (.if_icmp .ge 7, 3) := by decide +kernel
theorem dX3_isHanging_11 : decode cX3_isHanging 11 = .ok (.iconst 1, 1) := by decide +kernel
theorem dX3_isHanging_12 : decode cX3_isHanging 12 = .ok (.goto 4, 3) := by decide +kernel
theorem dX3_isHanging_15 : decode cX3_isHanging 15 = .ok (.iconst 0, 1) := by decide +kernel
theorem dX3_isHanging_16 : decode cX3_isHanging 16 = .ok (.ireturn, 1) := by decide +kernel
set_option maxRecDepth 20000 in
theorem ggX3_strikeLost_X3_countingSize : GoodIn wsX3_strikeLost wsX3_countingSize := goodIn_r _ [8, 1, 9, 3, 10, 11, 12, 13, 14, 15, 16] (by decide +kernel) (by decide +kernel)
set_option maxRecDepth 20000 in
theorem gX3_strikeLost_X3_countingSize : GoodIn wsX3_strikeLost (wsV RX3 36 RX3 yX3_countingSize wsX3_countingSize) := goodIn_app (goodIn_of _ (by decide +kernel)) ggX3_strikeLost_X3_countingSize
theorem dX3_strikeLost_0 : decode cX3_strikeLost 0 = .ok (.iconst 0, 1) := by decide +kernel
theorem dX3_strikeLost_1 : decode cX3_strikeLost 1 = .ok (.istore_n 1, 1) := by decide +kernel
theorem dX3_strikeLost_2 : decode cX3_strikeLost 2 = .ok (.aload_n 0, 1) := by decide +kernel
theorem dX3_strikeLost_3 : decode cX3_strikeLost 3 = .ok (.invokevirtual 36, 3) := by decide +kernel
theorem dX3_strikeLost_6 : decode cX3_strikeLost 6 = .ok (.istore_n 2, 1) := by decide +kernel
theorem dX3_strikeLost_7 : decode cX3_strikeLost 7 = .ok (.iload_n 2, 1) := by decide +kernel
theorem dX3_strikeLost_8 : decode cX3_strikeLost 8 = .ok (.aload_n 0, 1) := by decide +kernel
theorem dX3_strikeLost_9 : decode cX3_strikeLost 9 = .ok (.getfield 32, 3) := by decide +kernel
theorem dX3_strikeLost_12 : decode cX3_strikeLost 12 = .ok (.if_icmp .ge 40, 3) := by decide +kernel
theorem dX3_strikeLost_15 : decode cX3_strikeLost 15 = .ok (.aload_n 0, 1) := by decide +kernel
theorem dX3_strikeLost_16 : decode cX3_strikeLost 16 = .ok (.getfield 22, 3) := by decide +kernel
theorem dX3_strikeLost_19 : decode cX3_strikeLost 19 = .ok (.iload_n 2, 1) := by decide +kernel
theorem dX3_strikeLost_20 : decode cX3_strikeLost 20 = .ok (.iaload, 1) := by decide +kernel
theorem dX3_strikeLost_21 : decode cX3_strikeLost 21 = .ok (.ifCond .ne 25, 3) := by decide +kernel
theorem dX3_strikeLost_24 : decode cX3_strikeLost 24 = .ok (.aload_n 0, 1) := by decide +kernel
theorem dX3_strikeLost_25 : decode cX3_strikeLost 25 = .ok (.getfield 9, 3) := by decide +kernel
theorem dX3_strikeLost_28 : decode cX3_strikeLost 28 = .ok (.iload_n 2, 1) := by decide +kernel
theorem dX3_strikeLost_29 : decode cX3_strikeLost 29 = .ok (.caload, 1) := by decide +kernel
theorem dX3_strikeLost_30 : decode cX3_strikeLost 30 = .ok (.bipush 45, 2) := by decide +kernel
theorem dX3_strikeLost_32 : decode cX3_strikeLost 32 = .ok (.if_icmp .eq 14, 3) := by decide +kernel
theorem dX3_strikeLost_35 : decode cX3_strikeLost 35 = .ok (.aload_n 0, 1) := by decide +kernel
theorem dX3_strikeLost_36 : decode cX3_strikeLost 36 = .ok (.getfield 9, 3) := by decide +kernel
theorem dX3_strikeLost_39 : decode cX3_strikeLost 39 = .ok (.iload_n 2, 1) := by decide +kernel
theorem dX3_strikeLost_40 : decode cX3_strikeLost 40 = .ok (.bipush 45, 2) := by decide +kernel
theorem dX3_strikeLost_42 : decode cX3_strikeLost 42 = .ok (.castore, 1) := by decide +kernel
theorem dX3_strikeLost_43 : decode cX3_strikeLost 43 = .ok (.iinc 1 1, 3) := by decide +kernel
theorem dX3_strikeLost_46 : decode cX3_strikeLost 46 = .ok (.iinc 2 1, 3) := by decide +kernel
theorem dX3_strikeLost_49 : decode cX3_strikeLost 49 = .ok (.goto (-42), 3) := by decide +kernel
theorem dX3_strikeLost_52 : decode cX3_strikeLost 52 = .ok (.iload_n 1, 1) := by decide +kernel
theorem dX3_strikeLost_53 : decode cX3_strikeLost 53 = .ok (.ireturn, 1) := by decide +kernel
set_option maxRecDepth 20000 in
theorem ggX3_dropAllOf_X6_contains : GoodIn wsX3_dropAllOf wsX6_contains := goodIn_r _ [5] (by decide +kernel) (by decide +kernel)
set_option maxRecDepth 20000 in
theorem gX3_dropAllOf_X6_contains_n40 : GoodIn wsX3_dropAllOf (wsX6_contains) := ggX3_dropAllOf_X6_contains
theorem dX3_dropAllOf_0 : decode cX3_dropAllOf 0 = .ok (.iconst 0, 1) := by decide +kernel
theorem dX3_dropAllOf_1 : decode cX3_dropAllOf 1 = .ok (.istore_n 2, 1) := by decide +kernel
theorem dX3_dropAllOf_2 : decode cX3_dropAllOf 2 = .ok (.iconst 0, 1) := by decide +kernel
theorem dX3_dropAllOf_3 : decode cX3_dropAllOf 3 = .ok (.istore_n 3, 1) := by decide +kernel
theorem dX3_dropAllOf_4 : decode cX3_dropAllOf 4 = .ok (.iload_n 3, 1) := by decide +kernel
theorem dX3_dropAllOf_5 : decode cX3_dropAllOf 5 = .ok (.aload_n 0, 1) := by decide +kernel
theorem dX3_dropAllOf_6 : decode cX3_dropAllOf 6 = .ok (.getfield 32, 3) := by decide +kernel
theorem dX3_dropAllOf_9 : decode cX3_dropAllOf 9 = .ok (.if_icmp .ge 39, 3) := by decide +kernel
theorem dX3_dropAllOf_12 : decode cX3_dropAllOf 12 = .ok (.aload_n 0, 1) := by decide +kernel
theorem dX3_dropAllOf_13 : decode cX3_dropAllOf 13 = .ok (.getfield 22, 3) := by decide +kernel
theorem dX3_dropAllOf_16 : decode cX3_dropAllOf 16 = .ok (.iload_n 3, 1) := by decide +kernel
theorem dX3_dropAllOf_17 : decode cX3_dropAllOf 17 = .ok (.iaload, 1) := by decide +kernel
theorem dX3_dropAllOf_18 : decode cX3_dropAllOf 18 = .ok (.iload_n 1, 1) := by decide +kernel
theorem dX3_dropAllOf_19 : decode cX3_dropAllOf 19 = .ok (.invokestatic 40, 3) := by decide +kernel
theorem dX3_dropAllOf_22 : decode cX3_dropAllOf 22 = .ok (.ifCond .eq 20, 3) := by decide +kernel
theorem dX3_dropAllOf_25 : decode cX3_dropAllOf 25 = .ok (.aload_n 0, 1) := by decide +kernel
theorem dX3_dropAllOf_26 : decode cX3_dropAllOf 26 = .ok (.getfield 22, 3) := by decide +kernel
theorem dX3_dropAllOf_29 : decode cX3_dropAllOf 29 = .ok (.iload_n 3, 1) := by decide +kernel
theorem dX3_dropAllOf_30 : decode cX3_dropAllOf 30 = .ok (.dup2, 1) := by decide +kernel
theorem dX3_dropAllOf_31 : decode cX3_dropAllOf 31 = .ok (.iaload, 1) := by decide +kernel
theorem dX3_dropAllOf_32 : decode cX3_dropAllOf 32 = .ok (.iconst 1, 1) := by decide +kernel
theorem dX3_dropAllOf_33 : decode cX3_dropAllOf 33 = .ok (.iload_n 1, 1) := by decide +kernel
theorem dX3_dropAllOf_34 : decode cX3_dropAllOf 34 = .ok (.ishl, 1) := by decide +kernel
theorem dX3_dropAllOf_35 : decode cX3_dropAllOf 35 = .ok (.iconst (-1), 1) := by decide +kernel
theorem dX3_dropAllOf_36 : decode cX3_dropAllOf 36 = .ok (.ixor, 1) := by decide +kernel
theorem dX3_dropAllOf_37 : decode cX3_dropAllOf 37 = .ok (.iand, 1) := by decide +kernel
theorem dX3_dropAllOf_38 : decode cX3_dropAllOf 38 = .ok (.iastore, 1) := by decide +kernel
theorem dX3_dropAllOf_39 : decode cX3_dropAllOf 39 = .ok (.iinc 2 1, 3) := by decide +kernel
theorem dX3_dropAllOf_42 : decode cX3_dropAllOf 42 = .ok (.iinc 3 1, 3) := by decide +kernel
theorem dX3_dropAllOf_45 : decode cX3_dropAllOf 45 = .ok (.goto (-41), 3) := by decide +kernel
theorem dX3_dropAllOf_48 : decode cX3_dropAllOf 48 = .ok (.iload_n 2, 1) := by decide +kernel
theorem dX3_dropAllOf_49 : decode cX3_dropAllOf 49 = .ok (.ireturn, 1) := by decide +kernel
set_option maxRecDepth 20000 in
theorem ggX3_heldCount_J6_bitCount_0f7a4 : GoodIn wsX3_heldCount wsJ6_bitCount_0f7a4 := goodIn_r _ [6, 7, 8, 9] (by decide +kernel) (by decide +kernel)
set_option maxRecDepth 20000 in
theorem gX3_heldCount_J6_bitCount_0f7a4 : GoodIn wsX3_heldCount (va_wsS RX3 44 yJ6_bitCount_0f7a4 wsJ6_bitCount_0f7a4) := goodIn_app (goodIn_of _ (by decide +kernel)) ggX3_heldCount_J6_bitCount_0f7a4
theorem dX3_heldCount_0 : decode cX3_heldCount 0 = .ok (.iconst 0, 1) := by decide +kernel
theorem dX3_heldCount_1 : decode cX3_heldCount 1 = .ok (.istore_n 1, 1) := by decide +kernel
theorem dX3_heldCount_2 : decode cX3_heldCount 2 = .ok (.iconst 0, 1) := by decide +kernel
theorem dX3_heldCount_3 : decode cX3_heldCount 3 = .ok (.istore_n 2, 1) := by decide +kernel
theorem dX3_heldCount_4 : decode cX3_heldCount 4 = .ok (.iload_n 2, 1) := by decide +kernel
theorem dX3_heldCount_5 : decode cX3_heldCount 5 = .ok (.aload_n 0, 1) := by decide +kernel
theorem dX3_heldCount_6 : decode cX3_heldCount 6 = .ok (.getfield 32, 3) := by decide +kernel
theorem dX3_heldCount_9 : decode cX3_heldCount 9 = .ok (.if_icmp .ge 21, 3) := by decide +kernel
theorem dX3_heldCount_12 : decode cX3_heldCount 12 = .ok (.iload_n 1, 1) := by decide +kernel
theorem dX3_heldCount_13 : decode cX3_heldCount 13 = .ok (.aload_n 0, 1) := by decide +kernel
theorem dX3_heldCount_14 : decode cX3_heldCount 14 = .ok (.getfield 22, 3) := by decide +kernel
theorem dX3_heldCount_17 : decode cX3_heldCount 17 = .ok (.iload_n 2, 1) := by decide +kernel
theorem dX3_heldCount_18 : decode cX3_heldCount 18 = .ok (.iaload, 1) := by decide +kernel
theorem dX3_heldCount_19 : decode cX3_heldCount 19 = .ok (.invokestatic 44, 3) := by decide +kernel
theorem dX3_heldCount_22 : decode cX3_heldCount 22 = .ok (.iadd, 1) := by decide +kernel
theorem dX3_heldCount_23 : decode cX3_heldCount 23 = .ok (.istore_n 1, 1) := by decide +kernel
theorem dX3_heldCount_24 : decode cX3_heldCount 24 = .ok (.iinc 2 1, 3) := by decide +kernel
theorem dX3_heldCount_27 : decode cX3_heldCount 27 = .ok (.goto (-23), 3) := by decide +kernel
theorem dX3_heldCount_30 : decode cX3_heldCount 30 = .ok (.iload_n 1, 1) := by decide +kernel
theorem dX3_heldCount_31 : decode cX3_heldCount 31 = .ok (.ireturn, 1) := by decide +kernel
set_option maxRecDepth 20000 in
theorem ggX3_movedByTruces_X3_countingSize : GoodIn wsX3_movedByTruces wsX3_countingSize := goodIn_r _ [8, 9, 10, 1, 11, 12, 13, 14, 15, 16, 17] (by decide +kernel) (by decide +kernel)
set_option maxRecDepth 20000 in
theorem gX3_movedByTruces_X3_countingSize : GoodIn wsX3_movedByTruces (wsV RX3 36 RX3 yX3_countingSize wsX3_countingSize) := goodIn_app (goodIn_of _ (by decide +kernel)) ggX3_movedByTruces_X3_countingSize
theorem dX3_movedByTruces_0 : decode cX3_movedByTruces 0 = .ok (.iconst 0, 1) := by decide +kernel
theorem dX3_movedByTruces_1 : decode cX3_movedByTruces 1 = .ok (.istore_n 1, 1) := by decide +kernel
theorem dX3_movedByTruces_2 : decode cX3_movedByTruces 2 = .ok (.aload_n 0, 1) := by decide +kernel
theorem dX3_movedByTruces_3 : decode cX3_movedByTruces 3 = .ok (.invokevirtual 36, 3) := by decide +kernel
theorem dX3_movedByTruces_6 : decode cX3_movedByTruces 6 = .ok (.istore_n 2, 1) := by decide +kernel
theorem dX3_movedByTruces_7 : decode cX3_movedByTruces 7 = .ok (.iconst 0, 1) := by decide +kernel
theorem dX3_movedByTruces_8 : decode cX3_movedByTruces 8 = .ok (.istore_n 3, 1) := by decide +kernel
theorem dX3_movedByTruces_9 : decode cX3_movedByTruces 9 = .ok (.iload_n 3, 1) := by decide +kernel
theorem dX3_movedByTruces_10 : decode cX3_movedByTruces 10 = .ok (.iload_n 2, 1) := by decide +kernel
theorem dX3_movedByTruces_11 : decode cX3_movedByTruces 11 = .ok (.if_icmp .ge 48, 3) := by decide +kernel
theorem dX3_movedByTruces_14 : decode cX3_movedByTruces 14 = .ok (.aload_n 0, 1) := by decide +kernel
theorem dX3_movedByTruces_15 : decode cX3_movedByTruces 15 = .ok (.getfield 9, 3) := by decide +kernel
theorem dX3_movedByTruces_18 : decode cX3_movedByTruces 18 = .ok (.iload_n 3, 1) := by decide +kernel
theorem dX3_movedByTruces_19 : decode cX3_movedByTruces 19 = .ok (.caload, 1) := by decide +kernel
theorem dX3_movedByTruces_20 : decode cX3_movedByTruces 20 = .ok (.bipush 100, 2) := by decide +kernel
theorem dX3_movedByTruces_22 : decode cX3_movedByTruces 22 = .ok (.if_icmp .ne 31, 3) := by decide +kernel
theorem dX3_movedByTruces_25 : decode cX3_movedByTruces 25 = .ok (.iload_n 1, 1) := by decide +kernel
theorem dX3_movedByTruces_26 : decode cX3_movedByTruces 26 = .ok (.aload_n 0, 1) := by decide +kernel
theorem dX3_movedByTruces_27 : decode cX3_movedByTruces 27 = .ok (.getfield 25, 3) := by decide +kernel
theorem dX3_movedByTruces_30 : decode cX3_movedByTruces 30 = .ok (.iload_n 3, 1) := by decide +kernel
theorem dX3_movedByTruces_31 : decode cX3_movedByTruces 31 = .ok (.baload, 1) := by decide +kernel
theorem dX3_movedByTruces_32 : decode cX3_movedByTruces 32 = .ok (.ifCond .eq 13, 3) := by decide +kernel
theorem dX3_movedByTruces_35 : decode cX3_movedByTruces 35 = .ok (.aload_n 0, 1) := by decide +kernel
theorem dX3_movedByTruces_36 : decode cX3_movedByTruces 36 = .ok (.getfield 15, 3) := by decide +kernel
theorem dX3_movedByTruces_39 : decode cX3_movedByTruces 39 = .ok (.iload_n 3, 1) := by decide +kernel
theorem dX3_movedByTruces_40 : decode cX3_movedByTruces 40 = .ok (.iaload, 1) := by decide +kernel
theorem dX3_movedByTruces_41 : decode cX3_movedByTruces 41 = .ok (.ineg, 1) := by decide +kernel
theorem dX3_movedByTruces_42 : decode cX3_movedByTruces 42 = .ok (.goto 9, 3) := by decide +kernel
theorem dX3_movedByTruces_45 : decode cX3_movedByTruces 45 = .ok (.aload_n 0, 1) := by decide +kernel
theorem dX3_movedByTruces_46 : decode cX3_movedByTruces 46 = .ok (.getfield 15, 3) := by decide +kernel
theorem dX3_movedByTruces_49 : decode cX3_movedByTruces 49 = .ok (.iload_n 3, 1) := by decide +kernel
theorem dX3_movedByTruces_50 : decode cX3_movedByTruces 50 = .ok (.iaload, 1) := by decide +kernel
theorem dX3_movedByTruces_51 : decode cX3_movedByTruces 51 = .ok (.iadd, 1) := by decide +kernel
theorem dX3_movedByTruces_52 : decode cX3_movedByTruces 52 = .ok (.istore_n 1, 1) := by decide +kernel
theorem dX3_movedByTruces_53 : decode cX3_movedByTruces 53 = .ok (.iinc 3 1, 3) := by decide +kernel
theorem dX3_movedByTruces_56 : decode cX3_movedByTruces 56 = .ok (.goto (-47), 3) := by decide +kernel
theorem dX3_movedByTruces_59 : decode cX3_movedByTruces 59 = .ok (.iload_n 1, 1) := by decide +kernel
theorem dX3_movedByTruces_60 : decode cX3_movedByTruces 60 = .ok (.ireturn, 1) := by decide +kernel
theorem dX4_init_0 : decode cX4_init 0 = .ok (.aload_n 0, 1) := by decide +kernel
theorem dX4_init_1 : decode cX4_init 1 = .ok (.invokespecial 3, 3) := by decide +kernel
theorem dX4_init_4 : decode cX4_init 4 = .ok (.aload_n 0, 1) := by decide +kernel
theorem dX4_init_5 : decode cX4_init 5 = .ok (.aload_n 1, 1) := by decide +kernel
theorem dX4_init_6 : decode cX4_init 6 = .ok (.putfield 9, 3) := by decide +kernel
theorem dX4_init_9 : decode cX4_init 9 = .ok (.return_, 1) := by decide +kernel
set_option maxRecDepth 20000 in
theorem ggX4_look_X3_countingSize : GoodIn wsX4_look wsX3_countingSize := goodIn_r _ [13, 14, 15, 16, 66, 67, 68, 69, 70, 71, 72] (by decide +kernel) (by decide +kernel)
set_option maxRecDepth 20000 in
theorem gX4_look_X3_countingSize : GoodIn wsX4_look (wsV RX4 34 RX3 yX3_countingSize wsX3_countingSize) := goodIn_app (goodIn_of _ (by decide +kernel)) ggX4_look_X3_countingSize
set_option maxRecDepth 20000 in
theorem ggX4_look_X0_tellLedger : GoodIn wsX4_look wsX0_tellLedger := goodIn_r _ [21, 22, 23, 24, 25, 26, 27, 28, 29, 30, 31, 32, 33, 34, 35, 36, 37, 10, 11, 12, 13, 14, 15, 16, 38, 39, 40, 41, 42, 43, 44, 45, 46, 47, 48, 49, 57, 58, 59, 60, 61, 62, 63, 64, 65, 73, 74, 75, 66, 67, 68, 69, 70, 71, 72] (by decide +kernel) (by decide +kernel)
set_option maxRecDepth 20000 in
theorem gX4_look_X0_tellLedger : GoodIn wsX4_look (wsV RX4 43 RX0 yX0_tellLedger wsX0_tellLedger) := goodIn_app (goodIn_of _ (by decide +kernel)) ggX4_look_X0_tellLedger
set_option maxRecDepth 20000 in
theorem ggX4_look_X2_freeGold : GoodIn wsX4_look wsX2_freeGold := goodIn_r _ [45, 30, 31, 73, 74, 75] (by decide +kernel) (by decide +kernel)
set_option maxRecDepth 20000 in
theorem gX4_look_X2_freeGold : GoodIn wsX4_look (wsV RX4 47 RX2 yX2_freeGold wsX2_freeGold) := goodIn_app (goodIn_of _ (by decide +kernel)) ggX4_look_X2_freeGold
theorem dX4_look_0 : decode cX4_look 0 = .ok (.aload_n 0, 1) := by decide +kernel
theorem dX4_look_1 : decode cX4_look 1 = .ok (.aload_n 1, 1) := by decide +kernel
theorem dX4_look_2 : decode cX4_look 2 = .ok (.putfield 9, 3) := by decide +kernel
theorem dX4_look_5 : decode cX4_look 5 = .ok (.aload_n 0, 1) := by decide +kernel
theorem dX4_look_6 : decode cX4_look 6 = .ok (.iload_n 2, 1) := by decide +kernel
theorem dX4_look_7 : decode cX4_look 7 = .ok (.putfield 15, 3) := by decide +kernel
theorem dX4_look_10 : decode cX4_look 10 = .ok (.aload_n 0, 1) := by decide +kernel
theorem dX4_look_11 : decode cX4_look 11 = .ok (.iload_n 3, 1) := by decide +kernel
theorem dX4_look_12 : decode cX4_look 12 = .ok (.putfield 19, 3) := by decide +kernel
theorem dX4_look_15 : decode cX4_look 15 = .ok (.aload_n 0, 1) := by decide +kernel
theorem dX4_look_16 : decode cX4_look 16 = .ok (.aload_n 1, 1) := by decide +kernel
theorem dX4_look_17 : decode cX4_look 17 = .ok (.getfield 22, 3) := by decide +kernel
theorem dX4_look_20 : decode cX4_look 20 = .ok (.putfield 27, 3) := by decide +kernel
theorem dX4_look_23 : decode cX4_look 23 = .ok (.aload_n 0, 1) := by decide +kernel
theorem dX4_look_24 : decode cX4_look 24 = .ok (.aload_n 1, 1) := by decide +kernel
theorem dX4_look_25 : decode cX4_look 25 = .ok (.getfield 30, 3) := by decide +kernel
theorem dX4_look_28 : decode cX4_look 28 = .ok (.invokevirtual 34, 3) := by decide +kernel
theorem dX4_look_31 : decode cX4_look 31 = .ok (.putfield 40, 3) := by decide +kernel
theorem dX4_look_34 : decode cX4_look 34 = .ok (.aload_n 0, 1) := by decide +kernel
theorem dX4_look_35 : decode cX4_look 35 = .ok (.aload_n 1, 1) := by decide +kernel
theorem dX4_look_36 : decode cX4_look 36 = .ok (.invokevirtual 43, 3) := by decide +kernel
theorem dX4_look_39 : decode cX4_look 39 = .ok (.invokevirtual 47, 3) := by decide +kernel
theorem dX4_look_42 : decode cX4_look 42 = .ok (.putfield 52, 3) := by decide +kernel
theorem dX4_look_45 : decode cX4_look 45 = .ok (.return_, 1) := by decide +kernel
theorem dX4_isTooOld_0 : decode cX4_isTooOld 0 = .ok (.iload_n 1, 1) := by decide +kernel
theorem dX4_isTooOld_1 : decode cX4_isTooOld 1 = .ok (.aload_n 0, 1) := by decide +kernel
theorem dX4_isTooOld_2 : decode cX4_isTooOld 2 = .ok (.getfield 19, 3) := by decide +kernel
theorem dX4_isTooOld_5 : decode cX4_isTooOld 5 = .ok (.bipush 10, 2) := by decide +kernel
theorem dX4_isTooOld_7 : decode cX4_isTooOld 7 = .ok (.iadd, 1) := by decide +kernel
theorem dX4_isTooOld_8 : decode cX4_isTooOld 8 = .ok (.if_icmp .ge 17, 3) := by decide +kernel
theorem dX4_isTooOld_11 : decode cX4_isTooOld 11 = .ok (.aload_n 0, 1) := by decide +kernel
theorem dX4_isTooOld_12 : decode cX4_isTooOld 12 = .ok (.getfield 9, 3) := by decide +kernel
theorem dX4_isTooOld_15 : decode cX4_isTooOld 15 = .ok (.getfield 22, 3) := by decide +kernel
theorem dX4_isTooOld_18 : decode cX4_isTooOld 18 = .ok (.aload_n 0, 1) := by decide +kernel
theorem dX4_isTooOld_19 : decode cX4_isTooOld 19 = .ok (.getfield 27, 3) := by decide +kernel
theorem dX4_isTooOld_22 : decode cX4_isTooOld 22 = .ok (.if_icmp .eq 7, 3) := by decide +kernel
theorem dX4_isTooOld_25 : decode cX4_isTooOld 25 = .ok (.iconst 1, 1) := by decide +kernel
theorem dX4_isTooOld_26 : decode cX4_isTooOld 26 = .ok (.goto 4, 3) := by decide +kernel
theorem dX4_isTooOld_29 : decode cX4_isTooOld 29 = .ok (.iconst 0, 1) := by decide +kernel
theorem dX4_isTooOld_30 : decode cX4_isTooOld 30 = .ok (.ireturn, 1) := by decide +kernel
theorem dX5_init_0 : decode cX5_init 0 = .ok (.aload_n 0, 1) := by decide +kernel
theorem dX5_init_1 : decode cX5_init 1 = .ok (.invokespecial 3, 3) := by decide +kernel
theorem dX5_init_4 : decode cX5_init 4 = .ok (.aload_n 0, 1) := by decide +kernel
theorem dX5_init_5 : decode cX5_init 5 = .ok (.iconst 2, 1) := by decide +kernel
theorem dX5_init_6 : decode cX5_init 6 = .ok (.newarray .char, 2) := by decide +kernel
theorem dX5_init_8 : decode cX5_init 8 = .ok (.putfield 9, 3) := by decide +kernel
theorem dX5_init_11 : decode cX5_init 11 = .ok (.return_, 1) := by decide +kernel
theorem dX5_begin_0 : decode cX5_begin 0 = .ok (.aload_n 0, 1) := by decide +kernel
theorem dX5_begin_1 : decode cX5_begin 1 = .ok (.iload_n 1, 1) := by decide +kernel
theorem dX5_begin_2 : decode cX5_begin 2 = .ok (.putfield 15, 3) := by decide +kernel
theorem dX5_begin_5 : decode cX5_begin 5 = .ok (.aload_n 0, 1) := by decide +kernel
theorem dX5_begin_6 : decode cX5_begin 6 = .ok (.iload_n 2, 1) := by decide +kernel
theorem dX5_begin_7 : decode cX5_begin 7 = .ok (.putfield 19, 3) := by decide +kernel
theorem dX5_begin_10 : decode cX5_begin 10 = .ok (.aload_n 0, 1) := by decide +kernel
theorem dX5_begin_11 : decode cX5_begin 11 = .ok (.bipush 45, 2) := by decide +kernel
theorem dX5_begin_13 : decode cX5_begin 13 = .ok (.putfield 22, 3) := by decide +kernel
theorem dX5_begin_16 : decode cX5_begin 16 = .ok (.iconst 0, 1) := by decide +kernel
theorem dX5_begin_17 : decode cX5_begin 17 = .ok (.istore_n 3, 1) := by decide +kernel
theorem dX5_begin_18 : decode cX5_begin 18 = .ok (.iload_n 3, 1) := by decide +kernel
theorem dX5_begin_19 : decode cX5_begin 19 = .ok (.iconst 2, 1) := by decide +kernel
theorem dX5_begin_20 : decode cX5_begin 20 = .ok (.if_icmp .ge 17, 3) := by decide +kernel
theorem dX5_begin_23 : decode cX5_begin 23 = .ok (.aload_n 0, 1) := by decide +kernel
theorem dX5_begin_24 : decode cX5_begin 24 = .ok (.getfield 9, 3) := by decide +kernel
theorem dX5_begin_27 : decode cX5_begin 27 = .ok (.iload_n 3, 1) := by decide +kernel
theorem dX5_begin_28 : decode cX5_begin 28 = .ok (.bipush 45, 2) := by decide +kernel
theorem dX5_begin_30 : decode cX5_begin 30 = .ok (.castore, 1) := by decide +kernel
theorem dX5_begin_31 : decode cX5_begin 31 = .ok (.iinc 3 1, 3) := by decide +kernel
theorem dX5_begin_34 : decode cX5_begin 34 = .ok (.goto (-16), 3) := by decide +kernel
theorem dX5_begin_37 : decode cX5_begin 37 = .ok (.return_, 1) := by decide +kernel
theorem dX5_isDecided_0 : decode cX5_isDecided 0 = .ok (.aload_n 0, 1) := by decide +kernel
theorem dX5_isDecided_1 : decode cX5_isDecided 1 = .ok (.getfield 22, 3) := by decide +kernel
theorem dX5_isDecided_4 : decode cX5_isDecided 4 = .ok (.bipush 45, 2) := by decide +kernel
theorem dX5_isDecided_6 : decode cX5_isDecided 6 = .ok (.if_icmp .eq 7, 3) := by decide +kernel
theorem dX5_isDecided_9 : decode cX5_isDecided 9 = .ok (.iconst 1, 1) := by decide +kernel
theorem dX5_isDecided_10 : decode cX5_isDecided 10 = .ok (.goto 4, 3) := by decide +kernel
theorem dX5_isDecided_13 : decode cX5_isDecided 13 = .ok (.iconst 0, 1) := by decide +kernel
theorem dX5_isDecided_14 : decode cX5_isDecided 14 = .ok (.ireturn, 1) := by decide +kernel
theorem dX5_preparedCount_0 : decode cX5_preparedCount 0 = .ok (.iconst 0, 1) := by decide +kernel
theorem dX5_preparedCount_1 : decode cX5_preparedCount 1 = .ok (.istore_n 1, 1) := by decide +kernel
theorem dX5_preparedCount_2 : decode cX5_preparedCount 2 = .ok (.iconst 0, 1) := by decide +kernel
theorem dX5_preparedCount_3 : decode cX5_preparedCount 3 = .ok (.istore_n 2, 1) := by decide +kernel
theorem dX5_preparedCount_4 : decode cX5_preparedCount 4 = .ok (.iload_n 2, 1) := by decide +kernel
theorem dX5_preparedCount_5 : decode cX5_preparedCount 5 = .ok (.iconst 2, 1) := by decide +kernel
theorem dX5_preparedCount_6 : decode cX5_preparedCount 6 = .ok (.if_icmp .ge 23, 3) := by decide +kernel
theorem dX5_preparedCount_9 : decode cX5_preparedCount 9 = .ok (.aload_n 0, 1) := by decide +kernel
theorem dX5_preparedCount_10 : decode cX5_preparedCount 10 = .ok (.getfield 9, 3) := by decide +kernel
theorem dX5_preparedCount_13 : decode cX5_preparedCount 13 = .ok (.iload_n 2, 1) := by decide +kernel
theorem dX5_preparedCount_14 : decode cX5_preparedCount 14 = .ok (.caload, 1) := by decide +kernel
theorem dX5_preparedCount_15 : decode cX5_preparedCount 15 = .ok (.bipush 112, 2) := by decide +kernel
theorem dX5_preparedCount_17 : decode cX5_preparedCount 17 = .ok (.if_icmp .ne 6, 3) := by decide +kernel
theorem dX5_preparedCount_20 : decode cX5_preparedCount 20 = .ok (.iinc 1 1, 3) := by decide +kernel
theorem dX5_preparedCount_23 : decode cX5_preparedCount 23 = .ok (.iinc 2 1, 3) := by decide +kernel
theorem dX5_preparedCount_26 : decode cX5_preparedCount 26 = .ok (.goto (-22), 3) := by decide +kernel
theorem dX5_preparedCount_29 : decode cX5_preparedCount 29 = .ok (.iload_n 1, 1) := by decide +kernel
theorem dX5_preparedCount_30 : decode cX5_preparedCount 30 = .ok (.ireturn, 1) := by decide +kernel
set_option maxRecDepth 20000 in
theorem ggX6_init_X0_init : GoodIn wsX6_init wsX0_init := goodIn_r _ [21, 22, 2, 3, 17, 23, 24, 25, 26, 27, 28, 29, 30, 31, 32, 33, 34, 35, 36, 37, 38, 39, 40, 41, 42, 43, 44, 45, 46, 47, 48, 49, 50, 51, 52, 53, 54, 55, 56, 57, 80, 81, 82, 83, 84, 85, 86, 87, 88, 107, 108, 109, 110, 111, 112, 113, 114, 115, 116, 117, 118, 119] (by decide +kernel) (by decide +kernel)
set_option maxRecDepth 20000 in
theorem gX6_init_X0_init : GoodIn wsX6_init (wsX0_init) := ggX6_init_X0_init
set_option maxRecDepth 20000 in
theorem ggX6_init_X0_raiseWalls : GoodIn wsX6_init wsX0_raiseWalls := goodIn_r _ [61, 62, 63, 64, 65, 23, 24, 26, 30, 66, 67, 68, 69, 36, 70, 56, 57, 80, 81, 82, 83, 84, 85, 86, 87, 88, 107, 108, 109, 110, 111, 112, 113, 117, 118, 119] (by decide +kernel) (by decide +kernel)
set_option maxRecDepth 20000 in
theorem gX6_init_X0_raiseWalls : GoodIn wsX6_init (wsV RX6 19 RX0 yX0_raiseWalls wsX0_raiseWalls) := goodIn_app (goodIn_of _ (by decide +kernel)) ggX6_init_X0_raiseWalls
set_option maxRecDepth 20000 in
theorem ggX6_init_X4_init : GoodIn wsX6_init wsX4_init := goodIn_r _ [73, 74, 2, 3, 75, 97, 98, 99, 100, 101, 102] (by decide +kernel) (by decide +kernel)
set_option maxRecDepth 20000 in
theorem gX6_init_X4_init : GoodIn wsX6_init (wsX4_init) := ggX6_init_X4_init
set_option maxRecDepth 20000 in
theorem ggX6_init_X5_init : GoodIn wsX6_init wsX5_init := goodIn_r _ [77, 78, 2, 3, 40, 79, 103, 104, 105, 106] (by decide +kernel) (by decide +kernel)
set_option maxRecDepth 20000 in
theorem gX6_init_X5_init_n38 : GoodIn wsX6_init (wsX5_init) := ggX6_init_X5_init
theorem dX6_init_0 : decode cX6_init 0 = .ok (.aload_n 0, 1) := by decide +kernel
theorem dX6_init_1 : decode cX6_init 1 = .ok (.invokespecial 1, 3) := by decide +kernel
theorem dX6_init_4 : decode cX6_init 4 = .ok (.aload_n 0, 1) := by decide +kernel
theorem dX6_init_5 : decode cX6_init 5 = .ok (.new 7, 3) := by decide +kernel
theorem dX6_init_8 : decode cX6_init 8 = .ok (.dup, 1) := by decide +kernel
theorem dX6_init_9 : decode cX6_init 9 = .ok (.invokespecial 9, 3) := by decide +kernel
theorem dX6_init_12 : decode cX6_init 12 = .ok (.putfield 10, 3) := by decide +kernel
theorem dX6_init_15 : decode cX6_init 15 = .ok (.aload_n 0, 1) := by decide +kernel
theorem dX6_init_16 : decode cX6_init 16 = .ok (.new 7, 3) := by decide +kernel
theorem dX6_init_19 : decode cX6_init 19 = .ok (.dup, 1) := by decide +kernel
theorem dX6_init_20 : decode cX6_init 20 = .ok (.invokespecial 9, 3) := by decide +kernel
theorem dX6_init_23 : decode cX6_init 23 = .ok (.putfield 16, 3) := by decide +kernel
theorem dX6_init_26 : decode cX6_init 26 = .ok (.aload_n 0, 1) := by decide +kernel
theorem dX6_init_27 : decode cX6_init 27 = .ok (.getfield 10, 3) := by decide +kernel
theorem dX6_init_30 : decode cX6_init 30 = .ok (.iconst 3, 1) := by decide +kernel
theorem dX6_init_31 : decode cX6_init 31 = .ok (.bipush 100, 2) := by decide +kernel
theorem dX6_init_33 : decode cX6_init 33 = .ok (.invokevirtual 19, 3) := by decide +kernel
theorem dX6_init_36 : decode cX6_init 36 = .ok (.aload_n 0, 1) := by decide +kernel
theorem dX6_init_37 : decode cX6_init 37 = .ok (.getfield 16, 3) := by decide +kernel
theorem dX6_init_40 : decode cX6_init 40 = .ok (.iconst 3, 1) := by decide +kernel
theorem dX6_init_41 : decode cX6_init 41 = .ok (.bipush 100, 2) := by decide +kernel
theorem dX6_init_43 : decode cX6_init 43 = .ok (.invokevirtual 19, 3) := by decide +kernel
theorem dX6_init_46 : decode cX6_init 46 = .ok (.aload_n 0, 1) := by decide +kernel
theorem dX6_init_47 : decode cX6_init 47 = .ok (.bipush 20, 2) := by decide +kernel
theorem dX6_init_49 : decode cX6_init 49 = .ok (.anewarray 23, 3) := by decide +kernel
theorem dX6_init_52 : decode cX6_init 52 = .ok (.putfield 25, 3) := by decide +kernel
theorem dX6_init_55 : decode cX6_init 55 = .ok (.iconst 0, 1) := by decide +kernel
theorem dX6_init_56 : decode cX6_init 56 = .ok (.istore_n 1, 1) := by decide +kernel
theorem dX6_init_57 : decode cX6_init 57 = .ok (.iload_n 1, 1) := by decide +kernel
theorem dX6_init_58 : decode cX6_init 58 = .ok (.bipush 20, 2) := by decide +kernel
theorem dX6_init_60 : decode cX6_init 60 = .ok (.if_icmp .ge 26, 3) := by decide +kernel
theorem dX6_init_63 : decode cX6_init 63 = .ok (.aload_n 0, 1) := by decide +kernel
theorem dX6_init_64 : decode cX6_init 64 = .ok (.getfield 25, 3) := by decide +kernel
theorem dX6_init_67 : decode cX6_init 67 = .ok (.iload_n 1, 1) := by decide +kernel
theorem dX6_init_68 : decode cX6_init 68 = .ok (.new 23, 3) := by decide +kernel
theorem dX6_init_71 : decode cX6_init 71 = .ok (.dup, 1) := by decide +kernel
theorem dX6_init_72 : decode cX6_init 72 = .ok (.aload_n 0, 1) := by decide +kernel
theorem dX6_init_73 : decode cX6_init 73 = .ok (.getfield 10, 3) := by decide +kernel
theorem dX6_init_76 : decode cX6_init 76 = .ok (.invokespecial 29, 3) := by decide +kernel
theorem dX6_init_79 : decode cX6_init 79 = .ok (.aastore, 1) := by decide +kernel
theorem dX6_init_80 : decode cX6_init 80 = .ok (.iinc 1 1, 3) := by decide +kernel
theorem dX6_init_83 : decode cX6_init 83 = .ok (.goto (-26), 3) := by decide +kernel
theorem dX6_init_86 : decode cX6_init 86 = .ok (.aload_n 0, 1) := by decide +kernel
theorem dX6_init_87 : decode cX6_init 87 = .ok (.bipush 8, 2) := by decide +kernel
theorem dX6_init_89 : decode cX6_init 89 = .ok (.anewarray 32, 3) := by decide +kernel
theorem dX6_init_92 : decode cX6_init 92 = .ok (.putfield 34, 3) := by decide +kernel
theorem dX6_init_95 : decode cX6_init 95 = .ok (.iconst 0, 1) := by decide +kernel
theorem dX6_init_96 : decode cX6_init 96 = .ok (.istore_n 1, 1) := by decide +kernel
theorem dX6_init_97 : decode cX6_init 97 = .ok (.iload_n 1, 1) := by decide +kernel
theorem dX6_init_98 : decode cX6_init 98 = .ok (.bipush 8, 2) := by decide +kernel
theorem dX6_init_100 : decode cX6_init 100 = .ok (.if_icmp .ge 22, 3) := by decide +kernel
theorem dX6_init_103 : decode cX6_init 103 = .ok (.aload_n 0, 1) := by decide +kernel
theorem dX6_init_104 : decode cX6_init 104 = .ok (.getfield 34, 3) := by decide +kernel
theorem dX6_init_107 : decode cX6_init 107 = .ok (.iload_n 1, 1) := by decide +kernel
theorem dX6_init_108 : decode cX6_init 108 = .ok (.new 32, 3) := by decide +kernel
theorem dX6_init_111 : decode cX6_init 111 = .ok (.dup, 1) := by decide +kernel
theorem dX6_init_112 : decode cX6_init 112 = .ok (.invokespecial 38, 3) := by decide +kernel
theorem dX6_init_115 : decode cX6_init 115 = .ok (.aastore, 1) := by decide +kernel
theorem dX6_init_116 : decode cX6_init 116 = .ok (.iinc 1 1, 3) := by decide +kernel
theorem dX6_init_119 : decode cX6_init 119 = .ok (.goto (-22), 3) := by decide +kernel
theorem dX6_init_122 : decode cX6_init 122 = .ok (.aload_n 0, 1) := by decide +kernel
theorem dX6_init_123 : decode cX6_init 123 = .ok (.iconst 4, 1) := by decide +kernel
theorem dX6_init_124 : decode cX6_init 124 = .ok (.newarray .int, 2) := by decide +kernel
theorem dX6_init_126 : decode cX6_init 126 = .ok (.putfield 39, 3) := by decide +kernel
theorem dX6_init_129 : decode cX6_init 129 = .ok (.return_, 1) := by decide +kernel
set_option maxRecDepth 20000 in
theorem ggX6_build_X6_castleAt : GoodIn wsX6_build wsX6_castleAt := goodIn_ca (goodIn_r _ [11, 12, 13, 14, 15, 10, 16, 17, 18, 63, 64, 65, 66, 67, 68, 69, 70] (by decide +kernel) (by decide +kernel)) (goodIn_sub (fun _ h => List.mem_cons_of_mem _ (List.mem_append_right _ h)) (by decide +kernel))
set_option maxRecDepth 20000 in
theorem gX6_build_X6_castleAt : GoodIn wsX6_build (wsV RX6 43 RX6 yX6_castleAt wsX6_castleAt) := goodIn_app (goodIn_of _ (by decide +kernel)) ggX6_build_X6_castleAt
set_option maxRecDepth 20000 in
theorem ggX6_build_X6_openTruceAt : GoodIn wsX6_build wsX6_openTruceAt := goodIn_r _ [22, 23, 24, 25, 63, 64, 65, 66, 67, 68, 69, 70, 71, 72, 73, 74] (by decide +kernel) (by decide +kernel)
set_option maxRecDepth 20000 in
theorem gX6_build_X6_openTruceAt : GoodIn wsX6_build (wsV RX6 54 RX6 yX6_openTruceAt wsX6_openTruceAt) := goodIn_app (goodIn_of _ (by decide +kernel)) ggX6_build_X6_openTruceAt
set_option maxRecDepth 20000 in
theorem ggX6_build_X0_raiseWalls : GoodIn wsX6_build wsX0_raiseWalls := goodIn_r _ [30, 31, 32, 33, 34, 35, 36, 37, 38, 39, 40, 41, 42, 43, 44, 45, 46, 47, 48, 49, 50, 51, 52, 53, 54, 55, 56, 57, 58, 59, 60, 61, 62, 75, 76, 77] (by decide +kernel) (by decide +kernel)
set_option maxRecDepth 20000 in
theorem gX6_build_X0_raiseWalls : GoodIn wsX6_build (wsV RX6 19 RX0 yX0_raiseWalls wsX0_raiseWalls) := goodIn_app (goodIn_of _ (by decide +kernel)) ggX6_build_X0_raiseWalls
theorem dX6_build_0 : decode cX6_build 0 = .ok (.aload_n 0, 1) := by decide +kernel
theorem dX6_build_1 : decode cX6_build 1 = .ok (.iload_n 1, 1) := by decide +kernel
theorem dX6_build_2 : decode cX6_build 2 = .ok (.invokevirtual 43, 3) := by decide +kernel
theorem dX6_build_5 : decode cX6_build 5 = .ok (.astore 4, 2) := by decide +kernel
theorem dX6_build_7 : decode cX6_build 7 = .ok (.iload_n 2, 1) := by decide +kernel
theorem dX6_build_8 : decode cX6_build 8 = .ok (.iconst 1, 1) := by decide +kernel
theorem dX6_build_9 : decode cX6_build 9 = .ok (.if_icmp .lt 20, 3) := by decide +kernel
theorem dX6_build_12 : decode cX6_build 12 = .ok (.iload_n 2, 1) := by decide +kernel
theorem dX6_build_13 : decode cX6_build 13 = .ok (.bipush 7, 2) := by decide +kernel
theorem dX6_build_15 : decode cX6_build 15 = .ok (.if_icmp .gt 14, 3) := by decide +kernel
theorem dX6_build_18 : decode cX6_build 18 = .ok (.iload_n 3, 1) := by decide +kernel
theorem dX6_build_19 : decode cX6_build 19 = .ok (.ifCond .lt 10, 3) := by decide +kernel
theorem dX6_build_22 : decode cX6_build 22 = .ok (.iload_n 3, 1) := by decide +kernel
theorem dX6_build_23 : decode cX6_build 23 = .ok (.sipush 9999, 3) := by decide +kernel
theorem dX6_build_26 : decode cX6_build 26 = .ok (.if_icmp .le 13, 3) := by decide +kernel
theorem dX6_build_29 : decode cX6_build 29 = .ok (.new 47, 3) := by decide +kernel
theorem dX6_build_32 : decode cX6_build 32 = .ok (.dup, 1) := by decide +kernel
theorem dX6_build_33 : decode cX6_build 33 = .ok (.ldc 49, 2) := by decide +kernel
theorem dX6_build_35 : decode cX6_build 35 = .ok (.invokespecial 51, 3) := by decide +kernel
theorem dX6_build_38 : decode cX6_build 38 = .ok (.athrow, 1) := by decide +kernel
theorem dX6_build_39 : decode cX6_build 39 = .ok (.aload_n 0, 1) := by decide +kernel
theorem dX6_build_40 : decode cX6_build 40 = .ok (.iload_n 1, 1) := by decide +kernel
theorem dX6_build_41 : decode cX6_build 41 = .ok (.invokevirtual 54, 3) := by decide +kernel
theorem dX6_build_44 : decode cX6_build 44 = .ok (.ifCond .lt 13, 3) := by decide +kernel
theorem dX6_build_47 : decode cX6_build 47 = .ok (.new 58, 3) := by decide +kernel
theorem dX6_build_50 : decode cX6_build 50 = .ok (.dup, 1) := by decide +kernel
theorem dX6_build_51 : decode cX6_build 51 = .ok (.ldc 60, 2) := by decide +kernel
theorem dX6_build_53 : decode cX6_build 53 = .ok (.invokespecial 62, 3) := by decide +kernel
theorem dX6_build_56 : decode cX6_build 56 = .ok (.athrow, 1) := by decide +kernel
theorem dX6_build_57 : decode cX6_build 57 = .ok (.aload 4, 2) := by decide +kernel
theorem dX6_build_59 : decode cX6_build 59 = .ok (.getfield 63, 3) := by decide +kernel
theorem dX6_build_62 : decode cX6_build 62 = .ok (.getfield 67, 3) := by decide +kernel
theorem dX6_build_65 : decode cX6_build 65 = .ok (.istore 5, 2) := by decide +kernel
theorem dX6_build_67 : decode cX6_build 67 = .ok (.aload 4, 2) := by decide +kernel
theorem dX6_build_69 : decode cX6_build 69 = .ok (.iload_n 2, 1) := by decide +kernel
theorem dX6_build_70 : decode cX6_build 70 = .ok (.iload_n 3, 1) := by decide +kernel
theorem dX6_build_71 : decode cX6_build 71 = .ok (.invokevirtual 19, 3) := by decide +kernel
theorem dX6_build_74 : decode cX6_build 74 = .ok (.iload 5, 2) := by decide +kernel
theorem dX6_build_76 : decode cX6_build 76 = .ok (.ireturn, 1) := by decide +kernel
theorem dX6_wait_0 : decode cX6_wait 0 = .ok (.iload_n 1, 1) := by decide +kernel
theorem dX6_wait_1 : decode cX6_wait 1 = .ok (.iconst 1, 1) := by decide +kernel
theorem dX6_wait_2 : decode cX6_wait 2 = .ok (.if_icmp .lt 9, 3) := by decide +kernel
theorem dX6_wait_5 : decode cX6_wait 5 = .ok (.iload_n 1, 1) := by decide +kernel
theorem dX6_wait_6 : decode cX6_wait 6 = .ok (.bipush 100, 2) := by decide +kernel
theorem dX6_wait_8 : decode cX6_wait 8 = .ok (.if_icmp .le 13, 3) := by decide +kernel
theorem dX6_wait_11 : decode cX6_wait 11 = .ok (.new 47, 3) := by decide +kernel
theorem dX6_wait_14 : decode cX6_wait 14 = .ok (.dup, 1) := by decide +kernel
theorem dX6_wait_15 : decode cX6_wait 15 = .ok (.ldc 73, 2) := by decide +kernel
theorem dX6_wait_17 : decode cX6_wait 17 = .ok (.invokespecial 51, 3) := by decide +kernel
theorem dX6_wait_20 : decode cX6_wait 20 = .ok (.athrow, 1) := by decide +kernel
theorem dX6_wait_21 : decode cX6_wait 21 = .ok (.aload_n 0, 1) := by decide +kernel
theorem dX6_wait_22 : decode cX6_wait 22 = .ok (.dup, 1) := by decide +kernel
theorem dX6_wait_23 : decode cX6_wait 23 = .ok (.getfield 75, 3) := by decide +kernel
theorem dX6_wait_26 : decode cX6_wait 26 = .ok (.iload_n 1, 1) := by decide +kernel
theorem dX6_wait_27 : decode cX6_wait 27 = .ok (.iadd, 1) := by decide +kernel
theorem dX6_wait_28 : decode cX6_wait 28 = .ok (.putfield 75, 3) := by decide +kernel
theorem dX6_wait_31 : decode cX6_wait 31 = .ok (.aload_n 0, 1) := by decide +kernel
theorem dX6_wait_32 : decode cX6_wait 32 = .ok (.getfield 75, 3) := by decide +kernel
theorem dX6_wait_35 : decode cX6_wait 35 = .ok (.ireturn, 1) := by decide +kernel
set_option maxRecDepth 20000 in
theorem ggX6_fall_X6_castleAt : GoodIn wsX6_fall wsX6_castleAt := goodIn_ca (goodIn_r _ [5, 6, 7, 8, 9, 4, 10, 11, 12, 31, 32, 33, 34, 35, 36, 37, 38] (by decide +kernel) (by decide +kernel)) (goodIn_sub (fun _ h => List.mem_cons_of_mem _ (List.mem_append_right _ h)) (by decide +kernel))
set_option maxRecDepth 20000 in
theorem gX6_fall_X6_castleAt : GoodIn wsX6_fall (wsV RX6 43 RX6 yX6_castleAt wsX6_castleAt) := goodIn_app (goodIn_of _ (by decide +kernel)) ggX6_fall_X6_castleAt
set_option maxRecDepth 20000 in
theorem ggX6_fall_X6_requireTower : GoodIn wsX6_fall wsX6_requireTower := goodIn_ca (goodIn_r _ [15, 11, 12, 16, 39, 40, 41, 42, 43, 44, 45, 46, 47] (by decide +kernel) (by decide +kernel)) (goodIn_sub (fun _ h => List.mem_cons_of_mem _ (List.mem_append_right _ h)) (by decide +kernel))
set_option maxRecDepth 20000 in
theorem gX6_fall_X6_requireTower : GoodIn wsX6_fall (va_wsS RX6 78 yX6_requireTower wsX6_requireTower) := goodIn_app (goodIn_of _ (by decide +kernel)) ggX6_fall_X6_requireTower
set_option maxRecDepth 20000 in
theorem ggX6_fall_X0_isUp : GoodIn wsX6_fall wsX0_isUp := goodIn_r _ [21, 22, 23, 4, 24, 39, 40, 41, 42, 43, 44, 45, 46, 47] (by decide +kernel) (by decide +kernel)
set_option maxRecDepth 20000 in
theorem gX6_fall_X0_isUp : GoodIn wsX6_fall (wsV RX6 82 RX0 yX0_isUp wsX0_isUp) := goodIn_app (goodIn_of _ (by decide +kernel)) ggX6_fall_X0_isUp
set_option maxRecDepth 20000 in
theorem ggX6_fall_X0_bringDown : GoodIn wsX6_fall wsX0_bringDown := goodIn_r _ [28, 22, 29, 30, 39, 40, 41, 42, 43, 44, 45, 46, 47, 48, 49, 50] (by decide +kernel) (by decide +kernel)
set_option maxRecDepth 20000 in
theorem gX6_fall_X0_bringDown : GoodIn wsX6_fall (wsV RX6 86 RX0 yX0_bringDown wsX0_bringDown) := goodIn_app (goodIn_of _ (by decide +kernel)) ggX6_fall_X0_bringDown
theorem dX6_fall_0 : decode cX6_fall 0 = .ok (.aload_n 0, 1) := by decide +kernel
theorem dX6_fall_1 : decode cX6_fall 1 = .ok (.iload_n 1, 1) := by decide +kernel
theorem dX6_fall_2 : decode cX6_fall 2 = .ok (.invokevirtual 43, 3) := by decide +kernel
theorem dX6_fall_5 : decode cX6_fall 5 = .ok (.astore_n 3, 1) := by decide +kernel
theorem dX6_fall_6 : decode cX6_fall 6 = .ok (.aload_n 3, 1) := by decide +kernel
theorem dX6_fall_7 : decode cX6_fall 7 = .ok (.iload_n 2, 1) := by decide +kernel
theorem dX6_fall_8 : decode cX6_fall 8 = .ok (.invokestatic 78, 3) := by decide +kernel
theorem dX6_fall_11 : decode cX6_fall 11 = .ok (.aload_n 3, 1) := by decide +kernel
theorem dX6_fall_12 : decode cX6_fall 12 = .ok (.iload_n 2, 1) := by decide +kernel
theorem dX6_fall_13 : decode cX6_fall 13 = .ok (.invokevirtual 82, 3) := by decide +kernel
theorem dX6_fall_16 : decode cX6_fall 16 = .ok (.istore 4, 2) := by decide +kernel
theorem dX6_fall_18 : decode cX6_fall 18 = .ok (.aload_n 3, 1) := by decide +kernel
theorem dX6_fall_19 : decode cX6_fall 19 = .ok (.iload_n 2, 1) := by decide +kernel
theorem dX6_fall_20 : decode cX6_fall 20 = .ok (.invokevirtual 86, 3) := by decide +kernel
theorem dX6_fall_23 : decode cX6_fall 23 = .ok (.iload 4, 2) := by decide +kernel
theorem dX6_fall_25 : decode cX6_fall 25 = .ok (.ireturn, 1) := by decide +kernel
set_option maxRecDepth 20000 in
theorem ggX6_burn_X6_castleAt : GoodIn wsX6_burn wsX6_castleAt := goodIn_ca (goodIn_r _ [6, 7, 8, 9, 10, 5, 11, 12, 13, 44, 45, 46, 47, 48, 49, 50, 51] (by decide +kernel) (by decide +kernel)) (goodIn_sub (fun _ h => List.mem_cons_of_mem _ (List.mem_append_right _ h)) (by decide +kernel))
set_option maxRecDepth 20000 in
theorem gX6_burn_X6_castleAt : GoodIn wsX6_burn (wsV RX6 43 RX6 yX6_castleAt wsX6_castleAt) := goodIn_app (goodIn_of _ (by decide +kernel)) ggX6_burn_X6_castleAt
set_option maxRecDepth 20000 in
theorem ggX6_burn_X6_requireTower : GoodIn wsX6_burn wsX6_requireTower := goodIn_ca (goodIn_r _ [16, 12, 13, 17, 35, 36, 37, 38, 39, 40, 41, 42, 43] (by decide +kernel) (by decide +kernel)) (goodIn_sub (fun _ h => List.mem_cons_of_mem _ (List.mem_append_right _ h)) (by decide +kernel))
set_option maxRecDepth 20000 in
theorem gX6_burn_X6_requireTower : GoodIn wsX6_burn (va_wsS RX6 78 yX6_requireTower wsX6_requireTower) := goodIn_app (goodIn_of _ (by decide +kernel)) ggX6_burn_X6_requireTower
set_option maxRecDepth 20000 in
theorem ggX6_burn_X0_bringDown : GoodIn wsX6_burn wsX0_bringDown := goodIn_r _ [22, 23, 24, 25, 35, 36, 37, 38, 39, 40, 41, 42, 43, 52, 53, 54] (by decide +kernel) (by decide +kernel)
set_option maxRecDepth 20000 in
theorem gX6_burn_X0_bringDown : GoodIn wsX6_burn (wsV RX6 86 RX0 yX0_bringDown wsX0_bringDown) := goodIn_app (goodIn_of _ (by decide +kernel)) ggX6_burn_X0_bringDown
set_option maxRecDepth 20000 in
theorem ggX6_burn_X3_dropAllOf : GoodIn wsX6_burn wsX3_dropAllOf := goodIn_r _ [30, 31, 32, 33, 5, 34, 55, 56, 57, 58, 59, 60, 61] (by decide +kernel) (by decide +kernel)
set_option maxRecDepth 20000 in
theorem gX6_burn_X3_dropAllOf : GoodIn wsX6_burn (wsV RX6 90 RX3 yX3_dropAllOf wsX3_dropAllOf) := goodIn_app (goodIn_of _ (by decide +kernel)) ggX6_burn_X3_dropAllOf
theorem dX6_burn_0 : decode cX6_burn 0 = .ok (.aload_n 0, 1) := by decide +kernel
theorem dX6_burn_1 : decode cX6_burn 1 = .ok (.iload_n 1, 1) := by decide +kernel
theorem dX6_burn_2 : decode cX6_burn 2 = .ok (.invokevirtual 43, 3) := by decide +kernel
theorem dX6_burn_5 : decode cX6_burn 5 = .ok (.astore_n 3, 1) := by decide +kernel
theorem dX6_burn_6 : decode cX6_burn 6 = .ok (.aload_n 3, 1) := by decide +kernel
theorem dX6_burn_7 : decode cX6_burn 7 = .ok (.iload_n 2, 1) := by decide +kernel
theorem dX6_burn_8 : decode cX6_burn 8 = .ok (.invokestatic 78, 3) := by decide +kernel
theorem dX6_burn_11 : decode cX6_burn 11 = .ok (.aload_n 3, 1) := by decide +kernel
theorem dX6_burn_12 : decode cX6_burn 12 = .ok (.iload_n 2, 1) := by decide +kernel
theorem dX6_burn_13 : decode cX6_burn 13 = .ok (.invokevirtual 86, 3) := by decide +kernel
theorem dX6_burn_16 : decode cX6_burn 16 = .ok (.aload_n 3, 1) := by decide +kernel
theorem dX6_burn_17 : decode cX6_burn 17 = .ok (.getfield 63, 3) := by decide +kernel
theorem dX6_burn_20 : decode cX6_burn 20 = .ok (.iload_n 2, 1) := by decide +kernel
theorem dX6_burn_21 : decode cX6_burn 21 = .ok (.invokevirtual 90, 3) := by decide +kernel
theorem dX6_burn_24 : decode cX6_burn 24 = .ok (.ireturn, 1) := by decide +kernel
set_option maxRecDepth 20000 in
theorem ggX6_rise_X6_castleAt : GoodIn wsX6_rise wsX6_castleAt := goodIn_ca (goodIn_r _ [6, 7, 8, 9, 10, 5, 11, 12, 13, 31, 32, 33, 34, 35, 36, 37, 38] (by decide +kernel) (by decide +kernel)) (goodIn_sub (fun _ h => List.mem_cons_of_mem _ (List.mem_append_right _ h)) (by decide +kernel))
set_option maxRecDepth 20000 in
theorem gX6_rise_X6_castleAt : GoodIn wsX6_rise (wsV RX6 43 RX6 yX6_castleAt wsX6_castleAt) := goodIn_app (goodIn_of _ (by decide +kernel)) ggX6_rise_X6_castleAt
set_option maxRecDepth 20000 in
theorem ggX6_rise_X6_requireTower : GoodIn wsX6_rise wsX6_requireTower := goodIn_ca (goodIn_r _ [16, 12, 13, 17, 39, 40, 41, 42, 43, 44, 45, 46, 47] (by decide +kernel) (by decide +kernel)) (goodIn_sub (fun _ h => List.mem_cons_of_mem _ (List.mem_append_right _ h)) (by decide +kernel))
set_option maxRecDepth 20000 in
theorem gX6_rise_X6_requireTower : GoodIn wsX6_rise (va_wsS RX6 78 yX6_requireTower wsX6_requireTower) := goodIn_app (goodIn_of _ (by decide +kernel)) ggX6_rise_X6_requireTower
set_option maxRecDepth 20000 in
theorem ggX6_rise_X0_isUp : GoodIn wsX6_rise wsX0_isUp := goodIn_r _ [22, 23, 24, 5, 25, 39, 40, 41, 42, 43, 44, 45, 46, 47] (by decide +kernel) (by decide +kernel)
set_option maxRecDepth 20000 in
theorem gX6_rise_X0_isUp : GoodIn wsX6_rise (wsV RX6 82 RX0 yX0_isUp wsX0_isUp) := goodIn_app (goodIn_of _ (by decide +kernel)) ggX6_rise_X0_isUp
set_option maxRecDepth 20000 in
theorem ggX6_rise_X0_bringUp : GoodIn wsX6_rise wsX0_bringUp := goodIn_r _ [29, 23, 30, 39, 40, 41, 42, 43, 44, 45, 46, 47] (by decide +kernel) (by decide +kernel)
set_option maxRecDepth 20000 in
theorem gX6_rise_X0_bringUp : GoodIn wsX6_rise (wsV RX6 93 RX0 yX0_bringUp wsX0_bringUp) := goodIn_app (goodIn_of _ (by decide +kernel)) ggX6_rise_X0_bringUp
theorem dX6_rise_0 : decode cX6_rise 0 = .ok (.aload_n 0, 1) := by decide +kernel
theorem dX6_rise_1 : decode cX6_rise 1 = .ok (.iload_n 1, 1) := by decide +kernel
theorem dX6_rise_2 : decode cX6_rise 2 = .ok (.invokevirtual 43, 3) := by decide +kernel
theorem dX6_rise_5 : decode cX6_rise 5 = .ok (.astore_n 3, 1) := by decide +kernel
theorem dX6_rise_6 : decode cX6_rise 6 = .ok (.aload_n 3, 1) := by decide +kernel
theorem dX6_rise_7 : decode cX6_rise 7 = .ok (.iload_n 2, 1) := by decide +kernel
theorem dX6_rise_8 : decode cX6_rise 8 = .ok (.invokestatic 78, 3) := by decide +kernel
theorem dX6_rise_11 : decode cX6_rise 11 = .ok (.aload_n 3, 1) := by decide +kernel
theorem dX6_rise_12 : decode cX6_rise 12 = .ok (.iload_n 2, 1) := by decide +kernel
theorem dX6_rise_13 : decode cX6_rise 13 = .ok (.invokevirtual 82, 3) := by decide +kernel
theorem dX6_rise_16 : decode cX6_rise 16 = .ok (.ifCond .eq 5, 3) := by decide +kernel
theorem dX6_rise_19 : decode cX6_rise 19 = .ok (.iconst 0, 1) := by decide +kernel
theorem dX6_rise_20 : decode cX6_rise 20 = .ok (.ireturn, 1) := by decide +kernel
theorem dX6_rise_21 : decode cX6_rise 21 = .ok (.aload_n 3, 1) := by decide +kernel
theorem dX6_rise_22 : decode cX6_rise 22 = .ok (.iload_n 2, 1) := by decide +kernel
theorem dX6_rise_23 : decode cX6_rise 23 = .ok (.aload_n 0, 1) := by decide +kernel
theorem dX6_rise_24 : decode cX6_rise 24 = .ok (.getfield 75, 3) := by decide +kernel
theorem dX6_rise_27 : decode cX6_rise 27 = .ok (.bipush 20, 2) := by decide +kernel
theorem dX6_rise_29 : decode cX6_rise 29 = .ok (.iadd, 1) := by decide +kernel
theorem dX6_rise_30 : decode cX6_rise 30 = .ok (.invokevirtual 93, 3) := by decide +kernel
theorem dX6_rise_33 : decode cX6_rise 33 = .ok (.iconst 1, 1) := by decide +kernel
theorem dX6_rise_34 : decode cX6_rise 34 = .ok (.ireturn, 1) := by decide +kernel
set_option maxRecDepth 20000 in
theorem ggX6_cut_X6_castleAt : GoodIn wsX6_cut wsX6_castleAt := goodIn_ca (goodIn_r _ [5, 6, 7, 8, 9, 4, 10, 11, 12, 28, 29, 30, 31, 32, 33, 34, 35] (by decide +kernel) (by decide +kernel)) (goodIn_sub (fun _ h => List.mem_cons_of_mem _ (List.mem_append_right _ h)) (by decide +kernel))
set_option maxRecDepth 20000 in
theorem gX6_cut_X6_castleAt : GoodIn wsX6_cut (wsV RX6 43 RX6 yX6_castleAt wsX6_castleAt) := goodIn_app (goodIn_of _ (by decide +kernel)) ggX6_cut_X6_castleAt
set_option maxRecDepth 20000 in
theorem ggX6_cut_X6_requireTower : GoodIn wsX6_cut wsX6_requireTower := goodIn_ca (goodIn_r _ [15, 11, 12, 16, 36, 37, 38, 39, 40, 41, 42, 43, 44] (by decide +kernel) (by decide +kernel)) (goodIn_sub (fun _ h => List.mem_cons_of_mem _ (List.mem_append_right _ h)) (by decide +kernel))
set_option maxRecDepth 20000 in
theorem gX6_cut_X6_requireTower : GoodIn wsX6_cut (va_wsS RX6 78 yX6_requireTower wsX6_requireTower) := goodIn_app (goodIn_of _ (by decide +kernel)) ggX6_cut_X6_requireTower
set_option maxRecDepth 20000 in
theorem ggX6_cut_X6_requireLord : GoodIn wsX6_cut wsX6_requireLord := goodIn_ca (goodIn_r _ [19, 11, 12] (by decide +kernel) (by decide +kernel)) (goodIn_sub (fun _ h => List.mem_cons_of_mem _ (List.mem_append_right _ h)) (by decide +kernel))
set_option maxRecDepth 20000 in
theorem gX6_cut_X6_requireLord : GoodIn wsX6_cut (va_wsS RX6 96 yX6_requireLord wsX6_requireLord) := goodIn_app (goodIn_of _ (by decide +kernel)) ggX6_cut_X6_requireLord
set_option maxRecDepth 20000 in
theorem ggX6_cut_X0_setCut : GoodIn wsX6_cut wsX0_setCut := goodIn_r _ [24, 25, 26, 4, 27, 36, 37, 38, 39, 40, 41, 42, 43, 44] (by decide +kernel) (by decide +kernel)
set_option maxRecDepth 20000 in
theorem gX6_cut_X0_setCut : GoodIn wsX6_cut (wsV RX6 99 RX0 yX0_setCut wsX0_setCut) := goodIn_app (goodIn_of _ (by decide +kernel)) ggX6_cut_X0_setCut
theorem dX6_cut_0 : decode cX6_cut 0 = .ok (.aload_n 0, 1) := by decide +kernel
theorem dX6_cut_1 : decode cX6_cut 1 = .ok (.iload_n 1, 1) := by decide +kernel
theorem dX6_cut_2 : decode cX6_cut 2 = .ok (.invokevirtual 43, 3) := by decide +kernel
theorem dX6_cut_5 : decode cX6_cut 5 = .ok (.astore 5, 2) := by decide +kernel
theorem dX6_cut_7 : decode cX6_cut 7 = .ok (.aload 5, 2) := by decide +kernel
theorem dX6_cut_9 : decode cX6_cut 9 = .ok (.iload_n 2, 1) := by decide +kernel
theorem dX6_cut_10 : decode cX6_cut 10 = .ok (.invokestatic 78, 3) := by decide +kernel
theorem dX6_cut_13 : decode cX6_cut 13 = .ok (.iload_n 3, 1) := by decide +kernel
theorem dX6_cut_14 : decode cX6_cut 14 = .ok (.invokestatic 96, 3) := by decide +kernel
theorem dX6_cut_17 : decode cX6_cut 17 = .ok (.aload 5, 2) := by decide +kernel
theorem dX6_cut_19 : decode cX6_cut 19 = .ok (.iload_n 2, 1) := by decide +kernel
theorem dX6_cut_20 : decode cX6_cut 20 = .ok (.iload_n 3, 1) := by decide +kernel
theorem dX6_cut_21 : decode cX6_cut 21 = .ok (.iload 4, 2) := by decide +kernel
theorem dX6_cut_23 : decode cX6_cut 23 = .ok (.invokevirtual 99, 3) := by decide +kernel
theorem dX6_cut_26 : decode cX6_cut 26 = .ok (.ireturn, 1) := by decide +kernel
set_option maxRecDepth 20000 in
theorem ggX6_lease_X6_castleAt : GoodIn wsX6_lease wsX6_castleAt := goodIn_ca (goodIn_r _ [11, 12, 13, 14, 15, 10, 16, 17, 18, 76, 77, 78, 79, 80, 81, 82, 83] (by decide +kernel) (by decide +kernel)) (goodIn_sub (fun _ h => List.mem_cons_of_mem _ (List.mem_append_right _ h)) (by decide +kernel))
set_option maxRecDepth 20000 in
theorem gX6_lease_X6_castleAt : GoodIn wsX6_lease (wsV RX6 43 RX6 yX6_castleAt wsX6_castleAt) := goodIn_app (goodIn_of _ (by decide +kernel)) ggX6_lease_X6_castleAt
set_option maxRecDepth 20000 in
theorem ggX6_lease_X6_requireGate : GoodIn wsX6_lease wsX6_requireGate := goodIn_ca (goodIn_r _ [21, 17, 18] (by decide +kernel) (by decide +kernel)) (goodIn_sub (fun _ h => List.mem_cons_of_mem _ (List.mem_append_right _ h)) (by decide +kernel))
set_option maxRecDepth 20000 in
theorem gX6_lease_X6_requireGate : GoodIn wsX6_lease (va_wsS RX6 103 yX6_requireGate wsX6_requireGate) := goodIn_app (goodIn_of _ (by decide +kernel)) ggX6_lease_X6_requireGate
set_option maxRecDepth 20000 in
theorem ggX6_lease_X6_requireLord : GoodIn wsX6_lease wsX6_requireLord := goodIn_ca (goodIn_r _ [24, 17, 18] (by decide +kernel) (by decide +kernel)) (goodIn_sub (fun _ h => List.mem_cons_of_mem _ (List.mem_append_right _ h)) (by decide +kernel))
set_option maxRecDepth 20000 in
theorem gX6_lease_X6_requireLord : GoodIn wsX6_lease (va_wsS RX6 96 yX6_requireLord wsX6_requireLord) := goodIn_app (goodIn_of _ (by decide +kernel)) ggX6_lease_X6_requireLord
set_option maxRecDepth 20000 in
theorem ggX6_lease_X0_votersFor : GoodIn wsX6_lease wsX0_votersFor := goodIn_r _ [29, 30, 31, 32, 33, 34, 28, 35, 36, 37, 38, 39, 40, 41, 42, 43, 44, 45, 46, 47, 48, 49, 50, 51, 52, 53, 84, 85, 86, 87, 88, 89, 90, 91, 92, 93, 94, 95] (by decide +kernel) (by decide +kernel)
set_option maxRecDepth 20000 in
theorem gX6_lease_X0_votersFor : GoodIn wsX6_lease (wsV RX6 108 RX0 yX0_votersFor wsX0_votersFor) := goodIn_app (goodIn_of _ (by decide +kernel)) ggX6_lease_X0_votersFor
set_option maxRecDepth 20000 in
theorem ggX6_lease_X0_isQuorum : GoodIn wsX6_lease wsX0_isQuorum := goodIn_r _ [57, 30, 58, 59, 60, 61, 62, 63, 64, 84, 85, 86, 87, 88, 89, 90, 91, 92] (by decide +kernel) (by decide +kernel)
set_option maxRecDepth 20000 in
theorem gX6_lease_X0_isQuorum : GoodIn wsX6_lease (wsV RX6 112 RX0 yX0_isQuorum wsX0_isQuorum) := goodIn_app (goodIn_of _ (by decide +kernel)) ggX6_lease_X0_isQuorum
set_option maxRecDepth 20000 in
theorem ggX6_lease_X1_grant : GoodIn wsX6_lease wsX1_grant := goodIn_r _ [68, 48, 53, 69, 70, 71, 72, 73, 74, 10, 75, 93, 94, 95] (by decide +kernel) (by decide +kernel)
set_option maxRecDepth 20000 in
theorem gX6_lease_X1_grant : GoodIn wsX6_lease (wsV RX6 121 RX1 yX1_grant wsX1_grant) := goodIn_app (goodIn_of _ (by decide +kernel)) ggX6_lease_X1_grant
theorem dX6_lease_0 : decode cX6_lease 0 = .ok (.aload_n 0, 1) := by decide +kernel
theorem dX6_lease_1 : decode cX6_lease 1 = .ok (.iload_n 2, 1) := by decide +kernel
theorem dX6_lease_2 : decode cX6_lease 2 = .ok (.invokevirtual 43, 3) := by decide +kernel
theorem dX6_lease_5 : decode cX6_lease 5 = .ok (.astore 5, 2) := by decide +kernel
theorem dX6_lease_7 : decode cX6_lease 7 = .ok (.iload_n 3, 1) := by decide +kernel
theorem dX6_lease_8 : decode cX6_lease 8 = .ok (.invokestatic 103, 3) := by decide +kernel
theorem dX6_lease_11 : decode cX6_lease 11 = .ok (.iload_n 1, 1) := by decide +kernel
theorem dX6_lease_12 : decode cX6_lease 12 = .ok (.invokestatic 96, 3) := by decide +kernel
theorem dX6_lease_15 : decode cX6_lease 15 = .ok (.iload 4, 2) := by decide +kernel
theorem dX6_lease_17 : decode cX6_lease 17 = .ok (.iconst 1, 1) := by decide +kernel
theorem dX6_lease_18 : decode cX6_lease 18 = .ok (.if_icmp .lt 10, 3) := by decide +kernel
theorem dX6_lease_21 : decode cX6_lease 21 = .ok (.iload 4, 2) := by decide +kernel
theorem dX6_lease_23 : decode cX6_lease 23 = .ok (.bipush 20, 2) := by decide +kernel
theorem dX6_lease_25 : decode cX6_lease 25 = .ok (.if_icmp .le 13, 3) := by decide +kernel
theorem dX6_lease_28 : decode cX6_lease 28 = .ok (.new 47, 3) := by decide +kernel
theorem dX6_lease_31 : decode cX6_lease 31 = .ok (.dup, 1) := by decide +kernel
theorem dX6_lease_32 : decode cX6_lease 32 = .ok (.ldc 106, 2) := by decide +kernel
theorem dX6_lease_34 : decode cX6_lease 34 = .ok (.invokespecial 51, 3) := by decide +kernel
theorem dX6_lease_37 : decode cX6_lease 37 = .ok (.athrow, 1) := by decide +kernel
theorem dX6_lease_38 : decode cX6_lease 38 = .ok (.aload 5, 2) := by decide +kernel
theorem dX6_lease_40 : decode cX6_lease 40 = .ok (.iload_n 1, 1) := by decide +kernel
theorem dX6_lease_41 : decode cX6_lease 41 = .ok (.iload_n 3, 1) := by decide +kernel
theorem dX6_lease_42 : decode cX6_lease 42 = .ok (.aload_n 0, 1) := by decide +kernel
theorem dX6_lease_43 : decode cX6_lease 43 = .ok (.getfield 75, 3) := by decide +kernel
theorem dX6_lease_46 : decode cX6_lease 46 = .ok (.invokevirtual 108, 3) := by decide +kernel
theorem dX6_lease_49 : decode cX6_lease 49 = .ok (.istore 6, 2) := by decide +kernel
theorem dX6_lease_51 : decode cX6_lease 51 = .ok (.aload 5, 2) := by decide +kernel
theorem dX6_lease_53 : decode cX6_lease 53 = .ok (.iload 6, 2) := by decide +kernel
theorem dX6_lease_55 : decode cX6_lease 55 = .ok (.invokevirtual 112, 3) := by decide +kernel
theorem dX6_lease_58 : decode cX6_lease 58 = .ok (.ifCond .ne 13, 3) := by decide +kernel
theorem dX6_lease_61 : decode cX6_lease 61 = .ok (.new 58, 3) := by decide +kernel
theorem dX6_lease_64 : decode cX6_lease 64 = .ok (.dup, 1) := by decide +kernel
theorem dX6_lease_65 : decode cX6_lease 65 = .ok (.ldc 115, 2) := by decide +kernel
theorem dX6_lease_67 : decode cX6_lease 67 = .ok (.invokespecial 62, 3) := by decide +kernel
theorem dX6_lease_70 : decode cX6_lease 70 = .ok (.athrow, 1) := by decide +kernel
theorem dX6_lease_71 : decode cX6_lease 71 = .ok (.aload 5, 2) := by decide +kernel
theorem dX6_lease_73 : decode cX6_lease 73 = .ok (.getfield 117, 3) := by decide +kernel
theorem dX6_lease_76 : decode cX6_lease 76 = .ok (.iload_n 3, 1) := by decide +kernel
theorem dX6_lease_77 : decode cX6_lease 77 = .ok (.aaload, 1) := by decide +kernel
theorem dX6_lease_78 : decode cX6_lease 78 = .ok (.iload_n 1, 1) := by decide +kernel
theorem dX6_lease_79 : decode cX6_lease 79 = .ok (.iload 6, 2) := by decide +kernel
theorem dX6_lease_81 : decode cX6_lease 81 = .ok (.aload_n 0, 1) := by decide +kernel
theorem dX6_lease_82 : decode cX6_lease 82 = .ok (.getfield 75, 3) := by decide +kernel
theorem dX6_lease_85 : decode cX6_lease 85 = .ok (.iload 4, 2) := by decide +kernel
theorem dX6_lease_87 : decode cX6_lease 87 = .ok (.iadd, 1) := by decide +kernel
theorem dX6_lease_88 : decode cX6_lease 88 = .ok (.invokevirtual 121, 3) := by decide +kernel
theorem dX6_lease_91 : decode cX6_lease 91 = .ok (.ireturn, 1) := by decide +kernel
set_option maxRecDepth 20000 in
theorem ggX6_giveUp_X6_castleAt : GoodIn wsX6_giveUp wsX6_castleAt := goodIn_ca (goodIn_r _ [9, 10, 11, 12, 13, 8, 14, 15, 16, 57, 58, 59, 60, 61, 62, 63, 64] (by decide +kernel) (by decide +kernel)) (goodIn_sub (fun _ h => List.mem_cons_of_mem _ (List.mem_append_right _ h)) (by decide +kernel))
set_option maxRecDepth 20000 in
theorem gX6_giveUp_X6_castleAt : GoodIn wsX6_giveUp (wsV RX6 43 RX6 yX6_castleAt wsX6_castleAt) := goodIn_app (goodIn_of _ (by decide +kernel)) ggX6_giveUp_X6_castleAt
set_option maxRecDepth 20000 in
theorem ggX6_giveUp_X6_requireGate : GoodIn wsX6_giveUp wsX6_requireGate := goodIn_ca (goodIn_r _ [19, 15, 16] (by decide +kernel) (by decide +kernel)) (goodIn_sub (fun _ h => List.mem_cons_of_mem _ (List.mem_append_right _ h)) (by decide +kernel))
set_option maxRecDepth 20000 in
theorem gX6_giveUp_X6_requireGate : GoodIn wsX6_giveUp (va_wsS RX6 103 yX6_requireGate wsX6_requireGate) := goodIn_app (goodIn_of _ (by decide +kernel)) ggX6_giveUp_X6_requireGate
set_option maxRecDepth 20000 in
theorem ggX6_giveUp_X6_requireLord : GoodIn wsX6_giveUp wsX6_requireLord := goodIn_ca (goodIn_r _ [22, 15, 16] (by decide +kernel) (by decide +kernel)) (goodIn_sub (fun _ h => List.mem_cons_of_mem _ (List.mem_append_right _ h)) (by decide +kernel))
set_option maxRecDepth 20000 in
theorem gX6_giveUp_X6_requireLord : GoodIn wsX6_giveUp (va_wsS RX6 96 yX6_requireLord wsX6_requireLord) := goodIn_app (goodIn_of _ (by decide +kernel)) ggX6_giveUp_X6_requireLord
set_option maxRecDepth 20000 in
theorem ggX6_giveUp_X1_isOpenFor : GoodIn wsX6_giveUp wsX1_isOpenFor := goodIn_r _ [27, 28, 65, 66, 67] (by decide +kernel) (by decide +kernel)
set_option maxRecDepth 20000 in
theorem gX6_giveUp_X1_isOpenFor : GoodIn wsX6_giveUp (wsV RX6 126 RX1 yX1_isOpenFor wsX1_isOpenFor) := goodIn_app (goodIn_of _ (by decide +kernel)) ggX6_giveUp_X1_isOpenFor
set_option maxRecDepth 20000 in
theorem ggX6_giveUp_X0_towersNear : GoodIn wsX6_giveUp wsX0_towersNear := goodIn_r _ [33, 34, 35, 48, 49, 50, 51, 52, 53, 54, 55, 56] (by decide +kernel) (by decide +kernel)
set_option maxRecDepth 20000 in
theorem gX6_giveUp_X0_towersNear : GoodIn wsX6_giveUp (wsV RX6 132 RX0 yX0_towersNear wsX0_towersNear) := goodIn_app (goodIn_of _ (by decide +kernel)) ggX6_giveUp_X0_towersNear
set_option maxRecDepth 20000 in
theorem ggX6_giveUp_X1_endLease : GoodIn wsX6_giveUp wsX1_endLease := goodIn_r _ [39, 40, 41, 28, 42, 8, 43, 44, 45, 46, 26, 47, 65, 66, 67] (by decide +kernel) (by decide +kernel)
set_option maxRecDepth 20000 in
theorem gX6_giveUp_X1_endLease : GoodIn wsX6_giveUp (wsV RX6 135 RX1 yX1_endLease wsX1_endLease) := goodIn_app (goodIn_of _ (by decide +kernel)) ggX6_giveUp_X1_endLease
theorem dX6_giveUp_0 : decode cX6_giveUp 0 = .ok (.aload_n 0, 1) := by decide +kernel
theorem dX6_giveUp_1 : decode cX6_giveUp 1 = .ok (.iload_n 2, 1) := by decide +kernel
theorem dX6_giveUp_2 : decode cX6_giveUp 2 = .ok (.invokevirtual 43, 3) := by decide +kernel
theorem dX6_giveUp_5 : decode cX6_giveUp 5 = .ok (.astore 4, 2) := by decide +kernel
theorem dX6_giveUp_7 : decode cX6_giveUp 7 = .ok (.iload_n 3, 1) := by decide +kernel
theorem dX6_giveUp_8 : decode cX6_giveUp 8 = .ok (.invokestatic 103, 3) := by decide +kernel
theorem dX6_giveUp_11 : decode cX6_giveUp 11 = .ok (.iload_n 1, 1) := by decide +kernel
theorem dX6_giveUp_12 : decode cX6_giveUp 12 = .ok (.invokestatic 96, 3) := by decide +kernel
theorem dX6_giveUp_15 : decode cX6_giveUp 15 = .ok (.aload 4, 2) := by decide +kernel
theorem dX6_giveUp_17 : decode cX6_giveUp 17 = .ok (.getfield 117, 3) := by decide +kernel
theorem dX6_giveUp_20 : decode cX6_giveUp 20 = .ok (.iload_n 3, 1) := by decide +kernel
theorem dX6_giveUp_21 : decode cX6_giveUp 21 = .ok (.aaload, 1) := by decide +kernel
theorem dX6_giveUp_22 : decode cX6_giveUp 22 = .ok (.iload_n 1, 1) := by decide +kernel
theorem dX6_giveUp_23 : decode cX6_giveUp 23 = .ok (.aload_n 0, 1) := by decide +kernel
theorem dX6_giveUp_24 : decode cX6_giveUp 24 = .ok (.getfield 75, 3) := by decide +kernel
theorem dX6_giveUp_27 : decode cX6_giveUp 27 = .ok (.invokevirtual 126, 3) := by decide +kernel
theorem dX6_giveUp_30 : decode cX6_giveUp 30 = .ok (.ifCond .ne 13, 3) := by decide +kernel
theorem dX6_giveUp_33 : decode cX6_giveUp 33 = .ok (.new 58, 3) := by decide +kernel
theorem dX6_giveUp_36 : decode cX6_giveUp 36 = .ok (.dup, 1) := by decide +kernel
theorem dX6_giveUp_37 : decode cX6_giveUp 37 = .ok (.ldc 130, 2) := by decide +kernel
theorem dX6_giveUp_39 : decode cX6_giveUp 39 = .ok (.invokespecial 62, 3) := by decide +kernel
theorem dX6_giveUp_42 : decode cX6_giveUp 42 = .ok (.athrow, 1) := by decide +kernel
theorem dX6_giveUp_43 : decode cX6_giveUp 43 = .ok (.aload 4, 2) := by decide +kernel
theorem dX6_giveUp_45 : decode cX6_giveUp 45 = .ok (.getfield 117, 3) := by decide +kernel
theorem dX6_giveUp_48 : decode cX6_giveUp 48 = .ok (.iload_n 3, 1) := by decide +kernel
theorem dX6_giveUp_49 : decode cX6_giveUp 49 = .ok (.aaload, 1) := by decide +kernel
theorem dX6_giveUp_50 : decode cX6_giveUp 50 = .ok (.iload_n 1, 1) := by decide +kernel
theorem dX6_giveUp_51 : decode cX6_giveUp 51 = .ok (.aload 4, 2) := by decide +kernel
theorem dX6_giveUp_53 : decode cX6_giveUp 53 = .ok (.iload_n 1, 1) := by decide +kernel
theorem dX6_giveUp_54 : decode cX6_giveUp 54 = .ok (.invokevirtual 132, 3) := by decide +kernel
theorem dX6_giveUp_57 : decode cX6_giveUp 57 = .ok (.aload_n 0, 1) := by decide +kernel
theorem dX6_giveUp_58 : decode cX6_giveUp 58 = .ok (.getfield 75, 3) := by decide +kernel
theorem dX6_giveUp_61 : decode cX6_giveUp 61 = .ok (.invokevirtual 135, 3) := by decide +kernel
theorem dX6_giveUp_64 : decode cX6_giveUp 64 = .ok (.ireturn, 1) := by decide +kernel
set_option maxRecDepth 20000 in
theorem ggX6_leaseOf_X6_castleAt : GoodIn wsX6_leaseOf wsX6_castleAt := goodIn_ca (goodIn_r _ [7, 8, 9, 10, 11, 6, 12, 13, 14, 33, 34, 35, 36, 37, 38, 39, 40] (by decide +kernel) (by decide +kernel)) (goodIn_sub (fun _ h => List.mem_cons_of_mem _ (List.mem_append_right _ h)) (by decide +kernel))
set_option maxRecDepth 20000 in
theorem gX6_leaseOf_X6_castleAt : GoodIn wsX6_leaseOf (wsV RX6 43 RX6 yX6_castleAt wsX6_castleAt) := goodIn_app (goodIn_of _ (by decide +kernel)) ggX6_leaseOf_X6_castleAt
set_option maxRecDepth 20000 in
theorem ggX6_leaseOf_X6_requireGate : GoodIn wsX6_leaseOf wsX6_requireGate := goodIn_ca (goodIn_r _ [17, 13, 14] (by decide +kernel) (by decide +kernel)) (goodIn_sub (fun _ h => List.mem_cons_of_mem _ (List.mem_append_right _ h)) (by decide +kernel))
set_option maxRecDepth 20000 in
theorem gX6_leaseOf_X6_requireGate : GoodIn wsX6_leaseOf (va_wsS RX6 103 yX6_requireGate wsX6_requireGate) := goodIn_app (goodIn_of _ (by decide +kernel)) ggX6_leaseOf_X6_requireGate
set_option maxRecDepth 20000 in
theorem ggX6_leaseOf_X6_requireLord : GoodIn wsX6_leaseOf wsX6_requireLord := goodIn_ca (goodIn_r _ [20, 13, 14] (by decide +kernel) (by decide +kernel)) (goodIn_sub (fun _ h => List.mem_cons_of_mem _ (List.mem_append_right _ h)) (by decide +kernel))
set_option maxRecDepth 20000 in
theorem gX6_leaseOf_X6_requireLord : GoodIn wsX6_leaseOf (va_wsS RX6 96 yX6_requireLord wsX6_requireLord) := goodIn_app (goodIn_of _ (by decide +kernel)) ggX6_leaseOf_X6_requireLord
theorem dX6_leaseOf_0 : decode cX6_leaseOf 0 = .ok (.aload_n 0, 1) := by decide +kernel
theorem dX6_leaseOf_1 : decode cX6_leaseOf 1 = .ok (.iload_n 2, 1) := by decide +kernel
theorem dX6_leaseOf_2 : decode cX6_leaseOf 2 = .ok (.invokevirtual 43, 3) := by decide +kernel
theorem dX6_leaseOf_5 : decode cX6_leaseOf 5 = .ok (.astore 4, 2) := by decide +kernel
theorem dX6_leaseOf_7 : decode cX6_leaseOf 7 = .ok (.iload_n 3, 1) := by decide +kernel
theorem dX6_leaseOf_8 : decode cX6_leaseOf 8 = .ok (.invokestatic 103, 3) := by decide +kernel
theorem dX6_leaseOf_11 : decode cX6_leaseOf 11 = .ok (.iload_n 1, 1) := by decide +kernel
theorem dX6_leaseOf_12 : decode cX6_leaseOf 12 = .ok (.invokestatic 96, 3) := by decide +kernel
theorem dX6_leaseOf_15 : decode cX6_leaseOf 15 = .ok (.aload 4, 2) := by decide +kernel
theorem dX6_leaseOf_17 : decode cX6_leaseOf 17 = .ok (.getfield 117, 3) := by decide +kernel
theorem dX6_leaseOf_20 : decode cX6_leaseOf 20 = .ok (.iload_n 3, 1) := by decide +kernel
theorem dX6_leaseOf_21 : decode cX6_leaseOf 21 = .ok (.aaload, 1) := by decide +kernel
theorem dX6_leaseOf_22 : decode cX6_leaseOf 22 = .ok (.getfield 138, 3) := by decide +kernel
theorem dX6_leaseOf_25 : decode cX6_leaseOf 25 = .ok (.iload_n 1, 1) := by decide +kernel
theorem dX6_leaseOf_26 : decode cX6_leaseOf 26 = .ok (.iaload, 1) := by decide +kernel
theorem dX6_leaseOf_27 : decode cX6_leaseOf 27 = .ok (.ireturn, 1) := by decide +kernel
set_option maxRecDepth 20000 in
theorem ggX6_openFor_X6_castleAt : GoodIn wsX6_openFor wsX6_castleAt := goodIn_ca (goodIn_r _ [9, 10, 11, 12, 13, 8, 14, 15, 16, 35, 36, 37, 38, 39, 40, 41, 42] (by decide +kernel) (by decide +kernel)) (goodIn_sub (fun _ h => List.mem_cons_of_mem _ (List.mem_append_right _ h)) (by decide +kernel))
set_option maxRecDepth 20000 in
theorem gX6_openFor_X6_castleAt : GoodIn wsX6_openFor (wsV RX6 43 RX6 yX6_castleAt wsX6_castleAt) := goodIn_app (goodIn_of _ (by decide +kernel)) ggX6_openFor_X6_castleAt
set_option maxRecDepth 20000 in
theorem ggX6_openFor_X6_requireGate : GoodIn wsX6_openFor wsX6_requireGate := goodIn_ca (goodIn_r _ [19, 15, 16] (by decide +kernel) (by decide +kernel)) (goodIn_sub (fun _ h => List.mem_cons_of_mem _ (List.mem_append_right _ h)) (by decide +kernel))
set_option maxRecDepth 20000 in
theorem gX6_openFor_X6_requireGate : GoodIn wsX6_openFor (va_wsS RX6 103 yX6_requireGate wsX6_requireGate) := goodIn_app (goodIn_of _ (by decide +kernel)) ggX6_openFor_X6_requireGate
set_option maxRecDepth 20000 in
theorem ggX6_openFor_X1_isOpenFor : GoodIn wsX6_openFor wsX1_isOpenFor := goodIn_r _ [24, 25, 43, 44, 45] (by decide +kernel) (by decide +kernel)
set_option maxRecDepth 20000 in
theorem gX6_openFor_X1_isOpenFor : GoodIn wsX6_openFor (wsV RX6 126 RX1 yX1_isOpenFor wsX1_isOpenFor) := goodIn_app (goodIn_of _ (by decide +kernel)) ggX6_openFor_X1_isOpenFor
theorem dX6_openFor_0 : decode cX6_openFor 0 = .ok (.aload_n 0, 1) := by decide +kernel
theorem dX6_openFor_1 : decode cX6_openFor 1 = .ok (.iload_n 1, 1) := by decide +kernel
theorem dX6_openFor_2 : decode cX6_openFor 2 = .ok (.invokevirtual 43, 3) := by decide +kernel
theorem dX6_openFor_5 : decode cX6_openFor 5 = .ok (.astore_n 3, 1) := by decide +kernel
theorem dX6_openFor_6 : decode cX6_openFor 6 = .ok (.iload_n 2, 1) := by decide +kernel
theorem dX6_openFor_7 : decode cX6_openFor 7 = .ok (.invokestatic 103, 3) := by decide +kernel
theorem dX6_openFor_10 : decode cX6_openFor 10 = .ok (.iconst 0, 1) := by decide +kernel
theorem dX6_openFor_11 : decode cX6_openFor 11 = .ok (.istore 4, 2) := by decide +kernel
theorem dX6_openFor_13 : decode cX6_openFor 13 = .ok (.iload 4, 2) := by decide +kernel
theorem dX6_openFor_15 : decode cX6_openFor 15 = .ok (.iconst 4, 1) := by decide +kernel
theorem dX6_openFor_16 : decode cX6_openFor 16 = .ok (.if_icmp .ge 30, 3) := by decide +kernel
theorem dX6_openFor_19 : decode cX6_openFor 19 = .ok (.aload_n 3, 1) := by decide +kernel
theorem dX6_openFor_20 : decode cX6_openFor 20 = .ok (.getfield 117, 3) := by decide +kernel
theorem dX6_openFor_23 : decode cX6_openFor 23 = .ok (.iload_n 2, 1) := by decide +kernel
theorem dX6_openFor_24 : decode cX6_openFor 24 = .ok (.aaload, 1) := by decide +kernel
theorem dX6_openFor_25 : decode cX6_openFor 25 = .ok (.iload 4, 2) := by decide +kernel
theorem dX6_openFor_27 : decode cX6_openFor 27 = .ok (.aload_n 0, 1) := by decide +kernel
theorem dX6_openFor_28 : decode cX6_openFor 28 = .ok (.getfield 75, 3) := by decide +kernel
theorem dX6_openFor_31 : decode cX6_openFor 31 = .ok (.invokevirtual 126, 3) := by decide +kernel
theorem dX6_openFor_34 : decode cX6_openFor 34 = .ok (.ifCond .eq 6, 3) := by decide +kernel
theorem dX6_openFor_37 : decode cX6_openFor 37 = .ok (.iload 4, 2) := by decide +kernel
theorem dX6_openFor_39 : decode cX6_openFor 39 = .ok (.ireturn, 1) := by decide +kernel
theorem dX6_openFor_40 : decode cX6_openFor 40 = .ok (.iinc 4 1, 3) := by decide +kernel
theorem dX6_openFor_43 : decode cX6_openFor 43 = .ok (.goto (-30), 3) := by decide +kernel
theorem dX6_openFor_46 : decode cX6_openFor 46 = .ok (.new 141, 3) := by decide +kernel
theorem dX6_openFor_49 : decode cX6_openFor 49 = .ok (.dup, 1) := by decide +kernel
theorem dX6_openFor_50 : decode cX6_openFor 50 = .ok (.ldc 143, 2) := by decide +kernel
theorem dX6_openFor_52 : decode cX6_openFor 52 = .ok (.invokespecial 145, 3) := by decide +kernel
theorem dX6_openFor_55 : decode cX6_openFor 55 = .ok (.athrow, 1) := by decide +kernel
set_option maxRecDepth 20000 in
theorem ggX6_voteOf_X6_gateWithVote : GoodIn wsX6_voteOf wsX6_gateWithVote := goodIn_ca (goodIn_ca (goodIn_r _ [6, 7, 8, 9, 10, 11, 12, 13, 5, 14, 15, 16, 17, 18, 19, 20, 21, 22, 23, 24, 25, 26, 27, 28, 29, 30, 31, 32, 33, 34, 38, 39, 40, 41, 42, 43, 44, 45, 46, 47, 48, 49, 50, 51, 52, 53, 54, 35, 36, 37] (by decide +kernel) (by decide +kernel)) (goodIn_sub (fun _ h => List.mem_cons_of_mem _ (List.mem_append_left _ (List.mem_append_right _ h))) (by decide +kernel))) (goodIn_sub (fun _ h => List.mem_cons_of_mem _ (List.mem_append_right _ h)) (by decide +kernel))
set_option maxRecDepth 20000 in
theorem gX6_voteOf_X6_gateWithVote : GoodIn wsX6_voteOf (wsV RX6 146 RX6 yX6_gateWithVote wsX6_gateWithVote) := goodIn_app (goodIn_of _ (by decide +kernel)) ggX6_voteOf_X6_gateWithVote
theorem dX6_voteOf_0 : decode cX6_voteOf 0 = .ok (.aload_n 0, 1) := by decide +kernel
theorem dX6_voteOf_1 : decode cX6_voteOf 1 = .ok (.iload_n 1, 1) := by decide +kernel
theorem dX6_voteOf_2 : decode cX6_voteOf 2 = .ok (.iload_n 2, 1) := by decide +kernel
theorem dX6_voteOf_3 : decode cX6_voteOf 3 = .ok (.iload_n 3, 1) := by decide +kernel
theorem dX6_voteOf_4 : decode cX6_voteOf 4 = .ok (.invokevirtual 146, 3) := by decide +kernel
theorem dX6_voteOf_7 : decode cX6_voteOf 7 = .ok (.getfield 150, 3) := by decide +kernel
theorem dX6_voteOf_10 : decode cX6_voteOf 10 = .ok (.iload_n 2, 1) := by decide +kernel
theorem dX6_voteOf_11 : decode cX6_voteOf 11 = .ok (.iaload, 1) := by decide +kernel
theorem dX6_voteOf_12 : decode cX6_voteOf 12 = .ok (.ireturn, 1) := by decide +kernel
set_option maxRecDepth 20000 in
theorem ggX6_voteTill_X6_gateWithVote : GoodIn wsX6_voteTill wsX6_gateWithVote := goodIn_ca (goodIn_ca (goodIn_r _ [6, 7, 8, 9, 10, 11, 12, 13, 5, 14, 15, 16, 17, 18, 19, 20, 21, 22, 23, 24, 25, 26, 27, 28, 29, 30, 31, 32, 33, 34, 38, 39, 40, 41, 42, 43, 44, 45, 46, 47, 48, 49, 50, 51, 52, 53, 54, 35, 36, 37] (by decide +kernel) (by decide +kernel)) (goodIn_sub (fun _ h => List.mem_cons_of_mem _ (List.mem_append_left _ (List.mem_append_right _ h))) (by decide +kernel))) (goodIn_sub (fun _ h => List.mem_cons_of_mem _ (List.mem_append_right _ h)) (by decide +kernel))
set_option maxRecDepth 20000 in
theorem gX6_voteTill_X6_gateWithVote : GoodIn wsX6_voteTill (wsV RX6 146 RX6 yX6_gateWithVote wsX6_gateWithVote) := goodIn_app (goodIn_of _ (by decide +kernel)) ggX6_voteTill_X6_gateWithVote
theorem dX6_voteTill_0 : decode cX6_voteTill 0 = .ok (.aload_n 0, 1) := by decide +kernel
theorem dX6_voteTill_1 : decode cX6_voteTill 1 = .ok (.iload_n 1, 1) := by decide +kernel
theorem dX6_voteTill_2 : decode cX6_voteTill 2 = .ok (.iload_n 2, 1) := by decide +kernel
theorem dX6_voteTill_3 : decode cX6_voteTill 3 = .ok (.iload_n 3, 1) := by decide +kernel
theorem dX6_voteTill_4 : decode cX6_voteTill 4 = .ok (.invokevirtual 146, 3) := by decide +kernel
theorem dX6_voteTill_7 : decode cX6_voteTill 7 = .ok (.getfield 153, 3) := by decide +kernel
theorem dX6_voteTill_10 : decode cX6_voteTill 10 = .ok (.iload_n 2, 1) := by decide +kernel
theorem dX6_voteTill_11 : decode cX6_voteTill 11 = .ok (.iaload, 1) := by decide +kernel
theorem dX6_voteTill_12 : decode cX6_voteTill 12 = .ok (.ireturn, 1) := by decide +kernel
set_option maxRecDepth 20000 in
theorem ggX6_near_X6_castleAt : GoodIn wsX6_near wsX6_castleAt := goodIn_ca (goodIn_r _ [5, 6, 7, 8, 9, 4, 10, 11, 12, 30, 31, 32, 33, 34, 35, 36, 37] (by decide +kernel) (by decide +kernel)) (goodIn_sub (fun _ h => List.mem_cons_of_mem _ (List.mem_append_right _ h)) (by decide +kernel))
set_option maxRecDepth 20000 in
theorem gX6_near_X6_castleAt : GoodIn wsX6_near (wsV RX6 43 RX6 yX6_castleAt wsX6_castleAt) := goodIn_app (goodIn_of _ (by decide +kernel)) ggX6_near_X6_castleAt
set_option maxRecDepth 20000 in
theorem ggX6_near_X6_requireLord : GoodIn wsX6_near wsX6_requireLord := goodIn_ca (goodIn_r _ [15, 11, 12] (by decide +kernel) (by decide +kernel)) (goodIn_sub (fun _ h => List.mem_cons_of_mem _ (List.mem_append_right _ h)) (by decide +kernel))
set_option maxRecDepth 20000 in
theorem gX6_near_X6_requireLord : GoodIn wsX6_near (va_wsS RX6 96 yX6_requireLord wsX6_requireLord) := goodIn_app (goodIn_of _ (by decide +kernel)) ggX6_near_X6_requireLord
set_option maxRecDepth 20000 in
theorem ggX6_near_X0_towersNear : GoodIn wsX6_near wsX0_towersNear := goodIn_r _ [20, 21, 22, 38, 39, 40, 41, 42, 43, 44, 45, 46] (by decide +kernel) (by decide +kernel)
set_option maxRecDepth 20000 in
theorem gX6_near_X0_towersNear : GoodIn wsX6_near (wsV RX6 132 RX0 yX0_towersNear wsX0_towersNear) := goodIn_app (goodIn_of _ (by decide +kernel)) ggX6_near_X0_towersNear
set_option maxRecDepth 20000 in
theorem ggX6_near_J6_bitCount_0f7a4 : GoodIn wsX6_near wsJ6_bitCount_0f7a4 := goodIn_r _ [26, 27, 28, 29] (by decide +kernel) (by decide +kernel)
set_option maxRecDepth 20000 in
theorem gX6_near_J6_bitCount_0f7a4 : GoodIn wsX6_near (va_wsS RX6 156 yJ6_bitCount_0f7a4 wsJ6_bitCount_0f7a4) := goodIn_app (goodIn_of _ (by decide +kernel)) ggX6_near_J6_bitCount_0f7a4
theorem dX6_near_0 : decode cX6_near 0 = .ok (.aload_n 0, 1) := by decide +kernel
theorem dX6_near_1 : decode cX6_near 1 = .ok (.iload_n 2, 1) := by decide +kernel
theorem dX6_near_2 : decode cX6_near 2 = .ok (.invokevirtual 43, 3) := by decide +kernel
theorem dX6_near_5 : decode cX6_near 5 = .ok (.astore_n 3, 1) := by decide +kernel
theorem dX6_near_6 : decode cX6_near 6 = .ok (.iload_n 1, 1) := by decide +kernel
theorem dX6_near_7 : decode cX6_near 7 = .ok (.invokestatic 96, 3) := by decide +kernel
theorem dX6_near_10 : decode cX6_near 10 = .ok (.aload_n 3, 1) := by decide +kernel
theorem dX6_near_11 : decode cX6_near 11 = .ok (.iload_n 1, 1) := by decide +kernel
theorem dX6_near_12 : decode cX6_near 12 = .ok (.invokevirtual 132, 3) := by decide +kernel
theorem dX6_near_15 : decode cX6_near 15 = .ok (.invokestatic 156, 3) := by decide +kernel
theorem dX6_near_18 : decode cX6_near 18 = .ok (.ireturn, 1) := by decide +kernel
set_option maxRecDepth 20000 in
theorem ggX6_tower_X6_castleAt : GoodIn wsX6_tower wsX6_castleAt := goodIn_ca (goodIn_r _ [6, 7, 8, 9, 10, 5, 11, 12, 13, 31, 32, 33, 34, 35, 36, 37, 38] (by decide +kernel) (by decide +kernel)) (goodIn_sub (fun _ h => List.mem_cons_of_mem _ (List.mem_append_right _ h)) (by decide +kernel))
set_option maxRecDepth 20000 in
theorem gX6_tower_X6_castleAt : GoodIn wsX6_tower (wsV RX6 43 RX6 yX6_castleAt wsX6_castleAt) := goodIn_app (goodIn_of _ (by decide +kernel)) ggX6_tower_X6_castleAt
set_option maxRecDepth 20000 in
theorem ggX6_tower_X6_requireTower : GoodIn wsX6_tower wsX6_requireTower := goodIn_ca (goodIn_r _ [16, 12, 13, 17, 39, 40, 41, 42, 43, 44, 45, 46, 47] (by decide +kernel) (by decide +kernel)) (goodIn_sub (fun _ h => List.mem_cons_of_mem _ (List.mem_append_right _ h)) (by decide +kernel))
set_option maxRecDepth 20000 in
theorem gX6_tower_X6_requireTower : GoodIn wsX6_tower (va_wsS RX6 78 yX6_requireTower wsX6_requireTower) := goodIn_app (goodIn_of _ (by decide +kernel)) ggX6_tower_X6_requireTower
set_option maxRecDepth 20000 in
theorem ggX6_tower_X0_isUp : GoodIn wsX6_tower wsX0_isUp := goodIn_r _ [22, 23, 24, 5, 25, 39, 40, 41, 42, 43, 44, 45, 46, 47] (by decide +kernel) (by decide +kernel)
set_option maxRecDepth 20000 in
theorem gX6_tower_X0_isUp : GoodIn wsX6_tower (wsV RX6 82 RX0 yX0_isUp wsX0_isUp) := goodIn_app (goodIn_of _ (by decide +kernel)) ggX6_tower_X0_isUp
set_option maxRecDepth 20000 in
theorem ggX6_tower_X0_isWaiting : GoodIn wsX6_tower wsX0_isWaiting := goodIn_r _ [29, 30, 39, 40, 41, 42, 43, 44, 45, 46, 47] (by decide +kernel) (by decide +kernel)
set_option maxRecDepth 20000 in
theorem gX6_tower_X0_isWaiting : GoodIn wsX6_tower (wsV RX6 161 RX0 yX0_isWaiting wsX0_isWaiting) := goodIn_app (goodIn_of _ (by decide +kernel)) ggX6_tower_X0_isWaiting
theorem dX6_tower_0 : decode cX6_tower 0 = .ok (.aload_n 0, 1) := by decide +kernel
theorem dX6_tower_1 : decode cX6_tower 1 = .ok (.iload_n 1, 1) := by decide +kernel
theorem dX6_tower_2 : decode cX6_tower 2 = .ok (.invokevirtual 43, 3) := by decide +kernel
theorem dX6_tower_5 : decode cX6_tower 5 = .ok (.astore_n 3, 1) := by decide +kernel
theorem dX6_tower_6 : decode cX6_tower 6 = .ok (.aload_n 3, 1) := by decide +kernel
theorem dX6_tower_7 : decode cX6_tower 7 = .ok (.iload_n 2, 1) := by decide +kernel
theorem dX6_tower_8 : decode cX6_tower 8 = .ok (.invokestatic 78, 3) := by decide +kernel
theorem dX6_tower_11 : decode cX6_tower 11 = .ok (.aload_n 3, 1) := by decide +kernel
theorem dX6_tower_12 : decode cX6_tower 12 = .ok (.iload_n 2, 1) := by decide +kernel
theorem dX6_tower_13 : decode cX6_tower 13 = .ok (.invokevirtual 82, 3) := by decide +kernel
theorem dX6_tower_16 : decode cX6_tower 16 = .ok (.ifCond .ne 6, 3) := by decide +kernel
theorem dX6_tower_19 : decode cX6_tower 19 = .ok (.bipush 100, 2) := by decide +kernel
theorem dX6_tower_21 : decode cX6_tower 21 = .ok (.ireturn, 1) := by decide +kernel
theorem dX6_tower_22 : decode cX6_tower 22 = .ok (.aload_n 3, 1) := by decide +kernel
theorem dX6_tower_23 : decode cX6_tower 23 = .ok (.iload_n 2, 1) := by decide +kernel
theorem dX6_tower_24 : decode cX6_tower 24 = .ok (.aload_n 0, 1) := by decide +kernel
theorem dX6_tower_25 : decode cX6_tower 25 = .ok (.getfield 75, 3) := by decide +kernel
theorem dX6_tower_28 : decode cX6_tower 28 = .ok (.invokevirtual 161, 3) := by decide +kernel
theorem dX6_tower_31 : decode cX6_tower 31 = .ok (.ifCond .eq 8, 3) := by decide +kernel
theorem dX6_tower_34 : decode cX6_tower 34 = .ok (.bipush 119, 2) := by decide +kernel
theorem dX6_tower_36 : decode cX6_tower 36 = .ok (.goto 5, 3) := by decide +kernel
theorem dX6_tower_39 : decode cX6_tower 39 = .ok (.bipush 117, 2) := by decide +kernel
theorem dX6_tower_41 : decode cX6_tower 41 = .ok (.ireturn, 1) := by decide +kernel
set_option maxRecDepth 20000 in
theorem ggX6_order_X6_castleAt : GoodIn wsX6_order wsX6_castleAt := goodIn_ca (goodIn_r _ [10, 11, 12, 13, 14, 9, 15, 16, 17, 127, 128, 129, 130, 131, 132, 133, 134] (by decide +kernel) (by decide +kernel)) (goodIn_sub (fun _ h => List.mem_cons_of_mem _ (List.mem_append_left _ (List.mem_append_left _ (List.mem_append_right _ h)))) (by decide +kernel))
set_option maxRecDepth 20000 in
theorem gX6_order_X6_castleAt : GoodIn wsX6_order (wsV RX6 43 RX6 yX6_castleAt wsX6_castleAt) := goodIn_app (goodIn_of _ (by decide +kernel)) ggX6_order_X6_castleAt
set_option maxRecDepth 20000 in
theorem ggX6_order_X6_requireGate : GoodIn wsX6_order wsX6_requireGate := goodIn_ca (goodIn_r _ [20, 16, 17] (by decide +kernel) (by decide +kernel)) (goodIn_sub (fun _ h => List.mem_cons_of_mem _ (List.mem_append_left _ (List.mem_append_left _ (List.mem_append_right _ h)))) (by decide +kernel))
set_option maxRecDepth 20000 in
theorem gX6_order_X6_requireGate : GoodIn wsX6_order (va_wsS RX6 103 yX6_requireGate wsX6_requireGate) := goodIn_app (goodIn_of _ (by decide +kernel)) ggX6_order_X6_requireGate
set_option maxRecDepth 20000 in
theorem ggX6_order_X6_requireLord : GoodIn wsX6_order wsX6_requireLord := goodIn_ca (goodIn_r _ [23, 16, 17] (by decide +kernel) (by decide +kernel)) (goodIn_sub (fun _ h => List.mem_cons_of_mem _ (List.mem_append_left _ (List.mem_append_left _ (List.mem_append_right _ h)))) (by decide +kernel))
set_option maxRecDepth 20000 in
theorem gX6_order_X6_requireLord : GoodIn wsX6_order (va_wsS RX6 96 yX6_requireLord wsX6_requireLord) := goodIn_app (goodIn_of _ (by decide +kernel)) ggX6_order_X6_requireLord
set_option maxRecDepth 20000 in
theorem ggX6_order_X6_requireAmount : GoodIn wsX6_order wsX6_requireAmount := goodIn_ca (goodIn_r _ [26, 27, 28] (by decide +kernel) (by decide +kernel)) (goodIn_sub (fun _ h => List.mem_cons_of_mem _ (List.mem_append_left _ (List.mem_append_right _ h))) (by decide +kernel))
set_option maxRecDepth 20000 in
theorem gX6_order_X6_requireAmount : GoodIn wsX6_order (va_wsS RX6 164 yX6_requireAmount wsX6_requireAmount) := goodIn_app (goodIn_of _ (by decide +kernel)) ggX6_order_X6_requireAmount
set_option maxRecDepth 20000 in
theorem ggX6_order_X1_isOpenFor : GoodIn wsX6_order wsX1_isOpenFor := goodIn_r _ [33, 34, 138, 139, 140] (by decide +kernel) (by decide +kernel)
set_option maxRecDepth 20000 in
theorem gX6_order_X1_isOpenFor : GoodIn wsX6_order (wsV RX6 126 RX1 yX1_isOpenFor wsX1_isOpenFor) := goodIn_app (goodIn_of _ (by decide +kernel)) ggX6_order_X1_isOpenFor
set_option maxRecDepth 20000 in
theorem ggX6_order_X0_tellLedger : GoodIn wsX6_order wsX0_tellLedger := goodIn_r _ [39, 40, 41, 42, 43, 44, 45, 46, 47, 48, 49, 50, 51, 52, 53, 54, 55, 56, 57, 58, 59, 60, 61, 62, 63, 64, 65, 66, 67, 68, 69, 70, 71, 72, 73, 74, 118, 119, 120, 121, 122, 123, 124, 125, 126, 135, 136, 137, 141, 142, 143, 144, 145, 146, 147] (by decide +kernel) (by decide +kernel)
set_option maxRecDepth 20000 in
theorem gX6_order_X0_tellLedger : GoodIn wsX6_order (wsV RX6 167 RX0 yX0_tellLedger wsX0_tellLedger) := goodIn_app (goodIn_of _ (by decide +kernel)) ggX6_order_X0_tellLedger
set_option maxRecDepth 20000 in
theorem ggX6_order_X2_freeGold : GoodIn wsX6_order wsX2_freeGold := goodIn_r _ [70, 48, 49, 135, 136, 137] (by decide +kernel) (by decide +kernel)
set_option maxRecDepth 20000 in
theorem gX6_order_X2_freeGold : GoodIn wsX6_order (wsV RX6 176 RX2 yX2_freeGold wsX2_freeGold) := goodIn_app (goodIn_of _ (by decide +kernel)) ggX6_order_X2_freeGold
set_option maxRecDepth 20000 in
theorem ggX6_order_X0_towersNear : GoodIn wsX6_order wsX0_towersNear := goodIn_r _ [79, 80, 81, 118, 119, 120, 121, 122, 123, 124, 125, 126] (by decide +kernel) (by decide +kernel)
set_option maxRecDepth 20000 in
theorem gX6_order_X0_towersNear : GoodIn wsX6_order (wsV RX6 132 RX0 yX0_towersNear wsX0_towersNear) := goodIn_app (goodIn_of _ (by decide +kernel)) ggX6_order_X0_towersNear
set_option maxRecDepth 20000 in
theorem ggX6_order_X6_requireRoom : GoodIn wsX6_order wsX6_requireRoom := goodIn_ca (goodIn_r _ [84, 85, 86, 87, 88, 118, 119, 120, 121, 122, 123, 124, 125, 126, 141, 142, 143, 144, 145, 146, 147] (by decide +kernel) (by decide +kernel)) (goodIn_sub (fun _ h => List.mem_cons_of_mem _ (List.mem_append_right _ h)) (by decide +kernel))
set_option maxRecDepth 20000 in
theorem gX6_order_X6_requireRoom : GoodIn wsX6_order (va_wsS RX6 184 yX6_requireRoom wsX6_requireRoom) := goodIn_app (goodIn_of _ (by decide +kernel)) ggX6_order_X6_requireRoom
set_option maxRecDepth 20000 in
theorem ggX6_order_X0_writeEntry : GoodIn wsX6_order wsX0_writeEntry := goodIn_r _ [92, 41, 93, 94, 95, 96, 58, 97, 60, 62, 98, 99, 61, 100, 101, 102, 38, 103, 104, 105, 106, 107, 108, 109, 110, 111, 112, 113, 114, 115, 116, 117, 118, 119, 120, 121, 122, 123, 124, 125, 126, 141, 142, 143, 144, 145, 146, 147] (by decide +kernel) (by decide +kernel)
set_option maxRecDepth 20000 in
theorem gX6_order_X0_writeEntry : GoodIn wsX6_order (wsV RX6 187 RX0 yX0_writeEntry wsX0_writeEntry) := goodIn_app (goodIn_of _ (by decide +kernel)) ggX6_order_X0_writeEntry
theorem dX6_order_0 : decode cX6_order 0 = .ok (.aload_n 0, 1) := by decide +kernel
theorem dX6_order_1 : decode cX6_order 1 = .ok (.iload_n 2, 1) := by decide +kernel
theorem dX6_order_2 : decode cX6_order 2 = .ok (.invokevirtual 43, 3) := by decide +kernel
theorem dX6_order_5 : decode cX6_order 5 = .ok (.astore 6, 2) := by decide +kernel
theorem dX6_order_7 : decode cX6_order 7 = .ok (.iload_n 3, 1) := by decide +kernel
theorem dX6_order_8 : decode cX6_order 8 = .ok (.invokestatic 103, 3) := by decide +kernel
theorem dX6_order_11 : decode cX6_order 11 = .ok (.iload_n 1, 1) := by decide +kernel
theorem dX6_order_12 : decode cX6_order 12 = .ok (.invokestatic 96, 3) := by decide +kernel
theorem dX6_order_15 : decode cX6_order 15 = .ok (.iload 5, 2) := by decide +kernel
theorem dX6_order_17 : decode cX6_order 17 = .ok (.invokestatic 164, 3) := by decide +kernel
theorem dX6_order_20 : decode cX6_order 20 = .ok (.aload 6, 2) := by decide +kernel
theorem dX6_order_22 : decode cX6_order 22 = .ok (.getfield 117, 3) := by decide +kernel
theorem dX6_order_25 : decode cX6_order 25 = .ok (.iload_n 3, 1) := by decide +kernel
theorem dX6_order_26 : decode cX6_order 26 = .ok (.aaload, 1) := by decide +kernel
theorem dX6_order_27 : decode cX6_order 27 = .ok (.iload_n 1, 1) := by decide +kernel
theorem dX6_order_28 : decode cX6_order 28 = .ok (.aload_n 0, 1) := by decide +kernel
theorem dX6_order_29 : decode cX6_order 29 = .ok (.getfield 75, 3) := by decide +kernel
theorem dX6_order_32 : decode cX6_order 32 = .ok (.invokevirtual 126, 3) := by decide +kernel
theorem dX6_order_35 : decode cX6_order 35 = .ok (.ifCond .ne 13, 3) := by decide +kernel
theorem dX6_order_38 : decode cX6_order 38 = .ok (.new 58, 3) := by decide +kernel
theorem dX6_order_41 : decode cX6_order 41 = .ok (.dup, 1) := by decide +kernel
theorem dX6_order_42 : decode cX6_order 42 = .ok (.ldc 130, 2) := by decide +kernel
theorem dX6_order_44 : decode cX6_order 44 = .ok (.invokespecial 62, 3) := by decide +kernel
theorem dX6_order_47 : decode cX6_order 47 = .ok (.athrow, 1) := by decide +kernel
theorem dX6_order_48 : decode cX6_order 48 = .ok (.aload 6, 2) := by decide +kernel
theorem dX6_order_50 : decode cX6_order 50 = .ok (.invokevirtual 167, 3) := by decide +kernel
theorem dX6_order_53 : decode cX6_order 53 = .ok (.astore 7, 2) := by decide +kernel
theorem dX6_order_55 : decode cX6_order 55 = .ok (.iload 4, 2) := by decide +kernel
theorem dX6_order_57 : decode cX6_order 57 = .ok (.ifCond .eq 13, 3) := by decide +kernel
theorem dX6_order_60 : decode cX6_order 60 = .ok (.aload 7, 2) := by decide +kernel
theorem dX6_order_62 : decode cX6_order 62 = .ok (.getfield 171, 3) := by decide +kernel
theorem dX6_order_65 : decode cX6_order 65 = .ok (.iload_n 1, 1) := by decide +kernel
theorem dX6_order_66 : decode cX6_order 66 = .ok (.iaload, 1) := by decide +kernel
theorem dX6_order_67 : decode cX6_order 67 = .ok (.goto 8, 3) := by decide +kernel
theorem dX6_order_70 : decode cX6_order 70 = .ok (.aload 7, 2) := by decide +kernel
theorem dX6_order_72 : decode cX6_order 72 = .ok (.invokevirtual 176, 3) := by decide +kernel
theorem dX6_order_75 : decode cX6_order 75 = .ok (.istore 8, 2) := by decide +kernel
theorem dX6_order_77 : decode cX6_order 77 = .ok (.iload 8, 2) := by decide +kernel
theorem dX6_order_79 : decode cX6_order 79 = .ok (.iload 5, 2) := by decide +kernel
theorem dX6_order_81 : decode cX6_order 81 = .ok (.if_icmp .ge 13, 3) := by decide +kernel
theorem dX6_order_84 : decode cX6_order 84 = .ok (.new 58, 3) := by decide +kernel
theorem dX6_order_87 : decode cX6_order 87 = .ok (.dup, 1) := by decide +kernel
theorem dX6_order_88 : decode cX6_order 88 = .ok (.ldc 180, 2) := by decide +kernel
theorem dX6_order_90 : decode cX6_order 90 = .ok (.invokespecial 62, 3) := by decide +kernel
theorem dX6_order_93 : decode cX6_order 93 = .ok (.athrow, 1) := by decide +kernel
theorem dX6_order_94 : decode cX6_order 94 = .ok (.aload 6, 2) := by decide +kernel
theorem dX6_order_96 : decode cX6_order 96 = .ok (.iload_n 1, 1) := by decide +kernel
theorem dX6_order_97 : decode cX6_order 97 = .ok (.invokevirtual 132, 3) := by decide +kernel
theorem dX6_order_100 : decode cX6_order 100 = .ok (.istore 9, 2) := by decide +kernel
theorem dX6_order_102 : decode cX6_order 102 = .ok (.iload 9, 2) := by decide +kernel
theorem dX6_order_104 : decode cX6_order 104 = .ok (.ifCond .ne 13, 3) := by decide +kernel
theorem dX6_order_107 : decode cX6_order 107 = .ok (.new 58, 3) := by decide +kernel
theorem dX6_order_110 : decode cX6_order 110 = .ok (.dup, 1) := by decide +kernel
theorem dX6_order_111 : decode cX6_order 111 = .ok (.ldc 182, 2) := by decide +kernel
theorem dX6_order_113 : decode cX6_order 113 = .ok (.invokespecial 62, 3) := by decide +kernel
theorem dX6_order_116 : decode cX6_order 116 = .ok (.athrow, 1) := by decide +kernel
theorem dX6_order_117 : decode cX6_order 117 = .ok (.aload 6, 2) := by decide +kernel
theorem dX6_order_119 : decode cX6_order 119 = .ok (.invokestatic 184, 3) := by decide +kernel
theorem dX6_order_122 : decode cX6_order 122 = .ok (.aload 6, 2) := by decide +kernel
theorem dX6_order_124 : decode cX6_order 124 = .ok (.iload 4, 2) := by decide +kernel
theorem dX6_order_126 : decode cX6_order 126 = .ok (.ifCond .eq 8, 3) := by decide +kernel
theorem dX6_order_129 : decode cX6_order 129 = .ok (.bipush 105, 2) := by decide +kernel
theorem dX6_order_131 : decode cX6_order 131 = .ok (.goto 5, 3) := by decide +kernel
theorem dX6_order_134 : decode cX6_order 134 = .ok (.bipush 111, 2) := by decide +kernel
theorem dX6_order_136 : decode cX6_order 136 = .ok (.iload 5, 2) := by decide +kernel
theorem dX6_order_138 : decode cX6_order 138 = .ok (.iload_n 1, 1) := by decide +kernel
theorem dX6_order_139 : decode cX6_order 139 = .ok (.iload 9, 2) := by decide +kernel
theorem dX6_order_141 : decode cX6_order 141 = .ok (.invokevirtual 187, 3) := by decide +kernel
theorem dX6_order_144 : decode cX6_order 144 = .ok (.ireturn, 1) := by decide +kernel
set_option maxRecDepth 20000 in
theorem ggX6_spread_X6_castleAt : GoodIn wsX6_spread wsX6_castleAt := goodIn_ca (goodIn_r _ [5, 6, 7, 8, 9, 4, 10, 11, 12, 39, 40, 41, 42, 43, 44, 45, 46] (by decide +kernel) (by decide +kernel)) (goodIn_sub (fun _ h => List.mem_cons_of_mem _ (List.mem_append_right _ h)) (by decide +kernel))
set_option maxRecDepth 20000 in
theorem gX6_spread_X6_castleAt : GoodIn wsX6_spread (wsV RX6 43 RX6 yX6_castleAt wsX6_castleAt) := goodIn_app (goodIn_of _ (by decide +kernel)) ggX6_spread_X6_castleAt
set_option maxRecDepth 20000 in
theorem ggX6_spread_X0_spreadEntries : GoodIn wsX6_spread wsX0_spreadEntries := goodIn_r _ [17, 18, 19, 20, 21, 22, 23, 24, 16, 25, 26, 27, 28, 29, 30, 31, 32, 33, 34, 35, 36, 37, 38, 47, 48, 49, 50, 51, 52, 53, 54, 55, 56, 57, 58, 59, 60, 61, 62] (by decide +kernel) (by decide +kernel)
set_option maxRecDepth 20000 in
theorem gX6_spread_X0_spreadEntries : GoodIn wsX6_spread (wsV RX6 191 RX0 yX0_spreadEntries wsX0_spreadEntries) := goodIn_app (goodIn_of _ (by decide +kernel)) ggX6_spread_X0_spreadEntries
theorem dX6_spread_0 : decode cX6_spread 0 = .ok (.aload_n 0, 1) := by decide +kernel
theorem dX6_spread_1 : decode cX6_spread 1 = .ok (.iload_n 1, 1) := by decide +kernel
theorem dX6_spread_2 : decode cX6_spread 2 = .ok (.invokevirtual 43, 3) := by decide +kernel
theorem dX6_spread_5 : decode cX6_spread 5 = .ok (.invokevirtual 191, 3) := by decide +kernel
theorem dX6_spread_8 : decode cX6_spread 8 = .ok (.ireturn, 1) := by decide +kernel
set_option maxRecDepth 20000 in
theorem ggX6_strike_X6_castleAt : GoodIn wsX6_strike wsX6_castleAt := goodIn_ca (goodIn_r _ [6, 7, 8, 9, 10, 5, 11, 12, 13, 36, 37, 38, 39, 40, 41, 42, 43] (by decide +kernel) (by decide +kernel)) (goodIn_sub (fun _ h => List.mem_cons_of_mem _ (List.mem_append_right _ h)) (by decide +kernel))
set_option maxRecDepth 20000 in
theorem gX6_strike_X6_castleAt : GoodIn wsX6_strike (wsV RX6 43 RX6 yX6_castleAt wsX6_castleAt) := goodIn_app (goodIn_of _ (by decide +kernel)) ggX6_strike_X6_castleAt
set_option maxRecDepth 20000 in
theorem ggX6_strike_X3_strikeLost : GoodIn wsX6_strike wsX3_strikeLost := goodIn_r _ [18, 19, 20, 21, 22, 23, 24, 17, 25, 26, 44, 45, 46, 47, 48, 49, 50] (by decide +kernel) (by decide +kernel)
set_option maxRecDepth 20000 in
theorem gX6_strike_X3_strikeLost : GoodIn wsX6_strike (wsV RX6 194 RX3 yX3_strikeLost wsX3_strikeLost) := goodIn_app (goodIn_of _ (by decide +kernel)) ggX6_strike_X3_strikeLost
theorem dX6_strike_0 : decode cX6_strike 0 = .ok (.aload_n 0, 1) := by decide +kernel
theorem dX6_strike_1 : decode cX6_strike 1 = .ok (.iload_n 1, 1) := by decide +kernel
theorem dX6_strike_2 : decode cX6_strike 2 = .ok (.invokevirtual 43, 3) := by decide +kernel
theorem dX6_strike_5 : decode cX6_strike 5 = .ok (.getfield 63, 3) := by decide +kernel
theorem dX6_strike_8 : decode cX6_strike 8 = .ok (.invokevirtual 194, 3) := by decide +kernel
theorem dX6_strike_11 : decode cX6_strike 11 = .ok (.ireturn, 1) := by decide +kernel
set_option maxRecDepth 20000 in
theorem ggX6_entries_X6_castleAt : GoodIn wsX6_entries wsX6_castleAt := goodIn_ca (goodIn_r _ [7, 8, 9, 10, 11, 6, 12, 13, 14, 31, 32, 33, 34, 35, 36, 37, 38] (by decide +kernel) (by decide +kernel)) (goodIn_sub (fun _ h => List.mem_cons_of_mem _ (List.mem_append_right _ h)) (by decide +kernel))
set_option maxRecDepth 20000 in
theorem gX6_entries_X6_castleAt : GoodIn wsX6_entries (wsV RX6 43 RX6 yX6_castleAt wsX6_castleAt) := goodIn_app (goodIn_of _ (by decide +kernel)) ggX6_entries_X6_castleAt
theorem dX6_entries_0 : decode cX6_entries 0 = .ok (.aload_n 0, 1) := by decide +kernel
theorem dX6_entries_1 : decode cX6_entries 1 = .ok (.iload_n 1, 1) := by decide +kernel
theorem dX6_entries_2 : decode cX6_entries 2 = .ok (.invokevirtual 43, 3) := by decide +kernel
theorem dX6_entries_5 : decode cX6_entries 5 = .ok (.getfield 63, 3) := by decide +kernel
theorem dX6_entries_8 : decode cX6_entries 8 = .ok (.getfield 67, 3) := by decide +kernel
theorem dX6_entries_11 : decode cX6_entries 11 = .ok (.ireturn, 1) := by decide +kernel
set_option maxRecDepth 20000 in
theorem ggX6_counting_X6_castleAt : GoodIn wsX6_counting wsX6_castleAt := goodIn_ca (goodIn_r _ [6, 7, 8, 9, 10, 5, 11, 12, 13, 31, 32, 33, 34, 35, 36, 37, 38] (by decide +kernel) (by decide +kernel)) (goodIn_sub (fun _ h => List.mem_cons_of_mem _ (List.mem_append_right _ h)) (by decide +kernel))
set_option maxRecDepth 20000 in
theorem gX6_counting_X6_castleAt : GoodIn wsX6_counting (wsV RX6 43 RX6 yX6_castleAt wsX6_castleAt) := goodIn_app (goodIn_of _ (by decide +kernel)) ggX6_counting_X6_castleAt
set_option maxRecDepth 20000 in
theorem ggX6_counting_X3_countingSize : GoodIn wsX6_counting wsX3_countingSize := goodIn_r _ [18, 19, 20, 21, 39, 40, 41, 42, 43, 44, 45] (by decide +kernel) (by decide +kernel)
set_option maxRecDepth 20000 in
theorem gX6_counting_X3_countingSize : GoodIn wsX6_counting (wsV RX6 197 RX3 yX3_countingSize wsX3_countingSize) := goodIn_app (goodIn_of _ (by decide +kernel)) ggX6_counting_X3_countingSize
theorem dX6_counting_0 : decode cX6_counting 0 = .ok (.aload_n 0, 1) := by decide +kernel
theorem dX6_counting_1 : decode cX6_counting 1 = .ok (.iload_n 1, 1) := by decide +kernel
theorem dX6_counting_2 : decode cX6_counting 2 = .ok (.invokevirtual 43, 3) := by decide +kernel
theorem dX6_counting_5 : decode cX6_counting 5 = .ok (.getfield 63, 3) := by decide +kernel
theorem dX6_counting_8 : decode cX6_counting 8 = .ok (.invokevirtual 197, 3) := by decide +kernel
theorem dX6_counting_11 : decode cX6_counting 11 = .ok (.ireturn, 1) := by decide +kernel
set_option maxRecDepth 20000 in
theorem ggX6_entryOf_X6_rowWithEntry : GoodIn wsX6_entryOf wsX6_rowWithEntry := goodIn_ca (goodIn_r _ [6, 7, 8, 9, 10, 11, 12, 13, 5, 14, 15, 16, 17, 18, 19, 27, 28, 29, 30, 31, 32, 33, 34, 35, 20, 21, 22, 23, 24, 25, 26, 36, 37, 38, 39, 40, 41, 42, 43] (by decide +kernel) (by decide +kernel)) (goodIn_sub (fun _ h => List.mem_cons_of_mem _ (List.mem_append_right _ h)) (by decide +kernel))
set_option maxRecDepth 20000 in
theorem gX6_entryOf_X6_rowWithEntry : GoodIn wsX6_entryOf (wsV RX6 200 RX6 yX6_rowWithEntry wsX6_rowWithEntry) := goodIn_app (goodIn_of _ (by decide +kernel)) ggX6_entryOf_X6_rowWithEntry
theorem dX6_entryOf_0 : decode cX6_entryOf 0 = .ok (.aload_n 0, 1) := by decide +kernel
theorem dX6_entryOf_1 : decode cX6_entryOf 1 = .ok (.iload_n 1, 1) := by decide +kernel
theorem dX6_entryOf_2 : decode cX6_entryOf 2 = .ok (.iload_n 2, 1) := by decide +kernel
theorem dX6_entryOf_3 : decode cX6_entryOf 3 = .ok (.invokevirtual 200, 3) := by decide +kernel
theorem dX6_entryOf_6 : decode cX6_entryOf 6 = .ok (.getfield 204, 3) := by decide +kernel
theorem dX6_entryOf_9 : decode cX6_entryOf 9 = .ok (.iload_n 2, 1) := by decide +kernel
theorem dX6_entryOf_10 : decode cX6_entryOf 10 = .ok (.caload, 1) := by decide +kernel
theorem dX6_entryOf_11 : decode cX6_entryOf 11 = .ok (.ireturn, 1) := by decide +kernel
set_option maxRecDepth 20000 in
theorem ggX6_amountOf_X6_rowWithEntry : GoodIn wsX6_amountOf wsX6_rowWithEntry := goodIn_ca (goodIn_r _ [6, 7, 8, 9, 10, 11, 12, 13, 5, 14, 15, 16, 17, 18, 19, 27, 28, 29, 30, 31, 32, 33, 34, 35, 20, 21, 22, 23, 24, 25, 26, 36, 37, 38, 39, 40, 41, 42, 43] (by decide +kernel) (by decide +kernel)) (goodIn_sub (fun _ h => List.mem_cons_of_mem _ (List.mem_append_right _ h)) (by decide +kernel))
set_option maxRecDepth 20000 in
theorem gX6_amountOf_X6_rowWithEntry : GoodIn wsX6_amountOf (wsV RX6 200 RX6 yX6_rowWithEntry wsX6_rowWithEntry) := goodIn_app (goodIn_of _ (by decide +kernel)) ggX6_amountOf_X6_rowWithEntry
theorem dX6_amountOf_0 : decode cX6_amountOf 0 = .ok (.aload_n 0, 1) := by decide +kernel
theorem dX6_amountOf_1 : decode cX6_amountOf 1 = .ok (.iload_n 1, 1) := by decide +kernel
theorem dX6_amountOf_2 : decode cX6_amountOf 2 = .ok (.iload_n 2, 1) := by decide +kernel
theorem dX6_amountOf_3 : decode cX6_amountOf 3 = .ok (.invokevirtual 200, 3) := by decide +kernel
theorem dX6_amountOf_6 : decode cX6_amountOf 6 = .ok (.getfield 208, 3) := by decide +kernel
theorem dX6_amountOf_9 : decode cX6_amountOf 9 = .ok (.iload_n 2, 1) := by decide +kernel
theorem dX6_amountOf_10 : decode cX6_amountOf 10 = .ok (.iaload, 1) := by decide +kernel
theorem dX6_amountOf_11 : decode cX6_amountOf 11 = .ok (.ireturn, 1) := by decide +kernel
set_option maxRecDepth 20000 in
theorem ggX6_isCommitted_X6_rowWithEntry : GoodIn wsX6_isCommitted wsX6_rowWithEntry := goodIn_ca (goodIn_r _ [6, 7, 8, 9, 10, 11, 12, 13, 5, 14, 15, 16, 17, 18, 19, 27, 28, 29, 30, 31, 32, 33, 34, 35, 20, 21, 22, 23, 24, 25, 26, 36, 37, 38, 39, 40, 41, 42, 43] (by decide +kernel) (by decide +kernel)) (goodIn_sub (fun _ h => List.mem_cons_of_mem _ (List.mem_append_right _ h)) (by decide +kernel))
set_option maxRecDepth 20000 in
theorem gX6_isCommitted_X6_rowWithEntry : GoodIn wsX6_isCommitted (wsV RX6 200 RX6 yX6_rowWithEntry wsX6_rowWithEntry) := goodIn_app (goodIn_of _ (by decide +kernel)) ggX6_isCommitted_X6_rowWithEntry
theorem dX6_isCommitted_0 : decode cX6_isCommitted 0 = .ok (.aload_n 0, 1) := by decide +kernel
theorem dX6_isCommitted_1 : decode cX6_isCommitted 1 = .ok (.iload_n 1, 1) := by decide +kernel
theorem dX6_isCommitted_2 : decode cX6_isCommitted 2 = .ok (.iload_n 2, 1) := by decide +kernel
theorem dX6_isCommitted_3 : decode cX6_isCommitted 3 = .ok (.invokevirtual 200, 3) := by decide +kernel
theorem dX6_isCommitted_6 : decode cX6_isCommitted 6 = .ok (.getfield 211, 3) := by decide +kernel
theorem dX6_isCommitted_9 : decode cX6_isCommitted 9 = .ok (.iload_n 2, 1) := by decide +kernel
theorem dX6_isCommitted_10 : decode cX6_isCommitted 10 = .ok (.baload, 1) := by decide +kernel
theorem dX6_isCommitted_11 : decode cX6_isCommitted 11 = .ok (.ireturn, 1) := by decide +kernel
set_option maxRecDepth 20000 in
theorem ggX6_has_X6_castleAt : GoodIn wsX6_has wsX6_castleAt := goodIn_ca (goodIn_r _ [6, 7, 8, 9, 10, 5, 11, 12, 13, 34, 35, 36, 37, 38, 39, 40, 41] (by decide +kernel) (by decide +kernel)) (goodIn_sub (fun _ h => List.mem_cons_of_mem _ (List.mem_append_right _ h)) (by decide +kernel))
set_option maxRecDepth 20000 in
theorem gX6_has_X6_castleAt : GoodIn wsX6_has (wsV RX6 43 RX6 yX6_castleAt wsX6_castleAt) := goodIn_app (goodIn_of _ (by decide +kernel)) ggX6_has_X6_castleAt
set_option maxRecDepth 20000 in
theorem ggX6_has_X6_requireTower : GoodIn wsX6_has wsX6_requireTower := goodIn_ca (goodIn_r _ [16, 12, 13, 17, 42, 43, 44, 45, 46, 47, 48, 49, 50] (by decide +kernel) (by decide +kernel)) (goodIn_sub (fun _ h => List.mem_cons_of_mem _ (List.mem_append_right _ h)) (by decide +kernel))
set_option maxRecDepth 20000 in
theorem gX6_has_X6_requireTower : GoodIn wsX6_has (va_wsS RX6 78 yX6_requireTower wsX6_requireTower) := goodIn_app (goodIn_of _ (by decide +kernel)) ggX6_has_X6_requireTower
set_option maxRecDepth 20000 in
theorem ggX6_has_X6_rowWithEntry : GoodIn wsX6_has wsX6_rowWithEntry := goodIn_ca (goodIn_r _ [21, 12, 13, 22, 23, 2, 3, 4, 5, 6, 7, 8, 9, 10, 11, 42, 43, 44, 45, 46, 47, 48, 49, 50, 27, 28, 29, 30, 31, 32, 33, 34, 35, 36, 37, 38, 39, 40, 41] (by decide +kernel) (by decide +kernel)) (goodIn_sub (fun _ h => List.mem_cons_of_mem _ (List.mem_append_right _ h)) (by decide +kernel))
set_option maxRecDepth 20000 in
theorem gX6_has_X6_rowWithEntry : GoodIn wsX6_has (wsV RX6 200 RX6 yX6_rowWithEntry wsX6_rowWithEntry) := goodIn_app (goodIn_of _ (by decide +kernel)) ggX6_has_X6_rowWithEntry
set_option maxRecDepth 20000 in
theorem ggX6_has_X6_contains : GoodIn wsX6_has wsX6_contains := goodIn_r _ [26] (by decide +kernel) (by decide +kernel)
set_option maxRecDepth 20000 in
theorem gX6_has_X6_contains : GoodIn wsX6_has (va_wsS RX6 218 yX6_contains wsX6_contains) := goodIn_app (goodIn_of _ (by decide +kernel)) ggX6_has_X6_contains
theorem dX6_has_0 : decode cX6_has 0 = .ok (.aload_n 0, 1) := by decide +kernel
theorem dX6_has_1 : decode cX6_has 1 = .ok (.iload_n 1, 1) := by decide +kernel
theorem dX6_has_2 : decode cX6_has 2 = .ok (.invokevirtual 43, 3) := by decide +kernel
theorem dX6_has_5 : decode cX6_has 5 = .ok (.iload_n 2, 1) := by decide +kernel
theorem dX6_has_6 : decode cX6_has 6 = .ok (.invokestatic 78, 3) := by decide +kernel
theorem dX6_has_9 : decode cX6_has 9 = .ok (.aload_n 0, 1) := by decide +kernel
theorem dX6_has_10 : decode cX6_has 10 = .ok (.iload_n 1, 1) := by decide +kernel
theorem dX6_has_11 : decode cX6_has 11 = .ok (.iload_n 3, 1) := by decide +kernel
theorem dX6_has_12 : decode cX6_has 12 = .ok (.invokevirtual 200, 3) := by decide +kernel
theorem dX6_has_15 : decode cX6_has 15 = .ok (.getfield 215, 3) := by decide +kernel
theorem dX6_has_18 : decode cX6_has 18 = .ok (.iload_n 3, 1) := by decide +kernel
theorem dX6_has_19 : decode cX6_has 19 = .ok (.iaload, 1) := by decide +kernel
theorem dX6_has_20 : decode cX6_has 20 = .ok (.iload_n 2, 1) := by decide +kernel
theorem dX6_has_21 : decode cX6_has 21 = .ok (.invokestatic 218, 3) := by decide +kernel
theorem dX6_has_24 : decode cX6_has 24 = .ok (.ireturn, 1) := by decide +kernel
set_option maxRecDepth 20000 in
theorem ggX6_gold_X6_castleAt : GoodIn wsX6_gold wsX6_castleAt := goodIn_ca (goodIn_r _ [7, 8, 9, 10, 11, 6, 12, 13, 14, 58, 59, 60, 61, 62, 63, 64, 65] (by decide +kernel) (by decide +kernel)) (goodIn_sub (fun _ h => List.mem_cons_of_mem _ (List.mem_append_right _ h)) (by decide +kernel))
set_option maxRecDepth 20000 in
theorem gX6_gold_X6_castleAt : GoodIn wsX6_gold (wsV RX6 43 RX6 yX6_castleAt wsX6_castleAt) := goodIn_app (goodIn_of _ (by decide +kernel)) ggX6_gold_X6_castleAt
set_option maxRecDepth 20000 in
theorem ggX6_gold_X0_tellLedger : GoodIn wsX6_gold wsX0_tellLedger := goodIn_r _ [19, 20, 21, 22, 23, 24, 25, 26, 27, 28, 29, 30, 31, 32, 33, 34, 35, 36, 37, 38, 39, 40, 41, 42, 43, 44, 45, 46, 47, 48, 49, 50, 51, 52, 53, 54, 66, 67, 68, 69, 70, 71, 72, 73, 74, 55, 56, 57, 75, 76, 77, 78, 79, 80, 81] (by decide +kernel) (by decide +kernel)
set_option maxRecDepth 20000 in
theorem gX6_gold_X0_tellLedger : GoodIn wsX6_gold (wsV RX6 167 RX0 yX0_tellLedger wsX0_tellLedger) := goodIn_app (goodIn_of _ (by decide +kernel)) ggX6_gold_X0_tellLedger
theorem dX6_gold_0 : decode cX6_gold 0 = .ok (.aload_n 0, 1) := by decide +kernel
theorem dX6_gold_1 : decode cX6_gold 1 = .ok (.iload_n 1, 1) := by decide +kernel
theorem dX6_gold_2 : decode cX6_gold 2 = .ok (.invokevirtual 43, 3) := by decide +kernel
theorem dX6_gold_5 : decode cX6_gold 5 = .ok (.invokevirtual 167, 3) := by decide +kernel
theorem dX6_gold_8 : decode cX6_gold 8 = .ok (.astore_n 3, 1) := by decide +kernel
theorem dX6_gold_9 : decode cX6_gold 9 = .ok (.iload_n 2, 1) := by decide +kernel
theorem dX6_gold_10 : decode cX6_gold 10 = .ok (.ifCond .eq 10, 3) := by decide +kernel
theorem dX6_gold_13 : decode cX6_gold 13 = .ok (.aload_n 3, 1) := by decide +kernel
theorem dX6_gold_14 : decode cX6_gold 14 = .ok (.getfield 221, 3) := by decide +kernel
theorem dX6_gold_17 : decode cX6_gold 17 = .ok (.goto 7, 3) := by decide +kernel
theorem dX6_gold_20 : decode cX6_gold 20 = .ok (.aload_n 3, 1) := by decide +kernel
theorem dX6_gold_21 : decode cX6_gold 21 = .ok (.getfield 224, 3) := by decide +kernel
theorem dX6_gold_24 : decode cX6_gold 24 = .ok (.ireturn, 1) := by decide +kernel
set_option maxRecDepth 20000 in
theorem ggX6_purse_X6_castleAt : GoodIn wsX6_purse wsX6_castleAt := goodIn_ca (goodIn_r _ [6, 7, 8, 9, 10, 5, 11, 12, 13, 60, 61, 62, 63, 64, 65, 66, 67] (by decide +kernel) (by decide +kernel)) (goodIn_sub (fun _ h => List.mem_cons_of_mem _ (List.mem_append_right _ h)) (by decide +kernel))
set_option maxRecDepth 20000 in
theorem gX6_purse_X6_castleAt : GoodIn wsX6_purse (wsV RX6 43 RX6 yX6_castleAt wsX6_castleAt) := goodIn_app (goodIn_of _ (by decide +kernel)) ggX6_purse_X6_castleAt
set_option maxRecDepth 20000 in
theorem ggX6_purse_X6_requireLord : GoodIn wsX6_purse wsX6_requireLord := goodIn_ca (goodIn_r _ [16, 12, 13] (by decide +kernel) (by decide +kernel)) (goodIn_sub (fun _ h => List.mem_cons_of_mem _ (List.mem_append_right _ h)) (by decide +kernel))
set_option maxRecDepth 20000 in
theorem gX6_purse_X6_requireLord : GoodIn wsX6_purse (va_wsS RX6 96 yX6_requireLord wsX6_requireLord) := goodIn_app (goodIn_of _ (by decide +kernel)) ggX6_purse_X6_requireLord
set_option maxRecDepth 20000 in
theorem ggX6_purse_X0_tellLedger : GoodIn wsX6_purse wsX0_tellLedger := goodIn_r _ [21, 22, 23, 24, 25, 26, 27, 28, 29, 30, 31, 32, 33, 34, 35, 36, 37, 38, 39, 40, 41, 42, 43, 44, 45, 46, 47, 48, 49, 50, 51, 52, 53, 54, 55, 56, 68, 69, 70, 71, 72, 73, 74, 75, 76, 57, 58, 59, 77, 78, 79, 80, 81, 82, 83] (by decide +kernel) (by decide +kernel)
set_option maxRecDepth 20000 in
theorem gX6_purse_X0_tellLedger : GoodIn wsX6_purse (wsV RX6 167 RX0 yX0_tellLedger wsX0_tellLedger) := goodIn_app (goodIn_of _ (by decide +kernel)) ggX6_purse_X0_tellLedger
theorem dX6_purse_0 : decode cX6_purse 0 = .ok (.aload_n 0, 1) := by decide +kernel
theorem dX6_purse_1 : decode cX6_purse 1 = .ok (.iload_n 2, 1) := by decide +kernel
theorem dX6_purse_2 : decode cX6_purse 2 = .ok (.invokevirtual 43, 3) := by decide +kernel
theorem dX6_purse_5 : decode cX6_purse 5 = .ok (.astore_n 3, 1) := by decide +kernel
theorem dX6_purse_6 : decode cX6_purse 6 = .ok (.iload_n 1, 1) := by decide +kernel
theorem dX6_purse_7 : decode cX6_purse 7 = .ok (.invokestatic 96, 3) := by decide +kernel
theorem dX6_purse_10 : decode cX6_purse 10 = .ok (.aload_n 3, 1) := by decide +kernel
theorem dX6_purse_11 : decode cX6_purse 11 = .ok (.invokevirtual 167, 3) := by decide +kernel
theorem dX6_purse_14 : decode cX6_purse 14 = .ok (.getfield 171, 3) := by decide +kernel
theorem dX6_purse_17 : decode cX6_purse 17 = .ok (.iload_n 1, 1) := by decide +kernel
theorem dX6_purse_18 : decode cX6_purse 18 = .ok (.iaload, 1) := by decide +kernel
theorem dX6_purse_19 : decode cX6_purse 19 = .ok (.ireturn, 1) := by decide +kernel
set_option maxRecDepth 20000 in
theorem ggX6_scout_X6_castleAt : GoodIn wsX6_scout wsX6_castleAt := goodIn_ca (goodIn_r _ [12, 13, 14, 15, 16, 11, 17, 18, 19, 96, 97, 98, 99, 100, 101, 102, 103] (by decide +kernel) (by decide +kernel)) (goodIn_sub (fun _ h => List.mem_cons_of_mem _ (List.mem_append_right _ h)) (by decide +kernel))
set_option maxRecDepth 20000 in
theorem gX6_scout_X6_castleAt : GoodIn wsX6_scout (wsV RX6 43 RX6 yX6_castleAt wsX6_castleAt) := goodIn_app (goodIn_of _ (by decide +kernel)) ggX6_scout_X6_castleAt
set_option maxRecDepth 20000 in
theorem ggX6_scout_X6_requireLord : GoodIn wsX6_scout wsX6_requireLord := goodIn_ca (goodIn_r _ [22, 18, 19] (by decide +kernel) (by decide +kernel)) (goodIn_sub (fun _ h => List.mem_cons_of_mem _ (List.mem_append_right _ h)) (by decide +kernel))
set_option maxRecDepth 20000 in
theorem gX6_scout_X6_requireLord : GoodIn wsX6_scout (va_wsS RX6 96 yX6_requireLord wsX6_requireLord) := goodIn_app (goodIn_of _ (by decide +kernel)) ggX6_scout_X6_requireLord
set_option maxRecDepth 20000 in
theorem ggX6_scout_X0_towersNear : GoodIn wsX6_scout wsX0_towersNear := goodIn_r _ [27, 28, 29, 104, 105, 106, 107, 108, 109, 110, 111, 112] (by decide +kernel) (by decide +kernel)
set_option maxRecDepth 20000 in
theorem gX6_scout_X0_towersNear : GoodIn wsX6_scout (wsV RX6 132 RX0 yX0_towersNear wsX0_towersNear) := goodIn_app (goodIn_of _ (by decide +kernel)) ggX6_scout_X0_towersNear
set_option maxRecDepth 20000 in
theorem ggX6_scout_X0_isQuorum : GoodIn wsX6_scout wsX0_isQuorum := goodIn_r _ [33, 34, 35, 36, 37, 38, 39, 40, 41, 104, 105, 106, 107, 108, 109, 110, 111, 112] (by decide +kernel) (by decide +kernel)
set_option maxRecDepth 20000 in
theorem gX6_scout_X0_isQuorum : GoodIn wsX6_scout (wsV RX6 112 RX0 yX0_isQuorum wsX0_isQuorum) := goodIn_app (goodIn_of _ (by decide +kernel)) ggX6_scout_X0_isQuorum
set_option maxRecDepth 20000 in
theorem ggX6_scout_X4_look : GoodIn wsX6_scout wsX4_look := goodIn_r _ [46, 47, 48, 49, 50, 51, 52, 53, 54, 55, 56, 57, 58, 59, 60, 61, 62, 63, 64, 65, 26, 66, 67, 68, 69, 70, 71, 72, 73, 74, 75, 76, 77, 78, 79, 80, 81, 82, 83, 84, 85, 86, 87, 88, 89, 90, 91, 92, 93, 94, 95, 113, 114, 115, 116, 117, 118, 104, 105, 106, 107, 108, 109, 110, 111, 112, 119, 120, 121, 122, 123, 124, 125, 126, 127, 128] (by decide +kernel) (by decide +kernel)
set_option maxRecDepth 20000 in
theorem gX6_scout_X4_look : GoodIn wsX6_scout (wsV RX6 237 RX4 yX4_look wsX4_look) := goodIn_app (goodIn_of _ (by decide +kernel)) ggX6_scout_X4_look
theorem dX6_scout_0 : decode cX6_scout 0 = .ok (.aload_n 0, 1) := by decide +kernel
theorem dX6_scout_1 : decode cX6_scout 1 = .ok (.iload_n 2, 1) := by decide +kernel
theorem dX6_scout_2 : decode cX6_scout 2 = .ok (.invokevirtual 43, 3) := by decide +kernel
theorem dX6_scout_5 : decode cX6_scout 5 = .ok (.astore_n 3, 1) := by decide +kernel
theorem dX6_scout_6 : decode cX6_scout 6 = .ok (.iload_n 1, 1) := by decide +kernel
theorem dX6_scout_7 : decode cX6_scout 7 = .ok (.invokestatic 96, 3) := by decide +kernel
theorem dX6_scout_10 : decode cX6_scout 10 = .ok (.aload_n 3, 1) := by decide +kernel
theorem dX6_scout_11 : decode cX6_scout 11 = .ok (.aload_n 3, 1) := by decide +kernel
theorem dX6_scout_12 : decode cX6_scout 12 = .ok (.iload_n 1, 1) := by decide +kernel
theorem dX6_scout_13 : decode cX6_scout 13 = .ok (.invokevirtual 132, 3) := by decide +kernel
theorem dX6_scout_16 : decode cX6_scout 16 = .ok (.invokevirtual 112, 3) := by decide +kernel
theorem dX6_scout_19 : decode cX6_scout 19 = .ok (.ifCond .ne 13, 3) := by decide +kernel
theorem dX6_scout_22 : decode cX6_scout 22 = .ok (.new 58, 3) := by decide +kernel
theorem dX6_scout_25 : decode cX6_scout 25 = .ok (.dup, 1) := by decide +kernel
theorem dX6_scout_26 : decode cX6_scout 26 = .ok (.ldc 227, 2) := by decide +kernel
theorem dX6_scout_28 : decode cX6_scout 28 = .ok (.invokespecial 62, 3) := by decide +kernel
theorem dX6_scout_31 : decode cX6_scout 31 = .ok (.athrow, 1) := by decide +kernel
theorem dX6_scout_32 : decode cX6_scout 32 = .ok (.aload_n 0, 1) := by decide +kernel
theorem dX6_scout_33 : decode cX6_scout 33 = .ok (.getfield 229, 3) := by decide +kernel
theorem dX6_scout_36 : decode cX6_scout 36 = .ok (.bipush 20, 2) := by decide +kernel
theorem dX6_scout_38 : decode cX6_scout 38 = .ok (.if_icmp .lt 13, 3) := by decide +kernel
theorem dX6_scout_41 : decode cX6_scout 41 = .ok (.new 232, 3) := by decide +kernel
theorem dX6_scout_44 : decode cX6_scout 44 = .ok (.dup, 1) := by decide +kernel
theorem dX6_scout_45 : decode cX6_scout 45 = .ok (.ldc 234, 2) := by decide +kernel
theorem dX6_scout_47 : decode cX6_scout 47 = .ok (.invokespecial 236, 3) := by decide +kernel
theorem dX6_scout_50 : decode cX6_scout 50 = .ok (.athrow, 1) := by decide +kernel
theorem dX6_scout_51 : decode cX6_scout 51 = .ok (.aload_n 0, 1) := by decide +kernel
theorem dX6_scout_52 : decode cX6_scout 52 = .ok (.getfield 25, 3) := by decide +kernel
theorem dX6_scout_55 : decode cX6_scout 55 = .ok (.aload_n 0, 1) := by decide +kernel
theorem dX6_scout_56 : decode cX6_scout 56 = .ok (.getfield 229, 3) := by decide +kernel
theorem dX6_scout_59 : decode cX6_scout 59 = .ok (.aaload, 1) := by decide +kernel
theorem dX6_scout_60 : decode cX6_scout 60 = .ok (.aload_n 3, 1) := by decide +kernel
theorem dX6_scout_61 : decode cX6_scout 61 = .ok (.iload_n 1, 1) := by decide +kernel
theorem dX6_scout_62 : decode cX6_scout 62 = .ok (.aload_n 0, 1) := by decide +kernel
theorem dX6_scout_63 : decode cX6_scout 63 = .ok (.getfield 75, 3) := by decide +kernel
theorem dX6_scout_66 : decode cX6_scout 66 = .ok (.invokevirtual 237, 3) := by decide +kernel
theorem dX6_scout_69 : decode cX6_scout 69 = .ok (.aload_n 0, 1) := by decide +kernel
theorem dX6_scout_70 : decode cX6_scout 70 = .ok (.dup, 1) := by decide +kernel
theorem dX6_scout_71 : decode cX6_scout 71 = .ok (.getfield 229, 3) := by decide +kernel
theorem dX6_scout_74 : decode cX6_scout 74 = .ok (.dup_x1, 1) := by decide +kernel
theorem dX6_scout_75 : decode cX6_scout 75 = .ok (.iconst 1, 1) := by decide +kernel
theorem dX6_scout_76 : decode cX6_scout 76 = .ok (.iadd, 1) := by decide +kernel
theorem dX6_scout_77 : decode cX6_scout 77 = .ok (.putfield 229, 3) := by decide +kernel
theorem dX6_scout_80 : decode cX6_scout 80 = .ok (.ireturn, 1) := by decide +kernel
set_option maxRecDepth 20000 in
theorem ggX6_read_X6_sightAt : GoodIn wsX6_read wsX6_sightAt := goodIn_ca (goodIn_r _ [10, 11, 12, 13, 14, 24, 25, 26, 27, 28, 29, 30, 31] (by decide +kernel) (by decide +kernel)) (goodIn_sub (fun _ h => List.mem_cons_of_mem _ (List.mem_append_right _ h)) (by decide +kernel))
set_option maxRecDepth 20000 in
theorem gX6_read_X6_sightAt : GoodIn wsX6_read (wsV RX6 241 RX6 yX6_sightAt wsX6_sightAt) := goodIn_app (goodIn_of _ (by decide +kernel)) ggX6_read_X6_sightAt
set_option maxRecDepth 20000 in
theorem ggX6_read_X4_isTooOld : GoodIn wsX6_read wsX4_isTooOld := goodIn_r _ [19, 20, 21, 22, 23, 32, 33, 34, 35, 36, 37, 38, 39, 40, 41, 42, 43, 44, 45, 46] (by decide +kernel) (by decide +kernel)
set_option maxRecDepth 20000 in
theorem gX6_read_X4_isTooOld : GoodIn wsX6_read (wsV RX6 245 RX4 yX4_isTooOld wsX4_isTooOld) := goodIn_app (goodIn_of _ (by decide +kernel)) ggX6_read_X4_isTooOld
theorem dX6_read_0 : decode cX6_read 0 = .ok (.aload_n 0, 1) := by decide +kernel
theorem dX6_read_1 : decode cX6_read 1 = .ok (.iload_n 1, 1) := by decide +kernel
theorem dX6_read_2 : decode cX6_read 2 = .ok (.invokevirtual 241, 3) := by decide +kernel
theorem dX6_read_5 : decode cX6_read 5 = .ok (.astore_n 3, 1) := by decide +kernel
theorem dX6_read_6 : decode cX6_read 6 = .ok (.aload_n 3, 1) := by decide +kernel
theorem dX6_read_7 : decode cX6_read 7 = .ok (.aload_n 0, 1) := by decide +kernel
theorem dX6_read_8 : decode cX6_read 8 = .ok (.getfield 75, 3) := by decide +kernel
theorem dX6_read_11 : decode cX6_read 11 = .ok (.invokevirtual 245, 3) := by decide +kernel
theorem dX6_read_14 : decode cX6_read 14 = .ok (.ifCond .eq 13, 3) := by decide +kernel
theorem dX6_read_17 : decode cX6_read 17 = .ok (.new 58, 3) := by decide +kernel
theorem dX6_read_20 : decode cX6_read 20 = .ok (.dup, 1) := by decide +kernel
theorem dX6_read_21 : decode cX6_read 21 = .ok (.ldc 248, 2) := by decide +kernel
theorem dX6_read_23 : decode cX6_read 23 = .ok (.invokespecial 62, 3) := by decide +kernel
theorem dX6_read_26 : decode cX6_read 26 = .ok (.athrow, 1) := by decide +kernel
theorem dX6_read_27 : decode cX6_read 27 = .ok (.iload_n 2, 1) := by decide +kernel
theorem dX6_read_28 : decode cX6_read 28 = .ok (.ifCond .eq 10, 3) := by decide +kernel
theorem dX6_read_31 : decode cX6_read 31 = .ok (.aload_n 3, 1) := by decide +kernel
theorem dX6_read_32 : decode cX6_read 32 = .ok (.getfield 250, 3) := by decide +kernel
theorem dX6_read_35 : decode cX6_read 35 = .ok (.goto 7, 3) := by decide +kernel
theorem dX6_read_38 : decode cX6_read 38 = .ok (.aload_n 3, 1) := by decide +kernel
theorem dX6_read_39 : decode cX6_read 39 = .ok (.getfield 253, 3) := by decide +kernel
theorem dX6_read_42 : decode cX6_read 42 = .ok (.ireturn, 1) := by decide +kernel
set_option maxRecDepth 20000 in
theorem ggX6_raid_X6_sightAt : GoodIn wsX6_raid wsX6_sightAt := goodIn_ca (goodIn_r _ [9, 10, 11, 12, 13, 103, 104, 105, 106, 107, 108, 109, 110] (by decide +kernel) (by decide +kernel)) (goodIn_sub (fun _ h => List.mem_cons_of_mem _ (List.mem_append_left _ (List.mem_append_right _ h))) (by decide +kernel))
set_option maxRecDepth 20000 in
theorem gX6_raid_X6_sightAt : GoodIn wsX6_raid (wsV RX6 241 RX6 yX6_sightAt wsX6_sightAt) := goodIn_app (goodIn_of _ (by decide +kernel)) ggX6_raid_X6_sightAt
set_option maxRecDepth 20000 in
theorem ggX6_raid_X6_requireGate : GoodIn wsX6_raid wsX6_requireGate := goodIn_ca (goodIn_r _ [16, 10, 11] (by decide +kernel) (by decide +kernel)) (goodIn_sub (fun _ h => List.mem_cons_of_mem _ (List.mem_append_left _ (List.mem_append_right _ h))) (by decide +kernel))
set_option maxRecDepth 20000 in
theorem gX6_raid_X6_requireGate : GoodIn wsX6_raid (va_wsS RX6 103 yX6_requireGate wsX6_requireGate) := goodIn_app (goodIn_of _ (by decide +kernel)) ggX6_raid_X6_requireGate
set_option maxRecDepth 20000 in
theorem ggX6_raid_X6_requireRoom : GoodIn wsX6_raid wsX6_requireRoom := goodIn_ca (goodIn_r _ [19, 20, 21, 22, 23, 111, 112, 113, 114, 115, 116, 117, 118, 119, 120, 121, 122, 123, 124, 125, 126] (by decide +kernel) (by decide +kernel)) (goodIn_sub (fun _ h => List.mem_cons_of_mem _ (List.mem_append_right _ h)) (by decide +kernel))
set_option maxRecDepth 20000 in
theorem gX6_raid_X6_requireRoom : GoodIn wsX6_raid (va_wsS RX6 184 yX6_requireRoom wsX6_requireRoom) := goodIn_app (goodIn_of _ (by decide +kernel)) ggX6_raid_X6_requireRoom
set_option maxRecDepth 20000 in
theorem ggX6_raid_X6_outcomeOfRaid : GoodIn wsX6_raid wsX6_outcomeOfRaid := goodIn_r _ [27, 1, 28, 29, 3, 22, 30, 31, 32, 33, 34, 35, 36, 37, 38, 39, 40, 41, 42, 43, 44, 45, 46, 47, 48, 49, 50, 51, 52, 53, 54, 55, 56, 57, 58, 59, 60, 61, 62, 63, 64, 65, 66, 67, 68, 69, 70, 71, 72, 73, 74, 75, 76, 77, 97, 98, 99, 100, 101, 102, 103, 104, 105, 106, 107, 108, 109, 110, 111, 112, 113, 114, 115, 116, 117, 118, 119, 127, 128, 129, 120, 121, 122, 123, 124, 125, 126] (by decide +kernel) (by decide +kernel)
set_option maxRecDepth 20000 in
theorem gX6_raid_X6_outcomeOfRaid : GoodIn wsX6_raid (wsV RX6 259 RX6 yX6_outcomeOfRaid wsX6_outcomeOfRaid) := goodIn_app (goodIn_of _ (by decide +kernel)) ggX6_raid_X6_outcomeOfRaid
set_option maxRecDepth 20000 in
theorem ggX6_raid_X0_towersNear : GoodIn wsX6_raid wsX0_towersNear := goodIn_r _ [50, 51, 52, 111, 112, 113, 114, 115, 116, 117, 118, 119] (by decide +kernel) (by decide +kernel)
set_option maxRecDepth 20000 in
theorem gX6_raid_X0_towersNear : GoodIn wsX6_raid (wsV RX6 132 RX0 yX0_towersNear wsX0_towersNear) := goodIn_app (goodIn_of _ (by decide +kernel)) ggX6_raid_X0_towersNear
set_option maxRecDepth 20000 in
theorem ggX6_raid_X0_writeEntry : GoodIn wsX6_raid wsX0_writeEntry := goodIn_r _ [81, 82, 83, 84, 85, 86, 68, 87, 70, 72, 88, 89, 71, 90, 91, 92, 49, 93, 94, 95, 58, 59, 60, 61, 62, 63, 64, 96, 54, 55, 56, 57, 111, 112, 113, 114, 115, 116, 117, 118, 119, 120, 121, 122, 123, 124, 125, 126] (by decide +kernel) (by decide +kernel)
set_option maxRecDepth 20000 in
theorem gX6_raid_X0_writeEntry : GoodIn wsX6_raid (wsV RX6 187 RX0 yX0_writeEntry wsX0_writeEntry) := goodIn_app (goodIn_of _ (by decide +kernel)) ggX6_raid_X0_writeEntry
theorem dX6_raid_0 : decode cX6_raid 0 = .ok (.aload_n 0, 1) := by decide +kernel
theorem dX6_raid_1 : decode cX6_raid 1 = .ok (.iload_n 1, 1) := by decide +kernel
theorem dX6_raid_2 : decode cX6_raid 2 = .ok (.invokevirtual 241, 3) := by decide +kernel
theorem dX6_raid_5 : decode cX6_raid 5 = .ok (.astore_n 3, 1) := by decide +kernel
theorem dX6_raid_6 : decode cX6_raid 6 = .ok (.iload_n 2, 1) := by decide +kernel
theorem dX6_raid_7 : decode cX6_raid 7 = .ok (.invokestatic 103, 3) := by decide +kernel
theorem dX6_raid_10 : decode cX6_raid 10 = .ok (.aload_n 3, 1) := by decide +kernel
theorem dX6_raid_11 : decode cX6_raid 11 = .ok (.getfield 256, 3) := by decide +kernel
theorem dX6_raid_14 : decode cX6_raid 14 = .ok (.invokestatic 184, 3) := by decide +kernel
theorem dX6_raid_17 : decode cX6_raid 17 = .ok (.aload_n 0, 1) := by decide +kernel
theorem dX6_raid_18 : decode cX6_raid 18 = .ok (.aload_n 3, 1) := by decide +kernel
theorem dX6_raid_19 : decode cX6_raid 19 = .ok (.iload_n 2, 1) := by decide +kernel
theorem dX6_raid_20 : decode cX6_raid 20 = .ok (.invokevirtual 259, 3) := by decide +kernel
theorem dX6_raid_23 : decode cX6_raid 23 = .ok (.istore 4, 2) := by decide +kernel
theorem dX6_raid_25 : decode cX6_raid 25 = .ok (.iload 4, 2) := by decide +kernel
theorem dX6_raid_27 : decode cX6_raid 27 = .ok (.bipush 119, 2) := by decide +kernel
theorem dX6_raid_29 : decode cX6_raid 29 = .ok (.if_icmp .ne 47, 3) := by decide +kernel
theorem dX6_raid_32 : decode cX6_raid 32 = .ok (.aload_n 3, 1) := by decide +kernel
theorem dX6_raid_33 : decode cX6_raid 33 = .ok (.getfield 256, 3) := by decide +kernel
theorem dX6_raid_36 : decode cX6_raid 36 = .ok (.bipush 114, 2) := by decide +kernel
theorem dX6_raid_38 : decode cX6_raid 38 = .ok (.aload_n 3, 1) := by decide +kernel
theorem dX6_raid_39 : decode cX6_raid 39 = .ok (.getfield 253, 3) := by decide +kernel
theorem dX6_raid_42 : decode cX6_raid 42 = .ok (.iconst 2, 1) := by decide +kernel
theorem dX6_raid_43 : decode cX6_raid 43 = .ok (.idiv, 1) := by decide +kernel
theorem dX6_raid_44 : decode cX6_raid 44 = .ok (.aload_n 3, 1) := by decide +kernel
theorem dX6_raid_45 : decode cX6_raid 45 = .ok (.getfield 263, 3) := by decide +kernel
theorem dX6_raid_48 : decode cX6_raid 48 = .ok (.aload_n 3, 1) := by decide +kernel
theorem dX6_raid_49 : decode cX6_raid 49 = .ok (.getfield 256, 3) := by decide +kernel
theorem dX6_raid_52 : decode cX6_raid 52 = .ok (.aload_n 3, 1) := by decide +kernel
theorem dX6_raid_53 : decode cX6_raid 53 = .ok (.getfield 263, 3) := by decide +kernel
theorem dX6_raid_56 : decode cX6_raid 56 = .ok (.invokevirtual 132, 3) := by decide +kernel
theorem dX6_raid_59 : decode cX6_raid 59 = .ok (.invokevirtual 187, 3) := by decide +kernel
theorem dX6_raid_62 : decode cX6_raid 62 = .ok (.pop, 1) := by decide +kernel
theorem dX6_raid_63 : decode cX6_raid 63 = .ok (.aload_n 0, 1) := by decide +kernel
theorem dX6_raid_64 : decode cX6_raid 64 = .ok (.getfield 39, 3) := by decide +kernel
theorem dX6_raid_67 : decode cX6_raid 67 = .ok (.aload_n 3, 1) := by decide +kernel
theorem dX6_raid_68 : decode cX6_raid 68 = .ok (.getfield 263, 3) := by decide +kernel
theorem dX6_raid_71 : decode cX6_raid 71 = .ok (.dup2, 1) := by decide +kernel
theorem dX6_raid_72 : decode cX6_raid 72 = .ok (.iaload, 1) := by decide +kernel
theorem dX6_raid_73 : decode cX6_raid 73 = .ok (.iconst 1, 1) := by decide +kernel
theorem dX6_raid_74 : decode cX6_raid 74 = .ok (.iadd, 1) := by decide +kernel
theorem dX6_raid_75 : decode cX6_raid 75 = .ok (.iastore, 1) := by decide +kernel
theorem dX6_raid_76 : decode cX6_raid 76 = .ok (.iload 4, 2) := by decide +kernel
theorem dX6_raid_78 : decode cX6_raid 78 = .ok (.ireturn, 1) := by decide +kernel
set_option maxRecDepth 20000 in
theorem ggX6_won_X6_requireLord : GoodIn wsX6_won wsX6_requireLord := goodIn_ca (goodIn_r _ [5, 6, 7] (by decide +kernel) (by decide +kernel)) (goodIn_sub (fun _ h => List.mem_cons_of_mem _ (List.mem_append_right _ h)) (by decide +kernel))
set_option maxRecDepth 20000 in
theorem gX6_won_X6_requireLord : GoodIn wsX6_won (va_wsS RX6 96 yX6_requireLord wsX6_requireLord) := goodIn_app (goodIn_of _ (by decide +kernel)) ggX6_won_X6_requireLord
theorem dX6_won_0 : decode cX6_won 0 = .ok (.iload_n 1, 1) := by decide +kernel
theorem dX6_won_1 : decode cX6_won 1 = .ok (.invokestatic 96, 3) := by decide +kernel
theorem dX6_won_4 : decode cX6_won 4 = .ok (.aload_n 0, 1) := by decide +kernel
theorem dX6_won_5 : decode cX6_won 5 = .ok (.getfield 39, 3) := by decide +kernel
theorem dX6_won_8 : decode cX6_won 8 = .ok (.iload_n 1, 1) := by decide +kernel
theorem dX6_won_9 : decode cX6_won 9 = .ok (.iaload, 1) := by decide +kernel
theorem dX6_won_10 : decode cX6_won 10 = .ok (.ireturn, 1) := by decide +kernel
set_option maxRecDepth 20000 in
theorem ggX6_truce_X6_requireCastle : GoodIn wsX6_truce wsX6_requireCastle := goodIn_ca (goodIn_r _ [8, 9, 10] (by decide +kernel) (by decide +kernel)) (goodIn_sub (fun _ h => List.mem_cons_of_mem _ (List.mem_append_left _ (List.mem_append_right _ h))) (by decide +kernel))
set_option maxRecDepth 20000 in
theorem gX6_truce_X6_requireCastle : GoodIn wsX6_truce (va_wsS RX6 266 yX6_requireCastle wsX6_requireCastle) := goodIn_app (goodIn_of _ (by decide +kernel)) ggX6_truce_X6_requireCastle
set_option maxRecDepth 20000 in
theorem ggX6_truce_X6_requireAmount : GoodIn wsX6_truce wsX6_requireAmount := goodIn_ca (goodIn_r _ [13, 14, 15] (by decide +kernel) (by decide +kernel)) (goodIn_sub (fun _ h => List.mem_cons_of_mem _ (List.mem_append_right _ h)) (by decide +kernel))
set_option maxRecDepth 20000 in
theorem gX6_truce_X6_requireAmount : GoodIn wsX6_truce (va_wsS RX6 164 yX6_requireAmount wsX6_requireAmount) := goodIn_app (goodIn_of _ (by decide +kernel)) ggX6_truce_X6_requireAmount
set_option maxRecDepth 20000 in
theorem ggX6_truce_X5_begin : GoodIn wsX6_truce wsX5_begin := goodIn_r _ [20, 21, 22, 23, 24, 33, 34, 35, 36] (by decide +kernel) (by decide +kernel)
set_option maxRecDepth 20000 in
theorem gX6_truce_X5_begin : GoodIn wsX6_truce (wsV RX6 274 RX5 yX5_begin wsX5_begin) := goodIn_app (goodIn_of _ (by decide +kernel)) ggX6_truce_X5_begin
theorem dX6_truce_0 : decode cX6_truce 0 = .ok (.iload_n 1, 1) := by decide +kernel
theorem dX6_truce_1 : decode cX6_truce 1 = .ok (.invokestatic 266, 3) := by decide +kernel
theorem dX6_truce_4 : decode cX6_truce 4 = .ok (.iload_n 2, 1) := by decide +kernel
theorem dX6_truce_5 : decode cX6_truce 5 = .ok (.invokestatic 164, 3) := by decide +kernel
theorem dX6_truce_8 : decode cX6_truce 8 = .ok (.aload_n 0, 1) := by decide +kernel
theorem dX6_truce_9 : decode cX6_truce 9 = .ok (.getfield 269, 3) := by decide +kernel
theorem dX6_truce_12 : decode cX6_truce 12 = .ok (.bipush 8, 2) := by decide +kernel
theorem dX6_truce_14 : decode cX6_truce 14 = .ok (.if_icmp .lt 14, 3) := by decide +kernel
theorem dX6_truce_17 : decode cX6_truce 17 = .ok (.new 232, 3) := by decide +kernel
theorem dX6_truce_20 : decode cX6_truce 20 = .ok (.dup, 1) := by decide +kernel
theorem dX6_truce_21 : decode cX6_truce 21 = .ok (.ldc_w 272, 3) := by decide +kernel
theorem dX6_truce_24 : decode cX6_truce 24 = .ok (.invokespecial 236, 3) := by decide +kernel
theorem dX6_truce_27 : decode cX6_truce 27 = .ok (.athrow, 1) := by decide +kernel
theorem dX6_truce_28 : decode cX6_truce 28 = .ok (.aload_n 0, 1) := by decide +kernel
theorem dX6_truce_29 : decode cX6_truce 29 = .ok (.getfield 34, 3) := by decide +kernel
theorem dX6_truce_32 : decode cX6_truce 32 = .ok (.aload_n 0, 1) := by decide +kernel
theorem dX6_truce_33 : decode cX6_truce 33 = .ok (.getfield 269, 3) := by decide +kernel
theorem dX6_truce_36 : decode cX6_truce 36 = .ok (.aaload, 1) := by decide +kernel
theorem dX6_truce_37 : decode cX6_truce 37 = .ok (.iload_n 1, 1) := by decide +kernel
theorem dX6_truce_38 : decode cX6_truce 38 = .ok (.iload_n 2, 1) := by decide +kernel
theorem dX6_truce_39 : decode cX6_truce 39 = .ok (.invokevirtual 274, 3) := by decide +kernel
theorem dX6_truce_42 : decode cX6_truce 42 = .ok (.aload_n 0, 1) := by decide +kernel
theorem dX6_truce_43 : decode cX6_truce 43 = .ok (.dup, 1) := by decide +kernel
theorem dX6_truce_44 : decode cX6_truce 44 = .ok (.getfield 269, 3) := by decide +kernel
theorem dX6_truce_47 : decode cX6_truce 47 = .ok (.dup_x1, 1) := by decide +kernel
theorem dX6_truce_48 : decode cX6_truce 48 = .ok (.iconst 1, 1) := by decide +kernel
theorem dX6_truce_49 : decode cX6_truce 49 = .ok (.iadd, 1) := by decide +kernel
theorem dX6_truce_50 : decode cX6_truce 50 = .ok (.putfield 269, 3) := by decide +kernel
theorem dX6_truce_53 : decode cX6_truce 53 = .ok (.ireturn, 1) := by decide +kernel
set_option maxRecDepth 20000 in
theorem ggX6_prepare_X6_truceAt : GoodIn wsX6_prepare wsX6_truceAt := goodIn_ca (goodIn_r _ [10, 11, 12, 13, 14, 134, 135, 136, 137, 138, 139, 140, 141] (by decide +kernel) (by decide +kernel)) (goodIn_sub (fun _ h => List.mem_cons_of_mem _ (List.mem_append_left _ (List.mem_append_right _ h))) (by decide +kernel))
set_option maxRecDepth 20000 in
theorem gX6_prepare_X6_truceAt : GoodIn wsX6_prepare (wsV RX6 277 RX6 yX6_truceAt wsX6_truceAt) := goodIn_app (goodIn_of _ (by decide +kernel)) ggX6_prepare_X6_truceAt
set_option maxRecDepth 20000 in
theorem ggX6_prepare_X6_castleAt : GoodIn wsX6_prepare wsX6_castleAt := goodIn_ca (goodIn_r _ [18, 19, 20, 21, 22, 9, 23, 11, 12, 134, 135, 136, 137, 138, 139, 140, 141] (by decide +kernel) (by decide +kernel)) (goodIn_sub (fun _ h => List.mem_cons_of_mem _ (List.mem_append_left _ (List.mem_append_right _ h))) (by decide +kernel))
set_option maxRecDepth 20000 in
theorem gX6_prepare_X6_castleAt : GoodIn wsX6_prepare (wsV RX6 43 RX6 yX6_castleAt wsX6_castleAt) := goodIn_app (goodIn_of _ (by decide +kernel)) ggX6_prepare_X6_castleAt
set_option maxRecDepth 20000 in
theorem ggX6_prepare_X6_requireLord : GoodIn wsX6_prepare wsX6_requireLord := goodIn_ca (goodIn_r _ [26, 11, 12] (by decide +kernel) (by decide +kernel)) (goodIn_sub (fun _ h => List.mem_cons_of_mem _ (List.mem_append_left _ (List.mem_append_right _ h))) (by decide +kernel))
set_option maxRecDepth 20000 in
theorem gX6_prepare_X6_requireLord : GoodIn wsX6_prepare (va_wsS RX6 96 yX6_requireLord wsX6_requireLord) := goodIn_app (goodIn_of _ (by decide +kernel)) ggX6_prepare_X6_requireLord
set_option maxRecDepth 20000 in
theorem ggX6_prepare_X6_canPrepare : GoodIn wsX6_prepare wsX6_canPrepare := goodIn_ca (goodIn_r _ [30, 31, 5, 4, 15, 16, 17, 9, 18, 19, 20, 21, 22, 23, 11, 12, 32, 33, 34, 35, 36, 37, 38, 39, 40, 41, 13, 14, 3, 42, 43, 44, 45, 46, 47, 48, 49, 50, 51, 52, 53, 54, 55, 56, 57, 58, 59, 60, 61, 62, 63, 64, 65, 66, 67, 68, 69, 70, 71, 72, 73, 74, 75, 76, 77, 78, 79, 80, 81, 82, 83, 84, 85, 86, 87, 88, 89, 90, 91, 92, 93, 94, 95, 96, 97, 98, 99, 100, 101, 102, 103, 104, 105, 142, 143, 144, 145, 146, 147, 148, 149, 150, 130, 131, 132, 133, 134, 135, 136, 137, 138, 139, 140, 141, 151, 152, 153, 154, 155, 156, 157, 158, 159, 160] (by decide +kernel) (by decide +kernel)) (goodIn_sub (fun _ h => List.mem_cons_of_mem _ (List.mem_append_left _ (List.mem_append_right _ h))) (by decide +kernel))
set_option maxRecDepth 20000 in
theorem gX6_prepare_X6_canPrepare : GoodIn wsX6_prepare (wsV RX6 281 RX6 yX6_canPrepare wsX6_canPrepare) := goodIn_app (goodIn_of _ (by decide +kernel)) ggX6_prepare_X6_canPrepare
set_option maxRecDepth 20000 in
theorem ggX6_prepare_X6_requireRoom : GoodIn wsX6_prepare wsX6_requireRoom := goodIn_ca (goodIn_r _ [108, 109, 110, 31, 111, 142, 143, 144, 145, 146, 147, 148, 149, 150, 151, 152, 153, 154, 155, 156, 157] (by decide +kernel) (by decide +kernel)) (goodIn_sub (fun _ h => List.mem_cons_of_mem _ (List.mem_append_right _ h)) (by decide +kernel))
set_option maxRecDepth 20000 in
theorem gX6_prepare_X6_requireRoom : GoodIn wsX6_prepare (va_wsS RX6 184 yX6_requireRoom wsX6_requireRoom) := goodIn_app (goodIn_of _ (by decide +kernel)) ggX6_prepare_X6_requireRoom
set_option maxRecDepth 20000 in
theorem ggX6_prepare_X0_towersNear : GoodIn wsX6_prepare wsX0_towersNear := goodIn_r _ [46, 47, 48, 142, 143, 144, 145, 146, 147, 148, 149, 150] (by decide +kernel) (by decide +kernel)
set_option maxRecDepth 20000 in
theorem gX6_prepare_X0_towersNear : GoodIn wsX6_prepare (wsV RX6 132 RX0 yX0_towersNear wsX0_towersNear) := goodIn_app (goodIn_of _ (by decide +kernel)) ggX6_prepare_X0_towersNear
set_option maxRecDepth 20000 in
theorem ggX6_prepare_X0_writeTruceEntry : GoodIn wsX6_prepare wsX0_writeTruceEntry := goodIn_r _ [115, 78, 116, 117, 118, 119, 64, 120, 66, 72, 121, 122, 71, 123, 124, 125, 45, 126, 127, 128, 54, 55, 56, 57, 58, 59, 60, 129, 50, 51, 52, 53, 142, 143, 144, 145, 146, 147, 148, 149, 150, 151, 152, 153, 154, 155, 156, 157] (by decide +kernel) (by decide +kernel)
set_option maxRecDepth 20000 in
theorem gX6_prepare_X0_writeTruceEntry : GoodIn wsX6_prepare (wsV RX6 296 RX0 yX0_writeTruceEntry wsX0_writeTruceEntry) := goodIn_app (goodIn_of _ (by decide +kernel)) ggX6_prepare_X0_writeTruceEntry
theorem dX6_prepare_0 : decode cX6_prepare 0 = .ok (.aload_n 0, 1) := by decide +kernel
theorem dX6_prepare_1 : decode cX6_prepare 1 = .ok (.iload_n 1, 1) := by decide +kernel
theorem dX6_prepare_2 : decode cX6_prepare 2 = .ok (.invokevirtual 277, 3) := by decide +kernel
theorem dX6_prepare_5 : decode cX6_prepare 5 = .ok (.astore 4, 2) := by decide +kernel
theorem dX6_prepare_7 : decode cX6_prepare 7 = .ok (.aload_n 0, 1) := by decide +kernel
theorem dX6_prepare_8 : decode cX6_prepare 8 = .ok (.iload_n 2, 1) := by decide +kernel
theorem dX6_prepare_9 : decode cX6_prepare 9 = .ok (.invokevirtual 43, 3) := by decide +kernel
theorem dX6_prepare_12 : decode cX6_prepare 12 = .ok (.astore 5, 2) := by decide +kernel
theorem dX6_prepare_14 : decode cX6_prepare 14 = .ok (.iload_n 3, 1) := by decide +kernel
theorem dX6_prepare_15 : decode cX6_prepare 15 = .ok (.invokestatic 96, 3) := by decide +kernel
theorem dX6_prepare_18 : decode cX6_prepare 18 = .ok (.aload_n 0, 1) := by decide +kernel
theorem dX6_prepare_19 : decode cX6_prepare 19 = .ok (.aload 4, 2) := by decide +kernel
theorem dX6_prepare_21 : decode cX6_prepare 21 = .ok (.iload_n 2, 1) := by decide +kernel
theorem dX6_prepare_22 : decode cX6_prepare 22 = .ok (.iload_n 3, 1) := by decide +kernel
theorem dX6_prepare_23 : decode cX6_prepare 23 = .ok (.invokevirtual 281, 3) := by decide +kernel
theorem dX6_prepare_26 : decode cX6_prepare 26 = .ok (.ifCond .ne 14, 3) := by decide +kernel
theorem dX6_prepare_29 : decode cX6_prepare 29 = .ok (.new 58, 3) := by decide +kernel
theorem dX6_prepare_32 : decode cX6_prepare 32 = .ok (.dup, 1) := by decide +kernel
theorem dX6_prepare_33 : decode cX6_prepare 33 = .ok (.ldc_w 285, 3) := by decide +kernel
theorem dX6_prepare_36 : decode cX6_prepare 36 = .ok (.invokespecial 62, 3) := by decide +kernel
theorem dX6_prepare_39 : decode cX6_prepare 39 = .ok (.athrow, 1) := by decide +kernel
theorem dX6_prepare_40 : decode cX6_prepare 40 = .ok (.aload 5, 2) := by decide +kernel
theorem dX6_prepare_42 : decode cX6_prepare 42 = .ok (.invokestatic 184, 3) := by decide +kernel
theorem dX6_prepare_45 : decode cX6_prepare 45 = .ok (.aload 4, 2) := by decide +kernel
theorem dX6_prepare_47 : decode cX6_prepare 47 = .ok (.getfield 287, 3) := by decide +kernel
theorem dX6_prepare_50 : decode cX6_prepare 50 = .ok (.iload_n 2, 1) := by decide +kernel
theorem dX6_prepare_51 : decode cX6_prepare 51 = .ok (.bipush 112, 2) := by decide +kernel
theorem dX6_prepare_53 : decode cX6_prepare 53 = .ok (.castore, 1) := by decide +kernel
theorem dX6_prepare_54 : decode cX6_prepare 54 = .ok (.aload 5, 2) := by decide +kernel
theorem dX6_prepare_56 : decode cX6_prepare 56 = .ok (.bipush 112, 2) := by decide +kernel
theorem dX6_prepare_58 : decode cX6_prepare 58 = .ok (.aload 4, 2) := by decide +kernel
theorem dX6_prepare_60 : decode cX6_prepare 60 = .ok (.getfield 290, 3) := by decide +kernel
theorem dX6_prepare_63 : decode cX6_prepare 63 = .ok (.aload 4, 2) := by decide +kernel
theorem dX6_prepare_65 : decode cX6_prepare 65 = .ok (.getfield 293, 3) := by decide +kernel
theorem dX6_prepare_68 : decode cX6_prepare 68 = .ok (.iload_n 2, 1) := by decide +kernel
theorem dX6_prepare_69 : decode cX6_prepare 69 = .ok (.if_icmp .ne 7, 3) := by decide +kernel
theorem dX6_prepare_72 : decode cX6_prepare 72 = .ok (.iconst 1, 1) := by decide +kernel
theorem dX6_prepare_73 : decode cX6_prepare 73 = .ok (.goto 4, 3) := by decide +kernel
theorem dX6_prepare_76 : decode cX6_prepare 76 = .ok (.iconst 0, 1) := by decide +kernel
theorem dX6_prepare_77 : decode cX6_prepare 77 = .ok (.aload 5, 2) := by decide +kernel
theorem dX6_prepare_79 : decode cX6_prepare 79 = .ok (.iload_n 3, 1) := by decide +kernel
theorem dX6_prepare_80 : decode cX6_prepare 80 = .ok (.invokevirtual 132, 3) := by decide +kernel
theorem dX6_prepare_83 : decode cX6_prepare 83 = .ok (.invokevirtual 296, 3) := by decide +kernel
theorem dX6_prepare_86 : decode cX6_prepare 86 = .ok (.ireturn, 1) := by decide +kernel
set_option maxRecDepth 20000 in
theorem ggX6_decide_X6_truceAt : GoodIn wsX6_decide wsX6_truceAt := goodIn_ca (goodIn_r _ [8, 9, 10, 11, 12, 28, 29, 30, 31, 32, 33, 34, 35] (by decide +kernel) (by decide +kernel)) (goodIn_sub (fun _ h => List.mem_cons_of_mem _ (List.mem_append_right _ h)) (by decide +kernel))
set_option maxRecDepth 20000 in
theorem gX6_decide_X6_truceAt : GoodIn wsX6_decide (wsV RX6 277 RX6 yX6_truceAt wsX6_truceAt) := goodIn_app (goodIn_of _ (by decide +kernel)) ggX6_decide_X6_truceAt
set_option maxRecDepth 20000 in
theorem ggX6_decide_X5_preparedCount : GoodIn wsX6_decide wsX5_preparedCount := goodIn_r _ [17, 18, 24, 25, 26, 27] (by decide +kernel) (by decide +kernel)
set_option maxRecDepth 20000 in
theorem gX6_decide_X5_preparedCount : GoodIn wsX6_decide (wsV RX6 300 RX5 yX5_preparedCount wsX5_preparedCount) := goodIn_app (goodIn_of _ (by decide +kernel)) ggX6_decide_X5_preparedCount
set_option maxRecDepth 20000 in
theorem ggX6_decide_X5_isDecided : GoodIn wsX6_decide wsX5_isDecided := goodIn_r _ [22, 23, 24, 25, 26, 27] (by decide +kernel) (by decide +kernel)
set_option maxRecDepth 20000 in
theorem gX6_decide_X5_isDecided : GoodIn wsX6_decide (wsV RX6 303 RX5 yX5_isDecided wsX5_isDecided) := goodIn_app (goodIn_of _ (by decide +kernel)) ggX6_decide_X5_isDecided
theorem dX6_decide_0 : decode cX6_decide 0 = .ok (.aload_n 0, 1) := by decide +kernel
theorem dX6_decide_1 : decode cX6_decide 1 = .ok (.iload_n 1, 1) := by decide +kernel
theorem dX6_decide_2 : decode cX6_decide 2 = .ok (.invokevirtual 277, 3) := by decide +kernel
theorem dX6_decide_5 : decode cX6_decide 5 = .ok (.astore_n 3, 1) := by decide +kernel
theorem dX6_decide_6 : decode cX6_decide 6 = .ok (.aload_n 3, 1) := by decide +kernel
theorem dX6_decide_7 : decode cX6_decide 7 = .ok (.invokevirtual 300, 3) := by decide +kernel
theorem dX6_decide_10 : decode cX6_decide 10 = .ok (.istore 4, 2) := by decide +kernel
theorem dX6_decide_12 : decode cX6_decide 12 = .ok (.aload_n 3, 1) := by decide +kernel
theorem dX6_decide_13 : decode cX6_decide 13 = .ok (.invokevirtual 303, 3) := by decide +kernel
theorem dX6_decide_16 : decode cX6_decide 16 = .ok (.ifCond .ne 13, 3) := by decide +kernel
theorem dX6_decide_19 : decode cX6_decide 19 = .ok (.iload_n 2, 1) := by decide +kernel
theorem dX6_decide_20 : decode cX6_decide 20 = .ok (.ifCond .eq 20, 3) := by decide +kernel
theorem dX6_decide_23 : decode cX6_decide 23 = .ok (.iload 4, 2) := by decide +kernel
theorem dX6_decide_25 : decode cX6_decide 25 = .ok (.iconst 2, 1) := by decide +kernel
theorem dX6_decide_26 : decode cX6_decide 26 = .ok (.if_icmp .ge 14, 3) := by decide +kernel
theorem dX6_decide_29 : decode cX6_decide 29 = .ok (.new 58, 3) := by decide +kernel
theorem dX6_decide_32 : decode cX6_decide 32 = .ok (.dup, 1) := by decide +kernel
theorem dX6_decide_33 : decode cX6_decide 33 = .ok (.ldc_w 307, 3) := by decide +kernel
theorem dX6_decide_36 : decode cX6_decide 36 = .ok (.invokespecial 62, 3) := by decide +kernel
theorem dX6_decide_39 : decode cX6_decide 39 = .ok (.athrow, 1) := by decide +kernel
theorem dX6_decide_40 : decode cX6_decide 40 = .ok (.aload_n 3, 1) := by decide +kernel
theorem dX6_decide_41 : decode cX6_decide 41 = .ok (.iload_n 2, 1) := by decide +kernel
theorem dX6_decide_42 : decode cX6_decide 42 = .ok (.ifCond .eq 8, 3) := by decide +kernel
theorem dX6_decide_45 : decode cX6_decide 45 = .ok (.bipush 100, 2) := by decide +kernel
theorem dX6_decide_47 : decode cX6_decide 47 = .ok (.goto 5, 3) := by decide +kernel
theorem dX6_decide_50 : decode cX6_decide 50 = .ok (.bipush 97, 2) := by decide +kernel
theorem dX6_decide_52 : decode cX6_decide 52 = .ok (.putfield 309, 3) := by decide +kernel
theorem dX6_decide_55 : decode cX6_decide 55 = .ok (.iload 4, 2) := by decide +kernel
theorem dX6_decide_57 : decode cX6_decide 57 = .ok (.ireturn, 1) := by decide +kernel
set_option maxRecDepth 20000 in
theorem ggX6_settle_X6_castleAt : GoodIn wsX6_settle wsX6_castleAt := goodIn_ca (goodIn_r _ [14, 15, 16, 17, 18, 13, 19, 20, 21, 83, 84, 85, 86, 87, 88, 89, 90] (by decide +kernel) (by decide +kernel)) (goodIn_sub (fun _ h => List.mem_cons_of_mem _ (List.mem_append_left _ (List.mem_append_right _ h))) (by decide +kernel))
set_option maxRecDepth 20000 in
theorem gX6_settle_X6_castleAt : GoodIn wsX6_settle (wsV RX6 43 RX6 yX6_castleAt wsX6_castleAt) := goodIn_app (goodIn_of _ (by decide +kernel)) ggX6_settle_X6_castleAt
set_option maxRecDepth 20000 in
theorem ggX6_settle_X6_openTruceAt : GoodIn wsX6_settle wsX6_openTruceAt := goodIn_r _ [25, 26, 3, 6, 83, 84, 85, 86, 87, 88, 89, 90, 100, 101, 102, 103] (by decide +kernel) (by decide +kernel)
set_option maxRecDepth 20000 in
theorem gX6_settle_X6_openTruceAt : GoodIn wsX6_settle (wsV RX6 54 RX6 yX6_openTruceAt wsX6_openTruceAt) := goodIn_app (goodIn_of _ (by decide +kernel)) ggX6_settle_X6_openTruceAt
set_option maxRecDepth 20000 in
theorem ggX6_settle_X5_isDecided : GoodIn wsX6_settle wsX5_isDecided := goodIn_r _ [31, 32, 100, 101, 102, 103] (by decide +kernel) (by decide +kernel)
set_option maxRecDepth 20000 in
theorem gX6_settle_X5_isDecided : GoodIn wsX6_settle (wsV RX6 303 RX5 yX5_isDecided wsX5_isDecided) := goodIn_app (goodIn_of _ (by decide +kernel)) ggX6_settle_X5_isDecided
set_option maxRecDepth 20000 in
theorem ggX6_settle_X0_isQuorum : GoodIn wsX6_settle wsX0_isQuorum := goodIn_r _ [37, 38, 39, 40, 41, 42, 43, 44, 45, 91, 92, 93, 94, 95, 96, 97, 98, 99] (by decide +kernel) (by decide +kernel)
set_option maxRecDepth 20000 in
theorem gX6_settle_X0_isQuorum : GoodIn wsX6_settle (wsV RX6 112 RX0 yX0_isQuorum wsX0_isQuorum) := goodIn_app (goodIn_of _ (by decide +kernel)) ggX6_settle_X0_isQuorum
set_option maxRecDepth 20000 in
theorem ggX6_settle_X3_isHanging : GoodIn wsX6_settle wsX3_isHanging := goodIn_r _ [50, 51, 52, 53, 54, 49, 55, 56, 57, 104, 105, 106, 107, 108, 109, 110] (by decide +kernel) (by decide +kernel)
set_option maxRecDepth 20000 in
theorem gX6_settle_X3_isHanging : GoodIn wsX6_settle (wsV RX6 318 RX3 yX3_isHanging wsX3_isHanging) := goodIn_app (goodIn_of _ (by decide +kernel)) ggX6_settle_X3_isHanging
set_option maxRecDepth 20000 in
theorem ggX6_settle_X6_requireRoom : GoodIn wsX6_settle wsX6_requireRoom := goodIn_ca (goodIn_r _ [60, 61, 62, 5, 63, 91, 92, 93, 94, 95, 96, 97, 98, 99, 104, 105, 106, 107, 108, 109, 110] (by decide +kernel) (by decide +kernel)) (goodIn_sub (fun _ h => List.mem_cons_of_mem _ (List.mem_append_right _ h)) (by decide +kernel))
set_option maxRecDepth 20000 in
theorem gX6_settle_X6_requireRoom : GoodIn wsX6_settle (va_wsS RX6 184 yX6_requireRoom wsX6_requireRoom) := goodIn_app (goodIn_of _ (by decide +kernel)) ggX6_settle_X6_requireRoom
set_option maxRecDepth 20000 in
theorem ggX6_settle_X0_writeTruceEntry : GoodIn wsX6_settle wsX0_writeTruceEntry := goodIn_r _ [67, 68, 69, 70, 71, 72, 49, 73, 51, 57, 74, 75, 56, 76, 77, 78, 36, 79, 80, 81, 39, 40, 41, 42, 43, 44, 45, 82, 34, 35, 37, 38, 91, 92, 93, 94, 95, 96, 97, 98, 99, 104, 105, 106, 107, 108, 109, 110] (by decide +kernel) (by decide +kernel)
set_option maxRecDepth 20000 in
theorem gX6_settle_X0_writeTruceEntry : GoodIn wsX6_settle (wsV RX6 296 RX0 yX0_writeTruceEntry wsX0_writeTruceEntry) := goodIn_app (goodIn_of _ (by decide +kernel)) ggX6_settle_X0_writeTruceEntry
theorem dX6_settle_0 : decode cX6_settle 0 = .ok (.aload_n 0, 1) := by decide +kernel
theorem dX6_settle_1 : decode cX6_settle 1 = .ok (.iload_n 1, 1) := by decide +kernel
theorem dX6_settle_2 : decode cX6_settle 2 = .ok (.invokevirtual 43, 3) := by decide +kernel
theorem dX6_settle_5 : decode cX6_settle 5 = .ok (.astore_n 2, 1) := by decide +kernel
theorem dX6_settle_6 : decode cX6_settle 6 = .ok (.aload_n 0, 1) := by decide +kernel
theorem dX6_settle_7 : decode cX6_settle 7 = .ok (.iload_n 1, 1) := by decide +kernel
theorem dX6_settle_8 : decode cX6_settle 8 = .ok (.invokevirtual 54, 3) := by decide +kernel
theorem dX6_settle_11 : decode cX6_settle 11 = .ok (.istore_n 3, 1) := by decide +kernel
theorem dX6_settle_12 : decode cX6_settle 12 = .ok (.iload_n 3, 1) := by decide +kernel
theorem dX6_settle_13 : decode cX6_settle 13 = .ok (.ifCond .lt 15, 3) := by decide +kernel
theorem dX6_settle_16 : decode cX6_settle 16 = .ok (.aload_n 0, 1) := by decide +kernel
theorem dX6_settle_17 : decode cX6_settle 17 = .ok (.getfield 34, 3) := by decide +kernel
theorem dX6_settle_20 : decode cX6_settle 20 = .ok (.iload_n 3, 1) := by decide +kernel
theorem dX6_settle_21 : decode cX6_settle 21 = .ok (.aaload, 1) := by decide +kernel
theorem dX6_settle_22 : decode cX6_settle 22 = .ok (.invokevirtual 303, 3) := by decide +kernel
theorem dX6_settle_25 : decode cX6_settle 25 = .ok (.ifCond .ne 14, 3) := by decide +kernel
theorem dX6_settle_28 : decode cX6_settle 28 = .ok (.new 58, 3) := by decide +kernel
theorem dX6_settle_31 : decode cX6_settle 31 = .ok (.dup, 1) := by decide +kernel
theorem dX6_settle_32 : decode cX6_settle 32 = .ok (.ldc_w 313, 3) := by decide +kernel
theorem dX6_settle_35 : decode cX6_settle 35 = .ok (.invokespecial 62, 3) := by decide +kernel
theorem dX6_settle_38 : decode cX6_settle 38 = .ok (.athrow, 1) := by decide +kernel
theorem dX6_settle_39 : decode cX6_settle 39 = .ok (.aload_n 2, 1) := by decide +kernel
theorem dX6_settle_40 : decode cX6_settle 40 = .ok (.aload_n 2, 1) := by decide +kernel
theorem dX6_settle_41 : decode cX6_settle 41 = .ok (.getfield 315, 3) := by decide +kernel
theorem dX6_settle_44 : decode cX6_settle 44 = .ok (.invokevirtual 112, 3) := by decide +kernel
theorem dX6_settle_47 : decode cX6_settle 47 = .ok (.ifCond .eq 13, 3) := by decide +kernel
theorem dX6_settle_50 : decode cX6_settle 50 = .ok (.aload_n 2, 1) := by decide +kernel
theorem dX6_settle_51 : decode cX6_settle 51 = .ok (.getfield 63, 3) := by decide +kernel
theorem dX6_settle_54 : decode cX6_settle 54 = .ok (.invokevirtual 318, 3) := by decide +kernel
theorem dX6_settle_57 : decode cX6_settle 57 = .ok (.ifCond .eq 14, 3) := by decide +kernel
theorem dX6_settle_60 : decode cX6_settle 60 = .ok (.new 58, 3) := by decide +kernel
theorem dX6_settle_63 : decode cX6_settle 63 = .ok (.dup, 1) := by decide +kernel
theorem dX6_settle_64 : decode cX6_settle 64 = .ok (.ldc_w 321, 3) := by decide +kernel
theorem dX6_settle_67 : decode cX6_settle 67 = .ok (.invokespecial 62, 3) := by decide +kernel
theorem dX6_settle_70 : decode cX6_settle 70 = .ok (.athrow, 1) := by decide +kernel
theorem dX6_settle_71 : decode cX6_settle 71 = .ok (.aload_n 2, 1) := by decide +kernel
theorem dX6_settle_72 : decode cX6_settle 72 = .ok (.invokestatic 184, 3) := by decide +kernel
theorem dX6_settle_75 : decode cX6_settle 75 = .ok (.aload_n 0, 1) := by decide +kernel
theorem dX6_settle_76 : decode cX6_settle 76 = .ok (.getfield 34, 3) := by decide +kernel
theorem dX6_settle_79 : decode cX6_settle 79 = .ok (.iload_n 3, 1) := by decide +kernel
theorem dX6_settle_80 : decode cX6_settle 80 = .ok (.aaload, 1) := by decide +kernel
theorem dX6_settle_81 : decode cX6_settle 81 = .ok (.astore 4, 2) := by decide +kernel
theorem dX6_settle_83 : decode cX6_settle 83 = .ok (.aload 4, 2) := by decide +kernel
theorem dX6_settle_85 : decode cX6_settle 85 = .ok (.getfield 287, 3) := by decide +kernel
theorem dX6_settle_88 : decode cX6_settle 88 = .ok (.iload_n 1, 1) := by decide +kernel
theorem dX6_settle_89 : decode cX6_settle 89 = .ok (.aload 4, 2) := by decide +kernel
theorem dX6_settle_91 : decode cX6_settle 91 = .ok (.getfield 309, 3) := by decide +kernel
theorem dX6_settle_94 : decode cX6_settle 94 = .ok (.castore, 1) := by decide +kernel
theorem dX6_settle_95 : decode cX6_settle 95 = .ok (.aload_n 2, 1) := by decide +kernel
theorem dX6_settle_96 : decode cX6_settle 96 = .ok (.aload 4, 2) := by decide +kernel
theorem dX6_settle_98 : decode cX6_settle 98 = .ok (.getfield 309, 3) := by decide +kernel
theorem dX6_settle_101 : decode cX6_settle 101 = .ok (.aload 4, 2) := by decide +kernel
theorem dX6_settle_103 : decode cX6_settle 103 = .ok (.getfield 290, 3) := by decide +kernel
theorem dX6_settle_106 : decode cX6_settle 106 = .ok (.aload 4, 2) := by decide +kernel
theorem dX6_settle_108 : decode cX6_settle 108 = .ok (.getfield 293, 3) := by decide +kernel
theorem dX6_settle_111 : decode cX6_settle 111 = .ok (.iload_n 1, 1) := by decide +kernel
theorem dX6_settle_112 : decode cX6_settle 112 = .ok (.if_icmp .ne 7, 3) := by decide +kernel
theorem dX6_settle_115 : decode cX6_settle 115 = .ok (.iconst 1, 1) := by decide +kernel
theorem dX6_settle_116 : decode cX6_settle 116 = .ok (.goto 4, 3) := by decide +kernel
theorem dX6_settle_119 : decode cX6_settle 119 = .ok (.iconst 0, 1) := by decide +kernel
theorem dX6_settle_120 : decode cX6_settle 120 = .ok (.aload_n 2, 1) := by decide +kernel
theorem dX6_settle_121 : decode cX6_settle 121 = .ok (.getfield 315, 3) := by decide +kernel
theorem dX6_settle_124 : decode cX6_settle 124 = .ok (.invokevirtual 296, 3) := by decide +kernel
theorem dX6_settle_127 : decode cX6_settle 127 = .ok (.pop, 1) := by decide +kernel
theorem dX6_settle_128 : decode cX6_settle 128 = .ok (.iload_n 3, 1) := by decide +kernel
theorem dX6_settle_129 : decode cX6_settle 129 = .ok (.ireturn, 1) := by decide +kernel
set_option maxRecDepth 20000 in
theorem ggX6_truceOf_X6_truceAt : GoodIn wsX6_truceOf wsX6_truceAt := goodIn_ca (goodIn_r _ [6, 7, 8, 9, 10, 18, 19, 20, 21, 22, 23, 24, 25] (by decide +kernel) (by decide +kernel)) (goodIn_sub (fun _ h => List.mem_cons_of_mem _ (List.mem_append_right _ h)) (by decide +kernel))
set_option maxRecDepth 20000 in
theorem gX6_truceOf_X6_truceAt : GoodIn wsX6_truceOf (wsV RX6 277 RX6 yX6_truceAt wsX6_truceAt) := goodIn_app (goodIn_of _ (by decide +kernel)) ggX6_truceOf_X6_truceAt
set_option maxRecDepth 20000 in
theorem ggX6_truceOf_X6_requireCastle : GoodIn wsX6_truceOf wsX6_requireCastle := goodIn_ca (goodIn_r _ [13, 7, 8] (by decide +kernel) (by decide +kernel)) (goodIn_sub (fun _ h => List.mem_cons_of_mem _ (List.mem_append_right _ h)) (by decide +kernel))
set_option maxRecDepth 20000 in
theorem gX6_truceOf_X6_requireCastle : GoodIn wsX6_truceOf (va_wsS RX6 266 yX6_requireCastle wsX6_requireCastle) := goodIn_app (goodIn_of _ (by decide +kernel)) ggX6_truceOf_X6_requireCastle
theorem dX6_truceOf_0 : decode cX6_truceOf 0 = .ok (.aload_n 0, 1) := by decide +kernel
theorem dX6_truceOf_1 : decode cX6_truceOf 1 = .ok (.iload_n 1, 1) := by decide +kernel
theorem dX6_truceOf_2 : decode cX6_truceOf 2 = .ok (.invokevirtual 277, 3) := by decide +kernel
theorem dX6_truceOf_5 : decode cX6_truceOf 5 = .ok (.astore_n 3, 1) := by decide +kernel
theorem dX6_truceOf_6 : decode cX6_truceOf 6 = .ok (.iload_n 2, 1) := by decide +kernel
theorem dX6_truceOf_7 : decode cX6_truceOf 7 = .ok (.invokestatic 266, 3) := by decide +kernel
theorem dX6_truceOf_10 : decode cX6_truceOf 10 = .ok (.aload_n 3, 1) := by decide +kernel
theorem dX6_truceOf_11 : decode cX6_truceOf 11 = .ok (.getfield 287, 3) := by decide +kernel
theorem dX6_truceOf_14 : decode cX6_truceOf 14 = .ok (.iload_n 2, 1) := by decide +kernel
theorem dX6_truceOf_15 : decode cX6_truceOf 15 = .ok (.caload, 1) := by decide +kernel
theorem dX6_truceOf_16 : decode cX6_truceOf 16 = .ok (.ireturn, 1) := by decide +kernel
theorem dX6_time_0 : decode cX6_time 0 = .ok (.aload_n 0, 1) := by decide +kernel
theorem dX6_time_1 : decode cX6_time 1 = .ok (.getfield 75, 3) := by decide +kernel
theorem dX6_time_4 : decode cX6_time 4 = .ok (.ireturn, 1) := by decide +kernel
set_option maxRecDepth 20000 in
theorem ggX6_checksum_X0_addTo : GoodIn wsX6_checksum wsX0_addTo := goodIn_r _ [8, 9, 10, 11, 12, 13, 14, 15, 7, 16, 17, 18, 19, 20, 21, 22, 23, 24, 25, 26, 27, 28, 29, 30, 31, 32, 33, 34, 35, 36, 37, 38, 39, 40, 41, 42, 43, 44, 45, 46, 47, 48, 49, 50, 59, 60, 61, 62, 63, 64, 65, 66, 67, 68, 69, 70, 71, 72, 73, 74, 75, 76, 77] (by decide +kernel) (by decide +kernel)
set_option maxRecDepth 20000 in
theorem gX6_checksum_X0_addTo : GoodIn wsX6_checksum (wsV RX6 325 RX0 yX0_addTo wsX0_addTo) := goodIn_app (goodIn_of _ (by decide +kernel)) ggX6_checksum_X0_addTo
theorem dX6_checksum_0 : decode cX6_checksum 0 = .ok (.aload_n 0, 1) := by decide +kernel
theorem dX6_checksum_1 : decode cX6_checksum 1 = .ok (.getfield 16, 3) := by decide +kernel
theorem dX6_checksum_4 : decode cX6_checksum 4 = .ok (.aload_n 0, 1) := by decide +kernel
theorem dX6_checksum_5 : decode cX6_checksum 5 = .ok (.getfield 10, 3) := by decide +kernel
theorem dX6_checksum_8 : decode cX6_checksum 8 = .ok (.ldc2_w 323, 3) := by decide +kernel
theorem dX6_checksum_11 : decode cX6_checksum 11 = .ok (.invokevirtual 325, 3) := by decide +kernel
theorem dX6_checksum_14 : decode cX6_checksum 14 = .ok (.invokevirtual 325, 3) := by decide +kernel
theorem dX6_checksum_17 : decode cX6_checksum 17 = .ok (.lreturn, 1) := by decide +kernel
set_option maxRecDepth 20000 in
theorem ggX6_upShare_X6_castleAt : GoodIn wsX6_upShare wsX6_castleAt := goodIn_ca (goodIn_r _ [7, 8, 9, 10, 11, 6, 12, 13, 14, 31, 32, 33, 34, 35, 36, 37, 38] (by decide +kernel) (by decide +kernel)) (goodIn_sub (fun _ h => List.mem_cons_of_mem _ (List.mem_append_right _ h)) (by decide +kernel))
set_option maxRecDepth 20000 in
theorem gX6_upShare_X6_castleAt : GoodIn wsX6_upShare (wsV RX6 43 RX6 yX6_castleAt wsX6_castleAt) := goodIn_app (goodIn_of _ (by decide +kernel)) ggX6_upShare_X6_castleAt
set_option maxRecDepth 20000 in
theorem ggX6_upShare_J6_bitCount_0f7a4 : GoodIn wsX6_upShare wsJ6_bitCount_0f7a4 := goodIn_r _ [18, 19, 20, 21] (by decide +kernel) (by decide +kernel)
set_option maxRecDepth 20000 in
theorem gX6_upShare_J6_bitCount_0f7a4 : GoodIn wsX6_upShare (va_wsS RX6 156 yJ6_bitCount_0f7a4 wsJ6_bitCount_0f7a4) := goodIn_app (goodIn_of _ (by decide +kernel)) ggX6_upShare_J6_bitCount_0f7a4
theorem dX6_upShare_0 : decode cX6_upShare 0 = .ok (.aload_n 0, 1) := by decide +kernel
theorem dX6_upShare_1 : decode cX6_upShare 1 = .ok (.iload_n 1, 1) := by decide +kernel
theorem dX6_upShare_2 : decode cX6_upShare 2 = .ok (.invokevirtual 43, 3) := by decide +kernel
theorem dX6_upShare_5 : decode cX6_upShare 5 = .ok (.astore_n 2, 1) := by decide +kernel
theorem dX6_upShare_6 : decode cX6_upShare 6 = .ok (.aload_n 2, 1) := by decide +kernel
theorem dX6_upShare_7 : decode cX6_upShare 7 = .ok (.getfield 315, 3) := by decide +kernel
theorem dX6_upShare_10 : decode cX6_upShare 10 = .ok (.invokestatic 156, 3) := by decide +kernel
theorem dX6_upShare_13 : decode cX6_upShare 13 = .ok (.i2f, 1) := by decide +kernel
theorem dX6_upShare_14 : decode cX6_upShare 14 = .ok (.aload_n 2, 1) := by decide +kernel
theorem dX6_upShare_15 : decode cX6_upShare 15 = .ok (.getfield 329, 3) := by decide +kernel
theorem dX6_upShare_18 : decode cX6_upShare 18 = .ok (.i2f, 1) := by decide +kernel
theorem dX6_upShare_19 : decode cX6_upShare 19 = .ok (.fdiv, 1) := by decide +kernel
theorem dX6_upShare_20 : decode cX6_upShare 20 = .ok (.freturn, 1) := by decide +kernel
set_option maxRecDepth 20000 in
theorem ggX6_meanEntries_X6_castleAt : GoodIn wsX6_meanEntries wsX6_castleAt := goodIn_ca (goodIn_r _ [7, 8, 9, 10, 11, 6, 12, 13, 14, 38, 39, 40, 41, 42, 43, 44, 45] (by decide +kernel) (by decide +kernel)) (goodIn_sub (fun _ h => List.mem_cons_of_mem _ (List.mem_append_right _ h)) (by decide +kernel))
set_option maxRecDepth 20000 in
theorem gX6_meanEntries_X6_castleAt : GoodIn wsX6_meanEntries (wsV RX6 43 RX6 yX6_castleAt wsX6_castleAt) := goodIn_app (goodIn_of _ (by decide +kernel)) ggX6_meanEntries_X6_castleAt
set_option maxRecDepth 20000 in
theorem ggX6_meanEntries_X3_heldCount : GoodIn wsX6_meanEntries wsX3_heldCount := goodIn_r _ [19, 20, 21, 22, 23, 24, 25, 26, 27, 28, 46, 47, 48, 49, 50, 51, 52] (by decide +kernel) (by decide +kernel)
set_option maxRecDepth 20000 in
theorem gX6_meanEntries_X3_heldCount : GoodIn wsX6_meanEntries (wsV RX6 332 RX3 yX3_heldCount wsX3_heldCount) := goodIn_app (goodIn_of _ (by decide +kernel)) ggX6_meanEntries_X3_heldCount
theorem dX6_meanEntries_0 : decode cX6_meanEntries 0 = .ok (.aload_n 0, 1) := by decide +kernel
theorem dX6_meanEntries_1 : decode cX6_meanEntries 1 = .ok (.iload_n 1, 1) := by decide +kernel
theorem dX6_meanEntries_2 : decode cX6_meanEntries 2 = .ok (.invokevirtual 43, 3) := by decide +kernel
theorem dX6_meanEntries_5 : decode cX6_meanEntries 5 = .ok (.astore_n 2, 1) := by decide +kernel
theorem dX6_meanEntries_6 : decode cX6_meanEntries 6 = .ok (.aload_n 2, 1) := by decide +kernel
theorem dX6_meanEntries_7 : decode cX6_meanEntries 7 = .ok (.getfield 63, 3) := by decide +kernel
theorem dX6_meanEntries_10 : decode cX6_meanEntries 10 = .ok (.invokevirtual 332, 3) := by decide +kernel
theorem dX6_meanEntries_13 : decode cX6_meanEntries 13 = .ok (.i2d, 1) := by decide +kernel
theorem dX6_meanEntries_14 : decode cX6_meanEntries 14 = .ok (.aload_n 2, 1) := by decide +kernel
theorem dX6_meanEntries_15 : decode cX6_meanEntries 15 = .ok (.getfield 329, 3) := by decide +kernel
theorem dX6_meanEntries_18 : decode cX6_meanEntries 18 = .ok (.i2d, 1) := by decide +kernel
theorem dX6_meanEntries_19 : decode cX6_meanEntries 19 = .ok (.ddiv, 1) := by decide +kernel
theorem dX6_meanEntries_20 : decode cX6_meanEntries 20 = .ok (.dreturn, 1) := by decide +kernel
set_option maxRecDepth 20000 in
theorem ggX6_isSound_X0_isSoundAt : GoodIn wsX6_isSound wsX0_isSoundAt := goodIn_r _ [8, 9, 10, 11, 12, 13, 14, 15, 16, 17, 18, 19, 20, 21, 22, 23, 24, 25, 7, 26, 27, 28, 29, 30, 31, 32, 33, 34, 35, 36, 37, 38, 39, 40, 41, 42, 43, 44, 45, 46, 47, 48, 49, 50, 51, 52, 53, 54, 55, 56, 57, 58, 59, 60, 61, 62, 63, 64, 65, 66, 67, 68, 69, 70, 71, 72, 73, 82, 83, 84, 85, 86, 87, 88, 89, 90, 91, 92, 93, 94, 95, 96, 97, 98, 99, 100, 101, 102, 103] (by decide +kernel) (by decide +kernel)
set_option maxRecDepth 20000 in
theorem gX6_isSound_X0_isSoundAt : GoodIn wsX6_isSound (wsV RX6 335 RX0 yX0_isSoundAt wsX0_isSoundAt) := goodIn_app (goodIn_of _ (by decide +kernel)) ggX6_isSound_X0_isSoundAt
theorem dX6_isSound_0 : decode cX6_isSound 0 = .ok (.aload_n 0, 1) := by decide +kernel
theorem dX6_isSound_1 : decode cX6_isSound 1 = .ok (.getfield 10, 3) := by decide +kernel
theorem dX6_isSound_4 : decode cX6_isSound 4 = .ok (.aload_n 0, 1) := by decide +kernel
theorem dX6_isSound_5 : decode cX6_isSound 5 = .ok (.getfield 75, 3) := by decide +kernel
theorem dX6_isSound_8 : decode cX6_isSound 8 = .ok (.invokevirtual 335, 3) := by decide +kernel
theorem dX6_isSound_11 : decode cX6_isSound 11 = .ok (.ifCond .eq 21, 3) := by decide +kernel
theorem dX6_isSound_14 : decode cX6_isSound 14 = .ok (.aload_n 0, 1) := by decide +kernel
theorem dX6_isSound_15 : decode cX6_isSound 15 = .ok (.getfield 16, 3) := by decide +kernel
theorem dX6_isSound_18 : decode cX6_isSound 18 = .ok (.aload_n 0, 1) := by decide +kernel
theorem dX6_isSound_19 : decode cX6_isSound 19 = .ok (.getfield 75, 3) := by decide +kernel
theorem dX6_isSound_22 : decode cX6_isSound 22 = .ok (.invokevirtual 335, 3) := by decide +kernel
theorem dX6_isSound_25 : decode cX6_isSound 25 = .ok (.ifCond .eq 7, 3) := by decide +kernel
theorem dX6_isSound_28 : decode cX6_isSound 28 = .ok (.iconst 1, 1) := by decide +kernel
theorem dX6_isSound_29 : decode cX6_isSound 29 = .ok (.goto 4, 3) := by decide +kernel
theorem dX6_isSound_32 : decode cX6_isSound 32 = .ok (.iconst 0, 1) := by decide +kernel
theorem dX6_isSound_33 : decode cX6_isSound 33 = .ok (.ireturn, 1) := by decide +kernel
theorem dX6_requireCastle_0 : decode cX6_requireCastle 0 = .ok (.iload_n 0, 1) := by decide +kernel
theorem dX6_requireCastle_1 : decode cX6_requireCastle 1 = .ok (.ifCond .lt 8, 3) := by decide +kernel
theorem dX6_requireCastle_4 : decode cX6_requireCastle 4 = .ok (.iload_n 0, 1) := by decide +kernel
theorem dX6_requireCastle_5 : decode cX6_requireCastle 5 = .ok (.iconst 2, 1) := by decide +kernel
theorem dX6_requireCastle_6 : decode cX6_requireCastle 6 = .ok (.if_icmp .lt 14, 3) := by decide +kernel
theorem dX6_requireCastle_9 : decode cX6_requireCastle 9 = .ok (.new 338, 3) := by decide +kernel
theorem dX6_requireCastle_12 : decode cX6_requireCastle 12 = .ok (.dup, 1) := by decide +kernel
theorem dX6_requireCastle_13 : decode cX6_requireCastle 13 = .ok (.ldc_w 340, 3) := by decide +kernel
theorem dX6_requireCastle_16 : decode cX6_requireCastle 16 = .ok (.invokespecial 342, 3) := by decide +kernel
theorem dX6_requireCastle_19 : decode cX6_requireCastle 19 = .ok (.athrow, 1) := by decide +kernel
theorem dX6_requireCastle_20 : decode cX6_requireCastle 20 = .ok (.return_, 1) := by decide +kernel
theorem dX6_requireTower_0 : decode cX6_requireTower 0 = .ok (.iload_n 1, 1) := by decide +kernel
theorem dX6_requireTower_1 : decode cX6_requireTower 1 = .ok (.ifCond .lt 11, 3) := by decide +kernel
theorem dX6_requireTower_4 : decode cX6_requireTower 4 = .ok (.iload_n 1, 1) := by decide +kernel
theorem dX6_requireTower_5 : decode cX6_requireTower 5 = .ok (.aload_n 0, 1) := by decide +kernel
theorem dX6_requireTower_6 : decode cX6_requireTower 6 = .ok (.getfield 329, 3) := by decide +kernel
theorem dX6_requireTower_9 : decode cX6_requireTower 9 = .ok (.if_icmp .lt 14, 3) := by decide +kernel
theorem dX6_requireTower_12 : decode cX6_requireTower 12 = .ok (.new 338, 3) := by decide +kernel
theorem dX6_requireTower_15 : decode cX6_requireTower 15 = .ok (.dup, 1) := by decide +kernel
theorem dX6_requireTower_16 : decode cX6_requireTower 16 = .ok (.ldc_w 343, 3) := by decide +kernel
theorem dX6_requireTower_19 : decode cX6_requireTower 19 = .ok (.invokespecial 342, 3) := by decide +kernel
theorem dX6_requireTower_22 : decode cX6_requireTower 22 = .ok (.athrow, 1) := by decide +kernel
theorem dX6_requireTower_23 : decode cX6_requireTower 23 = .ok (.return_, 1) := by decide +kernel
theorem dX6_requireGate_0 : decode cX6_requireGate 0 = .ok (.iload_n 0, 1) := by decide +kernel
theorem dX6_requireGate_1 : decode cX6_requireGate 1 = .ok (.ifCond .lt 8, 3) := by decide +kernel
theorem dX6_requireGate_4 : decode cX6_requireGate 4 = .ok (.iload_n 0, 1) := by decide +kernel
theorem dX6_requireGate_5 : decode cX6_requireGate 5 = .ok (.iconst 3, 1) := by decide +kernel
theorem dX6_requireGate_6 : decode cX6_requireGate 6 = .ok (.if_icmp .lt 14, 3) := by decide +kernel
theorem dX6_requireGate_9 : decode cX6_requireGate 9 = .ok (.new 338, 3) := by decide +kernel
theorem dX6_requireGate_12 : decode cX6_requireGate 12 = .ok (.dup, 1) := by decide +kernel
theorem dX6_requireGate_13 : decode cX6_requireGate 13 = .ok (.ldc_w 345, 3) := by decide +kernel
theorem dX6_requireGate_16 : decode cX6_requireGate 16 = .ok (.invokespecial 342, 3) := by decide +kernel
theorem dX6_requireGate_19 : decode cX6_requireGate 19 = .ok (.athrow, 1) := by decide +kernel
theorem dX6_requireGate_20 : decode cX6_requireGate 20 = .ok (.return_, 1) := by decide +kernel
theorem dX6_requireLord_0 : decode cX6_requireLord 0 = .ok (.iload_n 0, 1) := by decide +kernel
theorem dX6_requireLord_1 : decode cX6_requireLord 1 = .ok (.ifCond .lt 8, 3) := by decide +kernel
theorem dX6_requireLord_4 : decode cX6_requireLord 4 = .ok (.iload_n 0, 1) := by decide +kernel
theorem dX6_requireLord_5 : decode cX6_requireLord 5 = .ok (.iconst 4, 1) := by decide +kernel
theorem dX6_requireLord_6 : decode cX6_requireLord 6 = .ok (.if_icmp .lt 14, 3) := by decide +kernel
theorem dX6_requireLord_9 : decode cX6_requireLord 9 = .ok (.new 338, 3) := by decide +kernel
theorem dX6_requireLord_12 : decode cX6_requireLord 12 = .ok (.dup, 1) := by decide +kernel
theorem dX6_requireLord_13 : decode cX6_requireLord 13 = .ok (.ldc_w 347, 3) := by decide +kernel
theorem dX6_requireLord_16 : decode cX6_requireLord 16 = .ok (.invokespecial 342, 3) := by decide +kernel
theorem dX6_requireLord_19 : decode cX6_requireLord 19 = .ok (.athrow, 1) := by decide +kernel
theorem dX6_requireLord_20 : decode cX6_requireLord 20 = .ok (.return_, 1) := by decide +kernel
theorem dX6_requireAmount_0 : decode cX6_requireAmount 0 = .ok (.iload_n 0, 1) := by decide +kernel
theorem dX6_requireAmount_1 : decode cX6_requireAmount 1 = .ok (.iconst 1, 1) := by decide +kernel
theorem dX6_requireAmount_2 : decode cX6_requireAmount 2 = .ok (.if_icmp .lt 10, 3) := by decide +kernel
theorem dX6_requireAmount_5 : decode cX6_requireAmount 5 = .ok (.iload_n 0, 1) := by decide +kernel
theorem dX6_requireAmount_6 : decode cX6_requireAmount 6 = .ok (.sipush 999, 3) := by decide +kernel
theorem dX6_requireAmount_9 : decode cX6_requireAmount 9 = .ok (.if_icmp .le 14, 3) := by decide +kernel
theorem dX6_requireAmount_12 : decode cX6_requireAmount 12 = .ok (.new 47, 3) := by decide +kernel
theorem dX6_requireAmount_15 : decode cX6_requireAmount 15 = .ok (.dup, 1) := by decide +kernel
theorem dX6_requireAmount_16 : decode cX6_requireAmount 16 = .ok (.ldc_w 349, 3) := by decide +kernel
theorem dX6_requireAmount_19 : decode cX6_requireAmount 19 = .ok (.invokespecial 51, 3) := by decide +kernel
theorem dX6_requireAmount_22 : decode cX6_requireAmount 22 = .ok (.athrow, 1) := by decide +kernel
theorem dX6_requireAmount_23 : decode cX6_requireAmount 23 = .ok (.return_, 1) := by decide +kernel
theorem dX6_requireRoom_0 : decode cX6_requireRoom 0 = .ok (.aload_n 0, 1) := by decide +kernel
theorem dX6_requireRoom_1 : decode cX6_requireRoom 1 = .ok (.getfield 63, 3) := by decide +kernel
theorem dX6_requireRoom_4 : decode cX6_requireRoom 4 = .ok (.getfield 67, 3) := by decide +kernel
theorem dX6_requireRoom_7 : decode cX6_requireRoom 7 = .ok (.bipush 60, 2) := by decide +kernel
theorem dX6_requireRoom_9 : decode cX6_requireRoom 9 = .ok (.if_icmp .lt 14, 3) := by decide +kernel
theorem dX6_requireRoom_12 : decode cX6_requireRoom 12 = .ok (.new 232, 3) := by decide +kernel
theorem dX6_requireRoom_15 : decode cX6_requireRoom 15 = .ok (.dup, 1) := by decide +kernel
theorem dX6_requireRoom_16 : decode cX6_requireRoom 16 = .ok (.ldc_w 351, 3) := by decide +kernel
theorem dX6_requireRoom_19 : decode cX6_requireRoom 19 = .ok (.invokespecial 236, 3) := by decide +kernel
theorem dX6_requireRoom_22 : decode cX6_requireRoom 22 = .ok (.athrow, 1) := by decide +kernel
theorem dX6_requireRoom_23 : decode cX6_requireRoom 23 = .ok (.return_, 1) := by decide +kernel
set_option maxRecDepth 20000 in
theorem ggX6_castleAt_X6_requireCastle : GoodIn wsX6_castleAt wsX6_requireCastle := goodIn_ca (goodIn_r _ [6, 7, 8] (by decide +kernel) (by decide +kernel)) (goodIn_sub (fun _ h => List.mem_cons_of_mem _ (List.mem_append_right _ h)) (by decide +kernel))
set_option maxRecDepth 20000 in
theorem gX6_castleAt_X6_requireCastle : GoodIn wsX6_castleAt (va_wsS RX6 266 yX6_requireCastle wsX6_requireCastle) := goodIn_app (goodIn_of _ (by decide +kernel)) ggX6_castleAt_X6_requireCastle
theorem dX6_castleAt_0 : decode cX6_castleAt 0 = .ok (.iload_n 1, 1) := by decide +kernel
theorem dX6_castleAt_1 : decode cX6_castleAt 1 = .ok (.invokestatic 266, 3) := by decide +kernel
theorem dX6_castleAt_4 : decode cX6_castleAt 4 = .ok (.iload_n 1, 1) := by decide +kernel
theorem dX6_castleAt_5 : decode cX6_castleAt 5 = .ok (.ifCond .ne 10, 3) := by decide +kernel
theorem dX6_castleAt_8 : decode cX6_castleAt 8 = .ok (.aload_n 0, 1) := by decide +kernel
theorem dX6_castleAt_9 : decode cX6_castleAt 9 = .ok (.getfield 10, 3) := by decide +kernel
theorem dX6_castleAt_12 : decode cX6_castleAt 12 = .ok (.goto 7, 3) := by decide +kernel
theorem dX6_castleAt_15 : decode cX6_castleAt 15 = .ok (.aload_n 0, 1) := by decide +kernel
theorem dX6_castleAt_16 : decode cX6_castleAt 16 = .ok (.getfield 16, 3) := by decide +kernel
theorem dX6_castleAt_19 : decode cX6_castleAt 19 = .ok (.areturn, 1) := by decide +kernel
set_option maxRecDepth 20000 in
theorem ggX6_gateWithVote_X6_castleAt : GoodIn wsX6_gateWithVote wsX6_castleAt := goodIn_ca (goodIn_r _ [9, 10, 11, 12, 13, 8, 14, 15, 16, 39, 40, 41, 42, 43, 44, 45, 46] (by decide +kernel) (by decide +kernel)) (goodIn_sub (fun _ h => List.mem_cons_of_mem _ (List.mem_append_right _ h)) (by decide +kernel))
set_option maxRecDepth 20000 in
theorem gX6_gateWithVote_X6_castleAt : GoodIn wsX6_gateWithVote (wsV RX6 43 RX6 yX6_castleAt wsX6_castleAt) := goodIn_app (goodIn_of _ (by decide +kernel)) ggX6_gateWithVote_X6_castleAt
set_option maxRecDepth 20000 in
theorem ggX6_gateWithVote_X6_requireTower : GoodIn wsX6_gateWithVote wsX6_requireTower := goodIn_ca (goodIn_r _ [19, 15, 16, 20, 30, 31, 32, 33, 34, 35, 36, 37, 38] (by decide +kernel) (by decide +kernel)) (goodIn_sub (fun _ h => List.mem_cons_of_mem _ (List.mem_append_right _ h)) (by decide +kernel))
set_option maxRecDepth 20000 in
theorem gX6_gateWithVote_X6_requireTower : GoodIn wsX6_gateWithVote (va_wsS RX6 78 yX6_requireTower wsX6_requireTower) := goodIn_app (goodIn_of _ (by decide +kernel)) ggX6_gateWithVote_X6_requireTower
set_option maxRecDepth 20000 in
theorem ggX6_gateWithVote_X6_requireGate : GoodIn wsX6_gateWithVote wsX6_requireGate := goodIn_ca (goodIn_r _ [23, 15, 16] (by decide +kernel) (by decide +kernel)) (goodIn_sub (fun _ h => List.mem_cons_of_mem _ (List.mem_append_right _ h)) (by decide +kernel))
set_option maxRecDepth 20000 in
theorem gX6_gateWithVote_X6_requireGate : GoodIn wsX6_gateWithVote (va_wsS RX6 103 yX6_requireGate wsX6_requireGate) := goodIn_app (goodIn_of _ (by decide +kernel)) ggX6_gateWithVote_X6_requireGate
set_option maxRecDepth 20000 in
theorem ggX6_gateWithVote_X1_isVoteHeld : GoodIn wsX6_gateWithVote wsX1_isVoteHeld := goodIn_r _ [28, 29, 47, 48, 49] (by decide +kernel) (by decide +kernel)
set_option maxRecDepth 20000 in
theorem gX6_gateWithVote_X1_isVoteHeld : GoodIn wsX6_gateWithVote (wsV RX6 353 RX1 yX1_isVoteHeld wsX1_isVoteHeld) := goodIn_app (goodIn_of _ (by decide +kernel)) ggX6_gateWithVote_X1_isVoteHeld
theorem dX6_gateWithVote_0 : decode cX6_gateWithVote 0 = .ok (.aload_n 0, 1) := by decide +kernel
theorem dX6_gateWithVote_1 : decode cX6_gateWithVote 1 = .ok (.iload_n 1, 1) := by decide +kernel
theorem dX6_gateWithVote_2 : decode cX6_gateWithVote 2 = .ok (.invokevirtual 43, 3) := by decide +kernel
theorem dX6_gateWithVote_5 : decode cX6_gateWithVote 5 = .ok (.astore 4, 2) := by decide +kernel
theorem dX6_gateWithVote_7 : decode cX6_gateWithVote 7 = .ok (.aload 4, 2) := by decide +kernel
theorem dX6_gateWithVote_9 : decode cX6_gateWithVote 9 = .ok (.iload_n 2, 1) := by decide +kernel
theorem dX6_gateWithVote_10 : decode cX6_gateWithVote 10 = .ok (.invokestatic 78, 3) := by decide +kernel
theorem dX6_gateWithVote_13 : decode cX6_gateWithVote 13 = .ok (.iload_n 3, 1) := by decide +kernel
theorem dX6_gateWithVote_14 : decode cX6_gateWithVote 14 = .ok (.invokestatic 103, 3) := by decide +kernel
theorem dX6_gateWithVote_17 : decode cX6_gateWithVote 17 = .ok (.aload 4, 2) := by decide +kernel
theorem dX6_gateWithVote_19 : decode cX6_gateWithVote 19 = .ok (.getfield 117, 3) := by decide +kernel
theorem dX6_gateWithVote_22 : decode cX6_gateWithVote 22 = .ok (.iload_n 3, 1) := by decide +kernel
theorem dX6_gateWithVote_23 : decode cX6_gateWithVote 23 = .ok (.aaload, 1) := by decide +kernel
theorem dX6_gateWithVote_24 : decode cX6_gateWithVote 24 = .ok (.astore 5, 2) := by decide +kernel
theorem dX6_gateWithVote_26 : decode cX6_gateWithVote 26 = .ok (.aload 5, 2) := by decide +kernel
theorem dX6_gateWithVote_28 : decode cX6_gateWithVote 28 = .ok (.iload_n 2, 1) := by decide +kernel
theorem dX6_gateWithVote_29 : decode cX6_gateWithVote 29 = .ok (.aload_n 0, 1) := by decide +kernel
theorem dX6_gateWithVote_30 : decode cX6_gateWithVote 30 = .ok (.getfield 75, 3) := by decide +kernel
theorem dX6_gateWithVote_33 : decode cX6_gateWithVote 33 = .ok (.invokevirtual 353, 3) := by decide +kernel
theorem dX6_gateWithVote_36 : decode cX6_gateWithVote 36 = .ok (.ifCond .ne 14, 3) := by decide +kernel
theorem dX6_gateWithVote_39 : decode cX6_gateWithVote 39 = .ok (.new 141, 3) := by decide +kernel
theorem dX6_gateWithVote_42 : decode cX6_gateWithVote 42 = .ok (.dup, 1) := by decide +kernel
theorem dX6_gateWithVote_43 : decode cX6_gateWithVote 43 = .ok (.ldc_w 356, 3) := by decide +kernel
theorem dX6_gateWithVote_46 : decode cX6_gateWithVote 46 = .ok (.invokespecial 145, 3) := by decide +kernel
theorem dX6_gateWithVote_49 : decode cX6_gateWithVote 49 = .ok (.athrow, 1) := by decide +kernel
theorem dX6_gateWithVote_50 : decode cX6_gateWithVote 50 = .ok (.aload 5, 2) := by decide +kernel
theorem dX6_gateWithVote_52 : decode cX6_gateWithVote 52 = .ok (.areturn, 1) := by decide +kernel
set_option maxRecDepth 20000 in
theorem ggX6_rowWithEntry_X6_castleAt : GoodIn wsX6_rowWithEntry wsX6_castleAt := goodIn_ca (goodIn_r _ [9, 10, 11, 12, 13, 8, 14, 1, 2, 31, 32, 33, 34, 35, 36, 37, 38] (by decide +kernel) (by decide +kernel)) (goodIn_sub (fun _ h => List.mem_cons_of_mem _ (List.mem_append_right _ h)) (by decide +kernel))
set_option maxRecDepth 20000 in
theorem gX6_rowWithEntry_X6_castleAt : GoodIn wsX6_rowWithEntry (wsV RX6 43 RX6 yX6_castleAt wsX6_castleAt) := goodIn_app (goodIn_of _ (by decide +kernel)) ggX6_rowWithEntry_X6_castleAt
theorem dX6_rowWithEntry_0 : decode cX6_rowWithEntry 0 = .ok (.aload_n 0, 1) := by decide +kernel
theorem dX6_rowWithEntry_1 : decode cX6_rowWithEntry 1 = .ok (.iload_n 1, 1) := by decide +kernel
theorem dX6_rowWithEntry_2 : decode cX6_rowWithEntry 2 = .ok (.invokevirtual 43, 3) := by decide +kernel
theorem dX6_rowWithEntry_5 : decode cX6_rowWithEntry 5 = .ok (.getfield 63, 3) := by decide +kernel
theorem dX6_rowWithEntry_8 : decode cX6_rowWithEntry 8 = .ok (.astore_n 3, 1) := by decide +kernel
theorem dX6_rowWithEntry_9 : decode cX6_rowWithEntry 9 = .ok (.iload_n 2, 1) := by decide +kernel
theorem dX6_rowWithEntry_10 : decode cX6_rowWithEntry 10 = .ok (.ifCond .lt 11, 3) := by decide +kernel
theorem dX6_rowWithEntry_13 : decode cX6_rowWithEntry 13 = .ok (.iload_n 2, 1) := by decide +kernel
theorem dX6_rowWithEntry_14 : decode cX6_rowWithEntry 14 = .ok (.aload_n 3, 1) := by decide +kernel
theorem dX6_rowWithEntry_15 : decode cX6_rowWithEntry 15 = .ok (.getfield 67, 3) := by decide +kernel
theorem dX6_rowWithEntry_18 : decode cX6_rowWithEntry 18 = .ok (.if_icmp .lt 14, 3) := by decide +kernel
theorem dX6_rowWithEntry_21 : decode cX6_rowWithEntry 21 = .ok (.new 338, 3) := by decide +kernel
theorem dX6_rowWithEntry_24 : decode cX6_rowWithEntry 24 = .ok (.dup, 1) := by decide +kernel
theorem dX6_rowWithEntry_25 : decode cX6_rowWithEntry 25 = .ok (.ldc_w 358, 3) := by decide +kernel
theorem dX6_rowWithEntry_28 : decode cX6_rowWithEntry 28 = .ok (.invokespecial 342, 3) := by decide +kernel
theorem dX6_rowWithEntry_31 : decode cX6_rowWithEntry 31 = .ok (.athrow, 1) := by decide +kernel
theorem dX6_rowWithEntry_32 : decode cX6_rowWithEntry 32 = .ok (.aload_n 3, 1) := by decide +kernel
theorem dX6_rowWithEntry_33 : decode cX6_rowWithEntry 33 = .ok (.areturn, 1) := by decide +kernel
theorem dX6_sightAt_0 : decode cX6_sightAt 0 = .ok (.iload_n 1, 1) := by decide +kernel
theorem dX6_sightAt_1 : decode cX6_sightAt 1 = .ok (.ifCond .lt 11, 3) := by decide +kernel
theorem dX6_sightAt_4 : decode cX6_sightAt 4 = .ok (.iload_n 1, 1) := by decide +kernel
theorem dX6_sightAt_5 : decode cX6_sightAt 5 = .ok (.aload_n 0, 1) := by decide +kernel
theorem dX6_sightAt_6 : decode cX6_sightAt 6 = .ok (.getfield 229, 3) := by decide +kernel
theorem dX6_sightAt_9 : decode cX6_sightAt 9 = .ok (.if_icmp .lt 14, 3) := by decide +kernel
theorem dX6_sightAt_12 : decode cX6_sightAt 12 = .ok (.new 338, 3) := by decide +kernel
theorem dX6_sightAt_15 : decode cX6_sightAt 15 = .ok (.dup, 1) := by decide +kernel
theorem dX6_sightAt_16 : decode cX6_sightAt 16 = .ok (.ldc_w 360, 3) := by decide +kernel
theorem dX6_sightAt_19 : decode cX6_sightAt 19 = .ok (.invokespecial 342, 3) := by decide +kernel
theorem dX6_sightAt_22 : decode cX6_sightAt 22 = .ok (.athrow, 1) := by decide +kernel
theorem dX6_sightAt_23 : decode cX6_sightAt 23 = .ok (.aload_n 0, 1) := by decide +kernel
theorem dX6_sightAt_24 : decode cX6_sightAt 24 = .ok (.getfield 25, 3) := by decide +kernel
theorem dX6_sightAt_27 : decode cX6_sightAt 27 = .ok (.iload_n 1, 1) := by decide +kernel
theorem dX6_sightAt_28 : decode cX6_sightAt 28 = .ok (.aaload, 1) := by decide +kernel
theorem dX6_sightAt_29 : decode cX6_sightAt 29 = .ok (.areturn, 1) := by decide +kernel
theorem dX6_truceAt_0 : decode cX6_truceAt 0 = .ok (.iload_n 1, 1) := by decide +kernel
theorem dX6_truceAt_1 : decode cX6_truceAt 1 = .ok (.ifCond .lt 11, 3) := by decide +kernel
theorem dX6_truceAt_4 : decode cX6_truceAt 4 = .ok (.iload_n 1, 1) := by decide +kernel
theorem dX6_truceAt_5 : decode cX6_truceAt 5 = .ok (.aload_n 0, 1) := by decide +kernel
theorem dX6_truceAt_6 : decode cX6_truceAt 6 = .ok (.getfield 269, 3) := by decide +kernel
theorem dX6_truceAt_9 : decode cX6_truceAt 9 = .ok (.if_icmp .lt 14, 3) := by decide +kernel
theorem dX6_truceAt_12 : decode cX6_truceAt 12 = .ok (.new 338, 3) := by decide +kernel
theorem dX6_truceAt_15 : decode cX6_truceAt 15 = .ok (.dup, 1) := by decide +kernel
theorem dX6_truceAt_16 : decode cX6_truceAt 16 = .ok (.ldc_w 362, 3) := by decide +kernel
theorem dX6_truceAt_19 : decode cX6_truceAt 19 = .ok (.invokespecial 342, 3) := by decide +kernel
theorem dX6_truceAt_22 : decode cX6_truceAt 22 = .ok (.athrow, 1) := by decide +kernel
theorem dX6_truceAt_23 : decode cX6_truceAt 23 = .ok (.aload_n 0, 1) := by decide +kernel
theorem dX6_truceAt_24 : decode cX6_truceAt 24 = .ok (.getfield 34, 3) := by decide +kernel
theorem dX6_truceAt_27 : decode cX6_truceAt 27 = .ok (.iload_n 1, 1) := by decide +kernel
theorem dX6_truceAt_28 : decode cX6_truceAt 28 = .ok (.aaload, 1) := by decide +kernel
theorem dX6_truceAt_29 : decode cX6_truceAt 29 = .ok (.areturn, 1) := by decide +kernel
theorem dX6_openTruceAt_0 : decode cX6_openTruceAt 0 = .ok (.iconst 0, 1) := by decide +kernel
theorem dX6_openTruceAt_1 : decode cX6_openTruceAt 1 = .ok (.istore_n 2, 1) := by decide +kernel
theorem dX6_openTruceAt_2 : decode cX6_openTruceAt 2 = .ok (.iload_n 2, 1) := by decide +kernel
theorem dX6_openTruceAt_3 : decode cX6_openTruceAt 3 = .ok (.aload_n 0, 1) := by decide +kernel
theorem dX6_openTruceAt_4 : decode cX6_openTruceAt 4 = .ok (.getfield 269, 3) := by decide +kernel
theorem dX6_openTruceAt_7 : decode cX6_openTruceAt 7 = .ok (.if_icmp .ge 27, 3) := by decide +kernel
theorem dX6_openTruceAt_10 : decode cX6_openTruceAt 10 = .ok (.aload_n 0, 1) := by decide +kernel
theorem dX6_openTruceAt_11 : decode cX6_openTruceAt 11 = .ok (.getfield 34, 3) := by decide +kernel
theorem dX6_openTruceAt_14 : decode cX6_openTruceAt 14 = .ok (.iload_n 2, 1) := by decide +kernel
theorem dX6_openTruceAt_15 : decode cX6_openTruceAt 15 = .ok (.aaload, 1) := by decide +kernel
theorem dX6_openTruceAt_16 : decode cX6_openTruceAt 16 = .ok (.getfield 287, 3) := by decide +kernel
theorem dX6_openTruceAt_19 : decode cX6_openTruceAt 19 = .ok (.iload_n 1, 1) := by decide +kernel
theorem dX6_openTruceAt_20 : decode cX6_openTruceAt 20 = .ok (.caload, 1) := by decide +kernel
theorem dX6_openTruceAt_21 : decode cX6_openTruceAt 21 = .ok (.bipush 112, 2) := by decide +kernel
theorem dX6_openTruceAt_23 : decode cX6_openTruceAt 23 = .ok (.if_icmp .ne 5, 3) := by decide +kernel
theorem dX6_openTruceAt_26 : decode cX6_openTruceAt 26 = .ok (.iload_n 2, 1) := by decide +kernel
theorem dX6_openTruceAt_27 : decode cX6_openTruceAt 27 = .ok (.ireturn, 1) := by decide +kernel
theorem dX6_openTruceAt_28 : decode cX6_openTruceAt 28 = .ok (.iinc 2 1, 3) := by decide +kernel
theorem dX6_openTruceAt_31 : decode cX6_openTruceAt 31 = .ok (.goto (-29), 3) := by decide +kernel
theorem dX6_openTruceAt_34 : decode cX6_openTruceAt 34 = .ok (.iconst (-1), 1) := by decide +kernel
theorem dX6_openTruceAt_35 : decode cX6_openTruceAt 35 = .ok (.ireturn, 1) := by decide +kernel
set_option maxRecDepth 20000 in
theorem ggX6_canPrepare_X6_castleAt : GoodIn wsX6_canPrepare wsX6_castleAt := goodIn_ca (goodIn_r _ [8, 9, 10, 11, 12, 7, 13, 14, 15, 106, 107, 108, 109, 110, 111, 112, 113] (by decide +kernel) (by decide +kernel)) (goodIn_sub (fun _ h => List.mem_cons_of_mem _ (List.mem_append_right _ h)) (by decide +kernel))
set_option maxRecDepth 20000 in
theorem gX6_canPrepare_X6_castleAt : GoodIn wsX6_canPrepare (wsV RX6 43 RX6 yX6_castleAt wsX6_castleAt) := goodIn_app (goodIn_of _ (by decide +kernel)) ggX6_canPrepare_X6_castleAt
set_option maxRecDepth 20000 in
theorem ggX6_canPrepare_X5_isDecided : GoodIn wsX6_canPrepare wsX5_isDecided := goodIn_r _ [20, 21, 102, 103, 104, 105] (by decide +kernel) (by decide +kernel)
set_option maxRecDepth 20000 in
theorem gX6_canPrepare_X5_isDecided : GoodIn wsX6_canPrepare (wsV RX6 303 RX5 yX5_isDecided wsX5_isDecided) := goodIn_app (goodIn_of _ (by decide +kernel)) ggX6_canPrepare_X5_isDecided
set_option maxRecDepth 20000 in
theorem ggX6_canPrepare_X6_openTruceAt : GoodIn wsX6_canPrepare wsX6_openTruceAt := goodIn_r _ [25, 26, 27, 28, 106, 107, 108, 109, 110, 111, 112, 113, 102, 103, 104, 105] (by decide +kernel) (by decide +kernel)
set_option maxRecDepth 20000 in
theorem gX6_canPrepare_X6_openTruceAt : GoodIn wsX6_canPrepare (wsV RX6 54 RX6 yX6_openTruceAt wsX6_openTruceAt) := goodIn_app (goodIn_of _ (by decide +kernel)) ggX6_canPrepare_X6_openTruceAt
set_option maxRecDepth 20000 in
theorem ggX6_canPrepare_X0_towersNear : GoodIn wsX6_canPrepare wsX0_towersNear := goodIn_r _ [33, 34, 35, 93, 94, 95, 96, 97, 98, 99, 100, 101] (by decide +kernel) (by decide +kernel)
set_option maxRecDepth 20000 in
theorem gX6_canPrepare_X0_towersNear : GoodIn wsX6_canPrepare (wsV RX6 132 RX0 yX0_towersNear wsX0_towersNear) := goodIn_app (goodIn_of _ (by decide +kernel)) ggX6_canPrepare_X0_towersNear
set_option maxRecDepth 20000 in
theorem ggX6_canPrepare_X0_isQuorum : GoodIn wsX6_canPrepare wsX0_isQuorum := goodIn_r _ [39, 40, 41, 42, 43, 44, 45, 46, 47, 93, 94, 95, 96, 97, 98, 99, 100, 101] (by decide +kernel) (by decide +kernel)
set_option maxRecDepth 20000 in
theorem gX6_canPrepare_X0_isQuorum : GoodIn wsX6_canPrepare (wsV RX6 112 RX0 yX0_isQuorum wsX0_isQuorum) := goodIn_app (goodIn_of _ (by decide +kernel)) ggX6_canPrepare_X0_isQuorum
set_option maxRecDepth 20000 in
theorem ggX6_canPrepare_X3_isHanging : GoodIn wsX6_canPrepare wsX3_isHanging := goodIn_r _ [52, 53, 54, 55, 56, 51, 57, 58, 59, 114, 115, 116, 117, 118, 119, 120] (by decide +kernel) (by decide +kernel)
set_option maxRecDepth 20000 in
theorem gX6_canPrepare_X3_isHanging : GoodIn wsX6_canPrepare (wsV RX6 318 RX3 yX3_isHanging wsX3_isHanging) := goodIn_app (goodIn_of _ (by decide +kernel)) ggX6_canPrepare_X3_isHanging
set_option maxRecDepth 20000 in
theorem ggX6_canPrepare_X0_tellLedger : GoodIn wsX6_canPrepare wsX0_tellLedger := goodIn_r _ [63, 64, 65, 66, 67, 68, 69, 70, 71, 72, 73, 74, 75, 76, 77, 78, 79, 55, 56, 51, 57, 53, 58, 59, 80, 81, 82, 83, 84, 85, 86, 87, 88, 89, 90, 91, 93, 94, 95, 96, 97, 98, 99, 100, 101, 121, 122, 123, 114, 115, 116, 117, 118, 119, 120] (by decide +kernel) (by decide +kernel)
set_option maxRecDepth 20000 in
theorem gX6_canPrepare_X0_tellLedger : GoodIn wsX6_canPrepare (wsV RX6 167 RX0 yX0_tellLedger wsX0_tellLedger) := goodIn_app (goodIn_of _ (by decide +kernel)) ggX6_canPrepare_X0_tellLedger
set_option maxRecDepth 20000 in
theorem ggX6_canPrepare_X2_freeGold : GoodIn wsX6_canPrepare wsX2_freeGold := goodIn_r _ [87, 72, 73, 121, 122, 123] (by decide +kernel) (by decide +kernel)
set_option maxRecDepth 20000 in
theorem gX6_canPrepare_X2_freeGold : GoodIn wsX6_canPrepare (wsV RX6 176 RX2 yX2_freeGold wsX2_freeGold) := goodIn_app (goodIn_of _ (by decide +kernel)) ggX6_canPrepare_X2_freeGold
theorem dX6_canPrepare_0 : decode cX6_canPrepare 0 = .ok (.aload_n 0, 1) := by decide +kernel
theorem dX6_canPrepare_1 : decode cX6_canPrepare 1 = .ok (.iload_n 2, 1) := by decide +kernel
theorem dX6_canPrepare_2 : decode cX6_canPrepare 2 = .ok (.invokevirtual 43, 3) := by decide +kernel
theorem dX6_canPrepare_5 : decode cX6_canPrepare 5 = .ok (.astore 4, 2) := by decide +kernel
theorem dX6_canPrepare_7 : decode cX6_canPrepare 7 = .ok (.aload_n 1, 1) := by decide +kernel
theorem dX6_canPrepare_8 : decode cX6_canPrepare 8 = .ok (.invokevirtual 303, 3) := by decide +kernel
theorem dX6_canPrepare_11 : decode cX6_canPrepare 11 = .ok (.ifCond .ne 11, 3) := by decide +kernel
theorem dX6_canPrepare_14 : decode cX6_canPrepare 14 = .ok (.aload_n 0, 1) := by decide +kernel
theorem dX6_canPrepare_15 : decode cX6_canPrepare 15 = .ok (.iload_n 2, 1) := by decide +kernel
theorem dX6_canPrepare_16 : decode cX6_canPrepare 16 = .ok (.invokevirtual 54, 3) := by decide +kernel
theorem dX6_canPrepare_19 : decode cX6_canPrepare 19 = .ok (.ifCond .lt 5, 3) := by decide +kernel
theorem dX6_canPrepare_22 : decode cX6_canPrepare 22 = .ok (.iconst 0, 1) := by decide +kernel
theorem dX6_canPrepare_23 : decode cX6_canPrepare 23 = .ok (.ireturn, 1) := by decide +kernel
theorem dX6_canPrepare_24 : decode cX6_canPrepare 24 = .ok (.aload 4, 2) := by decide +kernel
theorem dX6_canPrepare_26 : decode cX6_canPrepare 26 = .ok (.aload 4, 2) := by decide +kernel
theorem dX6_canPrepare_28 : decode cX6_canPrepare 28 = .ok (.iload_n 3, 1) := by decide +kernel
theorem dX6_canPrepare_29 : decode cX6_canPrepare 29 = .ok (.invokevirtual 132, 3) := by decide +kernel
theorem dX6_canPrepare_32 : decode cX6_canPrepare 32 = .ok (.invokevirtual 112, 3) := by decide +kernel
theorem dX6_canPrepare_35 : decode cX6_canPrepare 35 = .ok (.ifCond .eq 14, 3) := by decide +kernel
theorem dX6_canPrepare_38 : decode cX6_canPrepare 38 = .ok (.aload 4, 2) := by decide +kernel
theorem dX6_canPrepare_40 : decode cX6_canPrepare 40 = .ok (.getfield 63, 3) := by decide +kernel
theorem dX6_canPrepare_43 : decode cX6_canPrepare 43 = .ok (.invokevirtual 318, 3) := by decide +kernel
theorem dX6_canPrepare_46 : decode cX6_canPrepare 46 = .ok (.ifCond .eq 5, 3) := by decide +kernel
theorem dX6_canPrepare_49 : decode cX6_canPrepare 49 = .ok (.iconst 0, 1) := by decide +kernel
theorem dX6_canPrepare_50 : decode cX6_canPrepare 50 = .ok (.ireturn, 1) := by decide +kernel
theorem dX6_canPrepare_51 : decode cX6_canPrepare 51 = .ok (.aload_n 1, 1) := by decide +kernel
theorem dX6_canPrepare_52 : decode cX6_canPrepare 52 = .ok (.getfield 293, 3) := by decide +kernel
theorem dX6_canPrepare_55 : decode cX6_canPrepare 55 = .ok (.iload_n 2, 1) := by decide +kernel
theorem dX6_canPrepare_56 : decode cX6_canPrepare 56 = .ok (.if_icmp .ne 18, 3) := by decide +kernel
theorem dX6_canPrepare_59 : decode cX6_canPrepare 59 = .ok (.aload 4, 2) := by decide +kernel
theorem dX6_canPrepare_61 : decode cX6_canPrepare 61 = .ok (.invokevirtual 167, 3) := by decide +kernel
theorem dX6_canPrepare_64 : decode cX6_canPrepare 64 = .ok (.invokevirtual 176, 3) := by decide +kernel
theorem dX6_canPrepare_67 : decode cX6_canPrepare 67 = .ok (.aload_n 1, 1) := by decide +kernel
theorem dX6_canPrepare_68 : decode cX6_canPrepare 68 = .ok (.getfield 290, 3) := by decide +kernel
theorem dX6_canPrepare_71 : decode cX6_canPrepare 71 = .ok (.if_icmp .lt 7, 3) := by decide +kernel
theorem dX6_canPrepare_74 : decode cX6_canPrepare 74 = .ok (.iconst 1, 1) := by decide +kernel
theorem dX6_canPrepare_75 : decode cX6_canPrepare 75 = .ok (.goto 4, 3) := by decide +kernel
theorem dX6_canPrepare_78 : decode cX6_canPrepare 78 = .ok (.iconst 0, 1) := by decide +kernel
theorem dX6_canPrepare_79 : decode cX6_canPrepare 79 = .ok (.ireturn, 1) := by decide +kernel
set_option maxRecDepth 20000 in
theorem ggX6_outcomeOfRaid_X4_isTooOld : GoodIn wsX6_outcomeOfRaid wsX4_isTooOld := goodIn_r _ [11, 12, 13, 14, 15, 54, 55, 56, 57, 58, 59, 68, 69, 70, 71, 72, 73, 74, 75, 76] (by decide +kernel) (by decide +kernel)
set_option maxRecDepth 20000 in
theorem gX6_outcomeOfRaid_X4_isTooOld : GoodIn wsX6_outcomeOfRaid (wsV RX6 245 RX4 yX4_isTooOld wsX4_isTooOld) := goodIn_app (goodIn_of _ (by decide +kernel)) ggX6_outcomeOfRaid_X4_isTooOld
set_option maxRecDepth 20000 in
theorem ggX6_outcomeOfRaid_X1_isOpenFor : GoodIn wsX6_outcomeOfRaid wsX1_isOpenFor := goodIn_r _ [20, 21, 77, 78, 79] (by decide +kernel) (by decide +kernel)
set_option maxRecDepth 20000 in
theorem gX6_outcomeOfRaid_X1_isOpenFor : GoodIn wsX6_outcomeOfRaid (wsV RX6 126 RX1 yX1_isOpenFor wsX1_isOpenFor) := goodIn_app (goodIn_of _ (by decide +kernel)) ggX6_outcomeOfRaid_X1_isOpenFor
set_option maxRecDepth 20000 in
theorem ggX6_outcomeOfRaid_X0_towersNear : GoodIn wsX6_outcomeOfRaid wsX0_towersNear := goodIn_r _ [26, 27, 28, 68, 69, 70, 71, 72, 73, 74, 75, 76] (by decide +kernel) (by decide +kernel)
set_option maxRecDepth 20000 in
theorem gX6_outcomeOfRaid_X0_towersNear : GoodIn wsX6_outcomeOfRaid (wsV RX6 132 RX0 yX0_towersNear wsX0_towersNear) := goodIn_app (goodIn_of _ (by decide +kernel)) ggX6_outcomeOfRaid_X0_towersNear
set_option maxRecDepth 20000 in
theorem ggX6_outcomeOfRaid_X0_isQuorum : GoodIn wsX6_outcomeOfRaid wsX0_isQuorum := goodIn_r _ [32, 33, 34, 35, 36, 37, 38, 39, 40, 68, 69, 70, 71, 72, 73, 74, 75, 76] (by decide +kernel) (by decide +kernel)
set_option maxRecDepth 20000 in
theorem gX6_outcomeOfRaid_X0_isQuorum : GoodIn wsX6_outcomeOfRaid (wsV RX6 112 RX0 yX0_isQuorum wsX0_isQuorum) := goodIn_app (goodIn_of _ (by decide +kernel)) ggX6_outcomeOfRaid_X0_isQuorum
set_option maxRecDepth 20000 in
theorem ggX6_outcomeOfRaid_X3_countingSize : GoodIn wsX6_outcomeOfRaid wsX3_countingSize := goodIn_r _ [45, 46, 47, 48, 80, 81, 82, 83, 84, 85, 86] (by decide +kernel) (by decide +kernel)
set_option maxRecDepth 20000 in
theorem gX6_outcomeOfRaid_X3_countingSize : GoodIn wsX6_outcomeOfRaid (wsV RX6 197 RX3 yX3_countingSize wsX3_countingSize) := goodIn_app (goodIn_of _ (by decide +kernel)) ggX6_outcomeOfRaid_X3_countingSize
set_option maxRecDepth 20000 in
theorem ggX6_outcomeOfRaid_X3_isHanging : GoodIn wsX6_outcomeOfRaid wsX3_isHanging := goodIn_r _ [52, 46, 53, 42, 43, 44, 45, 47, 48, 80, 81, 82, 83, 84, 85, 86] (by decide +kernel) (by decide +kernel)
set_option maxRecDepth 20000 in
theorem gX6_outcomeOfRaid_X3_isHanging : GoodIn wsX6_outcomeOfRaid (wsV RX6 318 RX3 yX3_isHanging wsX3_isHanging) := goodIn_app (goodIn_of _ (by decide +kernel)) ggX6_outcomeOfRaid_X3_isHanging
theorem dX6_outcomeOfRaid_0 : decode cX6_outcomeOfRaid 0 = .ok (.aload_n 1, 1) := by decide +kernel
theorem dX6_outcomeOfRaid_1 : decode cX6_outcomeOfRaid 1 = .ok (.getfield 256, 3) := by decide +kernel
theorem dX6_outcomeOfRaid_4 : decode cX6_outcomeOfRaid 4 = .ok (.astore_n 3, 1) := by decide +kernel
theorem dX6_outcomeOfRaid_5 : decode cX6_outcomeOfRaid 5 = .ok (.aload_n 1, 1) := by decide +kernel
theorem dX6_outcomeOfRaid_6 : decode cX6_outcomeOfRaid 6 = .ok (.aload_n 0, 1) := by decide +kernel
theorem dX6_outcomeOfRaid_7 : decode cX6_outcomeOfRaid 7 = .ok (.getfield 75, 3) := by decide +kernel
theorem dX6_outcomeOfRaid_10 : decode cX6_outcomeOfRaid 10 = .ok (.invokevirtual 245, 3) := by decide +kernel
theorem dX6_outcomeOfRaid_13 : decode cX6_outcomeOfRaid 13 = .ok (.ifCond .eq 6, 3) := by decide +kernel
theorem dX6_outcomeOfRaid_16 : decode cX6_outcomeOfRaid 16 = .ok (.bipush 111, 2) := by decide +kernel
theorem dX6_outcomeOfRaid_18 : decode cX6_outcomeOfRaid 18 = .ok (.ireturn, 1) := by decide +kernel
theorem dX6_outcomeOfRaid_19 : decode cX6_outcomeOfRaid 19 = .ok (.aload_n 3, 1) := by decide +kernel
theorem dX6_outcomeOfRaid_20 : decode cX6_outcomeOfRaid 20 = .ok (.getfield 117, 3) := by decide +kernel
theorem dX6_outcomeOfRaid_23 : decode cX6_outcomeOfRaid 23 = .ok (.iload_n 2, 1) := by decide +kernel
theorem dX6_outcomeOfRaid_24 : decode cX6_outcomeOfRaid 24 = .ok (.aaload, 1) := by decide +kernel
theorem dX6_outcomeOfRaid_25 : decode cX6_outcomeOfRaid 25 = .ok (.aload_n 1, 1) := by decide +kernel
theorem dX6_outcomeOfRaid_26 : decode cX6_outcomeOfRaid 26 = .ok (.getfield 263, 3) := by decide +kernel
theorem dX6_outcomeOfRaid_29 : decode cX6_outcomeOfRaid 29 = .ok (.aload_n 0, 1) := by decide +kernel
theorem dX6_outcomeOfRaid_30 : decode cX6_outcomeOfRaid 30 = .ok (.getfield 75, 3) := by decide +kernel
theorem dX6_outcomeOfRaid_33 : decode cX6_outcomeOfRaid 33 = .ok (.invokevirtual 126, 3) := by decide +kernel
theorem dX6_outcomeOfRaid_36 : decode cX6_outcomeOfRaid 36 = .ok (.ifCond .ne 6, 3) := by decide +kernel
theorem dX6_outcomeOfRaid_39 : decode cX6_outcomeOfRaid 39 = .ok (.bipush 103, 2) := by decide +kernel
theorem dX6_outcomeOfRaid_41 : decode cX6_outcomeOfRaid 41 = .ok (.ireturn, 1) := by decide +kernel
theorem dX6_outcomeOfRaid_42 : decode cX6_outcomeOfRaid 42 = .ok (.aload_n 3, 1) := by decide +kernel
theorem dX6_outcomeOfRaid_43 : decode cX6_outcomeOfRaid 43 = .ok (.aload_n 3, 1) := by decide +kernel
theorem dX6_outcomeOfRaid_44 : decode cX6_outcomeOfRaid 44 = .ok (.aload_n 1, 1) := by decide +kernel
theorem dX6_outcomeOfRaid_45 : decode cX6_outcomeOfRaid 45 = .ok (.getfield 263, 3) := by decide +kernel
theorem dX6_outcomeOfRaid_48 : decode cX6_outcomeOfRaid 48 = .ok (.invokevirtual 132, 3) := by decide +kernel
theorem dX6_outcomeOfRaid_51 : decode cX6_outcomeOfRaid 51 = .ok (.invokevirtual 112, 3) := by decide +kernel
theorem dX6_outcomeOfRaid_54 : decode cX6_outcomeOfRaid 54 = .ok (.ifCond .ne 6, 3) := by decide +kernel
theorem dX6_outcomeOfRaid_57 : decode cX6_outcomeOfRaid 57 = .ok (.bipush 113, 2) := by decide +kernel
theorem dX6_outcomeOfRaid_59 : decode cX6_outcomeOfRaid 59 = .ok (.ireturn, 1) := by decide +kernel
theorem dX6_outcomeOfRaid_60 : decode cX6_outcomeOfRaid 60 = .ok (.aload_n 3, 1) := by decide +kernel
theorem dX6_outcomeOfRaid_61 : decode cX6_outcomeOfRaid 61 = .ok (.getfield 63, 3) := by decide +kernel
theorem dX6_outcomeOfRaid_64 : decode cX6_outcomeOfRaid 64 = .ok (.invokevirtual 197, 3) := by decide +kernel
theorem dX6_outcomeOfRaid_67 : decode cX6_outcomeOfRaid 67 = .ok (.aload_n 1, 1) := by decide +kernel
theorem dX6_outcomeOfRaid_68 : decode cX6_outcomeOfRaid 68 = .ok (.getfield 250, 3) := by decide +kernel
theorem dX6_outcomeOfRaid_71 : decode cX6_outcomeOfRaid 71 = .ok (.if_icmp .ne 13, 3) := by decide +kernel
theorem dX6_outcomeOfRaid_74 : decode cX6_outcomeOfRaid 74 = .ok (.aload_n 3, 1) := by decide +kernel
theorem dX6_outcomeOfRaid_75 : decode cX6_outcomeOfRaid 75 = .ok (.getfield 63, 3) := by decide +kernel
theorem dX6_outcomeOfRaid_78 : decode cX6_outcomeOfRaid 78 = .ok (.invokevirtual 318, 3) := by decide +kernel
theorem dX6_outcomeOfRaid_81 : decode cX6_outcomeOfRaid 81 = .ok (.ifCond .eq 6, 3) := by decide +kernel
theorem dX6_outcomeOfRaid_84 : decode cX6_outcomeOfRaid 84 = .ok (.bipush 115, 2) := by decide +kernel
theorem dX6_outcomeOfRaid_86 : decode cX6_outcomeOfRaid 86 = .ok (.ireturn, 1) := by decide +kernel
theorem dX6_outcomeOfRaid_87 : decode cX6_outcomeOfRaid 87 = .ok (.bipush 119, 2) := by decide +kernel
theorem dX6_outcomeOfRaid_89 : decode cX6_outcomeOfRaid 89 = .ok (.ireturn, 1) := by decide +kernel
theorem dX6_contains_0 : decode cX6_contains 0 = .ok (.iload_n 0, 1) := by decide +kernel
theorem dX6_contains_1 : decode cX6_contains 1 = .ok (.iconst 1, 1) := by decide +kernel
theorem dX6_contains_2 : decode cX6_contains 2 = .ok (.iload_n 1, 1) := by decide +kernel
theorem dX6_contains_3 : decode cX6_contains 3 = .ok (.ishl, 1) := by decide +kernel
theorem dX6_contains_4 : decode cX6_contains 4 = .ok (.iand, 1) := by decide +kernel
theorem dX6_contains_5 : decode cX6_contains 5 = .ok (.ifCond .eq 7, 3) := by decide +kernel
theorem dX6_contains_8 : decode cX6_contains 8 = .ok (.iconst 1, 1) := by decide +kernel
theorem dX6_contains_9 : decode cX6_contains 9 = .ok (.goto 4, 3) := by decide +kernel
theorem dX6_contains_12 : decode cX6_contains 12 = .ok (.iconst 0, 1) := by decide +kernel
theorem dX6_contains_13 : decode cX6_contains 13 = .ok (.ireturn, 1) := by decide +kernel
set_option maxRecDepth 20000 in
theorem ggX7_init_X7_raise : GoodIn wsX7_init wsX7_raise := goodIn_r _ [39, 5, 6, 7, 9, 10, 12, 14, 15, 40, 28, 24, 41, 42, 43, 44, 45, 46, 47, 48, 49, 50, 51, 52, 53, 54, 55, 56, 57, 58, 59, 60, 61, 62, 63, 64, 65, 66, 67, 68, 69, 70, 71, 72, 73, 74, 75] (by decide +kernel) (by decide +kernel)
set_option maxRecDepth 20000 in
theorem gX7_init_X7_raise : GoodIn wsX7_init (wsV RX7 96 RX7 yX7_raise wsX7_raise) := goodIn_app (goodIn_of _ (by decide +kernel)) ggX7_init_X7_raise
