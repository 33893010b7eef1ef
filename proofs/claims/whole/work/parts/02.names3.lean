theorem dX4_leastBetweenStarts_39 : decode cX4_leastBetweenStarts 39 = .ok (.isub, 1) := by decide +kernel
theorem dX4_leastBetweenStarts_40 : decode cX4_leastBetweenStarts 40 = .ok (.invokestatic 38, 3) := by decide +kernel
theorem dX4_leastBetweenStarts_43 : decode cX4_leastBetweenStarts 43 = .ok (.istore_n 1, 1) := by decide +kernel
theorem dX4_leastBetweenStarts_44 : decode cX4_leastBetweenStarts 44 = .ok (.iinc 2 1, 3) := by decide +kernel
theorem dX4_leastBetweenStarts_47 : decode cX4_leastBetweenStarts 47 = .ok (.goto (-31), 3) := by decide +kernel
theorem dX4_leastBetweenStarts_50 : decode cX4_leastBetweenStarts 50 = .ok (.iload_n 1, 1) := by decide +kernel
theorem dX4_leastBetweenStarts_51 : decode cX4_leastBetweenStarts 51 = .ok (.ireturn, 1) := by decide +kernel
set_option maxRecDepth 20000 in
theorem ggX4_leaves_X4_hasPower : GoodIn wsX4_leaves wsX4_hasPower := goodIn_r _ [17, 3, 4, 29, 30, 31, 32, 33, 34, 35, 36, 37, 38, 39] (by decide +kernel) (by decide +kernel)
set_option maxRecDepth 20000 in
theorem gX4_leaves_X4_hasPower : GoodIn wsX4_leaves (wsV RX4 51 RX4 yX4_hasPower wsX4_hasPower) := goodIn_app (goodIn_of _ (by decide +kernel)) ggX4_leaves_X4_hasPower
set_option maxRecDepth 20000 in
theorem ggX4_leaves_X4_isDead : GoodIn wsX4_leaves wsX4_isDead := goodIn_r _ [21, 22, 23, 29, 30, 31, 32, 33, 34, 35, 36, 37, 38, 39] (by decide +kernel) (by decide +kernel)
set_option maxRecDepth 20000 in
theorem gX4_leaves_X4_isDead : GoodIn wsX4_leaves (wsV RX4 55 RX4 yX4_isDead wsX4_isDead) := goodIn_app (goodIn_of _ (by decide +kernel)) ggX4_leaves_X4_isDead
set_option maxRecDepth 20000 in
theorem ggX4_leaves_X4_begin : GoodIn wsX4_leaves wsX4_begin := goodIn_r _ [27, 22, 28, 1, 18, 19, 20, 16, 21, 23, 29, 30, 31, 32, 33, 34, 35, 36, 37, 38, 39] (by decide +kernel) (by decide +kernel)
set_option maxRecDepth 20000 in
theorem gX4_leaves_X4_begin : GoodIn wsX4_leaves (wsV RX4 58 RX4 yX4_begin wsX4_begin) := goodIn_app (goodIn_of _ (by decide +kernel)) ggX4_leaves_X4_begin
theorem dX4_leaves_0 : decode cX4_leaves 0 = .ok (.aload_n 0, 1) := by decide +kernel
theorem dX4_leaves_1 : decode cX4_leaves 1 = .ok (.getfield 48, 3) := by decide +kernel
theorem dX4_leaves_4 : decode cX4_leaves 4 = .ok (.ifCond .ne 30, 3) := by decide +kernel
theorem dX4_leaves_7 : decode cX4_leaves 7 = .ok (.iload_n 1, 1) := by decide +kernel
theorem dX4_leaves_8 : decode cX4_leaves 8 = .ok (.aload_n 0, 1) := by decide +kernel
theorem dX4_leaves_9 : decode cX4_leaves 9 = .ok (.getfield 9, 3) := by decide +kernel
theorem dX4_leaves_12 : decode cX4_leaves 12 = .ok (.if_icmp .lt 22, 3) := by decide +kernel
theorem dX4_leaves_15 : decode cX4_leaves 15 = .ok (.aload_n 0, 1) := by decide +kernel
theorem dX4_leaves_16 : decode cX4_leaves 16 = .ok (.invokevirtual 51, 3) := by decide +kernel
theorem dX4_leaves_19 : decode cX4_leaves 19 = .ok (.ifCond .eq 15, 3) := by decide +kernel
theorem dX4_leaves_22 : decode cX4_leaves 22 = .ok (.aload_n 0, 1) := by decide +kernel
theorem dX4_leaves_23 : decode cX4_leaves 23 = .ok (.invokevirtual 55, 3) := by decide +kernel
theorem dX4_leaves_26 : decode cX4_leaves 26 = .ok (.ifCond .ne 8, 3) := by decide +kernel
theorem dX4_leaves_29 : decode cX4_leaves 29 = .ok (.aload_n 0, 1) := by decide +kernel
theorem dX4_leaves_30 : decode cX4_leaves 30 = .ok (.iload_n 2, 1) := by decide +kernel
theorem dX4_leaves_31 : decode cX4_leaves 31 = .ok (.invokevirtual 58, 3) := by decide +kernel
theorem dX4_leaves_34 : decode cX4_leaves 34 = .ok (.aload_n 0, 1) := by decide +kernel
theorem dX4_leaves_35 : decode cX4_leaves 35 = .ok (.getfield 48, 3) := by decide +kernel
theorem dX4_leaves_38 : decode cX4_leaves 38 = .ok (.ifCond .ne 5, 3) := by decide +kernel
theorem dX4_leaves_41 : decode cX4_leaves 41 = .ok (.iload_n 1, 1) := by decide +kernel
theorem dX4_leaves_42 : decode cX4_leaves 42 = .ok (.ireturn, 1) := by decide +kernel
theorem dX4_leaves_43 : decode cX4_leaves 43 = .ok (.aload_n 0, 1) := by decide +kernel
theorem dX4_leaves_44 : decode cX4_leaves 44 = .ok (.invokevirtual 51, 3) := by decide +kernel
theorem dX4_leaves_47 : decode cX4_leaves 47 = .ok (.ifCond .ne 10, 3) := by decide +kernel
theorem dX4_leaves_50 : decode cX4_leaves 50 = .ok (.aload_n 0, 1) := by decide +kernel
theorem dX4_leaves_51 : decode cX4_leaves 51 = .ok (.iconst 0, 1) := by decide +kernel
theorem dX4_leaves_52 : decode cX4_leaves 52 = .ok (.putfield 48, 3) := by decide +kernel
theorem dX4_leaves_55 : decode cX4_leaves 55 = .ok (.iload_n 1, 1) := by decide +kernel
theorem dX4_leaves_56 : decode cX4_leaves 56 = .ok (.ireturn, 1) := by decide +kernel
theorem dX4_leaves_57 : decode cX4_leaves 57 = .ok (.aload_n 0, 1) := by decide +kernel
theorem dX4_leaves_58 : decode cX4_leaves 58 = .ok (.getfield 24, 3) := by decide +kernel
theorem dX4_leaves_61 : decode cX4_leaves 61 = .ok (.ifCond .ne 13, 3) := by decide +kernel
theorem dX4_leaves_64 : decode cX4_leaves 64 = .ok (.aload_n 0, 1) := by decide +kernel
theorem dX4_leaves_65 : decode cX4_leaves 65 = .ok (.dup, 1) := by decide +kernel
theorem dX4_leaves_66 : decode cX4_leaves 66 = .ok (.getfield 35, 3) := by decide +kernel
theorem dX4_leaves_69 : decode cX4_leaves 69 = .ok (.iconst 1, 1) := by decide +kernel
theorem dX4_leaves_70 : decode cX4_leaves 70 = .ok (.isub, 1) := by decide +kernel
theorem dX4_leaves_71 : decode cX4_leaves 71 = .ok (.putfield 35, 3) := by decide +kernel
theorem dX4_leaves_74 : decode cX4_leaves 74 = .ok (.iload_n 1, 1) := by decide +kernel
theorem dX4_leaves_75 : decode cX4_leaves 75 = .ok (.aload_n 0, 1) := by decide +kernel
theorem dX4_leaves_76 : decode cX4_leaves 76 = .ok (.getfield 62, 3) := by decide +kernel
theorem dX4_leaves_79 : decode cX4_leaves 79 = .ok (.ifCond .eq 12, 3) := by decide +kernel
theorem dX4_leaves_82 : decode cX4_leaves 82 = .ok (.iconst 2, 1) := by decide +kernel
theorem dX4_leaves_83 : decode cX4_leaves 83 = .ok (.aload_n 0, 1) := by decide +kernel
theorem dX4_leaves_84 : decode cX4_leaves 84 = .ok (.getfield 18, 3) := by decide +kernel
theorem dX4_leaves_87 : decode cX4_leaves 87 = .ok (.imul, 1) := by decide +kernel
theorem dX4_leaves_88 : decode cX4_leaves 88 = .ok (.goto 7, 3) := by decide +kernel
theorem dX4_leaves_91 : decode cX4_leaves 91 = .ok (.aload_n 0, 1) := by decide +kernel
theorem dX4_leaves_92 : decode cX4_leaves 92 = .ok (.getfield 18, 3) := by decide +kernel
theorem dX4_leaves_95 : decode cX4_leaves 95 = .ok (.invokestatic 38, 3) := by decide +kernel
theorem dX4_leaves_98 : decode cX4_leaves 98 = .ok (.istore_n 3, 1) := by decide +kernel
theorem dX4_leaves_99 : decode cX4_leaves 99 = .ok (.aload_n 0, 1) := by decide +kernel
theorem dX4_leaves_100 : decode cX4_leaves 100 = .ok (.dup, 1) := by decide +kernel
theorem dX4_leaves_101 : decode cX4_leaves 101 = .ok (.getfield 65, 3) := by decide +kernel
theorem dX4_leaves_104 : decode cX4_leaves 104 = .ok (.iload_n 3, 1) := by decide +kernel
theorem dX4_leaves_105 : decode cX4_leaves 105 = .ok (.iadd, 1) := by decide +kernel
theorem dX4_leaves_106 : decode cX4_leaves 106 = .ok (.putfield 65, 3) := by decide +kernel
theorem dX4_leaves_109 : decode cX4_leaves 109 = .ok (.aload_n 0, 1) := by decide +kernel
theorem dX4_leaves_110 : decode cX4_leaves 110 = .ok (.iload_n 1, 1) := by decide +kernel
theorem dX4_leaves_111 : decode cX4_leaves 111 = .ok (.iload_n 3, 1) := by decide +kernel
theorem dX4_leaves_112 : decode cX4_leaves 112 = .ok (.isub, 1) := by decide +kernel
theorem dX4_leaves_113 : decode cX4_leaves 113 = .ok (.aload_n 0, 1) := by decide +kernel
theorem dX4_leaves_114 : decode cX4_leaves 114 = .ok (.getfield 15, 3) := by decide +kernel
theorem dX4_leaves_117 : decode cX4_leaves 117 = .ok (.if_icmp .le 7, 3) := by decide +kernel
theorem dX4_leaves_120 : decode cX4_leaves 120 = .ok (.iconst 1, 1) := by decide +kernel
theorem dX4_leaves_121 : decode cX4_leaves 121 = .ok (.goto 4, 3) := by decide +kernel
theorem dX4_leaves_124 : decode cX4_leaves 124 = .ok (.iconst 0, 1) := by decide +kernel
theorem dX4_leaves_125 : decode cX4_leaves 125 = .ok (.putfield 48, 3) := by decide +kernel
theorem dX4_leaves_128 : decode cX4_leaves 128 = .ok (.iload_n 1, 1) := by decide +kernel
theorem dX4_leaves_129 : decode cX4_leaves 129 = .ok (.iload_n 3, 1) := by decide +kernel
theorem dX4_leaves_130 : decode cX4_leaves 130 = .ok (.isub, 1) := by decide +kernel
theorem dX4_leaves_131 : decode cX4_leaves 131 = .ok (.ireturn, 1) := by decide +kernel
set_option maxRecDepth 20000 in
theorem ggX4_begin_X4_isDead : GoodIn wsX4_begin wsX4_isDead := goodIn_r _ [8, 1, 9, 10, 11, 12, 13, 14, 15, 16, 17, 18, 19, 20] (by decide +kernel) (by decide +kernel)
set_option maxRecDepth 20000 in
theorem gX4_begin_X4_isDead : GoodIn wsX4_begin (wsV RX4 55 RX4 yX4_isDead wsX4_isDead) := goodIn_app (goodIn_of _ (by decide +kernel)) ggX4_begin_X4_isDead
theorem dX4_begin_0 : decode cX4_begin 0 = .ok (.aload_n 0, 1) := by decide +kernel
theorem dX4_begin_1 : decode cX4_begin 1 = .ok (.getfield 32, 3) := by decide +kernel
theorem dX4_begin_4 : decode cX4_begin 4 = .ok (.bipush 40, 2) := by decide +kernel
theorem dX4_begin_6 : decode cX4_begin 6 = .ok (.if_icmp .ge 13, 3) := by decide +kernel
theorem dX4_begin_9 : decode cX4_begin 9 = .ok (.aload_n 0, 1) := by decide +kernel
theorem dX4_begin_10 : decode cX4_begin 10 = .ok (.getfield 28, 3) := by decide +kernel
theorem dX4_begin_13 : decode cX4_begin 13 = .ok (.aload_n 0, 1) := by decide +kernel
theorem dX4_begin_14 : decode cX4_begin 14 = .ok (.getfield 32, 3) := by decide +kernel
theorem dX4_begin_17 : decode cX4_begin 17 = .ok (.iload_n 1, 1) := by decide +kernel
theorem dX4_begin_18 : decode cX4_begin 18 = .ok (.iastore, 1) := by decide +kernel
theorem dX4_begin_19 : decode cX4_begin 19 = .ok (.aload_n 0, 1) := by decide +kernel
theorem dX4_begin_20 : decode cX4_begin 20 = .ok (.dup, 1) := by decide +kernel
theorem dX4_begin_21 : decode cX4_begin 21 = .ok (.getfield 32, 3) := by decide +kernel
theorem dX4_begin_24 : decode cX4_begin 24 = .ok (.iconst 1, 1) := by decide +kernel
theorem dX4_begin_25 : decode cX4_begin 25 = .ok (.iadd, 1) := by decide +kernel
theorem dX4_begin_26 : decode cX4_begin 26 = .ok (.putfield 32, 3) := by decide +kernel
theorem dX4_begin_29 : decode cX4_begin 29 = .ok (.aload_n 0, 1) := by decide +kernel
theorem dX4_begin_30 : decode cX4_begin 30 = .ok (.aload_n 0, 1) := by decide +kernel
theorem dX4_begin_31 : decode cX4_begin 31 = .ok (.invokevirtual 55, 3) := by decide +kernel
theorem dX4_begin_34 : decode cX4_begin 34 = .ok (.ifCond .ne 7, 3) := by decide +kernel
theorem dX4_begin_37 : decode cX4_begin 37 = .ok (.iconst 1, 1) := by decide +kernel
theorem dX4_begin_38 : decode cX4_begin 38 = .ok (.goto 4, 3) := by decide +kernel
theorem dX4_begin_41 : decode cX4_begin 41 = .ok (.iconst 0, 1) := by decide +kernel
theorem dX4_begin_42 : decode cX4_begin 42 = .ok (.putfield 48, 3) := by decide +kernel
theorem dX4_begin_45 : decode cX4_begin 45 = .ok (.return_, 1) := by decide +kernel
set_option maxRecDepth 20000 in
theorem ggX4_becomeLike_X4_logged : GoodIn wsX4_becomeLike wsX4_logged := goodIn_r _ [20, 9, 21, 22, 23, 24, 25, 26, 27, 28, 29, 30, 31, 32, 33, 34, 35] (by decide +kernel) (by decide +kernel)
set_option maxRecDepth 20000 in
theorem gX4_becomeLike_X4_logged : GoodIn wsX4_becomeLike (wsV RX4 44 RX4 yX4_logged wsX4_logged) := goodIn_app (goodIn_of _ (by decide +kernel)) ggX4_becomeLike_X4_logged
theorem dX4_becomeLike_0 : decode cX4_becomeLike 0 = .ok (.aload_n 0, 1) := by decide +kernel
theorem dX4_becomeLike_1 : decode cX4_becomeLike 1 = .ok (.aload_n 1, 1) := by decide +kernel
theorem dX4_becomeLike_2 : decode cX4_becomeLike 2 = .ok (.getfield 9, 3) := by decide +kernel
theorem dX4_becomeLike_5 : decode cX4_becomeLike 5 = .ok (.putfield 9, 3) := by decide +kernel
theorem dX4_becomeLike_8 : decode cX4_becomeLike 8 = .ok (.aload_n 0, 1) := by decide +kernel
theorem dX4_becomeLike_9 : decode cX4_becomeLike 9 = .ok (.aload_n 1, 1) := by decide +kernel
theorem dX4_becomeLike_10 : decode cX4_becomeLike 10 = .ok (.getfield 15, 3) := by decide +kernel
theorem dX4_becomeLike_13 : decode cX4_becomeLike 13 = .ok (.putfield 15, 3) := by decide +kernel
theorem dX4_becomeLike_16 : decode cX4_becomeLike 16 = .ok (.aload_n 0, 1) := by decide +kernel
theorem dX4_becomeLike_17 : decode cX4_becomeLike 17 = .ok (.aload_n 1, 1) := by decide +kernel
theorem dX4_becomeLike_18 : decode cX4_becomeLike 18 = .ok (.getfield 18, 3) := by decide +kernel
theorem dX4_becomeLike_21 : decode cX4_becomeLike 21 = .ok (.putfield 18, 3) := by decide +kernel
theorem dX4_becomeLike_24 : decode cX4_becomeLike 24 = .ok (.aload_n 0, 1) := by decide +kernel
theorem dX4_becomeLike_25 : decode cX4_becomeLike 25 = .ok (.aload_n 1, 1) := by decide +kernel
theorem dX4_becomeLike_26 : decode cX4_becomeLike 26 = .ok (.getfield 21, 3) := by decide +kernel
theorem dX4_becomeLike_29 : decode cX4_becomeLike 29 = .ok (.putfield 21, 3) := by decide +kernel
theorem dX4_becomeLike_32 : decode cX4_becomeLike 32 = .ok (.aload_n 0, 1) := by decide +kernel
theorem dX4_becomeLike_33 : decode cX4_becomeLike 33 = .ok (.aload_n 1, 1) := by decide +kernel
theorem dX4_becomeLike_34 : decode cX4_becomeLike 34 = .ok (.getfield 35, 3) := by decide +kernel
theorem dX4_becomeLike_37 : decode cX4_becomeLike 37 = .ok (.putfield 35, 3) := by decide +kernel
theorem dX4_becomeLike_40 : decode cX4_becomeLike 40 = .ok (.aload_n 0, 1) := by decide +kernel
theorem dX4_becomeLike_41 : decode cX4_becomeLike 41 = .ok (.aload_n 1, 1) := by decide +kernel
theorem dX4_becomeLike_42 : decode cX4_becomeLike 42 = .ok (.getfield 24, 3) := by decide +kernel
theorem dX4_becomeLike_45 : decode cX4_becomeLike 45 = .ok (.putfield 24, 3) := by decide +kernel
theorem dX4_becomeLike_48 : decode cX4_becomeLike 48 = .ok (.aload_n 0, 1) := by decide +kernel
theorem dX4_becomeLike_49 : decode cX4_becomeLike 49 = .ok (.aload_n 1, 1) := by decide +kernel
theorem dX4_becomeLike_50 : decode cX4_becomeLike 50 = .ok (.getfield 62, 3) := by decide +kernel
theorem dX4_becomeLike_53 : decode cX4_becomeLike 53 = .ok (.putfield 62, 3) := by decide +kernel
theorem dX4_becomeLike_56 : decode cX4_becomeLike 56 = .ok (.aload_n 0, 1) := by decide +kernel
theorem dX4_becomeLike_57 : decode cX4_becomeLike 57 = .ok (.aload_n 1, 1) := by decide +kernel
theorem dX4_becomeLike_58 : decode cX4_becomeLike 58 = .ok (.getfield 48, 3) := by decide +kernel
theorem dX4_becomeLike_61 : decode cX4_becomeLike 61 = .ok (.putfield 48, 3) := by decide +kernel
theorem dX4_becomeLike_64 : decode cX4_becomeLike 64 = .ok (.aload_n 0, 1) := by decide +kernel
theorem dX4_becomeLike_65 : decode cX4_becomeLike 65 = .ok (.aload_n 1, 1) := by decide +kernel
theorem dX4_becomeLike_66 : decode cX4_becomeLike 66 = .ok (.getfield 32, 3) := by decide +kernel
theorem dX4_becomeLike_69 : decode cX4_becomeLike 69 = .ok (.putfield 32, 3) := by decide +kernel
theorem dX4_becomeLike_72 : decode cX4_becomeLike 72 = .ok (.aload_n 0, 1) := by decide +kernel
theorem dX4_becomeLike_73 : decode cX4_becomeLike 73 = .ok (.aload_n 1, 1) := by decide +kernel
theorem dX4_becomeLike_74 : decode cX4_becomeLike 74 = .ok (.getfield 65, 3) := by decide +kernel
theorem dX4_becomeLike_77 : decode cX4_becomeLike 77 = .ok (.putfield 65, 3) := by decide +kernel
theorem dX4_becomeLike_80 : decode cX4_becomeLike 80 = .ok (.aload_n 1, 1) := by decide +kernel
theorem dX4_becomeLike_81 : decode cX4_becomeLike 81 = .ok (.getfield 28, 3) := by decide +kernel
theorem dX4_becomeLike_84 : decode cX4_becomeLike 84 = .ok (.iconst 0, 1) := by decide +kernel
theorem dX4_becomeLike_85 : decode cX4_becomeLike 85 = .ok (.aload_n 0, 1) := by decide +kernel
theorem dX4_becomeLike_86 : decode cX4_becomeLike 86 = .ok (.getfield 28, 3) := by decide +kernel
theorem dX4_becomeLike_89 : decode cX4_becomeLike 89 = .ok (.iconst 0, 1) := by decide +kernel
theorem dX4_becomeLike_90 : decode cX4_becomeLike 90 = .ok (.aload_n 1, 1) := by decide +kernel
theorem dX4_becomeLike_91 : decode cX4_becomeLike 91 = .ok (.invokevirtual 44, 3) := by decide +kernel
theorem dX4_becomeLike_94 : decode cX4_becomeLike 94 = .ok (.invokestatic 68, 3) := by decide +kernel
theorem dX4_becomeLike_97 : decode cX4_becomeLike 97 = .ok (.return_, 1) := by decide +kernel
theorem dX5_init_0 : decode cX5_init 0 = .ok (.aload_n 0, 1) := by decide +kernel
theorem dX5_init_1 : decode cX5_init 1 = .ok (.invokespecial 3, 3) := by decide +kernel
theorem dX5_init_4 : decode cX5_init 4 = .ok (.aload_n 0, 1) := by decide +kernel
theorem dX5_init_5 : decode cX5_init 5 = .ok (.aload_n 1, 1) := by decide +kernel
theorem dX5_init_6 : decode cX5_init 6 = .ok (.putfield 9, 3) := by decide +kernel
theorem dX5_init_9 : decode cX5_init 9 = .ok (.return_, 1) := by decide +kernel
set_option maxRecDepth 20000 in
theorem ggX5_readSky_X5_readDeed : GoodIn wsX5_readSky wsX5_readDeed := goodIn_r _ [8, 9, 10, 11, 7, 12, 1, 13, 14, 15, 2, 3, 16, 17, 18, 19, 20, 21, 22, 23, 24, 25, 26, 27, 28, 29, 30, 31, 32, 33, 34, 35, 36, 37, 38, 39, 40, 41, 42, 43, 44, 45, 46, 47, 48, 49, 50, 51, 52, 53, 54, 55, 56, 57, 58, 59, 60, 61, 62, 63, 64, 65, 66, 67, 68, 69, 70, 71, 72, 73, 74, 75, 76, 77, 78, 79, 80, 81, 82, 83, 84, 85, 86, 87, 88, 89, 90, 91, 92, 93, 94, 95, 96, 97, 98, 99, 100, 101, 102, 103, 104, 105, 106, 107, 108, 109, 110, 111, 112, 113, 114, 115, 116, 117, 123, 124, 125, 126, 127, 128, 129, 130, 131, 132, 133] (by decide +kernel) (by decide +kernel)
set_option maxRecDepth 20000 in
theorem gX5_readSky_X5_readDeed : GoodIn wsX5_readSky (wsV RX5 19 RX5 yX5_readDeed wsX5_readDeed) := goodIn_app (goodIn_of _ (by decide +kernel)) ggX5_readSky_X5_readDeed
set_option maxRecDepth 20000 in
theorem ggX5_readSky_X5_readToken : GoodIn wsX5_readSky wsX5_readToken := goodIn_r _ [12, 1, 13, 14, 15, 2, 3, 16, 17, 18, 19, 20, 21, 22, 23, 24, 25, 26, 27, 7, 28, 29, 30, 31, 32, 33, 34, 35, 36, 37, 38, 39, 40, 41, 123, 124, 125, 126, 127, 128, 129] (by decide +kernel) (by decide +kernel)
set_option maxRecDepth 20000 in
theorem gX5_readSky_X5_readToken : GoodIn wsX5_readSky (wsV RX5 26 RX5 yX5_readToken wsX5_readToken) := goodIn_app (goodIn_of _ (by decide +kernel)) ggX5_readSky_X5_readToken
set_option maxRecDepth 20000 in
theorem ggX5_readSky_X7_addNext : GoodIn wsX5_readSky wsX7_addNext := goodIn_r _ [121, 122, 116, 130, 131, 132, 133] (by decide +kernel) (by decide +kernel)
set_option maxRecDepth 20000 in
theorem gX5_readSky_X7_addNext : GoodIn wsX5_readSky (wsV RX5 32 RX7 yX7_addNext wsX7_addNext) := goodIn_app (goodIn_of _ (by decide +kernel)) ggX5_readSky_X7_addNext
theorem dX5_readSky_0 : decode cX5_readSky 0 = .ok (.aload_n 0, 1) := by decide +kernel
theorem dX5_readSky_1 : decode cX5_readSky 1 = .ok (.iconst 0, 1) := by decide +kernel
theorem dX5_readSky_2 : decode cX5_readSky 2 = .ok (.putfield 15, 3) := by decide +kernel
theorem dX5_readSky_5 : decode cX5_readSky 5 = .ok (.iconst 0, 1) := by decide +kernel
theorem dX5_readSky_6 : decode cX5_readSky 6 = .ok (.istore_n 2, 1) := by decide +kernel
theorem dX5_readSky_7 : decode cX5_readSky 7 = .ok (.iload_n 2, 1) := by decide +kernel
theorem dX5_readSky_8 : decode cX5_readSky 8 = .ok (.bipush 12, 2) := by decide +kernel
theorem dX5_readSky_10 : decode cX5_readSky 10 = .ok (.if_icmp .ge 56, 3) := by decide +kernel
theorem dX5_readSky_13 : decode cX5_readSky 13 = .ok (.aload_n 0, 1) := by decide +kernel
theorem dX5_readSky_14 : decode cX5_readSky 14 = .ok (.aload_n 1, 1) := by decide +kernel
theorem dX5_readSky_15 : decode cX5_readSky 15 = .ok (.iload_n 2, 1) := by decide +kernel
theorem dX5_readSky_16 : decode cX5_readSky 16 = .ok (.invokevirtual 19, 3) := by decide +kernel
theorem dX5_readSky_19 : decode cX5_readSky 19 = .ok (.ifCond .ne 8, 3) := by decide +kernel
theorem dX5_readSky_22 : decode cX5_readSky 22 = .ok (.aload_n 0, 1) := by decide +kernel
theorem dX5_readSky_23 : decode cX5_readSky 23 = .ok (.getfield 23, 3) := by decide +kernel
theorem dX5_readSky_26 : decode cX5_readSky 26 = .ok (.ireturn, 1) := by decide +kernel
theorem dX5_readSky_27 : decode cX5_readSky 27 = .ok (.aload_n 0, 1) := by decide +kernel
theorem dX5_readSky_28 : decode cX5_readSky 28 = .ok (.invokevirtual 26, 3) := by decide +kernel
theorem dX5_readSky_31 : decode cX5_readSky 31 = .ok (.aload_n 0, 1) := by decide +kernel
theorem dX5_readSky_32 : decode cX5_readSky 32 = .ok (.getfield 29, 3) := by decide +kernel
theorem dX5_readSky_35 : decode cX5_readSky 35 = .ok (.ifCond .ne 12, 3) := by decide +kernel
theorem dX5_readSky_38 : decode cX5_readSky 38 = .ok (.aload_n 1, 1) := by decide +kernel
theorem dX5_readSky_39 : decode cX5_readSky 39 = .ok (.iload_n 2, 1) := by decide +kernel
theorem dX5_readSky_40 : decode cX5_readSky 40 = .ok (.iconst 1, 1) := by decide +kernel
theorem dX5_readSky_41 : decode cX5_readSky 41 = .ok (.iadd, 1) := by decide +kernel
theorem dX5_readSky_42 : decode cX5_readSky 42 = .ok (.invokevirtual 32, 3) := by decide +kernel
theorem dX5_readSky_45 : decode cX5_readSky 45 = .ok (.iconst (-1), 1) := by decide +kernel
theorem dX5_readSky_46 : decode cX5_readSky 46 = .ok (.ireturn, 1) := by decide +kernel
theorem dX5_readSky_47 : decode cX5_readSky 47 = .ok (.aload_n 0, 1) := by decide +kernel
theorem dX5_readSky_48 : decode cX5_readSky 48 = .ok (.getfield 29, 3) := by decide +kernel
theorem dX5_readSky_51 : decode cX5_readSky 51 = .ok (.iconst 3, 1) := by decide +kernel
theorem dX5_readSky_52 : decode cX5_readSky 52 = .ok (.if_icmp .eq 8, 3) := by decide +kernel
theorem dX5_readSky_55 : decode cX5_readSky 55 = .ok (.aload_n 0, 1) := by decide +kernel
theorem dX5_readSky_56 : decode cX5_readSky 56 = .ok (.getfield 23, 3) := by decide +kernel
theorem dX5_readSky_59 : decode cX5_readSky 59 = .ok (.ireturn, 1) := by decide +kernel
theorem dX5_readSky_60 : decode cX5_readSky 60 = .ok (.iinc 2 1, 3) := by decide +kernel
theorem dX5_readSky_63 : decode cX5_readSky 63 = .ok (.goto (-56), 3) := by decide +kernel
theorem dX5_readSky_66 : decode cX5_readSky 66 = .ok (.aload_n 0, 1) := by decide +kernel
theorem dX5_readSky_67 : decode cX5_readSky 67 = .ok (.invokevirtual 26, 3) := by decide +kernel
theorem dX5_readSky_70 : decode cX5_readSky 70 = .ok (.aload_n 0, 1) := by decide +kernel
theorem dX5_readSky_71 : decode cX5_readSky 71 = .ok (.getfield 23, 3) := by decide +kernel
theorem dX5_readSky_74 : decode cX5_readSky 74 = .ok (.ireturn, 1) := by decide +kernel
set_option maxRecDepth 20000 in
theorem ggX5_readDeed_X5_readToken : GoodIn wsX5_readDeed wsX5_readToken := goodIn_r _ [5, 6, 7, 8, 9, 10, 11, 12, 13, 14, 15, 16, 17, 18, 19, 20, 21, 22, 23, 4, 24, 25, 26, 27, 28, 29, 30, 31, 32, 33, 34, 35, 36, 37, 114, 115, 116, 117, 118, 119, 120] (by decide +kernel) (by decide +kernel)
set_option maxRecDepth 20000 in
theorem gX5_readDeed_X5_readToken : GoodIn wsX5_readDeed (wsV RX5 26 RX5 yX5_readToken wsX5_readToken) := goodIn_app (goodIn_of _ (by decide +kernel)) ggX5_readDeed_X5_readToken
set_option maxRecDepth 20000 in
theorem ggX5_readDeed_X5_deedTold : GoodIn wsX5_readDeed wsX5_deedTold := goodIn_r _ [41, 42, 43, 4, 44, 45, 46, 47, 48, 11, 6, 10, 7, 9, 49, 50, 51, 52, 53, 54, 55, 56, 57, 58, 59, 60, 61, 62, 63, 64, 65, 66, 67, 68, 69, 70, 71, 72, 73, 74, 75, 76, 77, 78, 79, 80, 81, 82, 83, 84, 85, 86, 87, 88, 89, 90, 91, 92, 93, 94, 95, 96, 97, 114, 115, 116, 117, 118, 119, 120] (by decide +kernel) (by decide +kernel)
set_option maxRecDepth 20000 in
theorem gX5_readDeed_X5_deedTold : GoodIn wsX5_readDeed (wsV RX5 38 RX5 yX5_deedTold wsX5_deedTold) := goodIn_app (goodIn_of _ (by decide +kernel)) ggX5_readDeed_X5_deedTold
set_option maxRecDepth 20000 in
theorem ggX5_readDeed_X5_valueTold : GoodIn wsX5_readDeed wsX5_valueTold := goodIn_r _ [101, 11, 33, 102, 103, 104, 4, 105, 45, 46, 47, 48, 6, 10, 7, 9, 49, 50, 51, 52, 53, 54, 55, 56, 57, 58, 59, 60, 61, 62, 63, 64, 65, 66, 67, 68, 69, 70, 71, 72, 73, 74, 75, 76, 77, 78, 79, 80, 81, 82, 83, 84, 85, 86, 87, 88, 89, 90, 91, 92, 93, 94, 95, 96, 97, 18, 19, 20, 114, 115, 116, 117, 118, 119, 120] (by decide +kernel) (by decide +kernel)
set_option maxRecDepth 20000 in
theorem gX5_readDeed_X5_valueTold : GoodIn wsX5_readDeed (wsV RX5 42 RX5 yX5_valueTold wsX5_valueTold) := goodIn_app (goodIn_of _ (by decide +kernel)) ggX5_readDeed_X5_valueTold
set_option maxRecDepth 20000 in
theorem ggX5_readDeed_X7_putNext : GoodIn wsX5_readDeed wsX7_putNext := goodIn_r _ [110, 111, 112, 113, 121, 122, 123, 124] (by decide +kernel) (by decide +kernel)
set_option maxRecDepth 20000 in
theorem gX5_readDeed_X7_putNext : GoodIn wsX5_readDeed (wsV RX5 46 RX7 yX7_putNext wsX7_putNext) := goodIn_app (goodIn_of _ (by decide +kernel)) ggX5_readDeed_X7_putNext
theorem dX5_readDeed_0 : decode cX5_readDeed 0 = .ok (.aload_n 0, 1) := by decide +kernel
theorem dX5_readDeed_1 : decode cX5_readDeed 1 = .ok (.invokevirtual 26, 3) := by decide +kernel
theorem dX5_readDeed_4 : decode cX5_readDeed 4 = .ok (.aload_n 0, 1) := by decide +kernel
theorem dX5_readDeed_5 : decode cX5_readDeed 5 = .ok (.invokevirtual 38, 3) := by decide +kernel
theorem dX5_readDeed_8 : decode cX5_readDeed 8 = .ok (.istore_n 3, 1) := by decide +kernel
theorem dX5_readDeed_9 : decode cX5_readDeed 9 = .ok (.iload_n 3, 1) := by decide +kernel
theorem dX5_readDeed_10 : decode cX5_readDeed 10 = .ok (.iconst (-1), 1) := by decide +kernel
theorem dX5_readDeed_11 : decode cX5_readDeed 11 = .ok (.if_icmp .ne 5, 3) := by decide +kernel
theorem dX5_readDeed_14 : decode cX5_readDeed 14 = .ok (.iconst 0, 1) := by decide +kernel
theorem dX5_readDeed_15 : decode cX5_readDeed 15 = .ok (.ireturn, 1) := by decide +kernel
theorem dX5_readDeed_16 : decode cX5_readDeed 16 = .ok (.aload_n 0, 1) := by decide +kernel
theorem dX5_readDeed_17 : decode cX5_readDeed 17 = .ok (.invokevirtual 26, 3) := by decide +kernel
theorem dX5_readDeed_20 : decode cX5_readDeed 20 = .ok (.aload_n 0, 1) := by decide +kernel
theorem dX5_readDeed_21 : decode cX5_readDeed 21 = .ok (.iload_n 3, 1) := by decide +kernel
theorem dX5_readDeed_22 : decode cX5_readDeed 22 = .ok (.invokevirtual 42, 3) := by decide +kernel
theorem dX5_readDeed_25 : decode cX5_readDeed 25 = .ok (.istore 4, 2) := by decide +kernel
theorem dX5_readDeed_27 : decode cX5_readDeed 27 = .ok (.iload 4, 2) := by decide +kernel
theorem dX5_readDeed_29 : decode cX5_readDeed 29 = .ok (.iconst (-1), 1) := by decide +kernel
theorem dX5_readDeed_30 : decode cX5_readDeed 30 = .ok (.if_icmp .ne 5, 3) := by decide +kernel
theorem dX5_readDeed_33 : decode cX5_readDeed 33 = .ok (.iconst 0, 1) := by decide +kernel
theorem dX5_readDeed_34 : decode cX5_readDeed 34 = .ok (.ireturn, 1) := by decide +kernel
theorem dX5_readDeed_35 : decode cX5_readDeed 35 = .ok (.aload_n 1, 1) := by decide +kernel
theorem dX5_readDeed_36 : decode cX5_readDeed 36 = .ok (.iload_n 2, 1) := by decide +kernel
theorem dX5_readDeed_37 : decode cX5_readDeed 37 = .ok (.iload_n 3, 1) := by decide +kernel
theorem dX5_readDeed_38 : decode cX5_readDeed 38 = .ok (.iload 4, 2) := by decide +kernel
theorem dX5_readDeed_40 : decode cX5_readDeed 40 = .ok (.invokevirtual 46, 3) := by decide +kernel
theorem dX5_readDeed_43 : decode cX5_readDeed 43 = .ok (.iconst 1, 1) := by decide +kernel
theorem dX5_readDeed_44 : decode cX5_readDeed 44 = .ok (.ireturn, 1) := by decide +kernel
set_option maxRecDepth 20000 in
theorem ggX5_deedTold_X5_wordOf : GoodIn wsX5_deedTold wsX5_wordOf := goodIn_r _ [4] (by decide +kernel) (by decide +kernel)
set_option maxRecDepth 20000 in
theorem gX5_deedTold_X5_wordOf : GoodIn wsX5_deedTold (va_wsS RX5 50 yX5_wordOf wsX5_wordOf) := goodIn_app (goodIn_of _ (by decide +kernel)) ggX5_deedTold_X5_wordOf
set_option maxRecDepth 20000 in
theorem ggX5_deedTold_X5_isWord : GoodIn wsX5_deedTold wsX5_isWord := goodIn_r _ [8, 9, 10, 11, 12, 13, 14, 15, 16, 17, 18, 19, 20, 21, 22, 23, 24, 25, 26, 27, 28, 29, 30, 31, 32, 33, 34, 35, 36, 37, 38, 39, 40, 41, 42, 43, 44, 45, 46, 47, 48, 49, 50, 51, 52, 53, 54, 55, 56, 57, 58, 59, 60, 61, 62, 63, 64, 65, 66, 67, 68, 69] (by decide +kernel) (by decide +kernel)
set_option maxRecDepth 20000 in
theorem gX5_deedTold_X5_isWord : GoodIn wsX5_deedTold (wsV RX5 54 RX5 yX5_isWord wsX5_isWord) := goodIn_app (goodIn_of _ (by decide +kernel)) ggX5_deedTold_X5_isWord
theorem dX5_deedTold_0 : decode cX5_deedTold 0 = .ok (.iconst 0, 1) := by decide +kernel
theorem dX5_deedTold_1 : decode cX5_deedTold 1 = .ok (.istore_n 1, 1) := by decide +kernel
theorem dX5_deedTold_2 : decode cX5_deedTold 2 = .ok (.iload_n 1, 1) := by decide +kernel
theorem dX5_deedTold_3 : decode cX5_deedTold 3 = .ok (.bipush 6, 2) := by decide +kernel
theorem dX5_deedTold_5 : decode cX5_deedTold 5 = .ok (.if_icmp .ge 22, 3) := by decide +kernel
theorem dX5_deedTold_8 : decode cX5_deedTold 8 = .ok (.aload_n 0, 1) := by decide +kernel
theorem dX5_deedTold_9 : decode cX5_deedTold 9 = .ok (.iload_n 1, 1) := by decide +kernel
theorem dX5_deedTold_10 : decode cX5_deedTold 10 = .ok (.invokestatic 50, 3) := by decide +kernel
theorem dX5_deedTold_13 : decode cX5_deedTold 13 = .ok (.invokevirtual 54, 3) := by decide +kernel
theorem dX5_deedTold_16 : decode cX5_deedTold 16 = .ok (.ifCond .eq 5, 3) := by decide +kernel
theorem dX5_deedTold_19 : decode cX5_deedTold 19 = .ok (.iload_n 1, 1) := by decide +kernel
theorem dX5_deedTold_20 : decode cX5_deedTold 20 = .ok (.ireturn, 1) := by decide +kernel
theorem dX5_deedTold_21 : decode cX5_deedTold 21 = .ok (.iinc 1 1, 3) := by decide +kernel
theorem dX5_deedTold_24 : decode cX5_deedTold 24 = .ok (.goto (-22), 3) := by decide +kernel
theorem dX5_deedTold_27 : decode cX5_deedTold 27 = .ok (.iconst (-1), 1) := by decide +kernel
theorem dX5_deedTold_28 : decode cX5_deedTold 28 = .ok (.ireturn, 1) := by decide +kernel
theorem dX5_wordOf_0 : decode cX5_wordOf 0 = .ok (.iload_n 0, 1) := by decide +kernel
theorem dX5_wordOf_1 : decode cX5_wordOf 1 = .ok (.tableswitch 50 0 4 #[35, 38, 41, 44, 47], 35) := by decide +kernel
theorem dX5_wordOf_36 : decode cX5_wordOf 36 = .ok (.ldc 58, 2) := by decide +kernel
theorem dX5_wordOf_38 : decode cX5_wordOf 38 = .ok (.areturn, 1) := by decide +kernel
theorem dX5_wordOf_39 : decode cX5_wordOf 39 = .ok (.ldc 60, 2) := by decide +kernel
theorem dX5_wordOf_41 : decode cX5_wordOf 41 = .ok (.areturn, 1) := by decide +kernel
theorem dX5_wordOf_42 : decode cX5_wordOf 42 = .ok (.ldc 62, 2) := by decide +kernel
theorem dX5_wordOf_44 : decode cX5_wordOf 44 = .ok (.areturn, 1) := by decide +kernel
theorem dX5_wordOf_45 : decode cX5_wordOf 45 = .ok (.ldc 64, 2) := by decide +kernel
theorem dX5_wordOf_47 : decode cX5_wordOf 47 = .ok (.areturn, 1) := by decide +kernel
theorem dX5_wordOf_48 : decode cX5_wordOf 48 = .ok (.ldc 66, 2) := by decide +kernel
theorem dX5_wordOf_50 : decode cX5_wordOf 50 = .ok (.areturn, 1) := by decide +kernel
theorem dX5_wordOf_51 : decode cX5_wordOf 51 = .ok (.ldc 68, 2) := by decide +kernel
theorem dX5_wordOf_53 : decode cX5_wordOf 53 = .ok (.areturn, 1) := by decide +kernel
set_option maxRecDepth 20000 in
theorem ggX5_valueTold_X5_oneOf : GoodIn wsX5_valueTold wsX5_oneOf := goodIn_r _ [7, 8, 9, 10, 6, 11, 1, 12, 13, 14, 15, 16, 17, 18, 19, 20, 21, 22, 23, 24, 25, 26, 27, 28, 29, 30, 31, 32, 33, 34, 35, 36, 37, 38, 39, 40, 41, 42, 43, 44, 45, 46, 47, 48, 49, 50, 51, 52, 53, 54, 55, 56, 57, 58, 59, 60, 61, 62, 63, 64, 68, 69, 70, 71, 72, 73, 74] (by decide +kernel) (by decide +kernel)
set_option maxRecDepth 20000 in
theorem gX5_valueTold_X5_oneOf : GoodIn wsX5_valueTold (wsV RX5 74 RX5 yX5_oneOf wsX5_oneOf) := goodIn_app (goodIn_of _ (by decide +kernel)) ggX5_valueTold_X5_oneOf
set_option maxRecDepth 20000 in
theorem ggX5_valueTold_X11_within : GoodIn wsX5_valueTold wsX11_within := goodIn_r _ [67] (by decide +kernel) (by decide +kernel)
set_option maxRecDepth 20000 in
theorem gX5_valueTold_X11_within_n92 : GoodIn wsX5_valueTold (wsX11_within) := ggX5_valueTold_X11_within
theorem dX5_valueTold_0 : decode cX5_valueTold 0 = .ok (.iload_n 1, 1) := by decide +kernel
theorem dX5_valueTold_1 : decode cX5_valueTold 1 = .ok (.lookupswitch 45 #[(2, 27), (3, 36)], 27) := by decide +kernel
theorem dX5_valueTold_28 : decode cX5_valueTold 28 = .ok (.aload_n 0, 1) := by decide +kernel
theorem dX5_valueTold_29 : decode cX5_valueTold 29 = .ok (.ldc 70, 2) := by decide +kernel
theorem dX5_valueTold_31 : decode cX5_valueTold 31 = .ok (.ldc 72, 2) := by decide +kernel
theorem dX5_valueTold_33 : decode cX5_valueTold 33 = .ok (.invokevirtual 74, 3) := by decide +kernel
theorem dX5_valueTold_36 : decode cX5_valueTold 36 = .ok (.ireturn, 1) := by decide +kernel
theorem dX5_valueTold_37 : decode cX5_valueTold 37 = .ok (.aload_n 0, 1) := by decide +kernel
theorem dX5_valueTold_38 : decode cX5_valueTold 38 = .ok (.ldc 78, 2) := by decide +kernel
theorem dX5_valueTold_40 : decode cX5_valueTold 40 = .ok (.ldc 80, 2) := by decide +kernel
theorem dX5_valueTold_42 : decode cX5_valueTold 42 = .ok (.invokevirtual 74, 3) := by decide +kernel
theorem dX5_valueTold_45 : decode cX5_valueTold 45 = .ok (.ireturn, 1) := by decide +kernel
theorem dX5_valueTold_46 : decode cX5_valueTold 46 = .ok (.aload_n 0, 1) := by decide +kernel
theorem dX5_valueTold_47 : decode cX5_valueTold 47 = .ok (.getfield 29, 3) := by decide +kernel
theorem dX5_valueTold_50 : decode cX5_valueTold 50 = .ok (.iconst 2, 1) := by decide +kernel
theorem dX5_valueTold_51 : decode cX5_valueTold 51 = .ok (.if_icmp .ne 27, 3) := by decide +kernel
theorem dX5_valueTold_54 : decode cX5_valueTold 54 = .ok (.aload_n 0, 1) := by decide +kernel
theorem dX5_valueTold_55 : decode cX5_valueTold 55 = .ok (.getfield 82, 3) := by decide +kernel
theorem dX5_valueTold_58 : decode cX5_valueTold 58 = .ok (.getstatic 85, 3) := by decide +kernel
theorem dX5_valueTold_61 : decode cX5_valueTold 61 = .ok (.iload_n 1, 1) := by decide +kernel
theorem dX5_valueTold_62 : decode cX5_valueTold 62 = .ok (.iaload, 1) := by decide +kernel
theorem dX5_valueTold_63 : decode cX5_valueTold 63 = .ok (.getstatic 89, 3) := by decide +kernel
theorem dX5_valueTold_66 : decode cX5_valueTold 66 = .ok (.iload_n 1, 1) := by decide +kernel
theorem dX5_valueTold_67 : decode cX5_valueTold 67 = .ok (.iaload, 1) := by decide +kernel
theorem dX5_valueTold_68 : decode cX5_valueTold 68 = .ok (.invokestatic 92, 3) := by decide +kernel
theorem dX5_valueTold_71 : decode cX5_valueTold 71 = .ok (.ifCond .eq 7, 3) := by decide +kernel
theorem dX5_valueTold_74 : decode cX5_valueTold 74 = .ok (.iconst 1, 1) := by decide +kernel
theorem dX5_valueTold_75 : decode cX5_valueTold 75 = .ok (.goto 4, 3) := by decide +kernel
theorem dX5_valueTold_78 : decode cX5_valueTold 78 = .ok (.iconst 0, 1) := by decide +kernel
theorem dX5_valueTold_79 : decode cX5_valueTold 79 = .ok (.istore_n 2, 1) := by decide +kernel
theorem dX5_valueTold_80 : decode cX5_valueTold 80 = .ok (.iload_n 2, 1) := by decide +kernel
theorem dX5_valueTold_81 : decode cX5_valueTold 81 = .ok (.ifCond .eq 10, 3) := by decide +kernel
theorem dX5_valueTold_84 : decode cX5_valueTold 84 = .ok (.aload_n 0, 1) := by decide +kernel
theorem dX5_valueTold_85 : decode cX5_valueTold 85 = .ok (.getfield 82, 3) := by decide +kernel
theorem dX5_valueTold_88 : decode cX5_valueTold 88 = .ok (.goto 4, 3) := by decide +kernel
theorem dX5_valueTold_91 : decode cX5_valueTold 91 = .ok (.iconst (-1), 1) := by decide +kernel
theorem dX5_valueTold_92 : decode cX5_valueTold 92 = .ok (.ireturn, 1) := by decide +kernel
set_option maxRecDepth 20000 in
theorem ggX5_oneOf_X5_isWord : GoodIn wsX5_oneOf wsX5_isWord := goodIn_r _ [5, 6, 7, 8, 9, 10, 11, 12, 13, 14, 15, 16, 17, 18, 19, 20, 21, 22, 23, 24, 25, 26, 27, 28, 29, 30, 31, 32, 33, 34, 35, 36, 37, 38, 39, 40, 41, 42, 43, 44, 45, 46, 47, 48, 49, 50, 51, 52, 53, 54, 55, 56, 57, 58, 59, 60, 61, 62, 63, 64, 65, 66] (by decide +kernel) (by decide +kernel)
set_option maxRecDepth 20000 in
theorem gX5_oneOf_X5_isWord : GoodIn wsX5_oneOf (wsV RX5 54 RX5 yX5_isWord wsX5_isWord) := goodIn_app (goodIn_of _ (by decide +kernel)) ggX5_oneOf_X5_isWord
theorem dX5_oneOf_0 : decode cX5_oneOf 0 = .ok (.aload_n 0, 1) := by decide +kernel
theorem dX5_oneOf_1 : decode cX5_oneOf 1 = .ok (.aload_n 1, 1) := by decide +kernel
theorem dX5_oneOf_2 : decode cX5_oneOf 2 = .ok (.invokevirtual 54, 3) := by decide +kernel
theorem dX5_oneOf_5 : decode cX5_oneOf 5 = .ok (.ifCond .eq 5, 3) := by decide +kernel
theorem dX5_oneOf_8 : decode cX5_oneOf 8 = .ok (.iconst 1, 1) := by decide +kernel
theorem dX5_oneOf_9 : decode cX5_oneOf 9 = .ok (.ireturn, 1) := by decide +kernel
theorem dX5_oneOf_10 : decode cX5_oneOf 10 = .ok (.aload_n 0, 1) := by decide +kernel
theorem dX5_oneOf_11 : decode cX5_oneOf 11 = .ok (.aload_n 2, 1) := by decide +kernel
theorem dX5_oneOf_12 : decode cX5_oneOf 12 = .ok (.invokevirtual 54, 3) := by decide +kernel
theorem dX5_oneOf_15 : decode cX5_oneOf 15 = .ok (.ifCond .eq 7, 3) := by decide +kernel
theorem dX5_oneOf_18 : decode cX5_oneOf 18 = .ok (.iconst 0, 1) := by decide +kernel
theorem dX5_oneOf_19 : decode cX5_oneOf 19 = .ok (.goto 4, 3) := by decide +kernel
theorem dX5_oneOf_22 : decode cX5_oneOf 22 = .ok (.iconst (-1), 1) := by decide +kernel
theorem dX5_oneOf_23 : decode cX5_oneOf 23 = .ok (.ireturn, 1) := by decide +kernel
set_option maxRecDepth 20000 in
theorem ggX5_isWord_J0_length_8abf5 : GoodIn wsX5_isWord wsJ0_length_8abf5 := goodIn_r _ [10, 11, 12, 13, 14, 9, 15, 16, 17] (by decide +kernel) (by decide +kernel)
set_option maxRecDepth 20000 in
theorem gX5_isWord_J0_length_8abf5 : GoodIn wsX5_isWord (wsV RX5 96 RJ0 yJ0_length_8abf5 wsJ0_length_8abf5) := goodIn_app (goodIn_of _ (by decide +kernel)) ggX5_isWord_J0_length_8abf5
set_option maxRecDepth 20000 in
theorem ggX5_isWord_J0_charAt_5068e : GoodIn wsX5_isWord wsJ0_charAt_5068e := goodIn_r _ [21, 11, 22, 23, 24, 9, 25, 16, 17, 26, 27, 28, 29, 30, 31, 32, 33, 34, 35, 36, 37, 38, 39, 40, 41, 42, 43, 44, 45, 46, 47, 48, 49, 50, 51, 52, 53, 54] (by decide +kernel) (by decide +kernel)
set_option maxRecDepth 20000 in
theorem gX5_isWord_J0_charAt_5068e : GoodIn wsX5_isWord (wsV RX5 106 RJ0 yJ0_charAt_5068e wsJ0_charAt_5068e) := goodIn_app (goodIn_of _ (by decide +kernel)) ggX5_isWord_J0_charAt_5068e
theorem dX5_isWord_0 : decode cX5_isWord 0 = .ok (.aload_n 0, 1) := by decide +kernel
theorem dX5_isWord_1 : decode cX5_isWord 1 = .ok (.getfield 29, 3) := by decide +kernel
theorem dX5_isWord_4 : decode cX5_isWord 4 = .ok (.iconst 1, 1) := by decide +kernel
theorem dX5_isWord_5 : decode cX5_isWord 5 = .ok (.if_icmp .ne 19, 3) := by decide +kernel
theorem dX5_isWord_8 : decode cX5_isWord 8 = .ok (.aload_n 0, 1) := by decide +kernel
theorem dX5_isWord_9 : decode cX5_isWord 9 = .ok (.getfield 15, 3) := by decide +kernel
theorem dX5_isWord_12 : decode cX5_isWord 12 = .ok (.aload_n 0, 1) := by decide +kernel
theorem dX5_isWord_13 : decode cX5_isWord 13 = .ok (.getfield 23, 3) := by decide +kernel
theorem dX5_isWord_16 : decode cX5_isWord 16 = .ok (.isub, 1) := by decide +kernel
theorem dX5_isWord_17 : decode cX5_isWord 17 = .ok (.aload_n 1, 1) := by decide +kernel
theorem dX5_isWord_18 : decode cX5_isWord 18 = .ok (.invokevirtual 96, 3) := by decide +kernel
theorem dX5_isWord_21 : decode cX5_isWord 21 = .ok (.if_icmp .eq 5, 3) := by decide +kernel
theorem dX5_isWord_24 : decode cX5_isWord 24 = .ok (.iconst 0, 1) := by decide +kernel
theorem dX5_isWord_25 : decode cX5_isWord 25 = .ok (.ireturn, 1) := by decide +kernel
theorem dX5_isWord_26 : decode cX5_isWord 26 = .ok (.iconst 0, 1) := by decide +kernel
theorem dX5_isWord_27 : decode cX5_isWord 27 = .ok (.istore_n 2, 1) := by decide +kernel
theorem dX5_isWord_28 : decode cX5_isWord 28 = .ok (.iload_n 2, 1) := by decide +kernel
theorem dX5_isWord_29 : decode cX5_isWord 29 = .ok (.aload_n 1, 1) := by decide +kernel
theorem dX5_isWord_30 : decode cX5_isWord 30 = .ok (.invokevirtual 96, 3) := by decide +kernel
theorem dX5_isWord_33 : decode cX5_isWord 33 = .ok (.if_icmp .ge 33, 3) := by decide +kernel
theorem dX5_isWord_36 : decode cX5_isWord 36 = .ok (.aload_n 0, 1) := by decide +kernel
theorem dX5_isWord_37 : decode cX5_isWord 37 = .ok (.getfield 9, 3) := by decide +kernel
theorem dX5_isWord_40 : decode cX5_isWord 40 = .ok (.getfield 101, 3) := by decide +kernel
theorem dX5_isWord_43 : decode cX5_isWord 43 = .ok (.aload_n 0, 1) := by decide +kernel
theorem dX5_isWord_44 : decode cX5_isWord 44 = .ok (.getfield 23, 3) := by decide +kernel
theorem dX5_isWord_47 : decode cX5_isWord 47 = .ok (.iload_n 2, 1) := by decide +kernel
theorem dX5_isWord_48 : decode cX5_isWord 48 = .ok (.iadd, 1) := by decide +kernel
theorem dX5_isWord_49 : decode cX5_isWord 49 = .ok (.iaload, 1) := by decide +kernel
theorem dX5_isWord_50 : decode cX5_isWord 50 = .ok (.aload_n 1, 1) := by decide +kernel
theorem dX5_isWord_51 : decode cX5_isWord 51 = .ok (.iload_n 2, 1) := by decide +kernel
theorem dX5_isWord_52 : decode cX5_isWord 52 = .ok (.invokevirtual 106, 3) := by decide +kernel
theorem dX5_isWord_55 : decode cX5_isWord 55 = .ok (.if_icmp .eq 5, 3) := by decide +kernel
theorem dX5_isWord_58 : decode cX5_isWord 58 = .ok (.iconst 0, 1) := by decide +kernel
theorem dX5_isWord_59 : decode cX5_isWord 59 = .ok (.ireturn, 1) := by decide +kernel
theorem dX5_isWord_60 : decode cX5_isWord 60 = .ok (.iinc 2 1, 3) := by decide +kernel
theorem dX5_isWord_63 : decode cX5_isWord 63 = .ok (.goto (-35), 3) := by decide +kernel
theorem dX5_isWord_66 : decode cX5_isWord 66 = .ok (.iconst 1, 1) := by decide +kernel
theorem dX5_isWord_67 : decode cX5_isWord 67 = .ok (.ireturn, 1) := by decide +kernel
set_option maxRecDepth 20000 in
theorem ggX5_readToken_X8_isLetter : GoodIn wsX5_readToken wsX8_isLetter := goodIn_r _ [11, 12, 13, 14, 15, 39, 40] (by decide +kernel) (by decide +kernel)
set_option maxRecDepth 20000 in
theorem gX5_readToken_X8_isLetter : GoodIn wsX5_readToken (wsV RX5 113 RX8 yX8_isLetter wsX8_isLetter) := goodIn_app (goodIn_of _ (by decide +kernel)) ggX5_readToken_X8_isLetter
set_option maxRecDepth 20000 in
theorem ggX5_readToken_X5_readWord : GoodIn wsX5_readToken wsX5_readWord := goodIn_r _ [20, 6, 1, 2, 3, 7, 8, 9, 10, 11, 12, 13, 14, 15, 34, 35, 36, 37, 38, 39, 40] (by decide +kernel) (by decide +kernel)
set_option maxRecDepth 20000 in
theorem gX5_readToken_X5_readWord : GoodIn wsX5_readToken (wsV RX5 117 RX5 yX5_readWord wsX5_readWord) := goodIn_app (goodIn_of _ (by decide +kernel)) ggX5_readToken_X5_readWord
set_option maxRecDepth 20000 in
theorem ggX5_readToken_X8_isDigit : GoodIn wsX5_readToken wsX8_isDigit := goodIn_r _ [24, 12, 13, 14, 15, 39, 40] (by decide +kernel) (by decide +kernel)
set_option maxRecDepth 20000 in
theorem gX5_readToken_X8_isDigit : GoodIn wsX5_readToken (wsV RX5 120 RX8 yX8_isDigit wsX8_isDigit) := goodIn_app (goodIn_of _ (by decide +kernel)) ggX5_readToken_X8_isDigit
set_option maxRecDepth 20000 in
theorem ggX5_readToken_X5_readNumber : GoodIn wsX5_readToken wsX5_readNumber := goodIn_r _ [28, 6, 29, 1, 2, 3, 4, 30, 31, 32, 33, 21, 22, 23, 10, 24, 12, 13, 14, 15, 34, 35, 36, 37, 38, 39, 40] (by decide +kernel) (by decide +kernel)
set_option maxRecDepth 20000 in
theorem gX5_readToken_X5_readNumber : GoodIn wsX5_readToken (wsV RX5 123 RX5 yX5_readNumber wsX5_readNumber) := goodIn_app (goodIn_of _ (by decide +kernel)) ggX5_readToken_X5_readNumber
theorem dX5_readToken_0 : decode cX5_readToken 0 = .ok (.aload_n 0, 1) := by decide +kernel
theorem dX5_readToken_1 : decode cX5_readToken 1 = .ok (.getfield 15, 3) := by decide +kernel
theorem dX5_readToken_4 : decode cX5_readToken 4 = .ok (.aload_n 0, 1) := by decide +kernel
theorem dX5_readToken_5 : decode cX5_readToken 5 = .ok (.getfield 9, 3) := by decide +kernel
theorem dX5_readToken_8 : decode cX5_readToken 8 = .ok (.getfield 110, 3) := by decide +kernel
theorem dX5_readToken_11 : decode cX5_readToken 11 = .ok (.if_icmp .ge 33, 3) := by decide +kernel
theorem dX5_readToken_14 : decode cX5_readToken 14 = .ok (.aload_n 0, 1) := by decide +kernel
theorem dX5_readToken_15 : decode cX5_readToken 15 = .ok (.getfield 9, 3) := by decide +kernel
theorem dX5_readToken_18 : decode cX5_readToken 18 = .ok (.getfield 101, 3) := by decide +kernel
theorem dX5_readToken_21 : decode cX5_readToken 21 = .ok (.aload_n 0, 1) := by decide +kernel
theorem dX5_readToken_22 : decode cX5_readToken 22 = .ok (.getfield 15, 3) := by decide +kernel
theorem dX5_readToken_25 : decode cX5_readToken 25 = .ok (.iaload, 1) := by decide +kernel
theorem dX5_readToken_26 : decode cX5_readToken 26 = .ok (.bipush 32, 2) := by decide +kernel
theorem dX5_readToken_28 : decode cX5_readToken 28 = .ok (.if_icmp .ne 16, 3) := by decide +kernel
theorem dX5_readToken_31 : decode cX5_readToken 31 = .ok (.aload_n 0, 1) := by decide +kernel
theorem dX5_readToken_32 : decode cX5_readToken 32 = .ok (.dup, 1) := by decide +kernel
theorem dX5_readToken_33 : decode cX5_readToken 33 = .ok (.getfield 15, 3) := by decide +kernel
theorem dX5_readToken_36 : decode cX5_readToken 36 = .ok (.iconst 1, 1) := by decide +kernel
theorem dX5_readToken_37 : decode cX5_readToken 37 = .ok (.iadd, 1) := by decide +kernel
theorem dX5_readToken_38 : decode cX5_readToken 38 = .ok (.putfield 15, 3) := by decide +kernel
theorem dX5_readToken_41 : decode cX5_readToken 41 = .ok (.goto (-41), 3) := by decide +kernel
theorem dX5_readToken_44 : decode cX5_readToken 44 = .ok (.aload_n 0, 1) := by decide +kernel
theorem dX5_readToken_45 : decode cX5_readToken 45 = .ok (.aload_n 0, 1) := by decide +kernel
theorem dX5_readToken_46 : decode cX5_readToken 46 = .ok (.getfield 15, 3) := by decide +kernel
theorem dX5_readToken_49 : decode cX5_readToken 49 = .ok (.putfield 23, 3) := by decide +kernel
theorem dX5_readToken_52 : decode cX5_readToken 52 = .ok (.aload_n 0, 1) := by decide +kernel
theorem dX5_readToken_53 : decode cX5_readToken 53 = .ok (.getfield 23, 3) := by decide +kernel
theorem dX5_readToken_56 : decode cX5_readToken 56 = .ok (.aload_n 0, 1) := by decide +kernel
theorem dX5_readToken_57 : decode cX5_readToken 57 = .ok (.getfield 9, 3) := by decide +kernel
theorem dX5_readToken_60 : decode cX5_readToken 60 = .ok (.getfield 110, 3) := by decide +kernel
theorem dX5_readToken_63 : decode cX5_readToken 63 = .ok (.if_icmp .lt 11, 3) := by decide +kernel
theorem dX5_readToken_66 : decode cX5_readToken 66 = .ok (.aload_n 0, 1) := by decide +kernel
theorem dX5_readToken_67 : decode cX5_readToken 67 = .ok (.iconst 0, 1) := by decide +kernel
theorem dX5_readToken_68 : decode cX5_readToken 68 = .ok (.putfield 29, 3) := by decide +kernel
theorem dX5_readToken_71 : decode cX5_readToken 71 = .ok (.goto 81, 3) := by decide +kernel
theorem dX5_readToken_74 : decode cX5_readToken 74 = .ok (.aload_n 0, 1) := by decide +kernel
theorem dX5_readToken_75 : decode cX5_readToken 75 = .ok (.getfield 9, 3) := by decide +kernel
theorem dX5_readToken_78 : decode cX5_readToken 78 = .ok (.aload_n 0, 1) := by decide +kernel
theorem dX5_readToken_79 : decode cX5_readToken 79 = .ok (.getfield 23, 3) := by decide +kernel
theorem dX5_readToken_82 : decode cX5_readToken 82 = .ok (.invokevirtual 113, 3) := by decide +kernel
theorem dX5_readToken_85 : decode cX5_readToken 85 = .ok (.ifCond .eq 10, 3) := by decide +kernel
theorem dX5_readToken_88 : decode cX5_readToken 88 = .ok (.aload_n 0, 1) := by decide +kernel
theorem dX5_readToken_89 : decode cX5_readToken 89 = .ok (.invokevirtual 117, 3) := by decide +kernel
theorem dX5_readToken_92 : decode cX5_readToken 92 = .ok (.goto 60, 3) := by decide +kernel
theorem dX5_readToken_95 : decode cX5_readToken 95 = .ok (.aload_n 0, 1) := by decide +kernel
theorem dX5_readToken_96 : decode cX5_readToken 96 = .ok (.getfield 9, 3) := by decide +kernel
theorem dX5_readToken_99 : decode cX5_readToken 99 = .ok (.aload_n 0, 1) := by decide +kernel
theorem dX5_readToken_100 : decode cX5_readToken 100 = .ok (.getfield 23, 3) := by decide +kernel
theorem dX5_readToken_103 : decode cX5_readToken 103 = .ok (.invokevirtual 120, 3) := by decide +kernel
theorem dX5_readToken_106 : decode cX5_readToken 106 = .ok (.ifCond .eq 10, 3) := by decide +kernel
theorem dX5_readToken_109 : decode cX5_readToken 109 = .ok (.aload_n 0, 1) := by decide +kernel
theorem dX5_readToken_110 : decode cX5_readToken 110 = .ok (.invokevirtual 123, 3) := by decide +kernel
theorem dX5_readToken_113 : decode cX5_readToken 113 = .ok (.goto 39, 3) := by decide +kernel
theorem dX5_readToken_116 : decode cX5_readToken 116 = .ok (.aload_n 0, 1) := by decide +kernel
theorem dX5_readToken_117 : decode cX5_readToken 117 = .ok (.aload_n 0, 1) := by decide +kernel
theorem dX5_readToken_118 : decode cX5_readToken 118 = .ok (.getfield 9, 3) := by decide +kernel
theorem dX5_readToken_121 : decode cX5_readToken 121 = .ok (.getfield 101, 3) := by decide +kernel
theorem dX5_readToken_124 : decode cX5_readToken 124 = .ok (.aload_n 0, 1) := by decide +kernel
theorem dX5_readToken_125 : decode cX5_readToken 125 = .ok (.getfield 23, 3) := by decide +kernel
theorem dX5_readToken_128 : decode cX5_readToken 128 = .ok (.iaload, 1) := by decide +kernel
theorem dX5_readToken_129 : decode cX5_readToken 129 = .ok (.bipush 59, 2) := by decide +kernel
theorem dX5_readToken_131 : decode cX5_readToken 131 = .ok (.if_icmp .ne 7, 3) := by decide +kernel
theorem dX5_readToken_134 : decode cX5_readToken 134 = .ok (.iconst 3, 1) := by decide +kernel
theorem dX5_readToken_135 : decode cX5_readToken 135 = .ok (.goto 4, 3) := by decide +kernel
theorem dX5_readToken_138 : decode cX5_readToken 138 = .ok (.iconst 4, 1) := by decide +kernel
theorem dX5_readToken_139 : decode cX5_readToken 139 = .ok (.putfield 29, 3) := by decide +kernel
theorem dX5_readToken_142 : decode cX5_readToken 142 = .ok (.aload_n 0, 1) := by decide +kernel
theorem dX5_readToken_143 : decode cX5_readToken 143 = .ok (.dup, 1) := by decide +kernel
theorem dX5_readToken_144 : decode cX5_readToken 144 = .ok (.getfield 15, 3) := by decide +kernel
theorem dX5_readToken_147 : decode cX5_readToken 147 = .ok (.iconst 1, 1) := by decide +kernel
theorem dX5_readToken_148 : decode cX5_readToken 148 = .ok (.iadd, 1) := by decide +kernel
theorem dX5_readToken_149 : decode cX5_readToken 149 = .ok (.putfield 15, 3) := by decide +kernel
theorem dX5_readToken_152 : decode cX5_readToken 152 = .ok (.return_, 1) := by decide +kernel
set_option maxRecDepth 20000 in
theorem ggX5_readWord_X8_isLetter : GoodIn wsX5_readWord wsX8_isLetter := goodIn_r _ [9, 10, 11, 12, 13, 19, 20] (by decide +kernel) (by decide +kernel)
set_option maxRecDepth 20000 in
theorem gX5_readWord_X8_isLetter : GoodIn wsX5_readWord (wsV RX5 113 RX8 yX8_isLetter wsX8_isLetter) := goodIn_app (goodIn_of _ (by decide +kernel)) ggX5_readWord_X8_isLetter
theorem dX5_readWord_0 : decode cX5_readWord 0 = .ok (.aload_n 0, 1) := by decide +kernel
theorem dX5_readWord_1 : decode cX5_readWord 1 = .ok (.iconst 1, 1) := by decide +kernel
theorem dX5_readWord_2 : decode cX5_readWord 2 = .ok (.putfield 29, 3) := by decide +kernel
theorem dX5_readWord_5 : decode cX5_readWord 5 = .ok (.aload_n 0, 1) := by decide +kernel
theorem dX5_readWord_6 : decode cX5_readWord 6 = .ok (.getfield 15, 3) := by decide +kernel
theorem dX5_readWord_9 : decode cX5_readWord 9 = .ok (.aload_n 0, 1) := by decide +kernel
theorem dX5_readWord_10 : decode cX5_readWord 10 = .ok (.getfield 9, 3) := by decide +kernel
theorem dX5_readWord_13 : decode cX5_readWord 13 = .ok (.getfield 110, 3) := by decide +kernel
theorem dX5_readWord_16 : decode cX5_readWord 16 = .ok (.if_icmp .ge 30, 3) := by decide +kernel
theorem dX5_readWord_19 : decode cX5_readWord 19 = .ok (.aload_n 0, 1) := by decide +kernel
theorem dX5_readWord_20 : decode cX5_readWord 20 = .ok (.getfield 9, 3) := by decide +kernel
theorem dX5_readWord_23 : decode cX5_readWord 23 = .ok (.aload_n 0, 1) := by decide +kernel
theorem dX5_readWord_24 : decode cX5_readWord 24 = .ok (.getfield 15, 3) := by decide +kernel
theorem dX5_readWord_27 : decode cX5_readWord 27 = .ok (.invokevirtual 113, 3) := by decide +kernel
theorem dX5_readWord_30 : decode cX5_readWord 30 = .ok (.ifCond .eq 16, 3) := by decide +kernel
theorem dX5_readWord_33 : decode cX5_readWord 33 = .ok (.aload_n 0, 1) := by decide +kernel
theorem dX5_readWord_34 : decode cX5_readWord 34 = .ok (.dup, 1) := by decide +kernel
theorem dX5_readWord_35 : decode cX5_readWord 35 = .ok (.getfield 15, 3) := by decide +kernel
theorem dX5_readWord_38 : decode cX5_readWord 38 = .ok (.iconst 1, 1) := by decide +kernel
theorem dX5_readWord_39 : decode cX5_readWord 39 = .ok (.iadd, 1) := by decide +kernel
theorem dX5_readWord_40 : decode cX5_readWord 40 = .ok (.putfield 15, 3) := by decide +kernel
theorem dX5_readWord_43 : decode cX5_readWord 43 = .ok (.goto (-38), 3) := by decide +kernel
theorem dX5_readWord_46 : decode cX5_readWord 46 = .ok (.return_, 1) := by decide +kernel
set_option maxRecDepth 20000 in
theorem ggX5_readNumber_X8_isDigit : GoodIn wsX5_readNumber wsX8_isDigit := goodIn_r _ [15, 16, 17, 18, 19, 25, 26] (by decide +kernel) (by decide +kernel)
set_option maxRecDepth 20000 in
theorem gX5_readNumber_X8_isDigit : GoodIn wsX5_readNumber (wsV RX5 120 RX8 yX8_isDigit wsX8_isDigit) := goodIn_app (goodIn_of _ (by decide +kernel)) ggX5_readNumber_X8_isDigit
theorem dX5_readNumber_0 : decode cX5_readNumber 0 = .ok (.aload_n 0, 1) := by decide +kernel
theorem dX5_readNumber_1 : decode cX5_readNumber 1 = .ok (.iconst 2, 1) := by decide +kernel
theorem dX5_readNumber_2 : decode cX5_readNumber 2 = .ok (.putfield 29, 3) := by decide +kernel
theorem dX5_readNumber_5 : decode cX5_readNumber 5 = .ok (.aload_n 0, 1) := by decide +kernel
theorem dX5_readNumber_6 : decode cX5_readNumber 6 = .ok (.iconst 0, 1) := by decide +kernel
theorem dX5_readNumber_7 : decode cX5_readNumber 7 = .ok (.putfield 82, 3) := by decide +kernel
theorem dX5_readNumber_10 : decode cX5_readNumber 10 = .ok (.aload_n 0, 1) := by decide +kernel
theorem dX5_readNumber_11 : decode cX5_readNumber 11 = .ok (.getfield 15, 3) := by decide +kernel
theorem dX5_readNumber_14 : decode cX5_readNumber 14 = .ok (.aload_n 0, 1) := by decide +kernel
theorem dX5_readNumber_15 : decode cX5_readNumber 15 = .ok (.getfield 9, 3) := by decide +kernel
theorem dX5_readNumber_18 : decode cX5_readNumber 18 = .ok (.getfield 110, 3) := by decide +kernel
theorem dX5_readNumber_21 : decode cX5_readNumber 21 = .ok (.if_icmp .ge 63, 3) := by decide +kernel
theorem dX5_readNumber_24 : decode cX5_readNumber 24 = .ok (.aload_n 0, 1) := by decide +kernel
theorem dX5_readNumber_25 : decode cX5_readNumber 25 = .ok (.getfield 9, 3) := by decide +kernel
theorem dX5_readNumber_28 : decode cX5_readNumber 28 = .ok (.aload_n 0, 1) := by decide +kernel
theorem dX5_readNumber_29 : decode cX5_readNumber 29 = .ok (.getfield 15, 3) := by decide +kernel
theorem dX5_readNumber_32 : decode cX5_readNumber 32 = .ok (.invokevirtual 120, 3) := by decide +kernel
theorem dX5_readNumber_35 : decode cX5_readNumber 35 = .ok (.ifCond .eq 49, 3) := by decide +kernel
theorem dX5_readNumber_38 : decode cX5_readNumber 38 = .ok (.aload_n 0, 1) := by decide +kernel
theorem dX5_readNumber_39 : decode cX5_readNumber 39 = .ok (.sipush 1000, 3) := by decide +kernel
theorem dX5_readNumber_42 : decode cX5_readNumber 42 = .ok (.aload_n 0, 1) := by decide +kernel
theorem dX5_readNumber_43 : decode cX5_readNumber 43 = .ok (.getfield 82, 3) := by decide +kernel
theorem dX5_readNumber_46 : decode cX5_readNumber 46 = .ok (.bipush 10, 2) := by decide +kernel
theorem dX5_readNumber_48 : decode cX5_readNumber 48 = .ok (.imul, 1) := by decide +kernel
theorem dX5_readNumber_49 : decode cX5_readNumber 49 = .ok (.aload_n 0, 1) := by decide +kernel
theorem dX5_readNumber_50 : decode cX5_readNumber 50 = .ok (.getfield 9, 3) := by decide +kernel
theorem dX5_readNumber_53 : decode cX5_readNumber 53 = .ok (.getfield 101, 3) := by decide +kernel
theorem dX5_readNumber_56 : decode cX5_readNumber 56 = .ok (.aload_n 0, 1) := by decide +kernel
theorem dX5_readNumber_57 : decode cX5_readNumber 57 = .ok (.getfield 15, 3) := by decide +kernel
theorem dX5_readNumber_60 : decode cX5_readNumber 60 = .ok (.iaload, 1) := by decide +kernel
theorem dX5_readNumber_61 : decode cX5_readNumber 61 = .ok (.iadd, 1) := by decide +kernel
theorem dX5_readNumber_62 : decode cX5_readNumber 62 = .ok (.bipush 48, 2) := by decide +kernel
theorem dX5_readNumber_64 : decode cX5_readNumber 64 = .ok (.isub, 1) := by decide +kernel
theorem dX5_readNumber_65 : decode cX5_readNumber 65 = .ok (.invokestatic 126, 3) := by decide +kernel
theorem dX5_readNumber_68 : decode cX5_readNumber 68 = .ok (.putfield 82, 3) := by decide +kernel
theorem dX5_readNumber_71 : decode cX5_readNumber 71 = .ok (.aload_n 0, 1) := by decide +kernel
theorem dX5_readNumber_72 : decode cX5_readNumber 72 = .ok (.dup, 1) := by decide +kernel
theorem dX5_readNumber_73 : decode cX5_readNumber 73 = .ok (.getfield 15, 3) := by decide +kernel
theorem dX5_readNumber_76 : decode cX5_readNumber 76 = .ok (.iconst 1, 1) := by decide +kernel
theorem dX5_readNumber_77 : decode cX5_readNumber 77 = .ok (.iadd, 1) := by decide +kernel
theorem dX5_readNumber_78 : decode cX5_readNumber 78 = .ok (.putfield 15, 3) := by decide +kernel
theorem dX5_readNumber_81 : decode cX5_readNumber 81 = .ok (.goto (-71), 3) := by decide +kernel
theorem dX5_readNumber_84 : decode cX5_readNumber 84 = .ok (.return_, 1) := by decide +kernel
theorem dX6_init_0 : decode cX6_init 0 = .ok (.aload_n 0, 1) := by decide +kernel
theorem dX6_init_1 : decode cX6_init 1 = .ok (.invokespecial 3, 3) := by decide +kernel
theorem dX6_init_4 : decode cX6_init 4 = .ok (.aload_n 0, 1) := by decide +kernel
theorem dX6_init_5 : decode cX6_init 5 = .ok (.bipush 40, 2) := by decide +kernel
theorem dX6_init_7 : decode cX6_init 7 = .ok (.newarray .int, 2) := by decide +kernel
theorem dX6_init_9 : decode cX6_init 9 = .ok (.putfield 9, 3) := by decide +kernel
theorem dX6_init_12 : decode cX6_init 12 = .ok (.return_, 1) := by decide +kernel
theorem dX6_isMissing_0 : decode cX6_isMissing 0 = .ok (.aload_n 0, 1) := by decide +kernel
theorem dX6_isMissing_1 : decode cX6_isMissing 1 = .ok (.getfield 15, 3) := by decide +kernel
theorem dX6_isMissing_4 : decode cX6_isMissing 4 = .ok (.ifCond .ne 7, 3) := by decide +kernel
theorem dX6_isMissing_7 : decode cX6_isMissing 7 = .ok (.iconst 1, 1) := by decide +kernel
theorem dX6_isMissing_8 : decode cX6_isMissing 8 = .ok (.goto 4, 3) := by decide +kernel
theorem dX6_isMissing_11 : decode cX6_isMissing 11 = .ok (.iconst 0, 1) := by decide +kernel
theorem dX6_isMissing_12 : decode cX6_isMissing 12 = .ok (.ireturn, 1) := by decide +kernel
set_option maxRecDepth 20000 in
theorem ggX6_layOut_J7_fill_53178 : GoodIn wsX6_layOut wsJ7_fill_53178 := goodIn_r _ [7] (by decide +kernel) (by decide +kernel)
set_option maxRecDepth 20000 in
theorem gX6_layOut_J7_fill_53178 : GoodIn wsX6_layOut (va_wsS RX6 22 yJ7_fill_53178 wsJ7_fill_53178) := goodIn_app (goodIn_of _ (by decide +kernel)) ggX6_layOut_J7_fill_53178
theorem dX6_layOut_0 : decode cX6_layOut 0 = .ok (.aload_n 0, 1) := by decide +kernel
theorem dX6_layOut_1 : decode cX6_layOut 1 = .ok (.iload_n 1, 1) := by decide +kernel
theorem dX6_layOut_2 : decode cX6_layOut 2 = .ok (.putfield 15, 3) := by decide +kernel
theorem dX6_layOut_5 : decode cX6_layOut 5 = .ok (.aload_n 0, 1) := by decide +kernel
theorem dX6_layOut_6 : decode cX6_layOut 6 = .ok (.iload_n 1, 1) := by decide +kernel
theorem dX6_layOut_7 : decode cX6_layOut 7 = .ok (.ifCond .ne 7, 3) := by decide +kernel
theorem dX6_layOut_10 : decode cX6_layOut 10 = .ok (.iconst 0, 1) := by decide +kernel
theorem dX6_layOut_11 : decode cX6_layOut 11 = .ok (.goto 4, 3) := by decide +kernel
theorem dX6_layOut_14 : decode cX6_layOut 14 = .ok (.iload_n 2, 1) := by decide +kernel
theorem dX6_layOut_15 : decode cX6_layOut 15 = .ok (.putfield 19, 3) := by decide +kernel
theorem dX6_layOut_18 : decode cX6_layOut 18 = .ok (.aload_n 0, 1) := by decide +kernel
theorem dX6_layOut_19 : decode cX6_layOut 19 = .ok (.getfield 9, 3) := by decide +kernel
theorem dX6_layOut_22 : decode cX6_layOut 22 = .ok (.iconst 0, 1) := by decide +kernel
theorem dX6_layOut_23 : decode cX6_layOut 23 = .ok (.invokestatic 22, 3) := by decide +kernel
theorem dX6_layOut_26 : decode cX6_layOut 26 = .ok (.return_, 1) := by decide +kernel
theorem dX6_put_0 : decode cX6_put 0 = .ok (.aload_n 0, 1) := by decide +kernel
theorem dX6_put_1 : decode cX6_put 1 = .ok (.getfield 15, 3) := by decide +kernel
theorem dX6_put_4 : decode cX6_put 4 = .ok (.lookupswitch 50 #[(8, 28), (16, 39)], 28) := by decide +kernel
theorem dX6_put_32 : decode cX6_put 32 = .ok (.aload_n 0, 1) := by decide +kernel
theorem dX6_put_33 : decode cX6_put 33 = .ok (.getfield 9, 3) := by decide +kernel
theorem dX6_put_36 : decode cX6_put 36 = .ok (.iload_n 1, 1) := by decide +kernel
theorem dX6_put_37 : decode cX6_put 37 = .ok (.iload_n 2, 1) := by decide +kernel
theorem dX6_put_38 : decode cX6_put 38 = .ok (.i2b, 1) := by decide +kernel
theorem dX6_put_39 : decode cX6_put 39 = .ok (.iastore, 1) := by decide +kernel
theorem dX6_put_40 : decode cX6_put 40 = .ok (.goto 21, 3) := by decide +kernel
theorem dX6_put_43 : decode cX6_put 43 = .ok (.aload_n 0, 1) := by decide +kernel
theorem dX6_put_44 : decode cX6_put 44 = .ok (.getfield 9, 3) := by decide +kernel
theorem dX6_put_47 : decode cX6_put 47 = .ok (.iload_n 1, 1) := by decide +kernel
theorem dX6_put_48 : decode cX6_put 48 = .ok (.iload_n 2, 1) := by decide +kernel
theorem dX6_put_49 : decode cX6_put 49 = .ok (.i2s, 1) := by decide +kernel
theorem dX6_put_50 : decode cX6_put 50 = .ok (.iastore, 1) := by decide +kernel
theorem dX6_put_51 : decode cX6_put 51 = .ok (.goto 10, 3) := by decide +kernel
theorem dX6_put_54 : decode cX6_put 54 = .ok (.aload_n 0, 1) := by decide +kernel
theorem dX6_put_55 : decode cX6_put 55 = .ok (.getfield 9, 3) := by decide +kernel
theorem dX6_put_58 : decode cX6_put 58 = .ok (.iload_n 1, 1) := by decide +kernel
theorem dX6_put_59 : decode cX6_put 59 = .ok (.iload_n 2, 1) := by decide +kernel
theorem dX6_put_60 : decode cX6_put 60 = .ok (.iastore, 1) := by decide +kernel
theorem dX6_put_61 : decode cX6_put 61 = .ok (.return_, 1) := by decide +kernel
theorem dX6_hasRange_0 : decode cX6_hasRange 0 = .ok (.iload_n 1, 1) := by decide +kernel
theorem dX6_hasRange_1 : decode cX6_hasRange 1 = .ok (.ifCond .lt 29, 3) := by decide +kernel
theorem dX6_hasRange_4 : decode cX6_hasRange 4 = .ok (.iload_n 2, 1) := by decide +kernel
theorem dX6_hasRange_5 : decode cX6_hasRange 5 = .ok (.ifCond .lt 25, 3) := by decide +kernel
theorem dX6_hasRange_8 : decode cX6_hasRange 8 = .ok (.iload_n 1, 1) := by decide +kernel
theorem dX6_hasRange_9 : decode cX6_hasRange 9 = .ok (.aload_n 0, 1) := by decide +kernel
theorem dX6_hasRange_10 : decode cX6_hasRange 10 = .ok (.getfield 19, 3) := by decide +kernel
theorem dX6_hasRange_13 : decode cX6_hasRange 13 = .ok (.if_icmp .gt 17, 3) := by decide +kernel
theorem dX6_hasRange_16 : decode cX6_hasRange 16 = .ok (.iload_n 2, 1) := by decide +kernel
theorem dX6_hasRange_17 : decode cX6_hasRange 17 = .ok (.aload_n 0, 1) := by decide +kernel
theorem dX6_hasRange_18 : decode cX6_hasRange 18 = .ok (.getfield 19, 3) := by decide +kernel
theorem dX6_hasRange_21 : decode cX6_hasRange 21 = .ok (.iload_n 1, 1) := by decide +kernel
theorem dX6_hasRange_22 : decode cX6_hasRange 22 = .ok (.isub, 1) := by decide +kernel
theorem dX6_hasRange_23 : decode cX6_hasRange 23 = .ok (.if_icmp .gt 7, 3) := by decide +kernel
theorem dX6_hasRange_26 : decode cX6_hasRange 26 = .ok (.iconst 1, 1) := by decide +kernel
theorem dX6_hasRange_27 : decode cX6_hasRange 27 = .ok (.goto 4, 3) := by decide +kernel
theorem dX6_hasRange_30 : decode cX6_hasRange 30 = .ok (.iconst 0, 1) := by decide +kernel
theorem dX6_hasRange_31 : decode cX6_hasRange 31 = .ok (.ireturn, 1) := by decide +kernel
theorem dX7_init_0 : decode cX7_init 0 = .ok (.aload_n 0, 1) := by decide +kernel
theorem dX7_init_1 : decode cX7_init 1 = .ok (.invokespecial 3, 3) := by decide +kernel
theorem dX7_init_4 : decode cX7_init 4 = .ok (.aload_n 0, 1) := by decide +kernel
theorem dX7_init_5 : decode cX7_init 5 = .ok (.bipush 6, 2) := by decide +kernel
theorem dX7_init_7 : decode cX7_init 7 = .ok (.newarray .int, 2) := by decide +kernel
theorem dX7_init_9 : decode cX7_init 9 = .ok (.putfield 9, 3) := by decide +kernel
theorem dX7_init_12 : decode cX7_init 12 = .ok (.aload_n 0, 1) := by decide +kernel
theorem dX7_init_13 : decode cX7_init 13 = .ok (.bipush 72, 2) := by decide +kernel
theorem dX7_init_15 : decode cX7_init 15 = .ok (.newarray .int, 2) := by decide +kernel
theorem dX7_init_17 : decode cX7_init 17 = .ok (.putfield 15, 3) := by decide +kernel
theorem dX7_init_20 : decode cX7_init 20 = .ok (.aload_n 0, 1) := by decide +kernel
theorem dX7_init_21 : decode cX7_init 21 = .ok (.bipush 72, 2) := by decide +kernel
theorem dX7_init_23 : decode cX7_init 23 = .ok (.newarray .int, 2) := by decide +kernel
theorem dX7_init_25 : decode cX7_init 25 = .ok (.putfield 18, 3) := by decide +kernel
theorem dX7_init_28 : decode cX7_init 28 = .ok (.return_, 1) := by decide +kernel
theorem dX7_putNext_0 : decode cX7_putNext 0 = .ok (.aload_n 0, 1) := by decide +kernel
theorem dX7_putNext_1 : decode cX7_putNext 1 = .ok (.getfield 15, 3) := by decide +kernel
theorem dX7_putNext_4 : decode cX7_putNext 4 = .ok (.aload_n 0, 1) := by decide +kernel
theorem dX7_putNext_5 : decode cX7_putNext 5 = .ok (.getfield 21, 3) := by decide +kernel
theorem dX7_putNext_8 : decode cX7_putNext 8 = .ok (.bipush 12, 2) := by decide +kernel
theorem dX7_putNext_10 : decode cX7_putNext 10 = .ok (.imul, 1) := by decide +kernel
theorem dX7_putNext_11 : decode cX7_putNext 11 = .ok (.iload_n 1, 1) := by decide +kernel
theorem dX7_putNext_12 : decode cX7_putNext 12 = .ok (.iadd, 1) := by decide +kernel
theorem dX7_putNext_13 : decode cX7_putNext 13 = .ok (.iload_n 2, 1) := by decide +kernel
theorem dX7_putNext_14 : decode cX7_putNext 14 = .ok (.iastore, 1) := by decide +kernel
theorem dX7_putNext_15 : decode cX7_putNext 15 = .ok (.aload_n 0, 1) := by decide +kernel
theorem dX7_putNext_16 : decode cX7_putNext 16 = .ok (.getfield 18, 3) := by decide +kernel
theorem dX7_putNext_19 : decode cX7_putNext 19 = .ok (.aload_n 0, 1) := by decide +kernel
theorem dX7_putNext_20 : decode cX7_putNext 20 = .ok (.getfield 21, 3) := by decide +kernel
theorem dX7_putNext_23 : decode cX7_putNext 23 = .ok (.bipush 12, 2) := by decide +kernel
theorem dX7_putNext_25 : decode cX7_putNext 25 = .ok (.imul, 1) := by decide +kernel
theorem dX7_putNext_26 : decode cX7_putNext 26 = .ok (.iload_n 1, 1) := by decide +kernel
theorem dX7_putNext_27 : decode cX7_putNext 27 = .ok (.iadd, 1) := by decide +kernel
theorem dX7_putNext_28 : decode cX7_putNext 28 = .ok (.iload_n 3, 1) := by decide +kernel
theorem dX7_putNext_29 : decode cX7_putNext 29 = .ok (.iastore, 1) := by decide +kernel
theorem dX7_putNext_30 : decode cX7_putNext 30 = .ok (.return_, 1) := by decide +kernel
theorem dX7_addNext_0 : decode cX7_addNext 0 = .ok (.aload_n 0, 1) := by decide +kernel
theorem dX7_addNext_1 : decode cX7_addNext 1 = .ok (.getfield 9, 3) := by decide +kernel
theorem dX7_addNext_4 : decode cX7_addNext 4 = .ok (.aload_n 0, 1) := by decide +kernel
theorem dX7_addNext_5 : decode cX7_addNext 5 = .ok (.getfield 21, 3) := by decide +kernel
theorem dX7_addNext_8 : decode cX7_addNext 8 = .ok (.iload_n 1, 1) := by decide +kernel
theorem dX7_addNext_9 : decode cX7_addNext 9 = .ok (.iastore, 1) := by decide +kernel
theorem dX7_addNext_10 : decode cX7_addNext 10 = .ok (.aload_n 0, 1) := by decide +kernel
theorem dX7_addNext_11 : decode cX7_addNext 11 = .ok (.dup, 1) := by decide +kernel
theorem dX7_addNext_12 : decode cX7_addNext 12 = .ok (.getfield 21, 3) := by decide +kernel
theorem dX7_addNext_15 : decode cX7_addNext 15 = .ok (.iconst 1, 1) := by decide +kernel
theorem dX7_addNext_16 : decode cX7_addNext 16 = .ok (.iadd, 1) := by decide +kernel
theorem dX7_addNext_17 : decode cX7_addNext 17 = .ok (.putfield 21, 3) := by decide +kernel
theorem dX7_addNext_20 : decode cX7_addNext 20 = .ok (.return_, 1) := by decide +kernel
theorem dX7_minutesOf_0 : decode cX7_minutesOf 0 = .ok (.iconst 0, 1) := by decide +kernel
theorem dX7_minutesOf_1 : decode cX7_minutesOf 1 = .ok (.istore_n 2, 1) := by decide +kernel
theorem dX7_minutesOf_2 : decode cX7_minutesOf 2 = .ok (.iload_n 1, 1) := by decide +kernel
theorem dX7_minutesOf_3 : decode cX7_minutesOf 3 = .ok (.bipush 12, 2) := by decide +kernel
theorem dX7_minutesOf_5 : decode cX7_minutesOf 5 = .ok (.imul, 1) := by decide +kernel
theorem dX7_minutesOf_6 : decode cX7_minutesOf 6 = .ok (.istore_n 3, 1) := by decide +kernel
theorem dX7_minutesOf_7 : decode cX7_minutesOf 7 = .ok (.iload_n 3, 1) := by decide +kernel
theorem dX7_minutesOf_8 : decode cX7_minutesOf 8 = .ok (.istore 4, 2) := by decide +kernel
theorem dX7_minutesOf_10 : decode cX7_minutesOf 10 = .ok (.iload 4, 2) := by decide +kernel
theorem dX7_minutesOf_12 : decode cX7_minutesOf 12 = .ok (.iload_n 3, 1) := by decide +kernel
theorem dX7_minutesOf_13 : decode cX7_minutesOf 13 = .ok (.aload_n 0, 1) := by decide +kernel
theorem dX7_minutesOf_14 : decode cX7_minutesOf 14 = .ok (.getfield 9, 3) := by decide +kernel
theorem dX7_minutesOf_17 : decode cX7_minutesOf 17 = .ok (.iload_n 1, 1) := by decide +kernel
theorem dX7_minutesOf_18 : decode cX7_minutesOf 18 = .ok (.iaload, 1) := by decide +kernel
theorem dX7_minutesOf_19 : decode cX7_minutesOf 19 = .ok (.iadd, 1) := by decide +kernel
theorem dX7_minutesOf_20 : decode cX7_minutesOf 20 = .ok (.if_icmp .ge 30, 3) := by decide +kernel
theorem dX7_minutesOf_23 : decode cX7_minutesOf 23 = .ok (.aload_n 0, 1) := by decide +kernel
theorem dX7_minutesOf_24 : decode cX7_minutesOf 24 = .ok (.getfield 15, 3) := by decide +kernel
theorem dX7_minutesOf_27 : decode cX7_minutesOf 27 = .ok (.iload 4, 2) := by decide +kernel
theorem dX7_minutesOf_29 : decode cX7_minutesOf 29 = .ok (.iaload, 1) := by decide +kernel
theorem dX7_minutesOf_30 : decode cX7_minutesOf 30 = .ok (.iconst 1, 1) := by decide +kernel
theorem dX7_minutesOf_31 : decode cX7_minutesOf 31 = .ok (.if_icmp .ne 13, 3) := by decide +kernel
theorem dX7_minutesOf_34 : decode cX7_minutesOf 34 = .ok (.iload_n 2, 1) := by decide +kernel
theorem dX7_minutesOf_35 : decode cX7_minutesOf 35 = .ok (.aload_n 0, 1) := by decide +kernel
theorem dX7_minutesOf_36 : decode cX7_minutesOf 36 = .ok (.getfield 18, 3) := by decide +kernel
theorem dX7_minutesOf_39 : decode cX7_minutesOf 39 = .ok (.iload 4, 2) := by decide +kernel
theorem dX7_minutesOf_41 : decode cX7_minutesOf 41 = .ok (.iaload, 1) := by decide +kernel
theorem dX7_minutesOf_42 : decode cX7_minutesOf 42 = .ok (.iadd, 1) := by decide +kernel
theorem dX7_minutesOf_43 : decode cX7_minutesOf 43 = .ok (.istore_n 2, 1) := by decide +kernel
theorem dX7_minutesOf_44 : decode cX7_minutesOf 44 = .ok (.iinc 4 1, 3) := by decide +kernel
theorem dX7_minutesOf_47 : decode cX7_minutesOf 47 = .ok (.goto (-37), 3) := by decide +kernel
theorem dX7_minutesOf_50 : decode cX7_minutesOf 50 = .ok (.iload_n 2, 1) := by decide +kernel
theorem dX7_minutesOf_51 : decode cX7_minutesOf 51 = .ok (.ireturn, 1) := by decide +kernel
set_option maxRecDepth 20000 in
theorem ggX7_perform_X0_passMinute : GoodIn wsX7_perform wsX0_passMinute := goodIn_r _ [8, 9, 10, 11, 12, 13, 14, 15, 16, 17, 18, 19, 20, 21, 7, 22, 23, 24, 25, 26, 27, 28, 29, 30, 31, 32, 33, 34, 35, 36, 37, 38, 39, 40, 41, 42, 43, 44, 45, 46, 47, 48, 49, 50, 51, 52, 53, 54, 55, 56, 57, 58, 59, 60, 61, 62, 63, 64, 65, 66, 67, 68, 69, 70, 71, 72, 73, 74, 75, 76, 77, 78, 79, 80, 81, 82, 83, 84, 85, 86, 97, 98, 99, 100, 101, 102, 103, 104, 105, 106, 107, 108, 109, 110, 111, 112, 113, 114, 115, 116, 117, 118, 119, 120, 121, 122, 123, 124, 125, 126, 127, 128, 129, 130, 131] (by decide +kernel) (by decide +kernel)
set_option maxRecDepth 20000 in
theorem gX7_perform_X0_passMinute : GoodIn wsX7_perform (wsV RX7 25 RX0 yX0_passMinute wsX0_passMinute) := goodIn_app (goodIn_of _ (by decide +kernel)) ggX7_perform_X0_passMinute
set_option maxRecDepth 20000 in
theorem ggX7_perform_X0_undergo : GoodIn wsX7_perform wsX0_undergo := goodIn_r _ [90, 24, 11, 91, 43, 92, 9, 15, 16, 17, 18, 44, 45, 46, 7, 47, 48, 97, 98, 99, 100, 101, 102, 103, 104, 105, 106, 107, 108, 109, 115, 116, 117, 118, 119, 120, 121, 122, 123, 124, 125] (by decide +kernel) (by decide +kernel)
set_option maxRecDepth 20000 in
theorem gX7_perform_X0_undergo : GoodIn wsX7_perform (wsV RX7 30 RX0 yX0_undergo wsX0_undergo) := goodIn_app (goodIn_of _ (by decide +kernel)) ggX7_perform_X0_undergo
theorem dX7_perform_0 : decode cX7_perform 0 = .ok (.iload_n 1, 1) := by decide +kernel
theorem dX7_perform_1 : decode cX7_perform 1 = .ok (.bipush 12, 2) := by decide +kernel
theorem dX7_perform_3 : decode cX7_perform 3 = .ok (.imul, 1) := by decide +kernel
theorem dX7_perform_4 : decode cX7_perform 4 = .ok (.istore_n 3, 1) := by decide +kernel
theorem dX7_perform_5 : decode cX7_perform 5 = .ok (.iload_n 3, 1) := by decide +kernel
theorem dX7_perform_6 : decode cX7_perform 6 = .ok (.istore 4, 2) := by decide +kernel
theorem dX7_perform_8 : decode cX7_perform 8 = .ok (.iload 4, 2) := by decide +kernel
theorem dX7_perform_10 : decode cX7_perform 10 = .ok (.iload_n 3, 1) := by decide +kernel
theorem dX7_perform_11 : decode cX7_perform 11 = .ok (.aload_n 0, 1) := by decide +kernel
theorem dX7_perform_12 : decode cX7_perform 12 = .ok (.getfield 9, 3) := by decide +kernel
theorem dX7_perform_15 : decode cX7_perform 15 = .ok (.iload_n 1, 1) := by decide +kernel
theorem dX7_perform_16 : decode cX7_perform 16 = .ok (.iaload, 1) := by decide +kernel
theorem dX7_perform_17 : decode cX7_perform 17 = .ok (.iadd, 1) := by decide +kernel
theorem dX7_perform_18 : decode cX7_perform 18 = .ok (.if_icmp .ge 71, 3) := by decide +kernel
theorem dX7_perform_21 : decode cX7_perform 21 = .ok (.aload_n 0, 1) := by decide +kernel
theorem dX7_perform_22 : decode cX7_perform 22 = .ok (.getfield 15, 3) := by decide +kernel
theorem dX7_perform_25 : decode cX7_perform 25 = .ok (.iload 4, 2) := by decide +kernel
theorem dX7_perform_27 : decode cX7_perform 27 = .ok (.iaload, 1) := by decide +kernel
theorem dX7_perform_28 : decode cX7_perform 28 = .ok (.iconst 1, 1) := by decide +kernel
theorem dX7_perform_29 : decode cX7_perform 29 = .ok (.if_icmp .ne 13, 3) := by decide +kernel
theorem dX7_perform_32 : decode cX7_perform 32 = .ok (.aload_n 0, 1) := by decide +kernel
theorem dX7_perform_33 : decode cX7_perform 33 = .ok (.getfield 18, 3) := by decide +kernel
theorem dX7_perform_36 : decode cX7_perform 36 = .ok (.iload 4, 2) := by decide +kernel
theorem dX7_perform_38 : decode cX7_perform 38 = .ok (.iaload, 1) := by decide +kernel
theorem dX7_perform_39 : decode cX7_perform 39 = .ok (.goto 4, 3) := by decide +kernel
theorem dX7_perform_42 : decode cX7_perform 42 = .ok (.iconst 0, 1) := by decide +kernel
theorem dX7_perform_43 : decode cX7_perform 43 = .ok (.istore 5, 2) := by decide +kernel
theorem dX7_perform_45 : decode cX7_perform 45 = .ok (.iconst 0, 1) := by decide +kernel
theorem dX7_perform_46 : decode cX7_perform 46 = .ok (.istore 6, 2) := by decide +kernel
theorem dX7_perform_48 : decode cX7_perform 48 = .ok (.iload 6, 2) := by decide +kernel
theorem dX7_perform_50 : decode cX7_perform 50 = .ok (.iload 5, 2) := by decide +kernel
theorem dX7_perform_52 : decode cX7_perform 52 = .ok (.if_icmp .ge 13, 3) := by decide +kernel
theorem dX7_perform_55 : decode cX7_perform 55 = .ok (.aload_n 2, 1) := by decide +kernel
theorem dX7_perform_56 : decode cX7_perform 56 = .ok (.invokevirtual 25, 3) := by decide +kernel
theorem dX7_perform_59 : decode cX7_perform 59 = .ok (.iinc 6 1, 3) := by decide +kernel
theorem dX7_perform_62 : decode cX7_perform 62 = .ok (.goto (-14), 3) := by decide +kernel
theorem dX7_perform_65 : decode cX7_perform 65 = .ok (.aload_n 2, 1) := by decide +kernel
theorem dX7_perform_66 : decode cX7_perform 66 = .ok (.aload_n 0, 1) := by decide +kernel
theorem dX7_perform_67 : decode cX7_perform 67 = .ok (.getfield 15, 3) := by decide +kernel
theorem dX7_perform_70 : decode cX7_perform 70 = .ok (.iload 4, 2) := by decide +kernel
theorem dX7_perform_72 : decode cX7_perform 72 = .ok (.iaload, 1) := by decide +kernel
theorem dX7_perform_73 : decode cX7_perform 73 = .ok (.aload_n 0, 1) := by decide +kernel
theorem dX7_perform_74 : decode cX7_perform 74 = .ok (.getfield 18, 3) := by decide +kernel
theorem dX7_perform_77 : decode cX7_perform 77 = .ok (.iload 4, 2) := by decide +kernel
theorem dX7_perform_79 : decode cX7_perform 79 = .ok (.iaload, 1) := by decide +kernel
theorem dX7_perform_80 : decode cX7_perform 80 = .ok (.invokevirtual 30, 3) := by decide +kernel
theorem dX7_perform_83 : decode cX7_perform 83 = .ok (.iinc 4 1, 3) := by decide +kernel
theorem dX7_perform_86 : decode cX7_perform 86 = .ok (.goto (-78), 3) := by decide +kernel
theorem dX7_perform_89 : decode cX7_perform 89 = .ok (.return_, 1) := by decide +kernel
theorem dX7_becomeLike_0 : decode cX7_becomeLike 0 = .ok (.aload_n 0, 1) := by decide +kernel
theorem dX7_becomeLike_1 : decode cX7_becomeLike 1 = .ok (.aload_n 1, 1) := by decide +kernel
theorem dX7_becomeLike_2 : decode cX7_becomeLike 2 = .ok (.getfield 21, 3) := by decide +kernel
theorem dX7_becomeLike_5 : decode cX7_becomeLike 5 = .ok (.putfield 21, 3) := by decide +kernel
theorem dX7_becomeLike_8 : decode cX7_becomeLike 8 = .ok (.aload_n 1, 1) := by decide +kernel
theorem dX7_becomeLike_9 : decode cX7_becomeLike 9 = .ok (.getfield 9, 3) := by decide +kernel
theorem dX7_becomeLike_12 : decode cX7_becomeLike 12 = .ok (.iconst 0, 1) := by decide +kernel
theorem dX7_becomeLike_13 : decode cX7_becomeLike 13 = .ok (.aload_n 0, 1) := by decide +kernel
theorem dX7_becomeLike_14 : decode cX7_becomeLike 14 = .ok (.getfield 9, 3) := by decide +kernel
theorem dX7_becomeLike_17 : decode cX7_becomeLike 17 = .ok (.iconst 0, 1) := by decide +kernel
theorem dX7_becomeLike_18 : decode cX7_becomeLike 18 = .ok (.aload_n 0, 1) := by decide +kernel
theorem dX7_becomeLike_19 : decode cX7_becomeLike 19 = .ok (.getfield 21, 3) := by decide +kernel
theorem dX7_becomeLike_22 : decode cX7_becomeLike 22 = .ok (.invokestatic 34, 3) := by decide +kernel
theorem dX7_becomeLike_25 : decode cX7_becomeLike 25 = .ok (.aload_n 1, 1) := by decide +kernel
theorem dX7_becomeLike_26 : decode cX7_becomeLike 26 = .ok (.getfield 15, 3) := by decide +kernel
theorem dX7_becomeLike_29 : decode cX7_becomeLike 29 = .ok (.iconst 0, 1) := by decide +kernel
theorem dX7_becomeLike_30 : decode cX7_becomeLike 30 = .ok (.aload_n 0, 1) := by decide +kernel
theorem dX7_becomeLike_31 : decode cX7_becomeLike 31 = .ok (.getfield 15, 3) := by decide +kernel
theorem dX7_becomeLike_34 : decode cX7_becomeLike 34 = .ok (.iconst 0, 1) := by decide +kernel
theorem dX7_becomeLike_35 : decode cX7_becomeLike 35 = .ok (.aload_n 0, 1) := by decide +kernel
theorem dX7_becomeLike_36 : decode cX7_becomeLike 36 = .ok (.getfield 21, 3) := by decide +kernel
theorem dX7_becomeLike_39 : decode cX7_becomeLike 39 = .ok (.bipush 12, 2) := by decide +kernel
theorem dX7_becomeLike_41 : decode cX7_becomeLike 41 = .ok (.imul, 1) := by decide +kernel
theorem dX7_becomeLike_42 : decode cX7_becomeLike 42 = .ok (.invokestatic 34, 3) := by decide +kernel
theorem dX7_becomeLike_45 : decode cX7_becomeLike 45 = .ok (.aload_n 1, 1) := by decide +kernel
theorem dX7_becomeLike_46 : decode cX7_becomeLike 46 = .ok (.getfield 18, 3) := by decide +kernel
theorem dX7_becomeLike_49 : decode cX7_becomeLike 49 = .ok (.iconst 0, 1) := by decide +kernel
theorem dX7_becomeLike_50 : decode cX7_becomeLike 50 = .ok (.aload_n 0, 1) := by decide +kernel
theorem dX7_becomeLike_51 : decode cX7_becomeLike 51 = .ok (.getfield 18, 3) := by decide +kernel
theorem dX7_becomeLike_54 : decode cX7_becomeLike 54 = .ok (.iconst 0, 1) := by decide +kernel
theorem dX7_becomeLike_55 : decode cX7_becomeLike 55 = .ok (.aload_n 0, 1) := by decide +kernel
theorem dX7_becomeLike_56 : decode cX7_becomeLike 56 = .ok (.getfield 21, 3) := by decide +kernel
theorem dX7_becomeLike_59 : decode cX7_becomeLike 59 = .ok (.bipush 12, 2) := by decide +kernel
theorem dX7_becomeLike_61 : decode cX7_becomeLike 61 = .ok (.imul, 1) := by decide +kernel
theorem dX7_becomeLike_62 : decode cX7_becomeLike 62 = .ok (.invokestatic 34, 3) := by decide +kernel
theorem dX7_becomeLike_65 : decode cX7_becomeLike 65 = .ok (.return_, 1) := by decide +kernel
theorem dX8_init_0 : decode cX8_init 0 = .ok (.aload_n 0, 1) := by decide +kernel
theorem dX8_init_1 : decode cX8_init 1 = .ok (.invokespecial 3, 3) := by decide +kernel
theorem dX8_init_4 : decode cX8_init 4 = .ok (.aload_n 0, 1) := by decide +kernel
theorem dX8_init_5 : decode cX8_init 5 = .ok (.bipush 100, 2) := by decide +kernel
theorem dX8_init_7 : decode cX8_init 7 = .ok (.newarray .int, 2) := by decide +kernel
theorem dX8_init_9 : decode cX8_init 9 = .ok (.putfield 9, 3) := by decide +kernel
theorem dX8_init_12 : decode cX8_init 12 = .ok (.return_, 1) := by decide +kernel
theorem dX8_append_0 : decode cX8_append 0 = .ok (.iload_n 2, 1) := by decide +kernel
theorem dX8_append_1 : decode cX8_append 1 = .ok (.iconst 1, 1) := by decide +kernel
theorem dX8_append_2 : decode cX8_append 2 = .ok (.isub, 1) := by decide +kernel
theorem dX8_append_3 : decode cX8_append 3 = .ok (.istore_n 3, 1) := by decide +kernel
theorem dX8_append_4 : decode cX8_append 4 = .ok (.iload_n 3, 1) := by decide +kernel
theorem dX8_append_5 : decode cX8_append 5 = .ok (.ifCond .lt 38, 3) := by decide +kernel
theorem dX8_append_8 : decode cX8_append 8 = .ok (.aload_n 0, 1) := by decide +kernel
theorem dX8_append_9 : decode cX8_append 9 = .ok (.getfield 9, 3) := by decide +kernel
theorem dX8_append_12 : decode cX8_append 12 = .ok (.aload_n 0, 1) := by decide +kernel
theorem dX8_append_13 : decode cX8_append 13 = .ok (.getfield 15, 3) := by decide +kernel
theorem dX8_append_16 : decode cX8_append 16 = .ok (.iload_n 1, 1) := by decide +kernel
theorem dX8_append_17 : decode cX8_append 17 = .ok (.bipush 8, 2) := by decide +kernel
theorem dX8_append_19 : decode cX8_append 19 = .ok (.iload_n 3, 1) := by decide +kernel
theorem dX8_append_20 : decode cX8_append 20 = .ok (.imul, 1) := by decide +kernel
theorem dX8_append_21 : decode cX8_append 21 = .ok (.iushr, 1) := by decide +kernel
theorem dX8_append_22 : decode cX8_append 22 = .ok (.sipush 255, 3) := by decide +kernel
theorem dX8_append_25 : decode cX8_append 25 = .ok (.iand, 1) := by decide +kernel
theorem dX8_append_26 : decode cX8_append 26 = .ok (.iastore, 1) := by decide +kernel
theorem dX8_append_27 : decode cX8_append 27 = .ok (.aload_n 0, 1) := by decide +kernel
theorem dX8_append_28 : decode cX8_append 28 = .ok (.dup, 1) := by decide +kernel
theorem dX8_append_29 : decode cX8_append 29 = .ok (.getfield 15, 3) := by decide +kernel
theorem dX8_append_32 : decode cX8_append 32 = .ok (.iconst 1, 1) := by decide +kernel
theorem dX8_append_33 : decode cX8_append 33 = .ok (.iadd, 1) := by decide +kernel
theorem dX8_append_34 : decode cX8_append 34 = .ok (.putfield 15, 3) := by decide +kernel
theorem dX8_append_37 : decode cX8_append 37 = .ok (.iinc 3 (-1), 3) := by decide +kernel
theorem dX8_append_40 : decode cX8_append 40 = .ok (.goto (-36), 3) := by decide +kernel
theorem dX8_append_43 : decode cX8_append 43 = .ok (.return_, 1) := by decide +kernel
set_option maxRecDepth 20000 in
theorem ggX8_isLetter_X11_within : GoodIn wsX8_isLetter wsX11_within := goodIn_r _ [4] (by decide +kernel) (by decide +kernel)
set_option maxRecDepth 20000 in
theorem gX8_isLetter_X11_within_n19 : GoodIn wsX8_isLetter (wsX11_within) := ggX8_isLetter_X11_within
theorem dX8_isLetter_0 : decode cX8_isLetter 0 = .ok (.aload_n 0, 1) := by decide +kernel
theorem dX8_isLetter_1 : decode cX8_isLetter 1 = .ok (.getfield 9, 3) := by decide +kernel
theorem dX8_isLetter_4 : decode cX8_isLetter 4 = .ok (.iload_n 1, 1) := by decide +kernel
theorem dX8_isLetter_5 : decode cX8_isLetter 5 = .ok (.iaload, 1) := by decide +kernel
theorem dX8_isLetter_6 : decode cX8_isLetter 6 = .ok (.bipush 97, 2) := by decide +kernel
theorem dX8_isLetter_8 : decode cX8_isLetter 8 = .ok (.bipush 122, 2) := by decide +kernel
theorem dX8_isLetter_10 : decode cX8_isLetter 10 = .ok (.invokestatic 19, 3) := by decide +kernel
theorem dX8_isLetter_13 : decode cX8_isLetter 13 = .ok (.ireturn, 1) := by decide +kernel
set_option maxRecDepth 20000 in
theorem ggX8_isDigit_X11_within : GoodIn wsX8_isDigit wsX11_within := goodIn_r _ [4] (by decide +kernel) (by decide +kernel)
set_option maxRecDepth 20000 in
theorem gX8_isDigit_X11_within_n19 : GoodIn wsX8_isDigit (wsX11_within) := ggX8_isDigit_X11_within
theorem dX8_isDigit_0 : decode cX8_isDigit 0 = .ok (.aload_n 0, 1) := by decide +kernel
theorem dX8_isDigit_1 : decode cX8_isDigit 1 = .ok (.getfield 9, 3) := by decide +kernel
theorem dX8_isDigit_4 : decode cX8_isDigit 4 = .ok (.iload_n 1, 1) := by decide +kernel
theorem dX8_isDigit_5 : decode cX8_isDigit 5 = .ok (.iaload, 1) := by decide +kernel
theorem dX8_isDigit_6 : decode cX8_isDigit 6 = .ok (.bipush 48, 2) := by decide +kernel
theorem dX8_isDigit_8 : decode cX8_isDigit 8 = .ok (.bipush 57, 2) := by decide +kernel
theorem dX8_isDigit_10 : decode cX8_isDigit 10 = .ok (.invokestatic 19, 3) := by decide +kernel
theorem dX8_isDigit_13 : decode cX8_isDigit 13 = .ok (.ireturn, 1) := by decide +kernel
theorem dX9_init_0 : decode cX9_init 0 = .ok (.aload_n 0, 1) := by decide +kernel
theorem dX9_init_1 : decode cX9_init 1 = .ok (.invokespecial 3, 3) := by decide +kernel
theorem dX9_init_4 : decode cX9_init 4 = .ok (.aload_n 0, 1) := by decide +kernel
theorem dX9_init_5 : decode cX9_init 5 = .ok (.bipush 10, 2) := by decide +kernel
theorem dX9_init_7 : decode cX9_init 7 = .ok (.newarray .int, 2) := by decide +kernel
theorem dX9_init_9 : decode cX9_init 9 = .ok (.putfield 9, 3) := by decide +kernel
theorem dX9_init_12 : decode cX9_init 12 = .ok (.aload_n 0, 1) := by decide +kernel
theorem dX9_init_13 : decode cX9_init 13 = .ok (.bipush 10, 2) := by decide +kernel
theorem dX9_init_15 : decode cX9_init 15 = .ok (.newarray .int, 2) := by decide +kernel
theorem dX9_init_17 : decode cX9_init 17 = .ok (.putfield 15, 3) := by decide +kernel
theorem dX9_init_20 : decode cX9_init 20 = .ok (.aload_n 0, 1) := by decide +kernel
theorem dX9_init_21 : decode cX9_init 21 = .ok (.bipush 10, 2) := by decide +kernel
theorem dX9_init_23 : decode cX9_init 23 = .ok (.newarray .int, 2) := by decide +kernel
theorem dX9_init_25 : decode cX9_init 25 = .ok (.putfield 18, 3) := by decide +kernel
theorem dX9_init_28 : decode cX9_init 28 = .ok (.return_, 1) := by decide +kernel
theorem dX9_add_0 : decode cX9_add 0 = .ok (.aload_n 0, 1) := by decide +kernel
theorem dX9_add_1 : decode cX9_add 1 = .ok (.getfield 9, 3) := by decide +kernel
theorem dX9_add_4 : decode cX9_add 4 = .ok (.aload_n 0, 1) := by decide +kernel
theorem dX9_add_5 : decode cX9_add 5 = .ok (.getfield 21, 3) := by decide +kernel
theorem dX9_add_8 : decode cX9_add 8 = .ok (.iload_n 1, 1) := by decide +kernel
theorem dX9_add_9 : decode cX9_add 9 = .ok (.iastore, 1) := by decide +kernel
theorem dX9_add_10 : decode cX9_add 10 = .ok (.aload_n 0, 1) := by decide +kernel
theorem dX9_add_11 : decode cX9_add 11 = .ok (.getfield 15, 3) := by decide +kernel
theorem dX9_add_14 : decode cX9_add 14 = .ok (.aload_n 0, 1) := by decide +kernel
theorem dX9_add_15 : decode cX9_add 15 = .ok (.getfield 21, 3) := by decide +kernel
theorem dX9_add_18 : decode cX9_add 18 = .ok (.iload_n 2, 1) := by decide +kernel
theorem dX9_add_19 : decode cX9_add 19 = .ok (.iastore, 1) := by decide +kernel
theorem dX9_add_20 : decode cX9_add 20 = .ok (.aload_n 0, 1) := by decide +kernel
theorem dX9_add_21 : decode cX9_add 21 = .ok (.getfield 18, 3) := by decide +kernel
theorem dX9_add_24 : decode cX9_add 24 = .ok (.aload_n 0, 1) := by decide +kernel
theorem dX9_add_25 : decode cX9_add 25 = .ok (.getfield 21, 3) := by decide +kernel
theorem dX9_add_28 : decode cX9_add 28 = .ok (.iload_n 3, 1) := by decide +kernel
theorem dX9_add_29 : decode cX9_add 29 = .ok (.iastore, 1) := by decide +kernel
theorem dX9_add_30 : decode cX9_add 30 = .ok (.aload_n 0, 1) := by decide +kernel
theorem dX9_add_31 : decode cX9_add 31 = .ok (.dup, 1) := by decide +kernel
theorem dX9_add_32 : decode cX9_add 32 = .ok (.getfield 21, 3) := by decide +kernel
theorem dX9_add_35 : decode cX9_add 35 = .ok (.iconst 1, 1) := by decide +kernel
theorem dX9_add_36 : decode cX9_add 36 = .ok (.iadd, 1) := by decide +kernel
theorem dX9_add_37 : decode cX9_add 37 = .ok (.putfield 21, 3) := by decide +kernel
theorem dX9_add_40 : decode cX9_add 40 = .ok (.aload_n 0, 1) := by decide +kernel
theorem dX9_add_41 : decode cX9_add 41 = .ok (.getfield 21, 3) := by decide +kernel
theorem dX9_add_44 : decode cX9_add 44 = .ok (.iconst 1, 1) := by decide +kernel
theorem dX9_add_45 : decode cX9_add 45 = .ok (.isub, 1) := by decide +kernel
theorem dX9_add_46 : decode cX9_add 46 = .ok (.ireturn, 1) := by decide +kernel
theorem dX9_isLifted_0 : decode cX9_isLifted 0 = .ok (.aload_n 0, 1) := by decide +kernel
theorem dX9_isLifted_1 : decode cX9_isLifted 1 = .ok (.getfield 25, 3) := by decide +kernel
theorem dX9_isLifted_4 : decode cX9_isLifted 4 = .ok (.iconst 1, 1) := by decide +kernel
theorem dX9_isLifted_5 : decode cX9_isLifted 5 = .ok (.iload_n 1, 1) := by decide +kernel
theorem dX9_isLifted_6 : decode cX9_isLifted 6 = .ok (.ishl, 1) := by decide +kernel
theorem dX9_isLifted_7 : decode cX9_isLifted 7 = .ok (.iand, 1) := by decide +kernel
theorem dX9_isLifted_8 : decode cX9_isLifted 8 = .ok (.ifCond .eq 7, 3) := by decide +kernel
theorem dX9_isLifted_11 : decode cX9_isLifted 11 = .ok (.iconst 1, 1) := by decide +kernel
theorem dX9_isLifted_12 : decode cX9_isLifted 12 = .ok (.goto 4, 3) := by decide +kernel
theorem dX9_isLifted_15 : decode cX9_isLifted 15 = .ok (.iconst 0, 1) := by decide +kernel
theorem dX9_isLifted_16 : decode cX9_isLifted 16 = .ok (.ireturn, 1) := by decide +kernel
theorem dX9_isHarmed_0 : decode cX9_isHarmed 0 = .ok (.aload_n 0, 1) := by decide +kernel
theorem dX9_isHarmed_1 : decode cX9_isHarmed 1 = .ok (.getfield 28, 3) := by decide +kernel
theorem dX9_isHarmed_4 : decode cX9_isHarmed 4 = .ok (.iconst 1, 1) := by decide +kernel
theorem dX9_isHarmed_5 : decode cX9_isHarmed 5 = .ok (.iload_n 1, 1) := by decide +kernel
theorem dX9_isHarmed_6 : decode cX9_isHarmed 6 = .ok (.ishl, 1) := by decide +kernel
theorem dX9_isHarmed_7 : decode cX9_isHarmed 7 = .ok (.iand, 1) := by decide +kernel
theorem dX9_isHarmed_8 : decode cX9_isHarmed 8 = .ok (.ifCond .eq 7, 3) := by decide +kernel
theorem dX9_isHarmed_11 : decode cX9_isHarmed 11 = .ok (.iconst 1, 1) := by decide +kernel
theorem dX9_isHarmed_12 : decode cX9_isHarmed 12 = .ok (.goto 4, 3) := by decide +kernel
theorem dX9_isHarmed_15 : decode cX9_isHarmed 15 = .ok (.iconst 0, 1) := by decide +kernel
theorem dX9_isHarmed_16 : decode cX9_isHarmed 16 = .ok (.ireturn, 1) := by decide +kernel
theorem dX9_standIn_0 : decode cX9_standIn 0 = .ok (.iconst 0, 1) := by decide +kernel
theorem dX9_standIn_1 : decode cX9_standIn 1 = .ok (.istore_n 2, 1) := by decide +kernel
theorem dX9_standIn_2 : decode cX9_standIn 2 = .ok (.iload_n 2, 1) := by decide +kernel
theorem dX9_standIn_3 : decode cX9_standIn 3 = .ok (.aload_n 0, 1) := by decide +kernel
theorem dX9_standIn_4 : decode cX9_standIn 4 = .ok (.getfield 21, 3) := by decide +kernel
theorem dX9_standIn_7 : decode cX9_standIn 7 = .ok (.if_icmp .ge 42, 3) := by decide +kernel
theorem dX9_standIn_10 : decode cX9_standIn 10 = .ok (.iload_n 1, 1) := by decide +kernel
theorem dX9_standIn_11 : decode cX9_standIn 11 = .ok (.aload_n 0, 1) := by decide +kernel
theorem dX9_standIn_12 : decode cX9_standIn 12 = .ok (.getfield 18, 3) := by decide +kernel
theorem dX9_standIn_15 : decode cX9_standIn 15 = .ok (.iload_n 2, 1) := by decide +kernel
theorem dX9_standIn_16 : decode cX9_standIn 16 = .ok (.iaload, 1) := by decide +kernel
theorem dX9_standIn_17 : decode cX9_standIn 17 = .ok (.if_icmp .le 26, 3) := by decide +kernel
theorem dX9_standIn_20 : decode cX9_standIn 20 = .ok (.aload_n 0, 1) := by decide +kernel
theorem dX9_standIn_21 : decode cX9_standIn 21 = .ok (.getfield 25, 3) := by decide +kernel
theorem dX9_standIn_24 : decode cX9_standIn 24 = .ok (.iconst 1, 1) := by decide +kernel
theorem dX9_standIn_25 : decode cX9_standIn 25 = .ok (.iload_n 2, 1) := by decide +kernel
theorem dX9_standIn_26 : decode cX9_standIn 26 = .ok (.ishl, 1) := by decide +kernel
theorem dX9_standIn_27 : decode cX9_standIn 27 = .ok (.iand, 1) := by decide +kernel
theorem dX9_standIn_28 : decode cX9_standIn 28 = .ok (.ifCond .ne 15, 3) := by decide +kernel
theorem dX9_standIn_31 : decode cX9_standIn 31 = .ok (.aload_n 0, 1) := by decide +kernel
theorem dX9_standIn_32 : decode cX9_standIn 32 = .ok (.dup, 1) := by decide +kernel
theorem dX9_standIn_33 : decode cX9_standIn 33 = .ok (.getfield 28, 3) := by decide +kernel
theorem dX9_standIn_36 : decode cX9_standIn 36 = .ok (.iconst 1, 1) := by decide +kernel
theorem dX9_standIn_37 : decode cX9_standIn 37 = .ok (.iload_n 2, 1) := by decide +kernel
theorem dX9_standIn_38 : decode cX9_standIn 38 = .ok (.ishl, 1) := by decide +kernel
theorem dX9_standIn_39 : decode cX9_standIn 39 = .ok (.ior, 1) := by decide +kernel
theorem dX9_standIn_40 : decode cX9_standIn 40 = .ok (.putfield 28, 3) := by decide +kernel
theorem dX9_standIn_43 : decode cX9_standIn 43 = .ok (.iinc 2 1, 3) := by decide +kernel
theorem dX9_standIn_46 : decode cX9_standIn 46 = .ok (.goto (-44), 3) := by decide +kernel
theorem dX9_standIn_49 : decode cX9_standIn 49 = .ok (.return_, 1) := by decide +kernel
set_option maxRecDepth 20000 in
theorem ggX9_harmedWorth_X9_isHarmed : GoodIn wsX9_harmedWorth wsX9_isHarmed := goodIn_r _ [7, 8, 9, 10, 11, 12, 13, 14] (by decide +kernel) (by decide +kernel)
set_option maxRecDepth 20000 in
theorem gX9_harmedWorth_X9_isHarmed : GoodIn wsX9_harmedWorth (wsV RX9 31 RX9 yX9_isHarmed wsX9_isHarmed) := goodIn_app (goodIn_of _ (by decide +kernel)) ggX9_harmedWorth_X9_isHarmed
theorem dX9_harmedWorth_0 : decode cX9_harmedWorth 0 = .ok (.iconst 0, 1) := by decide +kernel
theorem dX9_harmedWorth_1 : decode cX9_harmedWorth 1 = .ok (.istore_n 1, 1) := by decide +kernel
theorem dX9_harmedWorth_2 : decode cX9_harmedWorth 2 = .ok (.iconst 0, 1) := by decide +kernel
theorem dX9_harmedWorth_3 : decode cX9_harmedWorth 3 = .ok (.istore_n 2, 1) := by decide +kernel
theorem dX9_harmedWorth_4 : decode cX9_harmedWorth 4 = .ok (.iload_n 2, 1) := by decide +kernel
theorem dX9_harmedWorth_5 : decode cX9_harmedWorth 5 = .ok (.aload_n 0, 1) := by decide +kernel
theorem dX9_harmedWorth_6 : decode cX9_harmedWorth 6 = .ok (.getfield 21, 3) := by decide +kernel
theorem dX9_harmedWorth_9 : decode cX9_harmedWorth 9 = .ok (.if_icmp .ge 26, 3) := by decide +kernel
theorem dX9_harmedWorth_12 : decode cX9_harmedWorth 12 = .ok (.aload_n 0, 1) := by decide +kernel
theorem dX9_harmedWorth_13 : decode cX9_harmedWorth 13 = .ok (.iload_n 2, 1) := by decide +kernel
theorem dX9_harmedWorth_14 : decode cX9_harmedWorth 14 = .ok (.invokevirtual 31, 3) := by decide +kernel
theorem dX9_harmedWorth_17 : decode cX9_harmedWorth 17 = .ok (.ifCond .eq 12, 3) := by decide +kernel
theorem dX9_harmedWorth_20 : decode cX9_harmedWorth 20 = .ok (.iload_n 1, 1) := by decide +kernel
theorem dX9_harmedWorth_21 : decode cX9_harmedWorth 21 = .ok (.aload_n 0, 1) := by decide +kernel
theorem dX9_harmedWorth_22 : decode cX9_harmedWorth 22 = .ok (.getfield 9, 3) := by decide +kernel
theorem dX9_harmedWorth_25 : decode cX9_harmedWorth 25 = .ok (.iload_n 2, 1) := by decide +kernel
theorem dX9_harmedWorth_26 : decode cX9_harmedWorth 26 = .ok (.iaload, 1) := by decide +kernel
theorem dX9_harmedWorth_27 : decode cX9_harmedWorth 27 = .ok (.iadd, 1) := by decide +kernel
theorem dX9_harmedWorth_28 : decode cX9_harmedWorth 28 = .ok (.istore_n 1, 1) := by decide +kernel
theorem dX9_harmedWorth_29 : decode cX9_harmedWorth 29 = .ok (.iinc 2 1, 3) := by decide +kernel
theorem dX9_harmedWorth_32 : decode cX9_harmedWorth 32 = .ok (.goto (-28), 3) := by decide +kernel
theorem dX9_harmedWorth_35 : decode cX9_harmedWorth 35 = .ok (.iload_n 1, 1) := by decide +kernel
theorem dX9_harmedWorth_36 : decode cX9_harmedWorth 36 = .ok (.ireturn, 1) := by decide +kernel
theorem dX9_becomeLike_0 : decode cX9_becomeLike 0 = .ok (.aload_n 0, 1) := by decide +kernel
theorem dX9_becomeLike_1 : decode cX9_becomeLike 1 = .ok (.aload_n 1, 1) := by decide +kernel
theorem dX9_becomeLike_2 : decode cX9_becomeLike 2 = .ok (.getfield 21, 3) := by decide +kernel
theorem dX9_becomeLike_5 : decode cX9_becomeLike 5 = .ok (.putfield 21, 3) := by decide +kernel
theorem dX9_becomeLike_8 : decode cX9_becomeLike 8 = .ok (.aload_n 1, 1) := by decide +kernel
theorem dX9_becomeLike_9 : decode cX9_becomeLike 9 = .ok (.getfield 9, 3) := by decide +kernel
theorem dX9_becomeLike_12 : decode cX9_becomeLike 12 = .ok (.iconst 0, 1) := by decide +kernel
theorem dX9_becomeLike_13 : decode cX9_becomeLike 13 = .ok (.aload_n 0, 1) := by decide +kernel
theorem dX9_becomeLike_14 : decode cX9_becomeLike 14 = .ok (.getfield 9, 3) := by decide +kernel
theorem dX9_becomeLike_17 : decode cX9_becomeLike 17 = .ok (.iconst 0, 1) := by decide +kernel
theorem dX9_becomeLike_18 : decode cX9_becomeLike 18 = .ok (.aload_n 0, 1) := by decide +kernel
theorem dX9_becomeLike_19 : decode cX9_becomeLike 19 = .ok (.getfield 21, 3) := by decide +kernel
theorem dX9_becomeLike_22 : decode cX9_becomeLike 22 = .ok (.invokestatic 35, 3) := by decide +kernel
theorem dX9_becomeLike_25 : decode cX9_becomeLike 25 = .ok (.aload_n 1, 1) := by decide +kernel
theorem dX9_becomeLike_26 : decode cX9_becomeLike 26 = .ok (.getfield 15, 3) := by decide +kernel
theorem dX9_becomeLike_29 : decode cX9_becomeLike 29 = .ok (.iconst 0, 1) := by decide +kernel
theorem dX9_becomeLike_30 : decode cX9_becomeLike 30 = .ok (.aload_n 0, 1) := by decide +kernel
theorem dX9_becomeLike_31 : decode cX9_becomeLike 31 = .ok (.getfield 15, 3) := by decide +kernel
theorem dX9_becomeLike_34 : decode cX9_becomeLike 34 = .ok (.iconst 0, 1) := by decide +kernel
theorem dX9_becomeLike_35 : decode cX9_becomeLike 35 = .ok (.aload_n 0, 1) := by decide +kernel
theorem dX9_becomeLike_36 : decode cX9_becomeLike 36 = .ok (.getfield 21, 3) := by decide +kernel
theorem dX9_becomeLike_39 : decode cX9_becomeLike 39 = .ok (.invokestatic 35, 3) := by decide +kernel
theorem dX9_becomeLike_42 : decode cX9_becomeLike 42 = .ok (.aload_n 1, 1) := by decide +kernel
theorem dX9_becomeLike_43 : decode cX9_becomeLike 43 = .ok (.getfield 18, 3) := by decide +kernel
theorem dX9_becomeLike_46 : decode cX9_becomeLike 46 = .ok (.iconst 0, 1) := by decide +kernel
theorem dX9_becomeLike_47 : decode cX9_becomeLike 47 = .ok (.aload_n 0, 1) := by decide +kernel
theorem dX9_becomeLike_48 : decode cX9_becomeLike 48 = .ok (.getfield 18, 3) := by decide +kernel
theorem dX9_becomeLike_51 : decode cX9_becomeLike 51 = .ok (.iconst 0, 1) := by decide +kernel
theorem dX9_becomeLike_52 : decode cX9_becomeLike 52 = .ok (.aload_n 0, 1) := by decide +kernel
theorem dX9_becomeLike_53 : decode cX9_becomeLike 53 = .ok (.getfield 21, 3) := by decide +kernel
theorem dX9_becomeLike_56 : decode cX9_becomeLike 56 = .ok (.invokestatic 35, 3) := by decide +kernel
theorem dX9_becomeLike_59 : decode cX9_becomeLike 59 = .ok (.aload_n 0, 1) := by decide +kernel
theorem dX9_becomeLike_60 : decode cX9_becomeLike 60 = .ok (.aload_n 1, 1) := by decide +kernel
theorem dX9_becomeLike_61 : decode cX9_becomeLike 61 = .ok (.getfield 25, 3) := by decide +kernel
theorem dX9_becomeLike_64 : decode cX9_becomeLike 64 = .ok (.putfield 25, 3) := by decide +kernel
theorem dX9_becomeLike_67 : decode cX9_becomeLike 67 = .ok (.aload_n 0, 1) := by decide +kernel
theorem dX9_becomeLike_68 : decode cX9_becomeLike 68 = .ok (.aload_n 1, 1) := by decide +kernel
theorem dX9_becomeLike_69 : decode cX9_becomeLike 69 = .ok (.getfield 28, 3) := by decide +kernel
theorem dX9_becomeLike_72 : decode cX9_becomeLike 72 = .ok (.putfield 28, 3) := by decide +kernel
theorem dX9_becomeLike_75 : decode cX9_becomeLike 75 = .ok (.return_, 1) := by decide +kernel
theorem dX10_init_0 : decode cX10_init 0 = .ok (.aload_n 0, 1) := by decide +kernel
theorem dX10_init_1 : decode cX10_init 1 = .ok (.invokespecial 3, 3) := by decide +kernel
theorem dX10_init_4 : decode cX10_init 4 = .ok (.aload_n 0, 1) := by decide +kernel
theorem dX10_init_5 : decode cX10_init 5 = .ok (.bipush 8, 2) := by decide +kernel
theorem dX10_init_7 : decode cX10_init 7 = .ok (.newarray .int, 2) := by decide +kernel
theorem dX10_init_9 : decode cX10_init 9 = .ok (.putfield 9, 3) := by decide +kernel
theorem dX10_init_12 : decode cX10_init 12 = .ok (.aload_n 0, 1) := by decide +kernel
theorem dX10_init_13 : decode cX10_init 13 = .ok (.bipush 8, 2) := by decide +kernel
theorem dX10_init_15 : decode cX10_init 15 = .ok (.newarray .int, 2) := by decide +kernel
theorem dX10_init_17 : decode cX10_init 17 = .ok (.putfield 15, 3) := by decide +kernel
theorem dX10_init_20 : decode cX10_init 20 = .ok (.aload_n 0, 1) := by decide +kernel
theorem dX10_init_21 : decode cX10_init 21 = .ok (.bipush 8, 2) := by decide +kernel
theorem dX10_init_23 : decode cX10_init 23 = .ok (.newarray .int, 2) := by decide +kernel
theorem dX10_init_25 : decode cX10_init 25 = .ok (.putfield 18, 3) := by decide +kernel
theorem dX10_init_28 : decode cX10_init 28 = .ok (.aload_n 0, 1) := by decide +kernel
theorem dX10_init_29 : decode cX10_init 29 = .ok (.bipush 8, 2) := by decide +kernel
theorem dX10_init_31 : decode cX10_init 31 = .ok (.newarray .int, 2) := by decide +kernel
theorem dX10_init_33 : decode cX10_init 33 = .ok (.putfield 21, 3) := by decide +kernel
theorem dX10_init_36 : decode cX10_init 36 = .ok (.return_, 1) := by decide +kernel
theorem dX10_add_0 : decode cX10_add 0 = .ok (.aload_n 0, 1) := by decide +kernel
theorem dX10_add_1 : decode cX10_add 1 = .ok (.getfield 9, 3) := by decide +kernel
theorem dX10_add_4 : decode cX10_add 4 = .ok (.aload_n 0, 1) := by decide +kernel
theorem dX10_add_5 : decode cX10_add 5 = .ok (.getfield 24, 3) := by decide +kernel
theorem dX10_add_8 : decode cX10_add 8 = .ok (.iload_n 1, 1) := by decide +kernel
theorem dX10_add_9 : decode cX10_add 9 = .ok (.iastore, 1) := by decide +kernel
theorem dX10_add_10 : decode cX10_add 10 = .ok (.aload_n 0, 1) := by decide +kernel
theorem dX10_add_11 : decode cX10_add 11 = .ok (.getfield 15, 3) := by decide +kernel
theorem dX10_add_14 : decode cX10_add 14 = .ok (.aload_n 0, 1) := by decide +kernel
theorem dX10_add_15 : decode cX10_add 15 = .ok (.getfield 24, 3) := by decide +kernel
theorem dX10_add_18 : decode cX10_add 18 = .ok (.iload_n 2, 1) := by decide +kernel
theorem dX10_add_19 : decode cX10_add 19 = .ok (.iastore, 1) := by decide +kernel
theorem dX10_add_20 : decode cX10_add 20 = .ok (.aload_n 0, 1) := by decide +kernel
theorem dX10_add_21 : decode cX10_add 21 = .ok (.getfield 18, 3) := by decide +kernel
theorem dX10_add_24 : decode cX10_add 24 = .ok (.aload_n 0, 1) := by decide +kernel
theorem dX10_add_25 : decode cX10_add 25 = .ok (.getfield 24, 3) := by decide +kernel
theorem dX10_add_28 : decode cX10_add 28 = .ok (.iload_n 3, 1) := by decide +kernel
theorem dX10_add_29 : decode cX10_add 29 = .ok (.iastore, 1) := by decide +kernel
theorem dX10_add_30 : decode cX10_add 30 = .ok (.aload_n 0, 1) := by decide +kernel
theorem dX10_add_31 : decode cX10_add 31 = .ok (.getfield 21, 3) := by decide +kernel
theorem dX10_add_34 : decode cX10_add 34 = .ok (.aload_n 0, 1) := by decide +kernel
theorem dX10_add_35 : decode cX10_add 35 = .ok (.getfield 24, 3) := by decide +kernel
theorem dX10_add_38 : decode cX10_add 38 = .ok (.iconst 0, 1) := by decide +kernel
theorem dX10_add_39 : decode cX10_add 39 = .ok (.iastore, 1) := by decide +kernel
theorem dX10_add_40 : decode cX10_add 40 = .ok (.aload_n 0, 1) := by decide +kernel
theorem dX10_add_41 : decode cX10_add 41 = .ok (.dup, 1) := by decide +kernel
theorem dX10_add_42 : decode cX10_add 42 = .ok (.getfield 24, 3) := by decide +kernel
theorem dX10_add_45 : decode cX10_add 45 = .ok (.iconst 1, 1) := by decide +kernel
theorem dX10_add_46 : decode cX10_add 46 = .ok (.iadd, 1) := by decide +kernel
theorem dX10_add_47 : decode cX10_add 47 = .ok (.putfield 24, 3) := by decide +kernel
theorem dX10_add_50 : decode cX10_add 50 = .ok (.aload_n 0, 1) := by decide +kernel
theorem dX10_add_51 : decode cX10_add 51 = .ok (.getfield 24, 3) := by decide +kernel
theorem dX10_add_54 : decode cX10_add 54 = .ok (.iconst 1, 1) := by decide +kernel
theorem dX10_add_55 : decode cX10_add 55 = .ok (.isub, 1) := by decide +kernel
theorem dX10_add_56 : decode cX10_add 56 = .ok (.ireturn, 1) := by decide +kernel
theorem dX10_mostBrought_0 : decode cX10_mostBrought 0 = .ok (.iconst 0, 1) := by decide +kernel
theorem dX10_mostBrought_1 : decode cX10_mostBrought 1 = .ok (.istore_n 1, 1) := by decide +kernel
theorem dX10_mostBrought_2 : decode cX10_mostBrought 2 = .ok (.iconst 1, 1) := by decide +kernel
theorem dX10_mostBrought_3 : decode cX10_mostBrought 3 = .ok (.istore_n 2, 1) := by decide +kernel
theorem dX10_mostBrought_4 : decode cX10_mostBrought 4 = .ok (.iload_n 2, 1) := by decide +kernel
theorem dX10_mostBrought_5 : decode cX10_mostBrought 5 = .ok (.aload_n 0, 1) := by decide +kernel
theorem dX10_mostBrought_6 : decode cX10_mostBrought 6 = .ok (.getfield 24, 3) := by decide +kernel
theorem dX10_mostBrought_9 : decode cX10_mostBrought 9 = .ok (.if_icmp .ge 26, 3) := by decide +kernel
theorem dX10_mostBrought_12 : decode cX10_mostBrought 12 = .ok (.aload_n 0, 1) := by decide +kernel
theorem dX10_mostBrought_13 : decode cX10_mostBrought 13 = .ok (.getfield 21, 3) := by decide +kernel
theorem dX10_mostBrought_16 : decode cX10_mostBrought 16 = .ok (.iload_n 2, 1) := by decide +kernel
theorem dX10_mostBrought_17 : decode cX10_mostBrought 17 = .ok (.iaload, 1) := by decide +kernel
theorem dX10_mostBrought_18 : decode cX10_mostBrought 18 = .ok (.aload_n 0, 1) := by decide +kernel
theorem dX10_mostBrought_19 : decode cX10_mostBrought 19 = .ok (.getfield 21, 3) := by decide +kernel
theorem dX10_mostBrought_22 : decode cX10_mostBrought 22 = .ok (.iload_n 1, 1) := by decide +kernel
theorem dX10_mostBrought_23 : decode cX10_mostBrought 23 = .ok (.iaload, 1) := by decide +kernel
theorem dX10_mostBrought_24 : decode cX10_mostBrought 24 = .ok (.if_icmp .le 5, 3) := by decide +kernel
theorem dX10_mostBrought_27 : decode cX10_mostBrought 27 = .ok (.iload_n 2, 1) := by decide +kernel
theorem dX10_mostBrought_28 : decode cX10_mostBrought 28 = .ok (.istore_n 1, 1) := by decide +kernel
theorem dX10_mostBrought_29 : decode cX10_mostBrought 29 = .ok (.iinc 2 1, 3) := by decide +kernel
theorem dX10_mostBrought_32 : decode cX10_mostBrought 32 = .ok (.goto (-28), 3) := by decide +kernel
theorem dX10_mostBrought_35 : decode cX10_mostBrought 35 = .ok (.iload_n 1, 1) := by decide +kernel
theorem dX10_mostBrought_36 : decode cX10_mostBrought 36 = .ok (.ireturn, 1) := by decide +kernel
theorem dX10_isOfKind_0 : decode cX10_isOfKind 0 = .ok (.aload_n 0, 1) := by decide +kernel
theorem dX10_isOfKind_1 : decode cX10_isOfKind 1 = .ok (.getfield 9, 3) := by decide +kernel
theorem dX10_isOfKind_4 : decode cX10_isOfKind 4 = .ok (.iload_n 1, 1) := by decide +kernel
theorem dX10_isOfKind_5 : decode cX10_isOfKind 5 = .ok (.iaload, 1) := by decide +kernel
theorem dX10_isOfKind_6 : decode cX10_isOfKind 6 = .ok (.istore_n 3, 1) := by decide +kernel
theorem dX10_isOfKind_7 : decode cX10_isOfKind 7 = .ok (.iconst 0, 1) := by decide +kernel
theorem dX10_isOfKind_8 : decode cX10_isOfKind 8 = .ok (.istore 4, 2) := by decide +kernel
theorem dX10_isOfKind_10 : decode cX10_isOfKind 10 = .ok (.iload 4, 2) := by decide +kernel
theorem dX10_isOfKind_12 : decode cX10_isOfKind 12 = .ok (.bipush 7, 2) := by decide +kernel
theorem dX10_isOfKind_14 : decode cX10_isOfKind 14 = .ok (.if_icmp .ge 26, 3) := by decide +kernel
theorem dX10_isOfKind_17 : decode cX10_isOfKind 17 = .ok (.iload_n 3, 1) := by decide +kernel
theorem dX10_isOfKind_18 : decode cX10_isOfKind 18 = .ok (.ifCond .lt 22, 3) := by decide +kernel
theorem dX10_isOfKind_21 : decode cX10_isOfKind 21 = .ok (.iload_n 3, 1) := by decide +kernel
theorem dX10_isOfKind_22 : decode cX10_isOfKind 22 = .ok (.iload_n 2, 1) := by decide +kernel
theorem dX10_isOfKind_23 : decode cX10_isOfKind 23 = .ok (.if_icmp .ne 5, 3) := by decide +kernel
theorem dX10_isOfKind_26 : decode cX10_isOfKind 26 = .ok (.iconst 1, 1) := by decide +kernel
theorem dX10_isOfKind_27 : decode cX10_isOfKind 27 = .ok (.ireturn, 1) := by decide +kernel
theorem dX10_isOfKind_28 : decode cX10_isOfKind 28 = .ok (.getstatic 28, 3) := by decide +kernel
theorem dX10_isOfKind_31 : decode cX10_isOfKind 31 = .ok (.iload_n 3, 1) := by decide +kernel
theorem dX10_isOfKind_32 : decode cX10_isOfKind 32 = .ok (.iaload, 1) := by decide +kernel
theorem dX10_isOfKind_33 : decode cX10_isOfKind 33 = .ok (.istore_n 3, 1) := by decide +kernel
theorem dX10_isOfKind_34 : decode cX10_isOfKind 34 = .ok (.iinc 4 1, 3) := by decide +kernel
theorem dX10_isOfKind_37 : decode cX10_isOfKind 37 = .ok (.goto (-27), 3) := by decide +kernel
theorem dX10_isOfKind_40 : decode cX10_isOfKind 40 = .ok (.iconst 0, 1) := by decide +kernel
theorem dX10_isOfKind_41 : decode cX10_isOfKind 41 = .ok (.ireturn, 1) := by decide +kernel
theorem dX10_becomeLike_0 : decode cX10_becomeLike 0 = .ok (.aload_n 0, 1) := by decide +kernel
theorem dX10_becomeLike_1 : decode cX10_becomeLike 1 = .ok (.aload_n 1, 1) := by decide +kernel
theorem dX10_becomeLike_2 : decode cX10_becomeLike 2 = .ok (.getfield 24, 3) := by decide +kernel
theorem dX10_becomeLike_5 : decode cX10_becomeLike 5 = .ok (.putfield 24, 3) := by decide +kernel
theorem dX10_becomeLike_8 : decode cX10_becomeLike 8 = .ok (.aload_n 1, 1) := by decide +kernel
theorem dX10_becomeLike_9 : decode cX10_becomeLike 9 = .ok (.getfield 9, 3) := by decide +kernel
theorem dX10_becomeLike_12 : decode cX10_becomeLike 12 = .ok (.iconst 0, 1) := by decide +kernel
theorem dX10_becomeLike_13 : decode cX10_becomeLike 13 = .ok (.aload_n 0, 1) := by decide +kernel
theorem dX10_becomeLike_14 : decode cX10_becomeLike 14 = .ok (.getfield 9, 3) := by decide +kernel
theorem dX10_becomeLike_17 : decode cX10_becomeLike 17 = .ok (.iconst 0, 1) := by decide +kernel
theorem dX10_becomeLike_18 : decode cX10_becomeLike 18 = .ok (.aload_n 0, 1) := by decide +kernel
theorem dX10_becomeLike_19 : decode cX10_becomeLike 19 = .ok (.getfield 24, 3) := by decide +kernel
theorem dX10_becomeLike_22 : decode cX10_becomeLike 22 = .ok (.invokestatic 31, 3) := by decide +kernel
theorem dX10_becomeLike_25 : decode cX10_becomeLike 25 = .ok (.aload_n 1, 1) := by decide +kernel
theorem dX10_becomeLike_26 : decode cX10_becomeLike 26 = .ok (.getfield 15, 3) := by decide +kernel
theorem dX10_becomeLike_29 : decode cX10_becomeLike 29 = .ok (.iconst 0, 1) := by decide +kernel
theorem dX10_becomeLike_30 : decode cX10_becomeLike 30 = .ok (.aload_n 0, 1) := by decide +kernel
theorem dX10_becomeLike_31 : decode cX10_becomeLike 31 = .ok (.getfield 15, 3) := by decide +kernel
theorem dX10_becomeLike_34 : decode cX10_becomeLike 34 = .ok (.iconst 0, 1) := by decide +kernel
theorem dX10_becomeLike_35 : decode cX10_becomeLike 35 = .ok (.aload_n 0, 1) := by decide +kernel
theorem dX10_becomeLike_36 : decode cX10_becomeLike 36 = .ok (.getfield 24, 3) := by decide +kernel
theorem dX10_becomeLike_39 : decode cX10_becomeLike 39 = .ok (.invokestatic 31, 3) := by decide +kernel
theorem dX10_becomeLike_42 : decode cX10_becomeLike 42 = .ok (.aload_n 1, 1) := by decide +kernel
theorem dX10_becomeLike_43 : decode cX10_becomeLike 43 = .ok (.getfield 18, 3) := by decide +kernel
theorem dX10_becomeLike_46 : decode cX10_becomeLike 46 = .ok (.iconst 0, 1) := by decide +kernel
theorem dX10_becomeLike_47 : decode cX10_becomeLike 47 = .ok (.aload_n 0, 1) := by decide +kernel
theorem dX10_becomeLike_48 : decode cX10_becomeLike 48 = .ok (.getfield 18, 3) := by decide +kernel
theorem dX10_becomeLike_51 : decode cX10_becomeLike 51 = .ok (.iconst 0, 1) := by decide +kernel
theorem dX10_becomeLike_52 : decode cX10_becomeLike 52 = .ok (.aload_n 0, 1) := by decide +kernel
theorem dX10_becomeLike_53 : decode cX10_becomeLike 53 = .ok (.getfield 24, 3) := by decide +kernel
theorem dX10_becomeLike_56 : decode cX10_becomeLike 56 = .ok (.invokestatic 31, 3) := by decide +kernel
theorem dX10_becomeLike_59 : decode cX10_becomeLike 59 = .ok (.aload_n 1, 1) := by decide +kernel
theorem dX10_becomeLike_60 : decode cX10_becomeLike 60 = .ok (.getfield 21, 3) := by decide +kernel
theorem dX10_becomeLike_63 : decode cX10_becomeLike 63 = .ok (.iconst 0, 1) := by decide +kernel
theorem dX10_becomeLike_64 : decode cX10_becomeLike 64 = .ok (.aload_n 0, 1) := by decide +kernel
theorem dX10_becomeLike_65 : decode cX10_becomeLike 65 = .ok (.getfield 21, 3) := by decide +kernel
theorem dX10_becomeLike_68 : decode cX10_becomeLike 68 = .ok (.iconst 0, 1) := by decide +kernel
theorem dX10_becomeLike_69 : decode cX10_becomeLike 69 = .ok (.aload_n 0, 1) := by decide +kernel
theorem dX10_becomeLike_70 : decode cX10_becomeLike 70 = .ok (.getfield 24, 3) := by decide +kernel
theorem dX10_becomeLike_73 : decode cX10_becomeLike 73 = .ok (.invokestatic 31, 3) := by decide +kernel
theorem dX10_becomeLike_76 : decode cX10_becomeLike 76 = .ok (.return_, 1) := by decide +kernel
set_option maxRecDepth 20000 in
theorem ggX11_init_X2_init : GoodIn wsX11_init wsX2_init := goodIn_r _ [35, 36, 2, 3, 37, 38, 39, 40, 41, 42, 43, 44, 4, 45, 46, 47, 48, 49, 50, 51, 52, 53, 54, 55, 56, 57, 58, 59, 60, 61, 62, 63, 64, 65, 66, 67, 68, 69, 70, 71, 72, 73, 74, 75, 76, 77, 78, 79, 80, 81, 82, 83, 84, 85, 86, 87, 88, 89, 90, 91, 92, 93, 94, 95, 155, 156, 157, 158, 159, 160, 161, 162, 163, 164, 165, 166, 167, 136, 137, 138, 139, 171, 172, 173, 174, 175, 176, 177, 178, 179, 180, 181, 182, 183, 184, 185, 186, 187, 188, 189, 190, 191, 192, 193, 194, 195, 196] (by decide +kernel) (by decide +kernel)
set_option maxRecDepth 20000 in
theorem gX11_init_X2_init : GoodIn wsX11_init (wsX2_init) := ggX11_init_X2_init
set_option maxRecDepth 20000 in
theorem ggX11_init_X8_init : GoodIn wsX11_init wsX8_init := goodIn_r _ [97, 98, 2, 3, 4, 99, 140, 141] (by decide +kernel) (by decide +kernel)
set_option maxRecDepth 20000 in
theorem gX11_init_X8_init_n25 : GoodIn wsX11_init (wsX8_init) := ggX11_init_X8_init
set_option maxRecDepth 20000 in
theorem ggX11_init_X5_init : GoodIn wsX11_init wsX5_init := goodIn_r _ [102, 103, 2, 3, 104, 142, 143, 144, 145, 146] (by decide +kernel) (by decide +kernel)
set_option maxRecDepth 20000 in
theorem gX11_init_X5_init : GoodIn wsX11_init (wsX5_init) := ggX11_init_X5_init
set_option maxRecDepth 20000 in
theorem ggX11_init_X3_init : GoodIn wsX11_init wsX3_init := goodIn_r _ [107, 108, 2, 3, 109, 38, 39, 110, 4, 111, 112, 47, 48, 49, 50, 51, 52, 53, 54, 55, 56, 57, 58, 59, 60, 61, 62, 63, 64, 65, 66, 67, 68, 69, 70, 71, 72, 73, 74, 75, 76, 77, 78, 79, 80, 81, 82, 83, 84, 85, 155, 156, 157, 158, 159, 160, 161, 162, 163, 164, 165, 166, 167, 147, 148, 149, 175, 176, 177, 178, 179, 180, 181, 182, 183, 184, 185, 186, 187, 188, 189, 190, 191, 192, 193, 194, 195, 196] (by decide +kernel) (by decide +kernel)
set_option maxRecDepth 20000 in
theorem gX11_init_X3_init : GoodIn wsX11_init (wsX3_init) := ggX11_init_X3_init
set_option maxRecDepth 20000 in
theorem ggX11_init_X1_init : GoodIn wsX11_init wsX1_init := goodIn_r _ [115, 116, 2, 3, 4, 117, 118, 119, 120, 121, 122, 150, 151, 152, 153, 154] (by decide +kernel) (by decide +kernel)
set_option maxRecDepth 20000 in
theorem gX11_init_X1_init : GoodIn wsX11_init (wsX1_init) := ggX11_init_X1_init
set_option maxRecDepth 20000 in
theorem ggX11_init_X6_init : GoodIn wsX11_init wsX6_init := goodIn_r _ [124, 125, 2, 3, 4, 126, 168, 169, 170] (by decide +kernel) (by decide +kernel)
set_option maxRecDepth 20000 in
theorem gX11_init_X6_init_n73 : GoodIn wsX11_init (wsX6_init) := ggX11_init_X6_init
theorem dX11_init_0 : decode cX11_init 0 = .ok (.aload_n 0, 1) := by decide +kernel
theorem dX11_init_1 : decode cX11_init 1 = .ok (.invokespecial 3, 3) := by decide +kernel
theorem dX11_init_4 : decode cX11_init 4 = .ok (.aload_n 0, 1) := by decide +kernel
theorem dX11_init_5 : decode cX11_init 5 = .ok (.bipush 7, 2) := by decide +kernel
theorem dX11_init_7 : decode cX11_init 7 = .ok (.newarray .int, 2) := by decide +kernel
theorem dX11_init_9 : decode cX11_init 9 = .ok (.putfield 9, 3) := by decide +kernel
theorem dX11_init_12 : decode cX11_init 12 = .ok (.aload_n 0, 1) := by decide +kernel
theorem dX11_init_13 : decode cX11_init 13 = .ok (.new 13, 3) := by decide +kernel
theorem dX11_init_16 : decode cX11_init 16 = .ok (.dup, 1) := by decide +kernel
theorem dX11_init_17 : decode cX11_init 17 = .ok (.invokespecial 15, 3) := by decide +kernel
theorem dX11_init_20 : decode cX11_init 20 = .ok (.putfield 16, 3) := by decide +kernel
theorem dX11_init_23 : decode cX11_init 23 = .ok (.aload_n 0, 1) := by decide +kernel
theorem dX11_init_24 : decode cX11_init 24 = .ok (.new 13, 3) := by decide +kernel
theorem dX11_init_27 : decode cX11_init 27 = .ok (.dup, 1) := by decide +kernel
theorem dX11_init_28 : decode cX11_init 28 = .ok (.invokespecial 15, 3) := by decide +kernel
theorem dX11_init_31 : decode cX11_init 31 = .ok (.putfield 20, 3) := by decide +kernel
theorem dX11_init_34 : decode cX11_init 34 = .ok (.aload_n 0, 1) := by decide +kernel
theorem dX11_init_35 : decode cX11_init 35 = .ok (.new 23, 3) := by decide +kernel
theorem dX11_init_38 : decode cX11_init 38 = .ok (.dup, 1) := by decide +kernel
theorem dX11_init_39 : decode cX11_init 39 = .ok (.invokespecial 25, 3) := by decide +kernel
theorem dX11_init_42 : decode cX11_init 42 = .ok (.putfield 26, 3) := by decide +kernel
theorem dX11_init_45 : decode cX11_init 45 = .ok (.aload_n 0, 1) := by decide +kernel
theorem dX11_init_46 : decode cX11_init 46 = .ok (.new 30, 3) := by decide +kernel
theorem dX11_init_49 : decode cX11_init 49 = .ok (.dup, 1) := by decide +kernel
theorem dX11_init_50 : decode cX11_init 50 = .ok (.aload_n 0, 1) := by decide +kernel
theorem dX11_init_51 : decode cX11_init 51 = .ok (.getfield 26, 3) := by decide +kernel
theorem dX11_init_54 : decode cX11_init 54 = .ok (.invokespecial 32, 3) := by decide +kernel
theorem dX11_init_57 : decode cX11_init 57 = .ok (.putfield 35, 3) := by decide +kernel
theorem dX11_init_60 : decode cX11_init 60 = .ok (.aload_n 0, 1) := by decide +kernel
theorem dX11_init_61 : decode cX11_init 61 = .ok (.iconst 4, 1) := by decide +kernel
theorem dX11_init_62 : decode cX11_init 62 = .ok (.anewarray 39, 3) := by decide +kernel
theorem dX11_init_65 : decode cX11_init 65 = .ok (.putfield 41, 3) := by decide +kernel
theorem dX11_init_68 : decode cX11_init 68 = .ok (.aload_n 0, 1) := by decide +kernel
theorem dX11_init_69 : decode cX11_init 69 = .ok (.new 45, 3) := by decide +kernel
theorem dX11_init_72 : decode cX11_init 72 = .ok (.dup, 1) := by decide +kernel
theorem dX11_init_73 : decode cX11_init 73 = .ok (.aload_n 0, 1) := by decide +kernel
theorem dX11_init_74 : decode cX11_init 74 = .ok (.getfield 16, 3) := by decide +kernel
theorem dX11_init_77 : decode cX11_init 77 = .ok (.getfield 47, 3) := by decide +kernel
theorem dX11_init_80 : decode cX11_init 80 = .ok (.invokespecial 51, 3) := by decide +kernel
theorem dX11_init_83 : decode cX11_init 83 = .ok (.putfield 54, 3) := by decide +kernel
theorem dX11_init_86 : decode cX11_init 86 = .ok (.aload_n 0, 1) := by decide +kernel
theorem dX11_init_87 : decode cX11_init 87 = .ok (.new 58, 3) := by decide +kernel
theorem dX11_init_90 : decode cX11_init 90 = .ok (.dup, 1) := by decide +kernel
theorem dX11_init_91 : decode cX11_init 91 = .ok (.aload_n 0, 1) := by decide +kernel
theorem dX11_init_92 : decode cX11_init 92 = .ok (.getfield 16, 3) := by decide +kernel
theorem dX11_init_95 : decode cX11_init 95 = .ok (.getfield 47, 3) := by decide +kernel
theorem dX11_init_98 : decode cX11_init 98 = .ok (.getfield 60, 3) := by decide +kernel
theorem dX11_init_101 : decode cX11_init 101 = .ok (.invokespecial 66, 3) := by decide +kernel
theorem dX11_init_104 : decode cX11_init 104 = .ok (.putfield 69, 3) := by decide +kernel
theorem dX11_init_107 : decode cX11_init 107 = .ok (.iconst 0, 1) := by decide +kernel
theorem dX11_init_108 : decode cX11_init 108 = .ok (.istore_n 1, 1) := by decide +kernel
theorem dX11_init_109 : decode cX11_init 109 = .ok (.iload_n 1, 1) := by decide +kernel
theorem dX11_init_110 : decode cX11_init 110 = .ok (.iconst 4, 1) := by decide +kernel
theorem dX11_init_111 : decode cX11_init 111 = .ok (.if_icmp .ge 22, 3) := by decide +kernel
theorem dX11_init_114 : decode cX11_init 114 = .ok (.aload_n 0, 1) := by decide +kernel
theorem dX11_init_115 : decode cX11_init 115 = .ok (.getfield 41, 3) := by decide +kernel
theorem dX11_init_118 : decode cX11_init 118 = .ok (.iload_n 1, 1) := by decide +kernel
theorem dX11_init_119 : decode cX11_init 119 = .ok (.new 39, 3) := by decide +kernel
theorem dX11_init_122 : decode cX11_init 122 = .ok (.dup, 1) := by decide +kernel
theorem dX11_init_123 : decode cX11_init 123 = .ok (.invokespecial 73, 3) := by decide +kernel
theorem dX11_init_126 : decode cX11_init 126 = .ok (.aastore, 1) := by decide +kernel
theorem dX11_init_127 : decode cX11_init 127 = .ok (.iinc 1 1, 3) := by decide +kernel
theorem dX11_init_130 : decode cX11_init 130 = .ok (.goto (-21), 3) := by decide +kernel
theorem dX11_init_133 : decode cX11_init 133 = .ok (.return_, 1) := by decide +kernel
set_option maxRecDepth 20000 in
theorem ggX11_water_X11_within : GoodIn wsX11_water wsX11_within := goodIn_r _ [10] (by decide +kernel) (by decide +kernel)
set_option maxRecDepth 20000 in
theorem gX11_water_X11_within : GoodIn wsX11_water (va_wsS RX11 74 yX11_within wsX11_within) := goodIn_app (goodIn_of _ (by decide +kernel)) ggX11_water_X11_within
set_option maxRecDepth 20000 in
theorem ggX11_water_X11_tell : GoodIn wsX11_water wsX11_tell := goodIn_r _ [14, 15, 1, 26, 27, 28, 29, 30, 31, 32, 33, 34] (by decide +kernel) (by decide +kernel)
set_option maxRecDepth 20000 in
theorem gX11_water_X11_tell : GoodIn wsX11_water (wsV RX11 79 RX11 yX11_tell wsX11_tell) := goodIn_app (goodIn_of _ (by decide +kernel)) ggX11_water_X11_tell
set_option maxRecDepth 20000 in
theorem ggX11_water_X10_add : GoodIn wsX11_water wsX10_add := goodIn_r _ [20, 21, 22, 23, 24, 25, 52, 53, 54, 55, 56] (by decide +kernel) (by decide +kernel)
set_option maxRecDepth 20000 in
theorem gX11_water_X10_add : GoodIn wsX11_water (wsV RX11 94 RX10 yX10_add wsX10_add) := goodIn_app (goodIn_of _ (by decide +kernel)) ggX11_water_X10_add
theorem dX11_water_0 : decode cX11_water 0 = .ok (.iload_n 1, 1) := by decide +kernel
theorem dX11_water_1 : decode cX11_water 1 = .ok (.iconst 0, 1) := by decide +kernel
theorem dX11_water_2 : decode cX11_water 2 = .ok (.bipush 6, 2) := by decide +kernel
theorem dX11_water_4 : decode cX11_water 4 = .ok (.invokestatic 74, 3) := by decide +kernel
theorem dX11_water_7 : decode cX11_water 7 = .ok (.ifCond .eq 24, 3) := by decide +kernel
theorem dX11_water_10 : decode cX11_water 10 = .ok (.iload_n 2, 1) := by decide +kernel
theorem dX11_water_11 : decode cX11_water 11 = .ok (.iconst 1, 1) := by decide +kernel
theorem dX11_water_12 : decode cX11_water 12 = .ok (.bipush 99, 2) := by decide +kernel
theorem dX11_water_14 : decode cX11_water 14 = .ok (.invokestatic 74, 3) := by decide +kernel
theorem dX11_water_17 : decode cX11_water 17 = .ok (.ifCond .eq 14, 3) := by decide +kernel
theorem dX11_water_20 : decode cX11_water 20 = .ok (.iload_n 3, 1) := by decide +kernel
theorem dX11_water_21 : decode cX11_water 21 = .ok (.iconst 0, 1) := by decide +kernel
theorem dX11_water_22 : decode cX11_water 22 = .ok (.sipush 999, 3) := by decide +kernel
theorem dX11_water_25 : decode cX11_water 25 = .ok (.invokestatic 74, 3) := by decide +kernel
theorem dX11_water_28 : decode cX11_water 28 = .ok (.ifCond .ne 10, 3) := by decide +kernel
theorem dX11_water_31 : decode cX11_water 31 = .ok (.aload_n 0, 1) := by decide +kernel
theorem dX11_water_32 : decode cX11_water 32 = .ok (.ldc 78, 2) := by decide +kernel
theorem dX11_water_34 : decode cX11_water 34 = .ok (.invokevirtual 79, 3) := by decide +kernel
theorem dX11_water_37 : decode cX11_water 37 = .ok (.ireturn, 1) := by decide +kernel
theorem dX11_water_38 : decode cX11_water 38 = .ok (.aload_n 0, 1) := by decide +kernel
theorem dX11_water_39 : decode cX11_water 39 = .ok (.getfield 16, 3) := by decide +kernel
theorem dX11_water_42 : decode cX11_water 42 = .ok (.getfield 47, 3) := by decide +kernel
theorem dX11_water_45 : decode cX11_water 45 = .ok (.getfield 83, 3) := by decide +kernel
theorem dX11_water_48 : decode cX11_water 48 = .ok (.getfield 87, 3) := by decide +kernel
theorem dX11_water_51 : decode cX11_water 51 = .ok (.bipush 8, 2) := by decide +kernel
theorem dX11_water_53 : decode cX11_water 53 = .ok (.if_icmp .lt 10, 3) := by decide +kernel
theorem dX11_water_56 : decode cX11_water 56 = .ok (.aload_n 0, 1) := by decide +kernel
theorem dX11_water_57 : decode cX11_water 57 = .ok (.ldc 93, 2) := by decide +kernel
theorem dX11_water_59 : decode cX11_water 59 = .ok (.invokevirtual 79, 3) := by decide +kernel
theorem dX11_water_62 : decode cX11_water 62 = .ok (.ireturn, 1) := by decide +kernel
theorem dX11_water_63 : decode cX11_water 63 = .ok (.aload_n 0, 1) := by decide +kernel
theorem dX11_water_64 : decode cX11_water 64 = .ok (.getfield 16, 3) := by decide +kernel
theorem dX11_water_67 : decode cX11_water 67 = .ok (.getfield 47, 3) := by decide +kernel
theorem dX11_water_70 : decode cX11_water 70 = .ok (.getfield 83, 3) := by decide +kernel
theorem dX11_water_73 : decode cX11_water 73 = .ok (.iload_n 1, 1) := by decide +kernel
theorem dX11_water_74 : decode cX11_water 74 = .ok (.iload_n 2, 1) := by decide +kernel
theorem dX11_water_75 : decode cX11_water 75 = .ok (.iload_n 3, 1) := by decide +kernel
theorem dX11_water_76 : decode cX11_water 76 = .ok (.invokevirtual 94, 3) := by decide +kernel
theorem dX11_water_79 : decode cX11_water 79 = .ok (.ireturn, 1) := by decide +kernel
set_option maxRecDepth 20000 in
theorem ggX11_waterOf_X11_isWater : GoodIn wsX11_waterOf wsX11_isWater := goodIn_r _ [13, 2, 3, 4, 14, 15, 16, 12, 17, 45, 46, 47, 48, 49, 50, 51, 52, 53, 54, 55, 56, 57, 58, 59, 60, 61, 62, 63, 64, 65, 66, 67, 68, 69, 70, 71, 72, 73, 74, 75] (by decide +kernel) (by decide +kernel)
set_option maxRecDepth 20000 in
theorem gX11_waterOf_X11_isWater : GoodIn wsX11_waterOf (wsV RX11 98 RX11 yX11_isWater wsX11_isWater) := goodIn_app (goodIn_of _ (by decide +kernel)) ggX11_waterOf_X11_isWater
set_option maxRecDepth 20000 in
theorem ggX11_waterOf_X11_within : GoodIn wsX11_waterOf wsX11_within := goodIn_r _ [17] (by decide +kernel) (by decide +kernel)
set_option maxRecDepth 20000 in
theorem gX11_waterOf_X11_within : GoodIn wsX11_waterOf (va_wsS RX11 74 yX11_within wsX11_within) := goodIn_app (goodIn_of _ (by decide +kernel)) ggX11_waterOf_X11_within
set_option maxRecDepth 20000 in
theorem ggX11_waterOf_X11_tell : GoodIn wsX11_waterOf wsX11_tell := goodIn_r _ [21, 22, 1, 45, 46, 47, 48, 49, 50, 51, 52, 53] (by decide +kernel) (by decide +kernel)
set_option maxRecDepth 20000 in
theorem gX11_waterOf_X11_tell : GoodIn wsX11_waterOf (wsV RX11 79 RX11 yX11_tell wsX11_tell) := goodIn_app (goodIn_of _ (by decide +kernel)) ggX11_waterOf_X11_tell
set_option maxRecDepth 20000 in
theorem ggX11_waterOf_X0_comesOf : GoodIn wsX11_waterOf wsX0_comesOf := goodIn_r _ [27, 28, 29, 30, 31, 32, 33, 34, 35, 36, 37, 38, 39, 40, 41, 42, 26, 43, 44, 58, 59, 60, 61, 62, 63, 64, 65, 66, 67, 68, 69, 70, 71, 72, 73, 74, 75] (by decide +kernel) (by decide +kernel)
set_option maxRecDepth 20000 in
theorem gX11_waterOf_X0_comesOf : GoodIn wsX11_waterOf (wsV RX11 111 RX0 yX0_comesOf wsX0_comesOf) := goodIn_app (goodIn_of _ (by decide +kernel)) ggX11_waterOf_X0_comesOf
theorem dX11_waterOf_0 : decode cX11_waterOf 0 = .ok (.aload_n 0, 1) := by decide +kernel
theorem dX11_waterOf_1 : decode cX11_waterOf 1 = .ok (.iload_n 1, 1) := by decide +kernel
theorem dX11_waterOf_2 : decode cX11_waterOf 2 = .ok (.invokevirtual 98, 3) := by decide +kernel
theorem dX11_waterOf_5 : decode cX11_waterOf 5 = .ok (.ifCond .eq 12, 3) := by decide +kernel
theorem dX11_waterOf_8 : decode cX11_waterOf 8 = .ok (.iload_n 2, 1) := by decide +kernel
theorem dX11_waterOf_9 : decode cX11_waterOf 9 = .ok (.iconst 0, 1) := by decide +kernel
theorem dX11_waterOf_10 : decode cX11_waterOf 10 = .ok (.iconst 4, 1) := by decide +kernel
theorem dX11_waterOf_11 : decode cX11_waterOf 11 = .ok (.invokestatic 74, 3) := by decide +kernel
theorem dX11_waterOf_14 : decode cX11_waterOf 14 = .ok (.ifCond .ne 10, 3) := by decide +kernel
theorem dX11_waterOf_17 : decode cX11_waterOf 17 = .ok (.aload_n 0, 1) := by decide +kernel
theorem dX11_waterOf_18 : decode cX11_waterOf 18 = .ok (.ldc 78, 2) := by decide +kernel
theorem dX11_waterOf_20 : decode cX11_waterOf 20 = .ok (.invokevirtual 79, 3) := by decide +kernel
theorem dX11_waterOf_23 : decode cX11_waterOf 23 = .ok (.ireturn, 1) := by decide +kernel
theorem dX11_waterOf_24 : decode cX11_waterOf 24 = .ok (.aload_n 0, 1) := by decide +kernel
theorem dX11_waterOf_25 : decode cX11_waterOf 25 = .ok (.getfield 16, 3) := by decide +kernel
theorem dX11_waterOf_28 : decode cX11_waterOf 28 = .ok (.getfield 47, 3) := by decide +kernel
theorem dX11_waterOf_31 : decode cX11_waterOf 31 = .ok (.getfield 83, 3) := by decide +kernel
theorem dX11_waterOf_34 : decode cX11_waterOf 34 = .ok (.astore_n 3, 1) := by decide +kernel
theorem dX11_waterOf_35 : decode cX11_waterOf 35 = .ok (.iload_n 2, 1) := by decide +kernel
theorem dX11_waterOf_36 : decode cX11_waterOf 36 = .ok (.tableswitch 65 0 3 #[32, 39, 46, 53], 32) := by decide +kernel
theorem dX11_waterOf_68 : decode cX11_waterOf 68 = .ok (.aload_n 3, 1) := by decide +kernel
theorem dX11_waterOf_69 : decode cX11_waterOf 69 = .ok (.getfield 102, 3) := by decide +kernel
theorem dX11_waterOf_72 : decode cX11_waterOf 72 = .ok (.iload_n 1, 1) := by decide +kernel
theorem dX11_waterOf_73 : decode cX11_waterOf 73 = .ok (.iaload, 1) := by decide +kernel
theorem dX11_waterOf_74 : decode cX11_waterOf 74 = .ok (.ireturn, 1) := by decide +kernel
theorem dX11_waterOf_75 : decode cX11_waterOf 75 = .ok (.aload_n 3, 1) := by decide +kernel
theorem dX11_waterOf_76 : decode cX11_waterOf 76 = .ok (.getfield 105, 3) := by decide +kernel
theorem dX11_waterOf_79 : decode cX11_waterOf 79 = .ok (.iload_n 1, 1) := by decide +kernel
theorem dX11_waterOf_80 : decode cX11_waterOf 80 = .ok (.iaload, 1) := by decide +kernel
theorem dX11_waterOf_81 : decode cX11_waterOf 81 = .ok (.ireturn, 1) := by decide +kernel
theorem dX11_waterOf_82 : decode cX11_waterOf 82 = .ok (.aload_n 3, 1) := by decide +kernel
theorem dX11_waterOf_83 : decode cX11_waterOf 83 = .ok (.getfield 108, 3) := by decide +kernel
theorem dX11_waterOf_86 : decode cX11_waterOf 86 = .ok (.iload_n 1, 1) := by decide +kernel
theorem dX11_waterOf_87 : decode cX11_waterOf 87 = .ok (.iaload, 1) := by decide +kernel
theorem dX11_waterOf_88 : decode cX11_waterOf 88 = .ok (.ireturn, 1) := by decide +kernel
theorem dX11_waterOf_89 : decode cX11_waterOf 89 = .ok (.aload_n 0, 1) := by decide +kernel
theorem dX11_waterOf_90 : decode cX11_waterOf 90 = .ok (.getfield 16, 3) := by decide +kernel
theorem dX11_waterOf_93 : decode cX11_waterOf 93 = .ok (.getfield 47, 3) := by decide +kernel
theorem dX11_waterOf_96 : decode cX11_waterOf 96 = .ok (.iload_n 1, 1) := by decide +kernel
theorem dX11_waterOf_97 : decode cX11_waterOf 97 = .ok (.invokevirtual 111, 3) := by decide +kernel
theorem dX11_waterOf_100 : decode cX11_waterOf 100 = .ok (.ireturn, 1) := by decide +kernel
theorem dX11_waterOf_101 : decode cX11_waterOf 101 = .ok (.aload_n 3, 1) := by decide +kernel
theorem dX11_waterOf_102 : decode cX11_waterOf 102 = .ok (.getfield 114, 3) := by decide +kernel
theorem dX11_waterOf_105 : decode cX11_waterOf 105 = .ok (.iload_n 1, 1) := by decide +kernel
theorem dX11_waterOf_106 : decode cX11_waterOf 106 = .ok (.iaload, 1) := by decide +kernel
theorem dX11_waterOf_107 : decode cX11_waterOf 107 = .ok (.ireturn, 1) := by decide +kernel
set_option maxRecDepth 20000 in
theorem ggX11_change_X11_isWater : GoodIn wsX11_change wsX11_isWater := goodIn_r _ [11, 2, 3, 4, 12, 13, 14, 10, 15, 21, 22, 23, 24, 25, 26, 27, 28, 29, 30, 31, 32, 33, 34, 35, 36, 37, 38, 39, 40, 41, 42, 43, 44, 45, 46, 47, 48, 49, 50, 51] (by decide +kernel) (by decide +kernel)
set_option maxRecDepth 20000 in
theorem gX11_change_X11_isWater : GoodIn wsX11_change (wsV RX11 98 RX11 yX11_isWater wsX11_isWater) := goodIn_app (goodIn_of _ (by decide +kernel)) ggX11_change_X11_isWater
set_option maxRecDepth 20000 in
theorem ggX11_change_X11_within : GoodIn wsX11_change wsX11_within := goodIn_r _ [15] (by decide +kernel) (by decide +kernel)
set_option maxRecDepth 20000 in
theorem gX11_change_X11_within : GoodIn wsX11_change (va_wsS RX11 74 yX11_within wsX11_within) := goodIn_app (goodIn_of _ (by decide +kernel)) ggX11_change_X11_within
set_option maxRecDepth 20000 in
theorem ggX11_change_X11_tell : GoodIn wsX11_change wsX11_tell := goodIn_r _ [19, 20, 1, 21, 22, 23, 24, 25, 26, 27, 28, 29] (by decide +kernel) (by decide +kernel)
set_option maxRecDepth 20000 in
theorem gX11_change_X11_tell : GoodIn wsX11_change (wsV RX11 79 RX11 yX11_tell wsX11_tell) := goodIn_app (goodIn_of _ (by decide +kernel)) ggX11_change_X11_tell
theorem dX11_change_0 : decode cX11_change 0 = .ok (.aload_n 0, 1) := by decide +kernel
theorem dX11_change_1 : decode cX11_change 1 = .ok (.iload_n 1, 1) := by decide +kernel
theorem dX11_change_2 : decode cX11_change 2 = .ok (.invokevirtual 98, 3) := by decide +kernel
theorem dX11_change_5 : decode cX11_change 5 = .ok (.ifCond .eq 12, 3) := by decide +kernel
theorem dX11_change_8 : decode cX11_change 8 = .ok (.iload_n 2, 1) := by decide +kernel
theorem dX11_change_9 : decode cX11_change 9 = .ok (.iconst 1, 1) := by decide +kernel
theorem dX11_change_10 : decode cX11_change 10 = .ok (.iconst 2, 1) := by decide +kernel
theorem dX11_change_11 : decode cX11_change 11 = .ok (.invokestatic 74, 3) := by decide +kernel
theorem dX11_change_14 : decode cX11_change 14 = .ok (.ifCond .ne 10, 3) := by decide +kernel
theorem dX11_change_17 : decode cX11_change 17 = .ok (.aload_n 0, 1) := by decide +kernel
theorem dX11_change_18 : decode cX11_change 18 = .ok (.ldc 78, 2) := by decide +kernel
theorem dX11_change_20 : decode cX11_change 20 = .ok (.invokevirtual 79, 3) := by decide +kernel
theorem dX11_change_23 : decode cX11_change 23 = .ok (.ireturn, 1) := by decide +kernel
theorem dX11_change_24 : decode cX11_change 24 = .ok (.iload_n 2, 1) := by decide +kernel
theorem dX11_change_25 : decode cX11_change 25 = .ok (.iconst 1, 1) := by decide +kernel
theorem dX11_change_26 : decode cX11_change 26 = .ok (.if_icmp .ne 7, 3) := by decide +kernel
theorem dX11_change_29 : decode cX11_change 29 = .ok (.iconst 1, 1) := by decide +kernel
theorem dX11_change_30 : decode cX11_change 30 = .ok (.goto 4, 3) := by decide +kernel
theorem dX11_change_33 : decode cX11_change 33 = .ok (.iconst 0, 1) := by decide +kernel
theorem dX11_change_34 : decode cX11_change 34 = .ok (.istore 4, 2) := by decide +kernel
theorem dX11_change_36 : decode cX11_change 36 = .ok (.iload_n 3, 1) := by decide +kernel
theorem dX11_change_37 : decode cX11_change 37 = .ok (.iload 4, 2) := by decide +kernel
theorem dX11_change_39 : decode cX11_change 39 = .ok (.ifCond .eq 7, 3) := by decide +kernel
theorem dX11_change_42 : decode cX11_change 42 = .ok (.iconst 1, 1) := by decide +kernel
theorem dX11_change_43 : decode cX11_change 43 = .ok (.goto 4, 3) := by decide +kernel
theorem dX11_change_46 : decode cX11_change 46 = .ok (.iconst 0, 1) := by decide +kernel
theorem dX11_change_47 : decode cX11_change 47 = .ok (.iload 4, 2) := by decide +kernel
theorem dX11_change_49 : decode cX11_change 49 = .ok (.ifCond .eq 8, 3) := by decide +kernel
theorem dX11_change_52 : decode cX11_change 52 = .ok (.bipush 99, 2) := by decide +kernel
theorem dX11_change_54 : decode cX11_change 54 = .ok (.goto 6, 3) := by decide +kernel
theorem dX11_change_57 : decode cX11_change 57 = .ok (.sipush 999, 3) := by decide +kernel
theorem dX11_change_60 : decode cX11_change 60 = .ok (.invokestatic 74, 3) := by decide +kernel
theorem dX11_change_63 : decode cX11_change 63 = .ok (.ifCond .ne 10, 3) := by decide +kernel
theorem dX11_change_66 : decode cX11_change 66 = .ok (.aload_n 0, 1) := by decide +kernel
theorem dX11_change_67 : decode cX11_change 67 = .ok (.ldc 78, 2) := by decide +kernel
theorem dX11_change_69 : decode cX11_change 69 = .ok (.invokevirtual 79, 3) := by decide +kernel
theorem dX11_change_72 : decode cX11_change 72 = .ok (.ireturn, 1) := by decide +kernel
theorem dX11_change_73 : decode cX11_change 73 = .ok (.iload 4, 2) := by decide +kernel
theorem dX11_change_75 : decode cX11_change 75 = .ok (.ifCond .eq 19, 3) := by decide +kernel
theorem dX11_change_78 : decode cX11_change 78 = .ok (.aload_n 0, 1) := by decide +kernel
theorem dX11_change_79 : decode cX11_change 79 = .ok (.getfield 16, 3) := by decide +kernel
theorem dX11_change_82 : decode cX11_change 82 = .ok (.getfield 47, 3) := by decide +kernel
theorem dX11_change_85 : decode cX11_change 85 = .ok (.getfield 83, 3) := by decide +kernel
theorem dX11_change_88 : decode cX11_change 88 = .ok (.getfield 105, 3) := by decide +kernel
theorem dX11_change_91 : decode cX11_change 91 = .ok (.goto 16, 3) := by decide +kernel
theorem dX11_change_94 : decode cX11_change 94 = .ok (.aload_n 0, 1) := by decide +kernel
theorem dX11_change_95 : decode cX11_change 95 = .ok (.getfield 16, 3) := by decide +kernel
theorem dX11_change_98 : decode cX11_change 98 = .ok (.getfield 47, 3) := by decide +kernel
theorem dX11_change_101 : decode cX11_change 101 = .ok (.getfield 83, 3) := by decide +kernel
theorem dX11_change_104 : decode cX11_change 104 = .ok (.getfield 108, 3) := by decide +kernel
theorem dX11_change_107 : decode cX11_change 107 = .ok (.astore 5, 2) := by decide +kernel
theorem dX11_change_109 : decode cX11_change 109 = .ok (.aload 5, 2) := by decide +kernel
theorem dX11_change_111 : decode cX11_change 111 = .ok (.iload_n 1, 1) := by decide +kernel
theorem dX11_change_112 : decode cX11_change 112 = .ok (.iaload, 1) := by decide +kernel
theorem dX11_change_113 : decode cX11_change 113 = .ok (.istore 6, 2) := by decide +kernel
theorem dX11_change_115 : decode cX11_change 115 = .ok (.aload 5, 2) := by decide +kernel
theorem dX11_change_117 : decode cX11_change 117 = .ok (.iload_n 1, 1) := by decide +kernel
theorem dX11_change_118 : decode cX11_change 118 = .ok (.iload_n 3, 1) := by decide +kernel
theorem dX11_change_119 : decode cX11_change 119 = .ok (.iastore, 1) := by decide +kernel
theorem dX11_change_120 : decode cX11_change 120 = .ok (.iload 6, 2) := by decide +kernel
theorem dX11_change_122 : decode cX11_change 122 = .ok (.ireturn, 1) := by decide +kernel
set_option maxRecDepth 20000 in
theorem ggX11_set_X11_within : GoodIn wsX11_set wsX11_within := goodIn_r _ [10] (by decide +kernel) (by decide +kernel)
set_option maxRecDepth 20000 in
theorem gX11_set_X11_within : GoodIn wsX11_set (va_wsS RX11 74 yX11_within wsX11_within) := goodIn_app (goodIn_of _ (by decide +kernel)) ggX11_set_X11_within
set_option maxRecDepth 20000 in
theorem ggX11_set_X4_marksFit : GoodIn wsX11_set wsX4_marksFit := goodIn_r _ [15, 16, 17, 67, 68, 69, 70, 71, 72, 73, 74, 75, 76, 77] (by decide +kernel) (by decide +kernel)
set_option maxRecDepth 20000 in
theorem gX11_set_X4_marksFit : GoodIn wsX11_set (wsV RX11 127 RX4 yX4_marksFit wsX4_marksFit) := goodIn_app (goodIn_of _ (by decide +kernel)) ggX11_set_X4_marksFit
set_option maxRecDepth 20000 in
theorem ggX11_set_X11_tell : GoodIn wsX11_set wsX11_tell := goodIn_r _ [21, 22, 6, 41, 42, 43, 44, 45, 46, 47, 48, 49] (by decide +kernel) (by decide +kernel)
set_option maxRecDepth 20000 in
theorem gX11_set_X11_tell : GoodIn wsX11_set (wsV RX11 79 RX11 yX11_tell wsX11_tell) := goodIn_app (goodIn_of _ (by decide +kernel)) ggX11_set_X11_tell
set_option maxRecDepth 20000 in
theorem ggX11_set_X0_measure : GoodIn wsX11_set wsX0_measure := goodIn_r _ [27, 28, 29, 30, 31, 32, 33, 34, 35, 36, 54, 55, 56, 57, 58, 59, 60, 61, 62, 63, 64, 65, 66, 67, 68, 69, 70, 71, 72, 73, 74, 75, 76, 77] (by decide +kernel) (by decide +kernel)
set_option maxRecDepth 20000 in
theorem gX11_set_X0_measure : GoodIn wsX11_set (wsV RX11 133 RX0 yX0_measure wsX0_measure) := goodIn_app (goodIn_of _ (by decide +kernel)) ggX11_set_X0_measure
set_option maxRecDepth 20000 in
theorem ggX11_set_X0_putMeasure : GoodIn wsX11_set wsX0_putMeasure := goodIn_r _ [40, 28, 29, 30, 31, 32, 33, 34, 35, 36, 54, 55, 56, 57, 58, 59, 60, 61, 62, 63, 64, 65, 66, 67, 68, 69, 70, 71, 72, 73, 74, 75, 76, 77] (by decide +kernel) (by decide +kernel)
set_option maxRecDepth 20000 in
theorem gX11_set_X0_putMeasure : GoodIn wsX11_set (wsV RX11 136 RX0 yX0_putMeasure wsX0_putMeasure) := goodIn_app (goodIn_of _ (by decide +kernel)) ggX11_set_X0_putMeasure
theorem dX11_set_0 : decode cX11_set 0 = .ok (.iload_n 1, 1) := by decide +kernel
theorem dX11_set_1 : decode cX11_set 1 = .ok (.iconst 0, 1) := by decide +kernel
theorem dX11_set_2 : decode cX11_set 2 = .ok (.bipush 7, 2) := by decide +kernel
theorem dX11_set_4 : decode cX11_set 4 = .ok (.invokestatic 74, 3) := by decide +kernel
theorem dX11_set_7 : decode cX11_set 7 = .ok (.ifCond .eq 38, 3) := by decide +kernel
theorem dX11_set_10 : decode cX11_set 10 = .ok (.iload_n 2, 1) := by decide +kernel
theorem dX11_set_11 : decode cX11_set 11 = .ok (.getstatic 117, 3) := by decide +kernel
theorem dX11_set_14 : decode cX11_set 14 = .ok (.iload_n 1, 1) := by decide +kernel
theorem dX11_set_15 : decode cX11_set 15 = .ok (.iaload, 1) := by decide +kernel
theorem dX11_set_16 : decode cX11_set 16 = .ok (.getstatic 120, 3) := by decide +kernel
theorem dX11_set_19 : decode cX11_set 19 = .ok (.iload_n 1, 1) := by decide +kernel
theorem dX11_set_20 : decode cX11_set 20 = .ok (.iaload, 1) := by decide +kernel
theorem dX11_set_21 : decode cX11_set 21 = .ok (.invokestatic 74, 3) := by decide +kernel
theorem dX11_set_24 : decode cX11_set 24 = .ok (.ifCond .eq 21, 3) := by decide +kernel
theorem dX11_set_27 : decode cX11_set 27 = .ok (.aload_n 0, 1) := by decide +kernel
theorem dX11_set_28 : decode cX11_set 28 = .ok (.getfield 16, 3) := by decide +kernel
theorem dX11_set_31 : decode cX11_set 31 = .ok (.getfield 47, 3) := by decide +kernel
theorem dX11_set_34 : decode cX11_set 34 = .ok (.getfield 123, 3) := by decide +kernel
theorem dX11_set_37 : decode cX11_set 37 = .ok (.iload_n 1, 1) := by decide +kernel
theorem dX11_set_38 : decode cX11_set 38 = .ok (.iload_n 2, 1) := by decide +kernel
theorem dX11_set_39 : decode cX11_set 39 = .ok (.invokevirtual 127, 3) := by decide +kernel
theorem dX11_set_42 : decode cX11_set 42 = .ok (.ifCond .ne 10, 3) := by decide +kernel
theorem dX11_set_45 : decode cX11_set 45 = .ok (.aload_n 0, 1) := by decide +kernel
theorem dX11_set_46 : decode cX11_set 46 = .ok (.ldc 78, 2) := by decide +kernel
theorem dX11_set_48 : decode cX11_set 48 = .ok (.invokevirtual 79, 3) := by decide +kernel
theorem dX11_set_51 : decode cX11_set 51 = .ok (.ireturn, 1) := by decide +kernel
theorem dX11_set_52 : decode cX11_set 52 = .ok (.aload_n 0, 1) := by decide +kernel
theorem dX11_set_53 : decode cX11_set 53 = .ok (.getfield 16, 3) := by decide +kernel
theorem dX11_set_56 : decode cX11_set 56 = .ok (.getfield 47, 3) := by decide +kernel
theorem dX11_set_59 : decode cX11_set 59 = .ok (.iload_n 1, 1) := by decide +kernel
theorem dX11_set_60 : decode cX11_set 60 = .ok (.invokevirtual 133, 3) := by decide +kernel
theorem dX11_set_63 : decode cX11_set 63 = .ok (.istore_n 3, 1) := by decide +kernel
theorem dX11_set_64 : decode cX11_set 64 = .ok (.aload_n 0, 1) := by decide +kernel
theorem dX11_set_65 : decode cX11_set 65 = .ok (.getfield 16, 3) := by decide +kernel
theorem dX11_set_68 : decode cX11_set 68 = .ok (.getfield 47, 3) := by decide +kernel
theorem dX11_set_71 : decode cX11_set 71 = .ok (.iload_n 1, 1) := by decide +kernel
theorem dX11_set_72 : decode cX11_set 72 = .ok (.iload_n 2, 1) := by decide +kernel
theorem dX11_set_73 : decode cX11_set 73 = .ok (.invokevirtual 136, 3) := by decide +kernel
theorem dX11_set_76 : decode cX11_set 76 = .ok (.iload_n 3, 1) := by decide +kernel
theorem dX11_set_77 : decode cX11_set 77 = .ok (.ireturn, 1) := by decide +kernel
set_option maxRecDepth 20000 in
theorem ggX11_current_X11_bit : GoodIn wsX11_current wsX11_bit := goodIn_r _ [8] (by decide +kernel) (by decide +kernel)
set_option maxRecDepth 20000 in
theorem gX11_current_X11_bit : GoodIn wsX11_current (va_wsS RX11 144 yX11_bit wsX11_bit) := goodIn_app (goodIn_of _ (by decide +kernel)) ggX11_current_X11_bit
theorem dX11_current_0 : decode cX11_current 0 = .ok (.aload_n 0, 1) := by decide +kernel
theorem dX11_current_1 : decode cX11_current 1 = .ok (.getfield 16, 3) := by decide +kernel
theorem dX11_current_4 : decode cX11_current 4 = .ok (.getfield 47, 3) := by decide +kernel
theorem dX11_current_7 : decode cX11_current 7 = .ok (.getfield 123, 3) := by decide +kernel
theorem dX11_current_10 : decode cX11_current 10 = .ok (.astore_n 2, 1) := by decide +kernel
theorem dX11_current_11 : decode cX11_current 11 = .ok (.aload_n 2, 1) := by decide +kernel
theorem dX11_current_12 : decode cX11_current 12 = .ok (.getfield 140, 3) := by decide +kernel
theorem dX11_current_15 : decode cX11_current 15 = .ok (.invokestatic 144, 3) := by decide +kernel
theorem dX11_current_18 : decode cX11_current 18 = .ok (.istore_n 3, 1) := by decide +kernel
theorem dX11_current_19 : decode cX11_current 19 = .ok (.aload_n 2, 1) := by decide +kernel
theorem dX11_current_20 : decode cX11_current 20 = .ok (.iload_n 1, 1) := by decide +kernel
theorem dX11_current_21 : decode cX11_current 21 = .ok (.putfield 140, 3) := by decide +kernel
theorem dX11_current_24 : decode cX11_current 24 = .ok (.iload_n 3, 1) := by decide +kernel
theorem dX11_current_25 : decode cX11_current 25 = .ok (.ireturn, 1) := by decide +kernel
set_option maxRecDepth 20000 in
theorem ggX11_flap_X0_has : GoodIn wsX11_flap wsX0_has := goodIn_r _ [9, 10, 34, 35, 36, 37, 38, 39, 40, 41, 42, 43, 44, 45, 46] (by decide +kernel) (by decide +kernel)
set_option maxRecDepth 20000 in
theorem gX11_flap_X0_has : GoodIn wsX11_flap (wsV RX11 148 RX0 yX0_has wsX0_has) := goodIn_app (goodIn_of _ (by decide +kernel)) ggX11_flap_X0_has
set_option maxRecDepth 20000 in
theorem ggX11_flap_X11_tell : GoodIn wsX11_flap wsX11_tell := goodIn_r _ [15, 16, 17, 21, 22, 23, 24, 25, 26, 27, 28, 29] (by decide +kernel) (by decide +kernel)
set_option maxRecDepth 20000 in
theorem gX11_flap_X11_tell : GoodIn wsX11_flap (wsV RX11 79 RX11 yX11_tell wsX11_tell) := goodIn_app (goodIn_of _ (by decide +kernel)) ggX11_flap_X11_tell
set_option maxRecDepth 20000 in
theorem ggX11_flap_X11_bit : GoodIn wsX11_flap wsX11_bit := goodIn_r _ [20] (by decide +kernel) (by decide +kernel)
set_option maxRecDepth 20000 in
theorem gX11_flap_X11_bit : GoodIn wsX11_flap (va_wsS RX11 144 yX11_bit wsX11_bit) := goodIn_app (goodIn_of _ (by decide +kernel)) ggX11_flap_X11_bit
theorem dX11_flap_0 : decode cX11_flap 0 = .ok (.aload_n 0, 1) := by decide +kernel
theorem dX11_flap_1 : decode cX11_flap 1 = .ok (.getfield 16, 3) := by decide +kernel
theorem dX11_flap_4 : decode cX11_flap 4 = .ok (.getfield 47, 3) := by decide +kernel
theorem dX11_flap_7 : decode cX11_flap 7 = .ok (.astore_n 2, 1) := by decide +kernel
theorem dX11_flap_8 : decode cX11_flap 8 = .ok (.iload_n 1, 1) := by decide +kernel
theorem dX11_flap_9 : decode cX11_flap 9 = .ok (.ifCond .eq 18, 3) := by decide +kernel
theorem dX11_flap_12 : decode cX11_flap 12 = .ok (.aload_n 2, 1) := by decide +kernel
theorem dX11_flap_13 : decode cX11_flap 13 = .ok (.iconst 1, 1) := by decide +kernel
theorem dX11_flap_14 : decode cX11_flap 14 = .ok (.invokevirtual 148, 3) := by decide +kernel
theorem dX11_flap_17 : decode cX11_flap 17 = .ok (.ifCond .eq 10, 3) := by decide +kernel
theorem dX11_flap_20 : decode cX11_flap 20 = .ok (.aload_n 0, 1) := by decide +kernel
theorem dX11_flap_21 : decode cX11_flap 21 = .ok (.ldc 151, 2) := by decide +kernel
theorem dX11_flap_23 : decode cX11_flap 23 = .ok (.invokevirtual 79, 3) := by decide +kernel
theorem dX11_flap_26 : decode cX11_flap 26 = .ok (.ireturn, 1) := by decide +kernel
theorem dX11_flap_27 : decode cX11_flap 27 = .ok (.aload_n 2, 1) := by decide +kernel
theorem dX11_flap_28 : decode cX11_flap 28 = .ok (.getfield 152, 3) := by decide +kernel
theorem dX11_flap_31 : decode cX11_flap 31 = .ok (.invokestatic 144, 3) := by decide +kernel
theorem dX11_flap_34 : decode cX11_flap 34 = .ok (.istore_n 3, 1) := by decide +kernel
theorem dX11_flap_35 : decode cX11_flap 35 = .ok (.aload_n 2, 1) := by decide +kernel
theorem dX11_flap_36 : decode cX11_flap 36 = .ok (.iload_n 1, 1) := by decide +kernel
theorem dX11_flap_37 : decode cX11_flap 37 = .ok (.putfield 152, 3) := by decide +kernel
theorem dX11_flap_40 : decode cX11_flap 40 = .ok (.iload_n 3, 1) := by decide +kernel
theorem dX11_flap_41 : decode cX11_flap 41 = .ok (.ireturn, 1) := by decide +kernel
set_option maxRecDepth 20000 in
theorem ggX11_minutes_X11_within : GoodIn wsX11_minutes wsX11_within := goodIn_r _ [8] (by decide +kernel) (by decide +kernel)
set_option maxRecDepth 20000 in
theorem gX11_minutes_X11_within : GoodIn wsX11_minutes (va_wsS RX11 74 yX11_within wsX11_within) := goodIn_app (goodIn_of _ (by decide +kernel)) ggX11_minutes_X11_within
set_option maxRecDepth 20000 in
theorem ggX11_minutes_X11_tell : GoodIn wsX11_minutes wsX11_tell := goodIn_r _ [12, 13, 1, 101, 102, 103, 104, 105, 106, 107, 108, 109] (by decide +kernel) (by decide +kernel)
set_option maxRecDepth 20000 in
theorem gX11_minutes_X11_tell : GoodIn wsX11_minutes (wsV RX11 79 RX11 yX11_tell wsX11_tell) := goodIn_app (goodIn_of _ (by decide +kernel)) ggX11_minutes_X11_tell
set_option maxRecDepth 20000 in
theorem ggX11_minutes_X0_passMinutes : GoodIn wsX11_minutes wsX0_passMinutes := goodIn_r _ [18, 19, 20, 21, 17, 22, 23, 24, 25, 26, 27, 28, 29, 30, 31, 32, 33, 34, 35, 36, 37, 38, 39, 40, 41, 42, 43, 44, 45, 46, 47, 48, 49, 50, 51, 52, 53, 54, 55, 56, 57, 58, 59, 60, 61, 62, 63, 64, 65, 66, 67, 68, 69, 70, 71, 72, 73, 74, 75, 76, 77, 78, 79, 80, 81, 82, 83, 84, 85, 86, 87, 88, 89, 90, 91, 92, 93, 94, 95, 96, 97, 98, 99, 100, 114, 115, 116, 117, 118, 119, 120, 121, 122, 123, 124, 125, 126, 127, 128, 129, 130, 131, 132, 133, 134, 135, 136, 137, 138, 139, 140, 141, 142, 143, 144, 145, 146, 147, 148] (by decide +kernel) (by decide +kernel)
set_option maxRecDepth 20000 in
theorem gX11_minutes_X0_passMinutes : GoodIn wsX11_minutes (wsV RX11 155 RX0 yX0_passMinutes wsX0_passMinutes) := goodIn_app (goodIn_of _ (by decide +kernel)) ggX11_minutes_X0_passMinutes
