theorem dX11_minutes_0 : decode cX11_minutes 0 = .ok (.iload_n 1, 1) := by decide +kernel
theorem dX11_minutes_1 : decode cX11_minutes 1 = .ok (.iconst 1, 1) := by decide +kernel
theorem dX11_minutes_2 : decode cX11_minutes 2 = .ok (.sipush 200, 3) := by decide +kernel
theorem dX11_minutes_5 : decode cX11_minutes 5 = .ok (.invokestatic 74, 3) := by decide +kernel
theorem dX11_minutes_8 : decode cX11_minutes 8 = .ok (.ifCond .ne 10, 3) := by decide +kernel
theorem dX11_minutes_11 : decode cX11_minutes 11 = .ok (.aload_n 0, 1) := by decide +kernel
theorem dX11_minutes_12 : decode cX11_minutes 12 = .ok (.ldc 78, 2) := by decide +kernel
theorem dX11_minutes_14 : decode cX11_minutes 14 = .ok (.invokevirtual 79, 3) := by decide +kernel
theorem dX11_minutes_17 : decode cX11_minutes 17 = .ok (.ireturn, 1) := by decide +kernel
theorem dX11_minutes_18 : decode cX11_minutes 18 = .ok (.aload_n 0, 1) := by decide +kernel
theorem dX11_minutes_19 : decode cX11_minutes 19 = .ok (.getfield 16, 3) := by decide +kernel
theorem dX11_minutes_22 : decode cX11_minutes 22 = .ok (.getfield 47, 3) := by decide +kernel
theorem dX11_minutes_25 : decode cX11_minutes 25 = .ok (.iload_n 1, 1) := by decide +kernel
theorem dX11_minutes_26 : decode cX11_minutes 26 = .ok (.invokevirtual 155, 3) := by decide +kernel
theorem dX11_minutes_29 : decode cX11_minutes 29 = .ok (.aload_n 0, 1) := by decide +kernel
theorem dX11_minutes_30 : decode cX11_minutes 30 = .ok (.getfield 16, 3) := by decide +kernel
theorem dX11_minutes_33 : decode cX11_minutes 33 = .ok (.getfield 47, 3) := by decide +kernel
theorem dX11_minutes_36 : decode cX11_minutes 36 = .ok (.getfield 159, 3) := by decide +kernel
theorem dX11_minutes_39 : decode cX11_minutes 39 = .ok (.ireturn, 1) := by decide +kernel
set_option maxRecDepth 20000 in
theorem ggX11_now_X11_within : GoodIn wsX11_now wsX11_within := goodIn_r _ [16] (by decide +kernel) (by decide +kernel)
set_option maxRecDepth 20000 in
theorem gX11_now_X11_within : GoodIn wsX11_now (va_wsS RX11 74 yX11_within wsX11_within) := goodIn_app (goodIn_of _ (by decide +kernel)) ggX11_now_X11_within
set_option maxRecDepth 20000 in
theorem ggX11_now_X11_tell : GoodIn wsX11_now wsX11_tell := goodIn_r _ [20, 21, 1, 46, 47, 48, 49, 50, 51, 52, 53, 54] (by decide +kernel) (by decide +kernel)
set_option maxRecDepth 20000 in
theorem gX11_now_X11_tell : GoodIn wsX11_now (wsV RX11 79 RX11 yX11_tell wsX11_tell) := goodIn_app (goodIn_of _ (by decide +kernel)) ggX11_now_X11_tell
set_option maxRecDepth 20000 in
theorem ggX11_now_X11_bit : GoodIn wsX11_now wsX11_bit := goodIn_r _ [24] (by decide +kernel) (by decide +kernel)
set_option maxRecDepth 20000 in
theorem gX11_now_X11_bit : GoodIn wsX11_now (va_wsS RX11 144 yX11_bit wsX11_bit) := goodIn_app (goodIn_of _ (by decide +kernel)) ggX11_now_X11_bit
set_option maxRecDepth 20000 in
theorem ggX11_now_X4_isDead : GoodIn wsX11_now wsX4_isDead := goodIn_r _ [29, 30, 31, 72, 73, 74, 75, 76, 77, 78, 79, 80, 81, 82] (by decide +kernel) (by decide +kernel)
set_option maxRecDepth 20000 in
theorem gX11_now_X4_isDead : GoodIn wsX11_now (wsV RX11 171 RX4 yX4_isDead wsX4_isDead) := goodIn_app (goodIn_of _ (by decide +kernel)) ggX11_now_X4_isDead
set_option maxRecDepth 20000 in
theorem ggX11_now_X0_measure : GoodIn wsX11_now wsX0_measure := goodIn_r _ [36, 37, 38, 39, 40, 41, 42, 43, 44, 45, 59, 60, 61, 62, 63, 64, 65, 66, 67, 68, 69, 70, 71, 72, 73, 74, 75, 76, 77, 78, 79, 80, 81, 82] (by decide +kernel) (by decide +kernel)
set_option maxRecDepth 20000 in
theorem gX11_now_X0_measure : GoodIn wsX11_now (wsV RX11 133 RX0 yX0_measure wsX0_measure) := goodIn_app (goodIn_of _ (by decide +kernel)) ggX11_now_X0_measure
theorem dX11_now_0 : decode cX11_now 0 = .ok (.iload_n 1, 1) := by decide +kernel
theorem dX11_now_1 : decode cX11_now 1 = .ok (.iconst 0, 1) := by decide +kernel
theorem dX11_now_2 : decode cX11_now 2 = .ok (.bipush 16, 2) := by decide +kernel
theorem dX11_now_4 : decode cX11_now 4 = .ok (.invokestatic 74, 3) := by decide +kernel
theorem dX11_now_7 : decode cX11_now 7 = .ok (.ifCond .ne 10, 3) := by decide +kernel
theorem dX11_now_10 : decode cX11_now 10 = .ok (.aload_n 0, 1) := by decide +kernel
theorem dX11_now_11 : decode cX11_now 11 = .ok (.ldc 78, 2) := by decide +kernel
theorem dX11_now_13 : decode cX11_now 13 = .ok (.invokevirtual 79, 3) := by decide +kernel
theorem dX11_now_16 : decode cX11_now 16 = .ok (.ireturn, 1) := by decide +kernel
theorem dX11_now_17 : decode cX11_now 17 = .ok (.aload_n 0, 1) := by decide +kernel
theorem dX11_now_18 : decode cX11_now 18 = .ok (.getfield 16, 3) := by decide +kernel
theorem dX11_now_21 : decode cX11_now 21 = .ok (.getfield 47, 3) := by decide +kernel
theorem dX11_now_24 : decode cX11_now 24 = .ok (.astore_n 2, 1) := by decide +kernel
theorem dX11_now_25 : decode cX11_now 25 = .ok (.iload_n 1, 1) := by decide +kernel
theorem dX11_now_26 : decode cX11_now 26 = .ok (.tableswitch 122 8 16 #[50, 55, 63, 74, 85, 90, 98, 103, 114], 50) := by decide +kernel
theorem dX11_now_76 : decode cX11_now 76 = .ok (.aload_n 2, 1) := by decide +kernel
theorem dX11_now_77 : decode cX11_now 77 = .ok (.getfield 162, 3) := by decide +kernel
theorem dX11_now_80 : decode cX11_now 80 = .ok (.ireturn, 1) := by decide +kernel
theorem dX11_now_81 : decode cX11_now 81 = .ok (.aload_n 2, 1) := by decide +kernel
theorem dX11_now_82 : decode cX11_now 82 = .ok (.getfield 123, 3) := by decide +kernel
theorem dX11_now_85 : decode cX11_now 85 = .ok (.getfield 165, 3) := by decide +kernel
theorem dX11_now_88 : decode cX11_now 88 = .ok (.ireturn, 1) := by decide +kernel
theorem dX11_now_89 : decode cX11_now 89 = .ok (.aload_n 2, 1) := by decide +kernel
theorem dX11_now_90 : decode cX11_now 90 = .ok (.getfield 123, 3) := by decide +kernel
theorem dX11_now_93 : decode cX11_now 93 = .ok (.getfield 168, 3) := by decide +kernel
theorem dX11_now_96 : decode cX11_now 96 = .ok (.invokestatic 144, 3) := by decide +kernel
theorem dX11_now_99 : decode cX11_now 99 = .ok (.ireturn, 1) := by decide +kernel
theorem dX11_now_100 : decode cX11_now 100 = .ok (.aload_n 2, 1) := by decide +kernel
theorem dX11_now_101 : decode cX11_now 101 = .ok (.getfield 123, 3) := by decide +kernel
theorem dX11_now_104 : decode cX11_now 104 = .ok (.invokevirtual 171, 3) := by decide +kernel
theorem dX11_now_107 : decode cX11_now 107 = .ok (.invokestatic 144, 3) := by decide +kernel
theorem dX11_now_110 : decode cX11_now 110 = .ok (.ireturn, 1) := by decide +kernel
theorem dX11_now_111 : decode cX11_now 111 = .ok (.aload_n 2, 1) := by decide +kernel
theorem dX11_now_112 : decode cX11_now 112 = .ok (.getfield 175, 3) := by decide +kernel
theorem dX11_now_115 : decode cX11_now 115 = .ok (.ireturn, 1) := by decide +kernel
theorem dX11_now_116 : decode cX11_now 116 = .ok (.aload_n 2, 1) := by decide +kernel
theorem dX11_now_117 : decode cX11_now 117 = .ok (.getfield 123, 3) := by decide +kernel
theorem dX11_now_120 : decode cX11_now 120 = .ok (.getfield 178, 3) := by decide +kernel
theorem dX11_now_123 : decode cX11_now 123 = .ok (.ireturn, 1) := by decide +kernel
theorem dX11_now_124 : decode cX11_now 124 = .ok (.aload_n 2, 1) := by decide +kernel
theorem dX11_now_125 : decode cX11_now 125 = .ok (.getfield 181, 3) := by decide +kernel
theorem dX11_now_128 : decode cX11_now 128 = .ok (.ireturn, 1) := by decide +kernel
theorem dX11_now_129 : decode cX11_now 129 = .ok (.aload_n 2, 1) := by decide +kernel
theorem dX11_now_130 : decode cX11_now 130 = .ok (.getfield 123, 3) := by decide +kernel
theorem dX11_now_133 : decode cX11_now 133 = .ok (.getfield 140, 3) := by decide +kernel
theorem dX11_now_136 : decode cX11_now 136 = .ok (.invokestatic 144, 3) := by decide +kernel
theorem dX11_now_139 : decode cX11_now 139 = .ok (.ireturn, 1) := by decide +kernel
theorem dX11_now_140 : decode cX11_now 140 = .ok (.aload_n 2, 1) := by decide +kernel
theorem dX11_now_141 : decode cX11_now 141 = .ok (.getfield 152, 3) := by decide +kernel
theorem dX11_now_144 : decode cX11_now 144 = .ok (.invokestatic 144, 3) := by decide +kernel
theorem dX11_now_147 : decode cX11_now 147 = .ok (.ireturn, 1) := by decide +kernel
theorem dX11_now_148 : decode cX11_now 148 = .ok (.aload_n 2, 1) := by decide +kernel
theorem dX11_now_149 : decode cX11_now 149 = .ok (.iload_n 1, 1) := by decide +kernel
theorem dX11_now_150 : decode cX11_now 150 = .ok (.invokevirtual 133, 3) := by decide +kernel
theorem dX11_now_153 : decode cX11_now 153 = .ok (.ireturn, 1) := by decide +kernel
theorem dX11_renew_0 : decode cX11_renew 0 = .ok (.aload_n 0, 1) := by decide +kernel
theorem dX11_renew_1 : decode cX11_renew 1 = .ok (.getfield 16, 3) := by decide +kernel
theorem dX11_renew_4 : decode cX11_renew 4 = .ok (.getfield 47, 3) := by decide +kernel
theorem dX11_renew_7 : decode cX11_renew 7 = .ok (.getfield 123, 3) := by decide +kernel
theorem dX11_renew_10 : decode cX11_renew 10 = .ok (.astore_n 1, 1) := by decide +kernel
theorem dX11_renew_11 : decode cX11_renew 11 = .ok (.aload_n 1, 1) := by decide +kernel
theorem dX11_renew_12 : decode cX11_renew 12 = .ok (.getfield 165, 3) := by decide +kernel
theorem dX11_renew_15 : decode cX11_renew 15 = .ok (.istore_n 2, 1) := by decide +kernel
theorem dX11_renew_16 : decode cX11_renew 16 = .ok (.aload_n 1, 1) := by decide +kernel
theorem dX11_renew_17 : decode cX11_renew 17 = .ok (.iconst 0, 1) := by decide +kernel
theorem dX11_renew_18 : decode cX11_renew 18 = .ok (.putfield 165, 3) := by decide +kernel
theorem dX11_renew_21 : decode cX11_renew 21 = .ok (.aload_n 1, 1) := by decide +kernel
theorem dX11_renew_22 : decode cX11_renew 22 = .ok (.iconst 0, 1) := by decide +kernel
theorem dX11_renew_23 : decode cX11_renew 23 = .ok (.putfield 168, 3) := by decide +kernel
theorem dX11_renew_26 : decode cX11_renew 26 = .ok (.iload_n 2, 1) := by decide +kernel
theorem dX11_renew_27 : decode cX11_renew 27 = .ok (.ireturn, 1) := by decide +kernel
set_option maxRecDepth 20000 in
theorem ggX11_start_X4_logged : GoodIn wsX11_start wsX4_logged := goodIn_r _ [10, 11, 12, 13, 14, 15, 51, 52, 53, 54, 55, 56, 57, 58, 59, 60, 61] (by decide +kernel) (by decide +kernel)
set_option maxRecDepth 20000 in
theorem gX11_start_X4_logged : GoodIn wsX11_start (wsV RX11 184 RX4 yX4_logged wsX4_logged) := goodIn_app (goodIn_of _ (by decide +kernel)) ggX11_start_X4_logged
set_option maxRecDepth 20000 in
theorem ggX11_start_X11_within : GoodIn wsX11_start wsX11_within := goodIn_r _ [19] (by decide +kernel) (by decide +kernel)
set_option maxRecDepth 20000 in
theorem gX11_start_X11_within : GoodIn wsX11_start (va_wsS RX11 74 yX11_within wsX11_within) := goodIn_app (goodIn_of _ (by decide +kernel)) ggX11_start_X11_within
set_option maxRecDepth 20000 in
theorem ggX11_start_X11_tell : GoodIn wsX11_start wsX11_tell := goodIn_r _ [23, 24, 4, 25, 26, 27, 28, 29, 30, 31, 32, 33] (by decide +kernel) (by decide +kernel)
set_option maxRecDepth 20000 in
theorem gX11_start_X11_tell : GoodIn wsX11_start (wsV RX11 79 RX11 yX11_tell wsX11_tell) := goodIn_app (goodIn_of _ (by decide +kernel)) ggX11_start_X11_tell
theorem dX11_start_0 : decode cX11_start 0 = .ok (.aload_n 0, 1) := by decide +kernel
theorem dX11_start_1 : decode cX11_start 1 = .ok (.getfield 16, 3) := by decide +kernel
theorem dX11_start_4 : decode cX11_start 4 = .ok (.getfield 47, 3) := by decide +kernel
theorem dX11_start_7 : decode cX11_start 7 = .ok (.getfield 123, 3) := by decide +kernel
theorem dX11_start_10 : decode cX11_start 10 = .ok (.astore_n 2, 1) := by decide +kernel
theorem dX11_start_11 : decode cX11_start 11 = .ok (.iload_n 1, 1) := by decide +kernel
theorem dX11_start_12 : decode cX11_start 12 = .ok (.iconst 0, 1) := by decide +kernel
theorem dX11_start_13 : decode cX11_start 13 = .ok (.aload_n 2, 1) := by decide +kernel
theorem dX11_start_14 : decode cX11_start 14 = .ok (.invokevirtual 184, 3) := by decide +kernel
theorem dX11_start_17 : decode cX11_start 17 = .ok (.iconst 1, 1) := by decide +kernel
theorem dX11_start_18 : decode cX11_start 18 = .ok (.isub, 1) := by decide +kernel
theorem dX11_start_19 : decode cX11_start 19 = .ok (.invokestatic 74, 3) := by decide +kernel
theorem dX11_start_22 : decode cX11_start 22 = .ok (.ifCond .ne 10, 3) := by decide +kernel
theorem dX11_start_25 : decode cX11_start 25 = .ok (.aload_n 0, 1) := by decide +kernel
theorem dX11_start_26 : decode cX11_start 26 = .ok (.ldc 78, 2) := by decide +kernel
theorem dX11_start_28 : decode cX11_start 28 = .ok (.invokevirtual 79, 3) := by decide +kernel
theorem dX11_start_31 : decode cX11_start 31 = .ok (.ireturn, 1) := by decide +kernel
theorem dX11_start_32 : decode cX11_start 32 = .ok (.aload_n 2, 1) := by decide +kernel
theorem dX11_start_33 : decode cX11_start 33 = .ok (.getfield 188, 3) := by decide +kernel
theorem dX11_start_36 : decode cX11_start 36 = .ok (.iload_n 1, 1) := by decide +kernel
theorem dX11_start_37 : decode cX11_start 37 = .ok (.iaload, 1) := by decide +kernel
theorem dX11_start_38 : decode cX11_start 38 = .ok (.ireturn, 1) := by decide +kernel
set_option maxRecDepth 20000 in
theorem ggX11_quickest_X4_logged : GoodIn wsX11_quickest wsX4_logged := goodIn_r _ [9, 10, 11, 12, 13, 14, 54, 55, 56, 57, 58, 59, 60, 61, 62, 63, 64] (by decide +kernel) (by decide +kernel)
set_option maxRecDepth 20000 in
theorem gX11_quickest_X4_logged : GoodIn wsX11_quickest (wsV RX11 184 RX4 yX4_logged wsX4_logged) := goodIn_app (goodIn_of _ (by decide +kernel)) ggX11_quickest_X4_logged
set_option maxRecDepth 20000 in
theorem ggX11_quickest_X11_tell : GoodIn wsX11_quickest wsX11_tell := goodIn_r _ [19, 20, 21, 28, 29, 30, 31, 32, 33, 34, 35, 36] (by decide +kernel) (by decide +kernel)
set_option maxRecDepth 20000 in
theorem gX11_quickest_X11_tell : GoodIn wsX11_quickest (wsV RX11 79 RX11 yX11_tell wsX11_tell) := goodIn_app (goodIn_of _ (by decide +kernel)) ggX11_quickest_X11_tell
set_option maxRecDepth 20000 in
theorem ggX11_quickest_X4_leastBetweenStarts : GoodIn wsX11_quickest wsX4_leastBetweenStarts := goodIn_r _ [25, 26, 11, 12, 13, 14, 27, 6, 7, 8, 9, 10, 54, 55, 56, 57, 58, 59, 60, 61, 62, 63, 64] (by decide +kernel) (by decide +kernel)
set_option maxRecDepth 20000 in
theorem gX11_quickest_X4_leastBetweenStarts : GoodIn wsX11_quickest (wsV RX11 192 RX4 yX4_leastBetweenStarts wsX4_leastBetweenStarts) := goodIn_app (goodIn_of _ (by decide +kernel)) ggX11_quickest_X4_leastBetweenStarts
theorem dX11_quickest_0 : decode cX11_quickest 0 = .ok (.aload_n 0, 1) := by decide +kernel
theorem dX11_quickest_1 : decode cX11_quickest 1 = .ok (.getfield 16, 3) := by decide +kernel
theorem dX11_quickest_4 : decode cX11_quickest 4 = .ok (.getfield 47, 3) := by decide +kernel
theorem dX11_quickest_7 : decode cX11_quickest 7 = .ok (.getfield 123, 3) := by decide +kernel
theorem dX11_quickest_10 : decode cX11_quickest 10 = .ok (.astore_n 1, 1) := by decide +kernel
theorem dX11_quickest_11 : decode cX11_quickest 11 = .ok (.aload_n 1, 1) := by decide +kernel
theorem dX11_quickest_12 : decode cX11_quickest 12 = .ok (.invokevirtual 184, 3) := by decide +kernel
theorem dX11_quickest_15 : decode cX11_quickest 15 = .ok (.iconst 2, 1) := by decide +kernel
theorem dX11_quickest_16 : decode cX11_quickest 16 = .ok (.if_icmp .ge 10, 3) := by decide +kernel
theorem dX11_quickest_19 : decode cX11_quickest 19 = .ok (.aload_n 0, 1) := by decide +kernel
theorem dX11_quickest_20 : decode cX11_quickest 20 = .ok (.ldc 191, 2) := by decide +kernel
theorem dX11_quickest_22 : decode cX11_quickest 22 = .ok (.invokevirtual 79, 3) := by decide +kernel
theorem dX11_quickest_25 : decode cX11_quickest 25 = .ok (.ireturn, 1) := by decide +kernel
theorem dX11_quickest_26 : decode cX11_quickest 26 = .ok (.aload_n 1, 1) := by decide +kernel
theorem dX11_quickest_27 : decode cX11_quickest 27 = .ok (.invokevirtual 192, 3) := by decide +kernel
theorem dX11_quickest_30 : decode cX11_quickest 30 = .ok (.ireturn, 1) := by decide +kernel
set_option maxRecDepth 20000 in
theorem ggX11_came_X11_tell : GoodIn wsX11_came wsX11_tell := goodIn_r _ [10, 11, 12, 20, 21, 22, 23, 24, 25, 26, 27, 28] (by decide +kernel) (by decide +kernel)
set_option maxRecDepth 20000 in
theorem gX11_came_X11_tell : GoodIn wsX11_came (wsV RX11 79 RX11 yX11_tell wsX11_tell) := goodIn_app (goodIn_of _ (by decide +kernel)) ggX11_came_X11_tell
set_option maxRecDepth 20000 in
theorem ggX11_came_X10_mostBrought : GoodIn wsX11_came wsX10_mostBrought := goodIn_r _ [17, 18, 19, 46, 47, 48, 49, 50] (by decide +kernel) (by decide +kernel)
set_option maxRecDepth 20000 in
theorem gX11_came_X10_mostBrought : GoodIn wsX11_came (wsV RX11 195 RX10 yX10_mostBrought wsX10_mostBrought) := goodIn_app (goodIn_of _ (by decide +kernel)) ggX11_came_X10_mostBrought
theorem dX11_came_0 : decode cX11_came 0 = .ok (.aload_n 0, 1) := by decide +kernel
theorem dX11_came_1 : decode cX11_came 1 = .ok (.getfield 16, 3) := by decide +kernel
theorem dX11_came_4 : decode cX11_came 4 = .ok (.getfield 47, 3) := by decide +kernel
theorem dX11_came_7 : decode cX11_came 7 = .ok (.getfield 83, 3) := by decide +kernel
theorem dX11_came_10 : decode cX11_came 10 = .ok (.getfield 87, 3) := by decide +kernel
theorem dX11_came_13 : decode cX11_came 13 = .ok (.ifCond .ne 10, 3) := by decide +kernel
theorem dX11_came_16 : decode cX11_came 16 = .ok (.aload_n 0, 1) := by decide +kernel
theorem dX11_came_17 : decode cX11_came 17 = .ok (.ldc 191, 2) := by decide +kernel
theorem dX11_came_19 : decode cX11_came 19 = .ok (.invokevirtual 79, 3) := by decide +kernel
theorem dX11_came_22 : decode cX11_came 22 = .ok (.ireturn, 1) := by decide +kernel
theorem dX11_came_23 : decode cX11_came 23 = .ok (.aload_n 0, 1) := by decide +kernel
theorem dX11_came_24 : decode cX11_came 24 = .ok (.getfield 16, 3) := by decide +kernel
theorem dX11_came_27 : decode cX11_came 27 = .ok (.getfield 47, 3) := by decide +kernel
theorem dX11_came_30 : decode cX11_came 30 = .ok (.getfield 83, 3) := by decide +kernel
theorem dX11_came_33 : decode cX11_came 33 = .ok (.invokevirtual 195, 3) := by decide +kernel
theorem dX11_came_36 : decode cX11_came 36 = .ok (.ireturn, 1) := by decide +kernel
set_option maxRecDepth 20000 in
theorem ggX11_thing_X11_within : GoodIn wsX11_thing wsX11_within := goodIn_r _ [10] (by decide +kernel) (by decide +kernel)
set_option maxRecDepth 20000 in
theorem gX11_thing_X11_within : GoodIn wsX11_thing (va_wsS RX11 74 yX11_within wsX11_within) := goodIn_app (goodIn_of _ (by decide +kernel)) ggX11_thing_X11_within
set_option maxRecDepth 20000 in
theorem ggX11_thing_X11_tell : GoodIn wsX11_thing wsX11_tell := goodIn_r _ [14, 15, 1, 25, 26, 27, 28, 29, 30, 31, 32, 33] (by decide +kernel) (by decide +kernel)
set_option maxRecDepth 20000 in
theorem gX11_thing_X11_tell : GoodIn wsX11_thing (wsV RX11 79 RX11 yX11_tell wsX11_tell) := goodIn_app (goodIn_of _ (by decide +kernel)) ggX11_thing_X11_tell
set_option maxRecDepth 20000 in
theorem ggX11_thing_X9_add : GoodIn wsX11_thing wsX9_add := goodIn_r _ [20, 21, 22, 23, 24, 51, 52, 53, 54, 55, 56] (by decide +kernel) (by decide +kernel)
set_option maxRecDepth 20000 in
theorem gX11_thing_X9_add : GoodIn wsX11_thing (wsV RX11 201 RX9 yX9_add wsX9_add) := goodIn_app (goodIn_of _ (by decide +kernel)) ggX11_thing_X9_add
theorem dX11_thing_0 : decode cX11_thing 0 = .ok (.iload_n 1, 1) := by decide +kernel
theorem dX11_thing_1 : decode cX11_thing 1 = .ok (.iconst 1, 1) := by decide +kernel
theorem dX11_thing_2 : decode cX11_thing 2 = .ok (.bipush 99, 2) := by decide +kernel
theorem dX11_thing_4 : decode cX11_thing 4 = .ok (.invokestatic 74, 3) := by decide +kernel
theorem dX11_thing_7 : decode cX11_thing 7 = .ok (.ifCond .eq 24, 3) := by decide +kernel
theorem dX11_thing_10 : decode cX11_thing 10 = .ok (.iload_n 2, 1) := by decide +kernel
theorem dX11_thing_11 : decode cX11_thing 11 = .ok (.iconst 1, 1) := by decide +kernel
theorem dX11_thing_12 : decode cX11_thing 12 = .ok (.bipush 60, 2) := by decide +kernel
theorem dX11_thing_14 : decode cX11_thing 14 = .ok (.invokestatic 74, 3) := by decide +kernel
theorem dX11_thing_17 : decode cX11_thing 17 = .ok (.ifCond .eq 14, 3) := by decide +kernel
theorem dX11_thing_20 : decode cX11_thing 20 = .ok (.iload_n 3, 1) := by decide +kernel
theorem dX11_thing_21 : decode cX11_thing 21 = .ok (.iconst 0, 1) := by decide +kernel
theorem dX11_thing_22 : decode cX11_thing 22 = .ok (.sipush 999, 3) := by decide +kernel
theorem dX11_thing_25 : decode cX11_thing 25 = .ok (.invokestatic 74, 3) := by decide +kernel
theorem dX11_thing_28 : decode cX11_thing 28 = .ok (.ifCond .ne 10, 3) := by decide +kernel
theorem dX11_thing_31 : decode cX11_thing 31 = .ok (.aload_n 0, 1) := by decide +kernel
theorem dX11_thing_32 : decode cX11_thing 32 = .ok (.ldc 78, 2) := by decide +kernel
theorem dX11_thing_34 : decode cX11_thing 34 = .ok (.invokevirtual 79, 3) := by decide +kernel
theorem dX11_thing_37 : decode cX11_thing 37 = .ok (.ireturn, 1) := by decide +kernel
theorem dX11_thing_38 : decode cX11_thing 38 = .ok (.aload_n 0, 1) := by decide +kernel
theorem dX11_thing_39 : decode cX11_thing 39 = .ok (.getfield 16, 3) := by decide +kernel
theorem dX11_thing_42 : decode cX11_thing 42 = .ok (.getfield 47, 3) := by decide +kernel
theorem dX11_thing_45 : decode cX11_thing 45 = .ok (.getfield 60, 3) := by decide +kernel
theorem dX11_thing_48 : decode cX11_thing 48 = .ok (.getfield 198, 3) := by decide +kernel
theorem dX11_thing_51 : decode cX11_thing 51 = .ok (.bipush 10, 2) := by decide +kernel
theorem dX11_thing_53 : decode cX11_thing 53 = .ok (.if_icmp .lt 10, 3) := by decide +kernel
theorem dX11_thing_56 : decode cX11_thing 56 = .ok (.aload_n 0, 1) := by decide +kernel
theorem dX11_thing_57 : decode cX11_thing 57 = .ok (.ldc 93, 2) := by decide +kernel
theorem dX11_thing_59 : decode cX11_thing 59 = .ok (.invokevirtual 79, 3) := by decide +kernel
theorem dX11_thing_62 : decode cX11_thing 62 = .ok (.ireturn, 1) := by decide +kernel
theorem dX11_thing_63 : decode cX11_thing 63 = .ok (.aload_n 0, 1) := by decide +kernel
theorem dX11_thing_64 : decode cX11_thing 64 = .ok (.getfield 16, 3) := by decide +kernel
theorem dX11_thing_67 : decode cX11_thing 67 = .ok (.getfield 47, 3) := by decide +kernel
theorem dX11_thing_70 : decode cX11_thing 70 = .ok (.getfield 60, 3) := by decide +kernel
theorem dX11_thing_73 : decode cX11_thing 73 = .ok (.iload_n 1, 1) := by decide +kernel
theorem dX11_thing_74 : decode cX11_thing 74 = .ok (.iload_n 2, 1) := by decide +kernel
theorem dX11_thing_75 : decode cX11_thing 75 = .ok (.iload_n 3, 1) := by decide +kernel
theorem dX11_thing_76 : decode cX11_thing 76 = .ok (.invokevirtual 201, 3) := by decide +kernel
theorem dX11_thing_79 : decode cX11_thing 79 = .ok (.ireturn, 1) := by decide +kernel
set_option maxRecDepth 20000 in
theorem ggX11_thingOf_X11_isThing : GoodIn wsX11_thingOf wsX11_isThing := goodIn_r _ [12, 2, 3, 4, 13, 14, 15, 11, 16, 36, 37, 38, 39, 40, 41, 42, 43, 44, 45, 46, 47, 48, 49, 50, 51, 52, 53, 54, 55, 56, 57, 58, 59, 60, 61, 62, 63, 64, 65, 66, 67] (by decide +kernel) (by decide +kernel)
set_option maxRecDepth 20000 in
theorem gX11_thingOf_X11_isThing : GoodIn wsX11_thingOf (wsV RX11 202 RX11 yX11_isThing wsX11_isThing) := goodIn_app (goodIn_of _ (by decide +kernel)) ggX11_thingOf_X11_isThing
set_option maxRecDepth 20000 in
theorem ggX11_thingOf_X11_within : GoodIn wsX11_thingOf wsX11_within := goodIn_r _ [16] (by decide +kernel) (by decide +kernel)
set_option maxRecDepth 20000 in
theorem gX11_thingOf_X11_within : GoodIn wsX11_thingOf (va_wsS RX11 74 yX11_within wsX11_within) := goodIn_app (goodIn_of _ (by decide +kernel)) ggX11_thingOf_X11_within
set_option maxRecDepth 20000 in
theorem ggX11_thingOf_X11_tell : GoodIn wsX11_thingOf wsX11_tell := goodIn_r _ [20, 21, 1, 36, 37, 38, 39, 40, 41, 42, 43, 44] (by decide +kernel) (by decide +kernel)
set_option maxRecDepth 20000 in
theorem gX11_thingOf_X11_tell : GoodIn wsX11_thingOf (wsV RX11 79 RX11 yX11_tell wsX11_tell) := goodIn_app (goodIn_of _ (by decide +kernel)) ggX11_thingOf_X11_tell
set_option maxRecDepth 20000 in
theorem ggX11_thingOf_X9_isLifted : GoodIn wsX11_thingOf wsX9_isLifted := goodIn_r _ [26, 27, 62, 63, 64, 65, 66, 67] (by decide +kernel) (by decide +kernel)
set_option maxRecDepth 20000 in
theorem gX11_thingOf_X9_isLifted : GoodIn wsX11_thingOf (wsV RX11 214 RX9 yX9_isLifted wsX9_isLifted) := goodIn_app (goodIn_of _ (by decide +kernel)) ggX11_thingOf_X9_isLifted
set_option maxRecDepth 20000 in
theorem ggX11_thingOf_X11_bit : GoodIn wsX11_thingOf wsX11_bit := goodIn_r _ [30] (by decide +kernel) (by decide +kernel)
set_option maxRecDepth 20000 in
theorem gX11_thingOf_X11_bit : GoodIn wsX11_thingOf (va_wsS RX11 144 yX11_bit wsX11_bit) := goodIn_app (goodIn_of _ (by decide +kernel)) ggX11_thingOf_X11_bit
set_option maxRecDepth 20000 in
theorem ggX11_thingOf_X9_isHarmed : GoodIn wsX11_thingOf wsX9_isHarmed := goodIn_r _ [34, 35, 62, 63, 64, 65, 66, 67] (by decide +kernel) (by decide +kernel)
set_option maxRecDepth 20000 in
theorem gX11_thingOf_X9_isHarmed : GoodIn wsX11_thingOf (wsV RX11 217 RX9 yX9_isHarmed wsX9_isHarmed) := goodIn_app (goodIn_of _ (by decide +kernel)) ggX11_thingOf_X9_isHarmed
theorem dX11_thingOf_0 : decode cX11_thingOf 0 = .ok (.aload_n 0, 1) := by decide +kernel
theorem dX11_thingOf_1 : decode cX11_thingOf 1 = .ok (.iload_n 1, 1) := by decide +kernel
theorem dX11_thingOf_2 : decode cX11_thingOf 2 = .ok (.invokevirtual 202, 3) := by decide +kernel
theorem dX11_thingOf_5 : decode cX11_thingOf 5 = .ok (.ifCond .eq 12, 3) := by decide +kernel
theorem dX11_thingOf_8 : decode cX11_thingOf 8 = .ok (.iload_n 2, 1) := by decide +kernel
theorem dX11_thingOf_9 : decode cX11_thingOf 9 = .ok (.iconst 0, 1) := by decide +kernel
theorem dX11_thingOf_10 : decode cX11_thingOf 10 = .ok (.iconst 4, 1) := by decide +kernel
theorem dX11_thingOf_11 : decode cX11_thingOf 11 = .ok (.invokestatic 74, 3) := by decide +kernel
theorem dX11_thingOf_14 : decode cX11_thingOf 14 = .ok (.ifCond .ne 10, 3) := by decide +kernel
theorem dX11_thingOf_17 : decode cX11_thingOf 17 = .ok (.aload_n 0, 1) := by decide +kernel
theorem dX11_thingOf_18 : decode cX11_thingOf 18 = .ok (.ldc 78, 2) := by decide +kernel
theorem dX11_thingOf_20 : decode cX11_thingOf 20 = .ok (.invokevirtual 79, 3) := by decide +kernel
theorem dX11_thingOf_23 : decode cX11_thingOf 23 = .ok (.ireturn, 1) := by decide +kernel
theorem dX11_thingOf_24 : decode cX11_thingOf 24 = .ok (.aload_n 0, 1) := by decide +kernel
theorem dX11_thingOf_25 : decode cX11_thingOf 25 = .ok (.getfield 16, 3) := by decide +kernel
theorem dX11_thingOf_28 : decode cX11_thingOf 28 = .ok (.getfield 47, 3) := by decide +kernel
theorem dX11_thingOf_31 : decode cX11_thingOf 31 = .ok (.getfield 60, 3) := by decide +kernel
theorem dX11_thingOf_34 : decode cX11_thingOf 34 = .ok (.astore_n 3, 1) := by decide +kernel
theorem dX11_thingOf_35 : decode cX11_thingOf 35 = .ok (.iload_n 2, 1) := by decide +kernel
theorem dX11_thingOf_36 : decode cX11_thingOf 36 = .ok (.tableswitch 62 0 3 #[32, 39, 46, 53], 32) := by decide +kernel
theorem dX11_thingOf_68 : decode cX11_thingOf 68 = .ok (.aload_n 3, 1) := by decide +kernel
theorem dX11_thingOf_69 : decode cX11_thingOf 69 = .ok (.getfield 205, 3) := by decide +kernel
theorem dX11_thingOf_72 : decode cX11_thingOf 72 = .ok (.iload_n 1, 1) := by decide +kernel
theorem dX11_thingOf_73 : decode cX11_thingOf 73 = .ok (.iaload, 1) := by decide +kernel
theorem dX11_thingOf_74 : decode cX11_thingOf 74 = .ok (.ireturn, 1) := by decide +kernel
theorem dX11_thingOf_75 : decode cX11_thingOf 75 = .ok (.aload_n 3, 1) := by decide +kernel
theorem dX11_thingOf_76 : decode cX11_thingOf 76 = .ok (.getfield 208, 3) := by decide +kernel
theorem dX11_thingOf_79 : decode cX11_thingOf 79 = .ok (.iload_n 1, 1) := by decide +kernel
theorem dX11_thingOf_80 : decode cX11_thingOf 80 = .ok (.iaload, 1) := by decide +kernel
theorem dX11_thingOf_81 : decode cX11_thingOf 81 = .ok (.ireturn, 1) := by decide +kernel
theorem dX11_thingOf_82 : decode cX11_thingOf 82 = .ok (.aload_n 3, 1) := by decide +kernel
theorem dX11_thingOf_83 : decode cX11_thingOf 83 = .ok (.getfield 211, 3) := by decide +kernel
theorem dX11_thingOf_86 : decode cX11_thingOf 86 = .ok (.iload_n 1, 1) := by decide +kernel
theorem dX11_thingOf_87 : decode cX11_thingOf 87 = .ok (.iaload, 1) := by decide +kernel
theorem dX11_thingOf_88 : decode cX11_thingOf 88 = .ok (.ireturn, 1) := by decide +kernel
theorem dX11_thingOf_89 : decode cX11_thingOf 89 = .ok (.aload_n 3, 1) := by decide +kernel
theorem dX11_thingOf_90 : decode cX11_thingOf 90 = .ok (.iload_n 1, 1) := by decide +kernel
theorem dX11_thingOf_91 : decode cX11_thingOf 91 = .ok (.invokevirtual 214, 3) := by decide +kernel
theorem dX11_thingOf_94 : decode cX11_thingOf 94 = .ok (.invokestatic 144, 3) := by decide +kernel
theorem dX11_thingOf_97 : decode cX11_thingOf 97 = .ok (.ireturn, 1) := by decide +kernel
theorem dX11_thingOf_98 : decode cX11_thingOf 98 = .ok (.aload_n 3, 1) := by decide +kernel
theorem dX11_thingOf_99 : decode cX11_thingOf 99 = .ok (.iload_n 1, 1) := by decide +kernel
theorem dX11_thingOf_100 : decode cX11_thingOf 100 = .ok (.invokevirtual 217, 3) := by decide +kernel
theorem dX11_thingOf_103 : decode cX11_thingOf 103 = .ok (.invokestatic 144, 3) := by decide +kernel
theorem dX11_thingOf_106 : decode cX11_thingOf 106 = .ok (.ireturn, 1) := by decide +kernel
set_option maxRecDepth 20000 in
theorem ggX11_lift_X11_isThing : GoodIn wsX11_lift wsX11_isThing := goodIn_r _ [13, 2, 3, 4, 14, 15, 16, 12, 17, 118, 119, 120, 121, 122, 123, 124, 125, 126, 127, 128, 129, 130, 131, 132, 133, 134, 135, 136, 137, 138, 139, 140, 141, 142, 143, 144, 145, 146, 147, 148, 149] (by decide +kernel) (by decide +kernel)
set_option maxRecDepth 20000 in
theorem gX11_lift_X11_isThing : GoodIn wsX11_lift (wsV RX11 202 RX11 yX11_isThing wsX11_isThing) := goodIn_app (goodIn_of _ (by decide +kernel)) ggX11_lift_X11_isThing
set_option maxRecDepth 20000 in
theorem ggX11_lift_X11_tell : GoodIn wsX11_lift wsX11_tell := goodIn_r _ [21, 22, 1, 118, 119, 120, 121, 122, 123, 124, 125, 126] (by decide +kernel) (by decide +kernel)
set_option maxRecDepth 20000 in
theorem gX11_lift_X11_tell : GoodIn wsX11_lift (wsV RX11 79 RX11 yX11_tell wsX11_tell) := goodIn_app (goodIn_of _ (by decide +kernel)) ggX11_lift_X11_tell
set_option maxRecDepth 20000 in
theorem ggX11_lift_X9_isLifted : GoodIn wsX11_lift wsX9_isLifted := goodIn_r _ [27, 28, 144, 145, 146, 147, 148, 149] (by decide +kernel) (by decide +kernel)
set_option maxRecDepth 20000 in
theorem gX11_lift_X9_isLifted : GoodIn wsX11_lift (wsV RX11 214 RX9 yX9_isLifted wsX9_isLifted) := goodIn_app (goodIn_of _ (by decide +kernel)) ggX11_lift_X9_isLifted
set_option maxRecDepth 20000 in
theorem ggX11_lift_X9_isHarmed : GoodIn wsX11_lift wsX9_isHarmed := goodIn_r _ [32, 33, 144, 145, 146, 147, 148, 149] (by decide +kernel) (by decide +kernel)
set_option maxRecDepth 20000 in
theorem gX11_lift_X9_isHarmed : GoodIn wsX11_lift (wsV RX11 217 RX9 yX9_isHarmed wsX9_isHarmed) := goodIn_app (goodIn_of _ (by decide +kernel)) ggX11_lift_X9_isHarmed
set_option maxRecDepth 20000 in
theorem ggX11_lift_X0_passMinutes : GoodIn wsX11_lift wsX0_passMinutes := goodIn_r _ [38, 39, 40, 41, 37, 42, 43, 44, 45, 46, 47, 48, 49, 50, 51, 52, 53, 54, 55, 56, 57, 58, 59, 60, 61, 62, 63, 64, 65, 66, 67, 68, 69, 70, 71, 72, 73, 74, 75, 76, 77, 78, 79, 80, 81, 82, 83, 84, 85, 86, 87, 88, 89, 90, 91, 92, 93, 94, 95, 96, 97, 98, 99, 100, 101, 102, 103, 104, 105, 106, 107, 108, 109, 110, 111, 112, 113, 114, 26, 115, 116, 117, 28, 33, 131, 132, 133, 134, 135, 136, 137, 138, 139, 140, 141, 142, 143, 150, 151, 152, 153, 154, 155, 156, 157, 158, 159, 160, 161, 162, 163, 164, 165, 144, 145, 146, 147, 148, 149] (by decide +kernel) (by decide +kernel)
set_option maxRecDepth 20000 in
theorem gX11_lift_X0_passMinutes : GoodIn wsX11_lift (wsV RX11 155 RX0 yX0_passMinutes wsX0_passMinutes) := goodIn_app (goodIn_of _ (by decide +kernel)) ggX11_lift_X0_passMinutes
theorem dX11_lift_0 : decode cX11_lift 0 = .ok (.aload_n 0, 1) := by decide +kernel
theorem dX11_lift_1 : decode cX11_lift 1 = .ok (.iload_n 1, 1) := by decide +kernel
theorem dX11_lift_2 : decode cX11_lift 2 = .ok (.invokevirtual 202, 3) := by decide +kernel
theorem dX11_lift_5 : decode cX11_lift 5 = .ok (.ifCond .ne 10, 3) := by decide +kernel
theorem dX11_lift_8 : decode cX11_lift 8 = .ok (.aload_n 0, 1) := by decide +kernel
theorem dX11_lift_9 : decode cX11_lift 9 = .ok (.ldc 78, 2) := by decide +kernel
theorem dX11_lift_11 : decode cX11_lift 11 = .ok (.invokevirtual 79, 3) := by decide +kernel
theorem dX11_lift_14 : decode cX11_lift 14 = .ok (.ireturn, 1) := by decide +kernel
theorem dX11_lift_15 : decode cX11_lift 15 = .ok (.aload_n 0, 1) := by decide +kernel
theorem dX11_lift_16 : decode cX11_lift 16 = .ok (.getfield 16, 3) := by decide +kernel
theorem dX11_lift_19 : decode cX11_lift 19 = .ok (.getfield 47, 3) := by decide +kernel
theorem dX11_lift_22 : decode cX11_lift 22 = .ok (.getfield 60, 3) := by decide +kernel
theorem dX11_lift_25 : decode cX11_lift 25 = .ok (.astore_n 2, 1) := by decide +kernel
theorem dX11_lift_26 : decode cX11_lift 26 = .ok (.aload_n 2, 1) := by decide +kernel
theorem dX11_lift_27 : decode cX11_lift 27 = .ok (.iload_n 1, 1) := by decide +kernel
theorem dX11_lift_28 : decode cX11_lift 28 = .ok (.invokevirtual 214, 3) := by decide +kernel
theorem dX11_lift_31 : decode cX11_lift 31 = .ok (.ifCond .ne 11, 3) := by decide +kernel
theorem dX11_lift_34 : decode cX11_lift 34 = .ok (.aload_n 2, 1) := by decide +kernel
theorem dX11_lift_35 : decode cX11_lift 35 = .ok (.iload_n 1, 1) := by decide +kernel
theorem dX11_lift_36 : decode cX11_lift 36 = .ok (.invokevirtual 217, 3) := by decide +kernel
theorem dX11_lift_39 : decode cX11_lift 39 = .ok (.ifCond .eq 10, 3) := by decide +kernel
theorem dX11_lift_42 : decode cX11_lift 42 = .ok (.aload_n 0, 1) := by decide +kernel
theorem dX11_lift_43 : decode cX11_lift 43 = .ok (.ldc 151, 2) := by decide +kernel
theorem dX11_lift_45 : decode cX11_lift 45 = .ok (.invokevirtual 79, 3) := by decide +kernel
theorem dX11_lift_48 : decode cX11_lift 48 = .ok (.ireturn, 1) := by decide +kernel
theorem dX11_lift_49 : decode cX11_lift 49 = .ok (.aload_n 0, 1) := by decide +kernel
theorem dX11_lift_50 : decode cX11_lift 50 = .ok (.getfield 16, 3) := by decide +kernel
theorem dX11_lift_53 : decode cX11_lift 53 = .ok (.getfield 47, 3) := by decide +kernel
theorem dX11_lift_56 : decode cX11_lift 56 = .ok (.aload_n 2, 1) := by decide +kernel
theorem dX11_lift_57 : decode cX11_lift 57 = .ok (.getfield 208, 3) := by decide +kernel
theorem dX11_lift_60 : decode cX11_lift 60 = .ok (.iload_n 1, 1) := by decide +kernel
theorem dX11_lift_61 : decode cX11_lift 61 = .ok (.iaload, 1) := by decide +kernel
theorem dX11_lift_62 : decode cX11_lift 62 = .ok (.invokevirtual 155, 3) := by decide +kernel
theorem dX11_lift_65 : decode cX11_lift 65 = .ok (.aload_n 2, 1) := by decide +kernel
theorem dX11_lift_66 : decode cX11_lift 66 = .ok (.dup, 1) := by decide +kernel
theorem dX11_lift_67 : decode cX11_lift 67 = .ok (.getfield 220, 3) := by decide +kernel
theorem dX11_lift_70 : decode cX11_lift 70 = .ok (.iconst 1, 1) := by decide +kernel
theorem dX11_lift_71 : decode cX11_lift 71 = .ok (.iload_n 1, 1) := by decide +kernel
theorem dX11_lift_72 : decode cX11_lift 72 = .ok (.ishl, 1) := by decide +kernel
theorem dX11_lift_73 : decode cX11_lift 73 = .ok (.ior, 1) := by decide +kernel
theorem dX11_lift_74 : decode cX11_lift 74 = .ok (.putfield 220, 3) := by decide +kernel
theorem dX11_lift_77 : decode cX11_lift 77 = .ok (.aload_n 0, 1) := by decide +kernel
theorem dX11_lift_78 : decode cX11_lift 78 = .ok (.getfield 16, 3) := by decide +kernel
theorem dX11_lift_81 : decode cX11_lift 81 = .ok (.getfield 47, 3) := by decide +kernel
theorem dX11_lift_84 : decode cX11_lift 84 = .ok (.getfield 159, 3) := by decide +kernel
theorem dX11_lift_87 : decode cX11_lift 87 = .ok (.ireturn, 1) := by decide +kernel
set_option maxRecDepth 20000 in
theorem ggX11_down_X11_isThing : GoodIn wsX11_down wsX11_isThing := goodIn_r _ [11, 2, 3, 4, 12, 13, 14, 10, 15, 30, 31, 32, 33, 34, 35, 36, 37, 38, 39, 40, 41, 42, 43, 44, 45, 46, 47, 48, 49, 50, 51, 52, 53, 54, 55, 56, 57, 58, 59, 60, 61] (by decide +kernel) (by decide +kernel)
set_option maxRecDepth 20000 in
theorem gX11_down_X11_isThing : GoodIn wsX11_down (wsV RX11 202 RX11 yX11_isThing wsX11_isThing) := goodIn_app (goodIn_of _ (by decide +kernel)) ggX11_down_X11_isThing
set_option maxRecDepth 20000 in
theorem ggX11_down_X11_within : GoodIn wsX11_down wsX11_within := goodIn_r _ [15] (by decide +kernel) (by decide +kernel)
set_option maxRecDepth 20000 in
theorem gX11_down_X11_within : GoodIn wsX11_down (va_wsS RX11 74 yX11_within wsX11_within) := goodIn_app (goodIn_of _ (by decide +kernel)) ggX11_down_X11_within
set_option maxRecDepth 20000 in
theorem ggX11_down_X11_tell : GoodIn wsX11_down wsX11_tell := goodIn_r _ [19, 20, 1, 30, 31, 32, 33, 34, 35, 36, 37, 38] (by decide +kernel) (by decide +kernel)
set_option maxRecDepth 20000 in
theorem gX11_down_X11_tell : GoodIn wsX11_down (wsV RX11 79 RX11 yX11_tell wsX11_tell) := goodIn_app (goodIn_of _ (by decide +kernel)) ggX11_down_X11_tell
set_option maxRecDepth 20000 in
theorem ggX11_down_X9_isLifted : GoodIn wsX11_down wsX9_isLifted := goodIn_r _ [25, 26, 56, 57, 58, 59, 60, 61] (by decide +kernel) (by decide +kernel)
set_option maxRecDepth 20000 in
theorem gX11_down_X9_isLifted : GoodIn wsX11_down (wsV RX11 214 RX9 yX9_isLifted wsX9_isLifted) := goodIn_app (goodIn_of _ (by decide +kernel)) ggX11_down_X9_isLifted
set_option maxRecDepth 20000 in
theorem ggX11_down_X11_bit : GoodIn wsX11_down wsX11_bit := goodIn_r _ [29] (by decide +kernel) (by decide +kernel)
set_option maxRecDepth 20000 in
theorem gX11_down_X11_bit : GoodIn wsX11_down (va_wsS RX11 144 yX11_bit wsX11_bit) := goodIn_app (goodIn_of _ (by decide +kernel)) ggX11_down_X11_bit
theorem dX11_down_0 : decode cX11_down 0 = .ok (.aload_n 0, 1) := by decide +kernel
theorem dX11_down_1 : decode cX11_down 1 = .ok (.iload_n 1, 1) := by decide +kernel
theorem dX11_down_2 : decode cX11_down 2 = .ok (.invokevirtual 202, 3) := by decide +kernel
theorem dX11_down_5 : decode cX11_down 5 = .ok (.ifCond .eq 14, 3) := by decide +kernel
theorem dX11_down_8 : decode cX11_down 8 = .ok (.iload_n 2, 1) := by decide +kernel
theorem dX11_down_9 : decode cX11_down 9 = .ok (.iconst 0, 1) := by decide +kernel
theorem dX11_down_10 : decode cX11_down 10 = .ok (.sipush 999, 3) := by decide +kernel
theorem dX11_down_13 : decode cX11_down 13 = .ok (.invokestatic 74, 3) := by decide +kernel
theorem dX11_down_16 : decode cX11_down 16 = .ok (.ifCond .ne 10, 3) := by decide +kernel
theorem dX11_down_19 : decode cX11_down 19 = .ok (.aload_n 0, 1) := by decide +kernel
theorem dX11_down_20 : decode cX11_down 20 = .ok (.ldc 78, 2) := by decide +kernel
theorem dX11_down_22 : decode cX11_down 22 = .ok (.invokevirtual 79, 3) := by decide +kernel
theorem dX11_down_25 : decode cX11_down 25 = .ok (.ireturn, 1) := by decide +kernel
theorem dX11_down_26 : decode cX11_down 26 = .ok (.aload_n 0, 1) := by decide +kernel
theorem dX11_down_27 : decode cX11_down 27 = .ok (.getfield 16, 3) := by decide +kernel
theorem dX11_down_30 : decode cX11_down 30 = .ok (.getfield 47, 3) := by decide +kernel
theorem dX11_down_33 : decode cX11_down 33 = .ok (.getfield 60, 3) := by decide +kernel
theorem dX11_down_36 : decode cX11_down 36 = .ok (.astore_n 3, 1) := by decide +kernel
theorem dX11_down_37 : decode cX11_down 37 = .ok (.aload_n 3, 1) := by decide +kernel
theorem dX11_down_38 : decode cX11_down 38 = .ok (.iload_n 1, 1) := by decide +kernel
theorem dX11_down_39 : decode cX11_down 39 = .ok (.invokevirtual 214, 3) := by decide +kernel
theorem dX11_down_42 : decode cX11_down 42 = .ok (.invokestatic 144, 3) := by decide +kernel
theorem dX11_down_45 : decode cX11_down 45 = .ok (.istore 4, 2) := by decide +kernel
theorem dX11_down_47 : decode cX11_down 47 = .ok (.aload_n 3, 1) := by decide +kernel
theorem dX11_down_48 : decode cX11_down 48 = .ok (.getfield 211, 3) := by decide +kernel
theorem dX11_down_51 : decode cX11_down 51 = .ok (.iload_n 1, 1) := by decide +kernel
theorem dX11_down_52 : decode cX11_down 52 = .ok (.iload_n 2, 1) := by decide +kernel
theorem dX11_down_53 : decode cX11_down 53 = .ok (.iastore, 1) := by decide +kernel
theorem dX11_down_54 : decode cX11_down 54 = .ok (.aload_n 3, 1) := by decide +kernel
theorem dX11_down_55 : decode cX11_down 55 = .ok (.dup, 1) := by decide +kernel
theorem dX11_down_56 : decode cX11_down 56 = .ok (.getfield 220, 3) := by decide +kernel
theorem dX11_down_59 : decode cX11_down 59 = .ok (.iconst 1, 1) := by decide +kernel
theorem dX11_down_60 : decode cX11_down 60 = .ok (.iload_n 1, 1) := by decide +kernel
theorem dX11_down_61 : decode cX11_down 61 = .ok (.ishl, 1) := by decide +kernel
theorem dX11_down_62 : decode cX11_down 62 = .ok (.iconst (-1), 1) := by decide +kernel
theorem dX11_down_63 : decode cX11_down 63 = .ok (.ixor, 1) := by decide +kernel
theorem dX11_down_64 : decode cX11_down 64 = .ok (.iand, 1) := by decide +kernel
theorem dX11_down_65 : decode cX11_down 65 = .ok (.putfield 220, 3) := by decide +kernel
theorem dX11_down_68 : decode cX11_down 68 = .ok (.iload 4, 2) := by decide +kernel
theorem dX11_down_70 : decode cX11_down 70 = .ok (.ireturn, 1) := by decide +kernel
set_option maxRecDepth 20000 in
theorem ggX11_harm_X9_harmedWorth : GoodIn wsX11_harm wsX9_harmedWorth := goodIn_r _ [8, 9, 10, 11, 12, 13, 7, 14, 15, 42, 43, 44, 45, 46, 47] (by decide +kernel) (by decide +kernel)
set_option maxRecDepth 20000 in
theorem gX11_harm_X9_harmedWorth : GoodIn wsX11_harm (wsV RX11 223 RX9 yX9_harmedWorth wsX9_harmedWorth) := goodIn_app (goodIn_of _ (by decide +kernel)) ggX11_harm_X9_harmedWorth
theorem dX11_harm_0 : decode cX11_harm 0 = .ok (.aload_n 0, 1) := by decide +kernel
theorem dX11_harm_1 : decode cX11_harm 1 = .ok (.getfield 16, 3) := by decide +kernel
theorem dX11_harm_4 : decode cX11_harm 4 = .ok (.getfield 47, 3) := by decide +kernel
theorem dX11_harm_7 : decode cX11_harm 7 = .ok (.getfield 60, 3) := by decide +kernel
theorem dX11_harm_10 : decode cX11_harm 10 = .ok (.invokevirtual 223, 3) := by decide +kernel
theorem dX11_harm_13 : decode cX11_harm 13 = .ok (.ireturn, 1) := by decide +kernel
set_option maxRecDepth 20000 in
theorem ggX11_feed_X11_within : GoodIn wsX11_feed wsX11_within := goodIn_r _ [8] (by decide +kernel) (by decide +kernel)
set_option maxRecDepth 20000 in
theorem gX11_feed_X11_within : GoodIn wsX11_feed (va_wsS RX11 74 yX11_within wsX11_within) := goodIn_app (goodIn_of _ (by decide +kernel)) ggX11_feed_X11_within
set_option maxRecDepth 20000 in
theorem ggX11_feed_X11_tell : GoodIn wsX11_feed wsX11_tell := goodIn_r _ [12, 13, 1, 21, 22, 23, 24, 25, 26, 27, 28, 29] (by decide +kernel) (by decide +kernel)
set_option maxRecDepth 20000 in
theorem gX11_feed_X11_tell : GoodIn wsX11_feed (wsV RX11 79 RX11 yX11_tell wsX11_tell) := goodIn_app (goodIn_of _ (by decide +kernel)) ggX11_feed_X11_tell
set_option maxRecDepth 20000 in
theorem ggX11_feed_X8_append : GoodIn wsX11_feed wsX8_append := goodIn_r _ [18, 19, 20, 30, 31] (by decide +kernel) (by decide +kernel)
set_option maxRecDepth 20000 in
theorem gX11_feed_X8_append : GoodIn wsX11_feed (wsV RX11 229 RX8 yX8_append wsX8_append) := goodIn_app (goodIn_of _ (by decide +kernel)) ggX11_feed_X8_append
theorem dX11_feed_0 : decode cX11_feed 0 = .ok (.iload_n 2, 1) := by decide +kernel
theorem dX11_feed_1 : decode cX11_feed 1 = .ok (.iconst 1, 1) := by decide +kernel
theorem dX11_feed_2 : decode cX11_feed 2 = .ok (.iconst 4, 1) := by decide +kernel
theorem dX11_feed_3 : decode cX11_feed 3 = .ok (.invokestatic 74, 3) := by decide +kernel
theorem dX11_feed_6 : decode cX11_feed 6 = .ok (.ifCond .ne 10, 3) := by decide +kernel
theorem dX11_feed_9 : decode cX11_feed 9 = .ok (.aload_n 0, 1) := by decide +kernel
theorem dX11_feed_10 : decode cX11_feed 10 = .ok (.ldc 78, 2) := by decide +kernel
theorem dX11_feed_12 : decode cX11_feed 12 = .ok (.invokevirtual 79, 3) := by decide +kernel
theorem dX11_feed_15 : decode cX11_feed 15 = .ok (.ireturn, 1) := by decide +kernel
theorem dX11_feed_16 : decode cX11_feed 16 = .ok (.aload_n 0, 1) := by decide +kernel
theorem dX11_feed_17 : decode cX11_feed 17 = .ok (.getfield 26, 3) := by decide +kernel
theorem dX11_feed_20 : decode cX11_feed 20 = .ok (.getfield 226, 3) := by decide +kernel
theorem dX11_feed_23 : decode cX11_feed 23 = .ok (.iload_n 2, 1) := by decide +kernel
theorem dX11_feed_24 : decode cX11_feed 24 = .ok (.iadd, 1) := by decide +kernel
theorem dX11_feed_25 : decode cX11_feed 25 = .ok (.bipush 100, 2) := by decide +kernel
theorem dX11_feed_27 : decode cX11_feed 27 = .ok (.if_icmp .le 10, 3) := by decide +kernel
theorem dX11_feed_30 : decode cX11_feed 30 = .ok (.aload_n 0, 1) := by decide +kernel
theorem dX11_feed_31 : decode cX11_feed 31 = .ok (.ldc 93, 2) := by decide +kernel
theorem dX11_feed_33 : decode cX11_feed 33 = .ok (.invokevirtual 79, 3) := by decide +kernel
theorem dX11_feed_36 : decode cX11_feed 36 = .ok (.ireturn, 1) := by decide +kernel
theorem dX11_feed_37 : decode cX11_feed 37 = .ok (.aload_n 0, 1) := by decide +kernel
theorem dX11_feed_38 : decode cX11_feed 38 = .ok (.getfield 26, 3) := by decide +kernel
theorem dX11_feed_41 : decode cX11_feed 41 = .ok (.iload_n 1, 1) := by decide +kernel
theorem dX11_feed_42 : decode cX11_feed 42 = .ok (.iload_n 2, 1) := by decide +kernel
theorem dX11_feed_43 : decode cX11_feed 43 = .ok (.invokevirtual 229, 3) := by decide +kernel
theorem dX11_feed_46 : decode cX11_feed 46 = .ok (.aload_n 0, 1) := by decide +kernel
theorem dX11_feed_47 : decode cX11_feed 47 = .ok (.getfield 26, 3) := by decide +kernel
theorem dX11_feed_50 : decode cX11_feed 50 = .ok (.getfield 226, 3) := by decide +kernel
theorem dX11_feed_53 : decode cX11_feed 53 = .ok (.ireturn, 1) := by decide +kernel
theorem dX11_wipe_0 : decode cX11_wipe 0 = .ok (.aload_n 0, 1) := by decide +kernel
theorem dX11_wipe_1 : decode cX11_wipe 1 = .ok (.getfield 26, 3) := by decide +kernel
theorem dX11_wipe_4 : decode cX11_wipe 4 = .ok (.getfield 226, 3) := by decide +kernel
theorem dX11_wipe_7 : decode cX11_wipe 7 = .ok (.istore_n 1, 1) := by decide +kernel
theorem dX11_wipe_8 : decode cX11_wipe 8 = .ok (.aload_n 0, 1) := by decide +kernel
theorem dX11_wipe_9 : decode cX11_wipe 9 = .ok (.getfield 26, 3) := by decide +kernel
theorem dX11_wipe_12 : decode cX11_wipe 12 = .ok (.iconst 0, 1) := by decide +kernel
theorem dX11_wipe_13 : decode cX11_wipe 13 = .ok (.putfield 226, 3) := by decide +kernel
theorem dX11_wipe_16 : decode cX11_wipe 16 = .ok (.iload_n 1, 1) := by decide +kernel
theorem dX11_wipe_17 : decode cX11_wipe 17 = .ok (.ireturn, 1) := by decide +kernel
set_option maxRecDepth 20000 in
theorem ggX11_sky_X11_tell : GoodIn wsX11_sky wsX11_tell := goodIn_r _ [12, 13, 14, 140, 141, 142, 143, 144, 145, 146, 147, 148] (by decide +kernel) (by decide +kernel)
set_option maxRecDepth 20000 in
theorem gX11_sky_X11_tell : GoodIn wsX11_sky (wsV RX11 79 RX11 yX11_tell wsX11_tell) := goodIn_app (goodIn_of _ (by decide +kernel)) ggX11_sky_X11_tell
set_option maxRecDepth 20000 in
theorem ggX11_sky_X5_readSky : GoodIn wsX11_sky wsX5_readSky := goodIn_r _ [19, 20, 21, 22, 23, 24, 25, 18, 26, 27, 28, 29, 30, 31, 32, 33, 34, 35, 36, 37, 38, 39, 40, 11, 41, 42, 43, 44, 45, 46, 47, 48, 49, 50, 51, 52, 53, 54, 55, 56, 57, 58, 59, 60, 61, 62, 63, 64, 65, 66, 67, 68, 69, 70, 71, 72, 73, 74, 75, 76, 77, 78, 79, 80, 81, 82, 83, 84, 85, 86, 87, 88, 89, 90, 91, 92, 93, 94, 95, 96, 97, 98, 99, 100, 101, 102, 103, 104, 105, 106, 107, 108, 109, 110, 111, 112, 113, 114, 115, 116, 117, 118, 119, 120, 121, 122, 123, 124, 125, 126, 127, 128, 129, 130, 131, 132, 133, 134, 135, 136, 137, 138, 139, 159, 160, 161, 162, 163, 157, 158, 153, 154, 155, 156] (by decide +kernel) (by decide +kernel)
set_option maxRecDepth 20000 in
theorem gX11_sky_X5_readSky : GoodIn wsX11_sky (wsV RX11 239 RX5 yX5_readSky wsX5_readSky) := goodIn_app (goodIn_of _ (by decide +kernel)) ggX11_sky_X5_readSky
theorem dX11_sky_0 : decode cX11_sky 0 = .ok (.aload_n 0, 1) := by decide +kernel
theorem dX11_sky_1 : decode cX11_sky 1 = .ok (.getfield 16, 3) := by decide +kernel
theorem dX11_sky_4 : decode cX11_sky 4 = .ok (.getfield 232, 3) := by decide +kernel
theorem dX11_sky_7 : decode cX11_sky 7 = .ok (.getfield 236, 3) := by decide +kernel
theorem dX11_sky_10 : decode cX11_sky 10 = .ok (.bipush 6, 2) := by decide +kernel
theorem dX11_sky_12 : decode cX11_sky 12 = .ok (.if_icmp .lt 10, 3) := by decide +kernel
theorem dX11_sky_15 : decode cX11_sky 15 = .ok (.aload_n 0, 1) := by decide +kernel
theorem dX11_sky_16 : decode cX11_sky 16 = .ok (.ldc 93, 2) := by decide +kernel
theorem dX11_sky_18 : decode cX11_sky 18 = .ok (.invokevirtual 79, 3) := by decide +kernel
theorem dX11_sky_21 : decode cX11_sky 21 = .ok (.ireturn, 1) := by decide +kernel
theorem dX11_sky_22 : decode cX11_sky 22 = .ok (.aload_n 0, 1) := by decide +kernel
theorem dX11_sky_23 : decode cX11_sky 23 = .ok (.getfield 35, 3) := by decide +kernel
theorem dX11_sky_26 : decode cX11_sky 26 = .ok (.aload_n 0, 1) := by decide +kernel
theorem dX11_sky_27 : decode cX11_sky 27 = .ok (.getfield 16, 3) := by decide +kernel
theorem dX11_sky_30 : decode cX11_sky 30 = .ok (.getfield 232, 3) := by decide +kernel
theorem dX11_sky_33 : decode cX11_sky 33 = .ok (.invokevirtual 239, 3) := by decide +kernel
theorem dX11_sky_36 : decode cX11_sky 36 = .ok (.istore_n 1, 1) := by decide +kernel
theorem dX11_sky_37 : decode cX11_sky 37 = .ok (.aload_n 0, 1) := by decide +kernel
theorem dX11_sky_38 : decode cX11_sky 38 = .ok (.getfield 26, 3) := by decide +kernel
theorem dX11_sky_41 : decode cX11_sky 41 = .ok (.iconst 0, 1) := by decide +kernel
theorem dX11_sky_42 : decode cX11_sky 42 = .ok (.putfield 226, 3) := by decide +kernel
theorem dX11_sky_45 : decode cX11_sky 45 = .ok (.iload_n 1, 1) := by decide +kernel
theorem dX11_sky_46 : decode cX11_sky 46 = .ok (.iconst (-1), 1) := by decide +kernel
theorem dX11_sky_47 : decode cX11_sky 47 = .ok (.if_icmp .ne 18, 3) := by decide +kernel
theorem dX11_sky_50 : decode cX11_sky 50 = .ok (.aload_n 0, 1) := by decide +kernel
theorem dX11_sky_51 : decode cX11_sky 51 = .ok (.getfield 16, 3) := by decide +kernel
theorem dX11_sky_54 : decode cX11_sky 54 = .ok (.getfield 232, 3) := by decide +kernel
theorem dX11_sky_57 : decode cX11_sky 57 = .ok (.getfield 236, 3) := by decide +kernel
theorem dX11_sky_60 : decode cX11_sky 60 = .ok (.iconst 1, 1) := by decide +kernel
theorem dX11_sky_61 : decode cX11_sky 61 = .ok (.isub, 1) := by decide +kernel
theorem dX11_sky_62 : decode cX11_sky 62 = .ok (.goto 6, 3) := by decide +kernel
theorem dX11_sky_65 : decode cX11_sky 65 = .ok (.iconst (-1), 1) := by decide +kernel
theorem dX11_sky_66 : decode cX11_sky 66 = .ok (.iload_n 1, 1) := by decide +kernel
theorem dX11_sky_67 : decode cX11_sky 67 = .ok (.isub, 1) := by decide +kernel
theorem dX11_sky_68 : decode cX11_sky 68 = .ok (.ireturn, 1) := by decide +kernel
set_option maxRecDepth 20000 in
theorem ggX11_skyOf_X11_isSky : GoodIn wsX11_skyOf wsX11_isSky := goodIn_r _ [9, 2, 3, 10, 11, 12, 8, 13, 27, 28, 29, 30, 31, 32, 33, 34, 35, 36, 37, 38, 39, 40, 41, 42, 43] (by decide +kernel) (by decide +kernel)
set_option maxRecDepth 20000 in
theorem gX11_skyOf_X11_isSky : GoodIn wsX11_skyOf (wsV RX11 243 RX11 yX11_isSky wsX11_isSky) := goodIn_app (goodIn_of _ (by decide +kernel)) ggX11_skyOf_X11_isSky
set_option maxRecDepth 20000 in
theorem ggX11_skyOf_X11_within : GoodIn wsX11_skyOf wsX11_within := goodIn_r _ [13] (by decide +kernel) (by decide +kernel)
set_option maxRecDepth 20000 in
theorem gX11_skyOf_X11_within : GoodIn wsX11_skyOf (va_wsS RX11 74 yX11_within wsX11_within) := goodIn_app (goodIn_of _ (by decide +kernel)) ggX11_skyOf_X11_within
set_option maxRecDepth 20000 in
theorem ggX11_skyOf_X11_tell : GoodIn wsX11_skyOf wsX11_tell := goodIn_r _ [17, 18, 1, 27, 28, 29, 30, 31, 32, 33, 34, 35] (by decide +kernel) (by decide +kernel)
set_option maxRecDepth 20000 in
theorem gX11_skyOf_X11_tell : GoodIn wsX11_skyOf (wsV RX11 79 RX11 yX11_tell wsX11_tell) := goodIn_app (goodIn_of _ (by decide +kernel)) ggX11_skyOf_X11_tell
set_option maxRecDepth 20000 in
theorem ggX11_skyOf_X7_minutesOf : GoodIn wsX11_skyOf wsX7_minutesOf := goodIn_r _ [23, 24, 25, 26, 40, 41, 42, 43] (by decide +kernel) (by decide +kernel)
set_option maxRecDepth 20000 in
theorem gX11_skyOf_X7_minutesOf : GoodIn wsX11_skyOf (wsV RX11 249 RX7 yX7_minutesOf wsX7_minutesOf) := goodIn_app (goodIn_of _ (by decide +kernel)) ggX11_skyOf_X7_minutesOf
theorem dX11_skyOf_0 : decode cX11_skyOf 0 = .ok (.aload_n 0, 1) := by decide +kernel
theorem dX11_skyOf_1 : decode cX11_skyOf 1 = .ok (.iload_n 1, 1) := by decide +kernel
theorem dX11_skyOf_2 : decode cX11_skyOf 2 = .ok (.invokevirtual 243, 3) := by decide +kernel
theorem dX11_skyOf_5 : decode cX11_skyOf 5 = .ok (.ifCond .eq 12, 3) := by decide +kernel
theorem dX11_skyOf_8 : decode cX11_skyOf 8 = .ok (.iload_n 2, 1) := by decide +kernel
theorem dX11_skyOf_9 : decode cX11_skyOf 9 = .ok (.iconst 0, 1) := by decide +kernel
theorem dX11_skyOf_10 : decode cX11_skyOf 10 = .ok (.iconst 1, 1) := by decide +kernel
theorem dX11_skyOf_11 : decode cX11_skyOf 11 = .ok (.invokestatic 74, 3) := by decide +kernel
theorem dX11_skyOf_14 : decode cX11_skyOf 14 = .ok (.ifCond .ne 10, 3) := by decide +kernel
theorem dX11_skyOf_17 : decode cX11_skyOf 17 = .ok (.aload_n 0, 1) := by decide +kernel
theorem dX11_skyOf_18 : decode cX11_skyOf 18 = .ok (.ldc 78, 2) := by decide +kernel
theorem dX11_skyOf_20 : decode cX11_skyOf 20 = .ok (.invokevirtual 79, 3) := by decide +kernel
theorem dX11_skyOf_23 : decode cX11_skyOf 23 = .ok (.ireturn, 1) := by decide +kernel
theorem dX11_skyOf_24 : decode cX11_skyOf 24 = .ok (.iload_n 2, 1) := by decide +kernel
theorem dX11_skyOf_25 : decode cX11_skyOf 25 = .ok (.ifCond .ne 18, 3) := by decide +kernel
theorem dX11_skyOf_28 : decode cX11_skyOf 28 = .ok (.aload_n 0, 1) := by decide +kernel
theorem dX11_skyOf_29 : decode cX11_skyOf 29 = .ok (.getfield 16, 3) := by decide +kernel
theorem dX11_skyOf_32 : decode cX11_skyOf 32 = .ok (.getfield 232, 3) := by decide +kernel
theorem dX11_skyOf_35 : decode cX11_skyOf 35 = .ok (.getfield 246, 3) := by decide +kernel
theorem dX11_skyOf_38 : decode cX11_skyOf 38 = .ok (.iload_n 1, 1) := by decide +kernel
theorem dX11_skyOf_39 : decode cX11_skyOf 39 = .ok (.iaload, 1) := by decide +kernel
theorem dX11_skyOf_40 : decode cX11_skyOf 40 = .ok (.goto 14, 3) := by decide +kernel
theorem dX11_skyOf_43 : decode cX11_skyOf 43 = .ok (.aload_n 0, 1) := by decide +kernel
theorem dX11_skyOf_44 : decode cX11_skyOf 44 = .ok (.getfield 16, 3) := by decide +kernel
theorem dX11_skyOf_47 : decode cX11_skyOf 47 = .ok (.getfield 232, 3) := by decide +kernel
theorem dX11_skyOf_50 : decode cX11_skyOf 50 = .ok (.iload_n 1, 1) := by decide +kernel
theorem dX11_skyOf_51 : decode cX11_skyOf 51 = .ok (.invokevirtual 249, 3) := by decide +kernel
theorem dX11_skyOf_54 : decode cX11_skyOf 54 = .ok (.ireturn, 1) := by decide +kernel
set_option maxRecDepth 20000 in
theorem ggX11_play_X11_isSky : GoodIn wsX11_play wsX11_isSky := goodIn_r _ [10, 2, 3, 11, 12, 13, 9, 14, 117, 118, 119, 120, 121, 122, 123, 124, 125, 126, 127, 128, 129, 143, 144, 145, 146] (by decide +kernel) (by decide +kernel)
set_option maxRecDepth 20000 in
theorem gX11_play_X11_isSky : GoodIn wsX11_play (wsV RX11 243 RX11 yX11_isSky wsX11_isSky) := goodIn_app (goodIn_of _ (by decide +kernel)) ggX11_play_X11_isSky
set_option maxRecDepth 20000 in
theorem ggX11_play_X11_tell : GoodIn wsX11_play wsX11_tell := goodIn_r _ [18, 19, 1, 117, 118, 119, 120, 121, 122, 123, 124, 125] (by decide +kernel) (by decide +kernel)
set_option maxRecDepth 20000 in
theorem gX11_play_X11_tell : GoodIn wsX11_play (wsV RX11 79 RX11 yX11_tell wsX11_tell) := goodIn_app (goodIn_of _ (by decide +kernel)) ggX11_play_X11_tell
set_option maxRecDepth 20000 in
theorem ggX11_play_X7_perform : GoodIn wsX11_play wsX7_perform := goodIn_r _ [24, 25, 26, 27, 28, 29, 30, 31, 32, 33, 34, 35, 36, 37, 38, 39, 40, 41, 42, 43, 44, 45, 46, 47, 48, 49, 50, 51, 52, 53, 54, 55, 56, 57, 58, 59, 60, 61, 62, 63, 64, 65, 66, 67, 68, 69, 70, 71, 72, 73, 74, 75, 76, 77, 78, 79, 80, 81, 82, 83, 84, 85, 86, 87, 88, 89, 90, 91, 92, 93, 94, 95, 96, 97, 98, 99, 100, 101, 102, 103, 104, 105, 106, 107, 108, 109, 110, 111, 112, 113, 114, 115, 116, 143, 144, 145, 146, 130, 131, 132, 133, 134, 135, 136, 137, 138, 139, 140, 141, 142, 147, 148, 149, 150, 151, 152, 153, 154, 155, 156, 157, 158, 159, 160, 161, 162, 163, 164, 165, 166, 167, 168] (by decide +kernel) (by decide +kernel)
set_option maxRecDepth 20000 in
theorem gX11_play_X7_perform : GoodIn wsX11_play (wsV RX11 252 RX7 yX7_perform wsX7_perform) := goodIn_app (goodIn_of _ (by decide +kernel)) ggX11_play_X7_perform
theorem dX11_play_0 : decode cX11_play 0 = .ok (.aload_n 0, 1) := by decide +kernel
theorem dX11_play_1 : decode cX11_play 1 = .ok (.iload_n 1, 1) := by decide +kernel
theorem dX11_play_2 : decode cX11_play 2 = .ok (.invokevirtual 243, 3) := by decide +kernel
theorem dX11_play_5 : decode cX11_play 5 = .ok (.ifCond .ne 10, 3) := by decide +kernel
theorem dX11_play_8 : decode cX11_play 8 = .ok (.aload_n 0, 1) := by decide +kernel
theorem dX11_play_9 : decode cX11_play 9 = .ok (.ldc 78, 2) := by decide +kernel
theorem dX11_play_11 : decode cX11_play 11 = .ok (.invokevirtual 79, 3) := by decide +kernel
theorem dX11_play_14 : decode cX11_play 14 = .ok (.ireturn, 1) := by decide +kernel
theorem dX11_play_15 : decode cX11_play 15 = .ok (.aload_n 0, 1) := by decide +kernel
theorem dX11_play_16 : decode cX11_play 16 = .ok (.getfield 16, 3) := by decide +kernel
theorem dX11_play_19 : decode cX11_play 19 = .ok (.getfield 232, 3) := by decide +kernel
theorem dX11_play_22 : decode cX11_play 22 = .ok (.iload_n 1, 1) := by decide +kernel
theorem dX11_play_23 : decode cX11_play 23 = .ok (.aload_n 0, 1) := by decide +kernel
theorem dX11_play_24 : decode cX11_play 24 = .ok (.getfield 16, 3) := by decide +kernel
theorem dX11_play_27 : decode cX11_play 27 = .ok (.getfield 47, 3) := by decide +kernel
theorem dX11_play_30 : decode cX11_play 30 = .ok (.invokevirtual 252, 3) := by decide +kernel
theorem dX11_play_33 : decode cX11_play 33 = .ok (.aload_n 0, 1) := by decide +kernel
theorem dX11_play_34 : decode cX11_play 34 = .ok (.getfield 16, 3) := by decide +kernel
theorem dX11_play_37 : decode cX11_play 37 = .ok (.getfield 47, 3) := by decide +kernel
theorem dX11_play_40 : decode cX11_play 40 = .ok (.getfield 159, 3) := by decide +kernel
theorem dX11_play_43 : decode cX11_play 43 = .ok (.ireturn, 1) := by decide +kernel
set_option maxRecDepth 20000 in
theorem ggX11_ahead_X11_within : GoodIn wsX11_ahead wsX11_within := goodIn_r _ [6] (by decide +kernel) (by decide +kernel)
set_option maxRecDepth 20000 in
theorem gX11_ahead_X11_within : GoodIn wsX11_ahead (va_wsS RX11 74 yX11_within wsX11_within) := goodIn_app (goodIn_of _ (by decide +kernel)) ggX11_ahead_X11_within
set_option maxRecDepth 20000 in
theorem ggX11_ahead_X11_tell : GoodIn wsX11_ahead wsX11_tell := goodIn_r _ [10, 11, 1, 163, 164, 165, 166, 167, 168, 169, 170, 171] (by decide +kernel) (by decide +kernel)
set_option maxRecDepth 20000 in
theorem gX11_ahead_X11_tell : GoodIn wsX11_ahead (wsV RX11 79 RX11 yX11_tell wsX11_tell) := goodIn_app (goodIn_of _ (by decide +kernel)) ggX11_ahead_X11_tell
set_option maxRecDepth 20000 in
theorem ggX11_ahead_X3_behindMinutes : GoodIn wsX11_ahead wsX3_behindMinutes := goodIn_r _ [16, 17, 18, 19, 20, 15, 21, 22, 23, 24, 25, 26, 27, 28, 29, 30, 31, 32, 33, 34, 35, 36, 37, 38, 39, 40, 41, 42, 43, 44, 45, 46, 47, 48, 49, 50, 51, 52, 53, 54, 55, 56, 57, 58, 59, 60, 61, 62, 63, 64, 65, 66, 67, 68, 69, 70, 71, 72, 73, 74, 75, 76, 77, 78, 79, 80, 81, 82, 83, 84, 85, 86, 87, 88, 89, 90, 91, 92, 93, 94, 95, 96, 97, 98, 99, 100, 101, 102, 103, 104, 105, 106, 107, 108, 109, 110, 111, 112, 113, 114, 115, 116, 117, 118, 119, 120, 121, 122, 123, 124, 125, 126, 127, 128, 129, 130, 131, 132, 133, 134, 135, 136, 137, 138, 139, 140, 141, 142, 143, 144, 145, 146, 147, 148, 149, 150, 151, 152, 153, 154, 155, 156, 157, 158, 159, 160, 161, 162, 172, 173, 174, 175, 176, 177, 178, 179, 180, 181, 182, 183, 184, 185, 186, 187, 188, 189, 190, 191, 192, 193, 194, 195, 196, 197, 198, 199, 200, 201, 202, 203, 204, 205, 206, 207, 208, 209] (by decide +kernel) (by decide +kernel)
set_option maxRecDepth 20000 in
theorem gX11_ahead_X3_behindMinutes : GoodIn wsX11_ahead (wsV RX11 256 RX3 yX3_behindMinutes wsX3_behindMinutes) := goodIn_app (goodIn_of _ (by decide +kernel)) ggX11_ahead_X3_behindMinutes
theorem dX11_ahead_0 : decode cX11_ahead 0 = .ok (.iload_n 1, 1) := by decide +kernel
theorem dX11_ahead_1 : decode cX11_ahead 1 = .ok (.iconst 0, 1) := by decide +kernel
theorem dX11_ahead_2 : decode cX11_ahead 2 = .ok (.sipush 400, 3) := by decide +kernel
theorem dX11_ahead_5 : decode cX11_ahead 5 = .ok (.invokestatic 74, 3) := by decide +kernel
theorem dX11_ahead_8 : decode cX11_ahead 8 = .ok (.ifCond .eq 12, 3) := by decide +kernel
theorem dX11_ahead_11 : decode cX11_ahead 11 = .ok (.iload_n 2, 1) := by decide +kernel
theorem dX11_ahead_12 : decode cX11_ahead 12 = .ok (.iconst 0, 1) := by decide +kernel
theorem dX11_ahead_13 : decode cX11_ahead 13 = .ok (.iconst 3, 1) := by decide +kernel
theorem dX11_ahead_14 : decode cX11_ahead 14 = .ok (.invokestatic 74, 3) := by decide +kernel
theorem dX11_ahead_17 : decode cX11_ahead 17 = .ok (.ifCond .ne 10, 3) := by decide +kernel
theorem dX11_ahead_20 : decode cX11_ahead 20 = .ok (.aload_n 0, 1) := by decide +kernel
theorem dX11_ahead_21 : decode cX11_ahead 21 = .ok (.ldc 78, 2) := by decide +kernel
theorem dX11_ahead_23 : decode cX11_ahead 23 = .ok (.invokevirtual 79, 3) := by decide +kernel
theorem dX11_ahead_26 : decode cX11_ahead 26 = .ok (.ireturn, 1) := by decide +kernel
theorem dX11_ahead_27 : decode cX11_ahead 27 = .ok (.aload_n 0, 1) := by decide +kernel
theorem dX11_ahead_28 : decode cX11_ahead 28 = .ok (.getfield 54, 3) := by decide +kernel
theorem dX11_ahead_31 : decode cX11_ahead 31 = .ok (.iload_n 1, 1) := by decide +kernel
theorem dX11_ahead_32 : decode cX11_ahead 32 = .ok (.iload_n 2, 1) := by decide +kernel
theorem dX11_ahead_33 : decode cX11_ahead 33 = .ok (.invokevirtual 256, 3) := by decide +kernel
theorem dX11_ahead_36 : decode cX11_ahead 36 = .ok (.ireturn, 1) := by decide +kernel
set_option maxRecDepth 20000 in
theorem ggX11_under_X11_isSky : GoodIn wsX11_under wsX11_isSky := goodIn_r _ [9, 3, 4, 10, 11, 12, 8, 13, 180, 181, 182, 183, 184, 185, 186, 187, 188, 189, 190, 191, 192, 193, 194, 195, 196] (by decide +kernel) (by decide +kernel)
set_option maxRecDepth 20000 in
theorem gX11_under_X11_isSky : GoodIn wsX11_under (wsV RX11 243 RX11 yX11_isSky wsX11_isSky) := goodIn_app (goodIn_of _ (by decide +kernel)) ggX11_under_X11_isSky
set_option maxRecDepth 20000 in
theorem ggX11_under_X11_within : GoodIn wsX11_under wsX11_within := goodIn_r _ [13] (by decide +kernel) (by decide +kernel)
set_option maxRecDepth 20000 in
theorem gX11_under_X11_within : GoodIn wsX11_under (va_wsS RX11 74 yX11_within wsX11_within) := goodIn_app (goodIn_of _ (by decide +kernel)) ggX11_under_X11_within
set_option maxRecDepth 20000 in
theorem ggX11_under_X11_tell : GoodIn wsX11_under wsX11_tell := goodIn_r _ [17, 18, 1, 180, 181, 182, 183, 184, 185, 186, 187, 188] (by decide +kernel) (by decide +kernel)
set_option maxRecDepth 20000 in
theorem gX11_under_X11_tell : GoodIn wsX11_under (wsV RX11 79 RX11 yX11_tell wsX11_tell) := goodIn_app (goodIn_of _ (by decide +kernel)) ggX11_under_X11_tell
set_option maxRecDepth 20000 in
theorem ggX11_under_X3_behindSky : GoodIn wsX11_under wsX3_behindSky := goodIn_r _ [23, 24, 25, 26, 27, 22, 28, 29, 30, 31, 32, 33, 34, 35, 36, 37, 38, 39, 40, 41, 42, 43, 44, 45, 46, 47, 48, 49, 50, 51, 52, 53, 54, 55, 56, 57, 58, 59, 60, 61, 62, 63, 64, 65, 66, 67, 68, 69, 70, 71, 72, 73, 74, 75, 76, 77, 78, 79, 80, 81, 82, 83, 84, 85, 86, 87, 88, 89, 90, 91, 92, 93, 94, 95, 96, 97, 98, 99, 100, 101, 102, 103, 104, 105, 106, 107, 108, 109, 110, 111, 112, 113, 114, 115, 116, 117, 118, 119, 120, 121, 122, 123, 124, 125, 126, 127, 128, 129, 130, 131, 132, 133, 134, 135, 136, 137, 138, 139, 140, 141, 142, 143, 144, 145, 146, 147, 148, 149, 150, 151, 152, 153, 154, 155, 156, 157, 158, 159, 160, 161, 162, 163, 164, 165, 166, 167, 168, 169, 170, 171, 172, 173, 174, 175, 176, 177, 178, 179, 197, 198, 199, 200, 201, 202, 203, 204, 205, 206, 207, 208, 209, 210, 211, 212, 213, 214, 215, 216, 217, 218, 219, 220, 221, 222, 223, 224, 225, 226, 227, 228, 229, 230, 231, 232, 233, 234, 193, 194, 195, 196] (by decide +kernel) (by decide +kernel)
set_option maxRecDepth 20000 in
theorem gX11_under_X3_behindSky : GoodIn wsX11_under (wsV RX11 260 RX3 yX3_behindSky wsX3_behindSky) := goodIn_app (goodIn_of _ (by decide +kernel)) ggX11_under_X3_behindSky
theorem dX11_under_0 : decode cX11_under 0 = .ok (.aload_n 0, 1) := by decide +kernel
theorem dX11_under_1 : decode cX11_under 1 = .ok (.iload_n 1, 1) := by decide +kernel
theorem dX11_under_2 : decode cX11_under 2 = .ok (.invokevirtual 243, 3) := by decide +kernel
theorem dX11_under_5 : decode cX11_under 5 = .ok (.ifCond .eq 12, 3) := by decide +kernel
theorem dX11_under_8 : decode cX11_under 8 = .ok (.iload_n 2, 1) := by decide +kernel
theorem dX11_under_9 : decode cX11_under 9 = .ok (.iconst 0, 1) := by decide +kernel
theorem dX11_under_10 : decode cX11_under 10 = .ok (.iconst 3, 1) := by decide +kernel
theorem dX11_under_11 : decode cX11_under 11 = .ok (.invokestatic 74, 3) := by decide +kernel
theorem dX11_under_14 : decode cX11_under 14 = .ok (.ifCond .ne 10, 3) := by decide +kernel
theorem dX11_under_17 : decode cX11_under 17 = .ok (.aload_n 0, 1) := by decide +kernel
theorem dX11_under_18 : decode cX11_under 18 = .ok (.ldc 78, 2) := by decide +kernel
theorem dX11_under_20 : decode cX11_under 20 = .ok (.invokevirtual 79, 3) := by decide +kernel
theorem dX11_under_23 : decode cX11_under 23 = .ok (.ireturn, 1) := by decide +kernel
theorem dX11_under_24 : decode cX11_under 24 = .ok (.aload_n 0, 1) := by decide +kernel
theorem dX11_under_25 : decode cX11_under 25 = .ok (.getfield 54, 3) := by decide +kernel
theorem dX11_under_28 : decode cX11_under 28 = .ok (.aload_n 0, 1) := by decide +kernel
theorem dX11_under_29 : decode cX11_under 29 = .ok (.getfield 16, 3) := by decide +kernel
theorem dX11_under_32 : decode cX11_under 32 = .ok (.getfield 232, 3) := by decide +kernel
theorem dX11_under_35 : decode cX11_under 35 = .ok (.iload_n 1, 1) := by decide +kernel
theorem dX11_under_36 : decode cX11_under 36 = .ok (.iload_n 2, 1) := by decide +kernel
theorem dX11_under_37 : decode cX11_under 37 = .ok (.invokevirtual 260, 3) := by decide +kernel
theorem dX11_under_40 : decode cX11_under 40 = .ok (.ireturn, 1) := by decide +kernel
set_option maxRecDepth 20000 in
theorem ggX11_reaches_X11_within : GoodIn wsX11_reaches wsX11_within := goodIn_r _ [6] (by decide +kernel) (by decide +kernel)
set_option maxRecDepth 20000 in
theorem gX11_reaches_X11_within : GoodIn wsX11_reaches (va_wsS RX11 74 yX11_within wsX11_within) := goodIn_app (goodIn_of _ (by decide +kernel)) ggX11_reaches_X11_within
set_option maxRecDepth 20000 in
theorem ggX11_reaches_X11_tell : GoodIn wsX11_reaches wsX11_tell := goodIn_r _ [10, 11, 1, 149, 150, 151, 152, 153, 154, 155, 156, 157] (by decide +kernel) (by decide +kernel)
set_option maxRecDepth 20000 in
theorem gX11_reaches_X11_tell : GoodIn wsX11_reaches (wsV RX11 79 RX11 yX11_tell wsX11_tell) := goodIn_app (goodIn_of _ (by decide +kernel)) ggX11_reaches_X11_tell
set_option maxRecDepth 20000 in
theorem ggX11_reaches_X3_firstMinuteAbove : GoodIn wsX11_reaches wsX3_firstMinuteAbove := goodIn_r _ [16, 17, 18, 19, 20, 21, 15, 22, 23, 24, 25, 26, 27, 28, 29, 30, 31, 32, 33, 34, 35, 36, 37, 38, 39, 40, 41, 42, 43, 44, 45, 46, 47, 48, 49, 50, 51, 52, 53, 54, 55, 56, 57, 58, 59, 60, 61, 62, 63, 64, 65, 66, 67, 68, 69, 70, 71, 72, 73, 74, 75, 76, 77, 78, 79, 80, 81, 82, 83, 84, 85, 86, 87, 88, 89, 90, 91, 92, 93, 94, 95, 96, 97, 98, 99, 100, 101, 102, 103, 104, 105, 106, 107, 108, 109, 110, 111, 112, 113, 114, 115, 116, 117, 118, 119, 120, 121, 122, 123, 124, 125, 126, 127, 128, 129, 130, 131, 132, 133, 134, 135, 136, 137, 138, 139, 140, 141, 142, 143, 158, 159, 160, 161, 162, 163, 164, 165, 166, 167, 168, 169, 170, 171, 172, 173, 174, 175, 176, 177, 178, 179, 180, 181, 182, 183, 184, 185, 186, 187, 188, 189, 190, 191, 192, 193, 194, 195] (by decide +kernel) (by decide +kernel)
set_option maxRecDepth 20000 in
theorem gX11_reaches_X3_firstMinuteAbove : GoodIn wsX11_reaches (wsV RX11 264 RX3 yX3_firstMinuteAbove wsX3_firstMinuteAbove) := goodIn_app (goodIn_of _ (by decide +kernel)) ggX11_reaches_X3_firstMinuteAbove
set_option maxRecDepth 20000 in
theorem ggX11_reaches_X11_orNone : GoodIn wsX11_reaches wsX11_orNone := goodIn_r _ [147, 148, 7, 8, 9, 5, 10, 11, 1, 149, 150, 151, 152, 153, 154, 155, 156, 157] (by decide +kernel) (by decide +kernel)
set_option maxRecDepth 20000 in
theorem gX11_reaches_X11_orNone : GoodIn wsX11_reaches (wsV RX11 267 RX11 yX11_orNone wsX11_orNone) := goodIn_app (goodIn_of _ (by decide +kernel)) ggX11_reaches_X11_orNone
theorem dX11_reaches_0 : decode cX11_reaches 0 = .ok (.iload_n 1, 1) := by decide +kernel
theorem dX11_reaches_1 : decode cX11_reaches 1 = .ok (.iconst 0, 1) := by decide +kernel
theorem dX11_reaches_2 : decode cX11_reaches 2 = .ok (.sipush 9999, 3) := by decide +kernel
theorem dX11_reaches_5 : decode cX11_reaches 5 = .ok (.invokestatic 74, 3) := by decide +kernel
theorem dX11_reaches_8 : decode cX11_reaches 8 = .ok (.ifCond .ne 10, 3) := by decide +kernel
theorem dX11_reaches_11 : decode cX11_reaches 11 = .ok (.aload_n 0, 1) := by decide +kernel
theorem dX11_reaches_12 : decode cX11_reaches 12 = .ok (.ldc 78, 2) := by decide +kernel
theorem dX11_reaches_14 : decode cX11_reaches 14 = .ok (.invokevirtual 79, 3) := by decide +kernel
theorem dX11_reaches_17 : decode cX11_reaches 17 = .ok (.ireturn, 1) := by decide +kernel
theorem dX11_reaches_18 : decode cX11_reaches 18 = .ok (.aload_n 0, 1) := by decide +kernel
theorem dX11_reaches_19 : decode cX11_reaches 19 = .ok (.aload_n 0, 1) := by decide +kernel
theorem dX11_reaches_20 : decode cX11_reaches 20 = .ok (.getfield 54, 3) := by decide +kernel
theorem dX11_reaches_23 : decode cX11_reaches 23 = .ok (.iload_n 1, 1) := by decide +kernel
theorem dX11_reaches_24 : decode cX11_reaches 24 = .ok (.invokevirtual 264, 3) := by decide +kernel
theorem dX11_reaches_27 : decode cX11_reaches 27 = .ok (.invokevirtual 267, 3) := by decide +kernel
theorem dX11_reaches_30 : decode cX11_reaches 30 = .ok (.ireturn, 1) := by decide +kernel
set_option maxRecDepth 20000 in
theorem ggX11_bestOn_X11_isTrial : GoodIn wsX11_bestOn wsX11_isTrial := goodIn_r _ [6, 7, 8, 5, 9] (by decide +kernel) (by decide +kernel)
set_option maxRecDepth 20000 in
theorem gX11_bestOn_X11_isTrial : GoodIn wsX11_bestOn (va_wsS RX11 270 yX11_isTrial wsX11_isTrial) := goodIn_app (goodIn_of _ (by decide +kernel)) ggX11_bestOn_X11_isTrial
set_option maxRecDepth 20000 in
theorem ggX11_bestOn_X11_tell : GoodIn wsX11_bestOn wsX11_tell := goodIn_r _ [13, 14, 1, 160, 161, 162, 163, 164, 165, 166, 167, 168] (by decide +kernel) (by decide +kernel)
set_option maxRecDepth 20000 in
theorem gX11_bestOn_X11_tell : GoodIn wsX11_bestOn (wsV RX11 79 RX11 yX11_tell wsX11_tell) := goodIn_app (goodIn_of _ (by decide +kernel)) ggX11_bestOn_X11_tell
set_option maxRecDepth 20000 in
theorem ggX11_bestOn_X3_bestOnMark : GoodIn wsX11_bestOn wsX3_bestOnMark := goodIn_r _ [19, 20, 21, 22, 23, 24, 25, 26, 27, 28, 18, 29, 30, 31, 32, 33, 34, 35, 36, 37, 38, 39, 40, 41, 42, 43, 44, 45, 46, 47, 48, 49, 50, 51, 52, 53, 54, 55, 56, 57, 58, 59, 60, 61, 62, 63, 64, 65, 66, 67, 68, 69, 70, 71, 72, 73, 74, 75, 76, 77, 78, 79, 80, 81, 82, 83, 84, 85, 86, 87, 88, 89, 90, 91, 92, 93, 94, 95, 96, 97, 98, 99, 100, 101, 102, 103, 104, 105, 106, 107, 108, 109, 110, 111, 112, 113, 114, 115, 116, 117, 118, 119, 120, 121, 122, 123, 124, 125, 126, 127, 128, 129, 130, 131, 132, 133, 134, 135, 136, 137, 138, 139, 140, 141, 142, 143, 144, 145, 146, 147, 148, 149, 150, 151, 152, 153, 154, 169, 170, 171, 172, 173, 174, 175, 176, 177, 178, 179, 180, 181, 182, 183, 184, 185, 186, 187, 188, 189, 190, 191, 192, 193, 194, 195, 196, 197, 198, 199, 200, 201, 202, 203, 204, 205, 206] (by decide +kernel) (by decide +kernel)
set_option maxRecDepth 20000 in
theorem gX11_bestOn_X3_bestOnMark : GoodIn wsX11_bestOn (wsV RX11 273 RX3 yX3_bestOnMark wsX3_bestOnMark) := goodIn_app (goodIn_of _ (by decide +kernel)) ggX11_bestOn_X3_bestOnMark
set_option maxRecDepth 20000 in
theorem ggX11_bestOn_X11_orNone : GoodIn wsX11_bestOn wsX11_orNone := goodIn_r _ [158, 159, 10, 11, 12, 5, 13, 14, 1, 160, 161, 162, 163, 164, 165, 166, 167, 168] (by decide +kernel) (by decide +kernel)
set_option maxRecDepth 20000 in
theorem gX11_bestOn_X11_orNone : GoodIn wsX11_bestOn (wsV RX11 267 RX11 yX11_orNone wsX11_orNone) := goodIn_app (goodIn_of _ (by decide +kernel)) ggX11_bestOn_X11_orNone
theorem dX11_bestOn_0 : decode cX11_bestOn 0 = .ok (.iload_n 1, 1) := by decide +kernel
theorem dX11_bestOn_1 : decode cX11_bestOn 1 = .ok (.iload_n 2, 1) := by decide +kernel
theorem dX11_bestOn_2 : decode cX11_bestOn 2 = .ok (.invokestatic 270, 3) := by decide +kernel
theorem dX11_bestOn_5 : decode cX11_bestOn 5 = .ok (.ifCond .ne 10, 3) := by decide +kernel
theorem dX11_bestOn_8 : decode cX11_bestOn 8 = .ok (.aload_n 0, 1) := by decide +kernel
theorem dX11_bestOn_9 : decode cX11_bestOn 9 = .ok (.ldc 78, 2) := by decide +kernel
theorem dX11_bestOn_11 : decode cX11_bestOn 11 = .ok (.invokevirtual 79, 3) := by decide +kernel
theorem dX11_bestOn_14 : decode cX11_bestOn 14 = .ok (.ireturn, 1) := by decide +kernel
theorem dX11_bestOn_15 : decode cX11_bestOn 15 = .ok (.aload_n 0, 1) := by decide +kernel
theorem dX11_bestOn_16 : decode cX11_bestOn 16 = .ok (.aload_n 0, 1) := by decide +kernel
theorem dX11_bestOn_17 : decode cX11_bestOn 17 = .ok (.getfield 54, 3) := by decide +kernel
theorem dX11_bestOn_20 : decode cX11_bestOn 20 = .ok (.iload_n 1, 1) := by decide +kernel
theorem dX11_bestOn_21 : decode cX11_bestOn 21 = .ok (.iload_n 2, 1) := by decide +kernel
theorem dX11_bestOn_22 : decode cX11_bestOn 22 = .ok (.invokevirtual 273, 3) := by decide +kernel
theorem dX11_bestOn_25 : decode cX11_bestOn 25 = .ok (.invokevirtual 267, 3) := by decide +kernel
theorem dX11_bestOn_28 : decode cX11_bestOn 28 = .ok (.ireturn, 1) := by decide +kernel
set_option maxRecDepth 20000 in
theorem ggX11_rateFor_X11_isTrial : GoodIn wsX11_rateFor wsX11_isTrial := goodIn_r _ [6, 7, 8, 5, 9] (by decide +kernel) (by decide +kernel)
set_option maxRecDepth 20000 in
theorem gX11_rateFor_X11_isTrial : GoodIn wsX11_rateFor (va_wsS RX11 270 yX11_isTrial wsX11_isTrial) := goodIn_app (goodIn_of _ (by decide +kernel)) ggX11_rateFor_X11_isTrial
set_option maxRecDepth 20000 in
theorem ggX11_rateFor_X11_tell : GoodIn wsX11_rateFor wsX11_tell := goodIn_r _ [13, 14, 1, 158, 159, 160, 161, 162, 163, 164, 165, 166] (by decide +kernel) (by decide +kernel)
set_option maxRecDepth 20000 in
theorem gX11_rateFor_X11_tell : GoodIn wsX11_rateFor (wsV RX11 79 RX11 yX11_tell wsX11_tell) := goodIn_app (goodIn_of _ (by decide +kernel)) ggX11_rateFor_X11_tell
set_option maxRecDepth 20000 in
theorem ggX11_rateFor_X3_leastRate : GoodIn wsX11_rateFor wsX3_leastRate := goodIn_r _ [19, 20, 21, 22, 23, 24, 25, 26, 18, 27, 28, 29, 30, 31, 32, 33, 34, 35, 36, 37, 38, 39, 40, 41, 42, 43, 44, 45, 46, 47, 48, 49, 50, 51, 52, 53, 54, 55, 56, 57, 58, 59, 60, 61, 62, 63, 64, 65, 66, 67, 68, 69, 70, 71, 72, 73, 74, 75, 76, 77, 78, 79, 80, 81, 82, 83, 84, 85, 86, 87, 88, 89, 90, 91, 92, 93, 94, 95, 96, 97, 98, 99, 100, 101, 102, 103, 104, 105, 106, 107, 108, 109, 110, 111, 112, 113, 114, 115, 116, 117, 118, 119, 120, 121, 122, 123, 124, 125, 126, 127, 128, 129, 130, 131, 132, 133, 134, 135, 136, 137, 138, 139, 140, 141, 142, 143, 144, 145, 146, 147, 148, 149, 150, 151, 152, 167, 168, 169, 170, 171, 172, 173, 174, 175, 176, 177, 178, 179, 180, 181, 182, 183, 184, 185, 186, 187, 188, 189, 190, 191, 192, 193, 194, 195, 196, 197, 198, 199, 200, 201, 202, 203, 204] (by decide +kernel) (by decide +kernel)
set_option maxRecDepth 20000 in
theorem gX11_rateFor_X3_leastRate : GoodIn wsX11_rateFor (wsV RX11 276 RX3 yX3_leastRate wsX3_leastRate) := goodIn_app (goodIn_of _ (by decide +kernel)) ggX11_rateFor_X3_leastRate
set_option maxRecDepth 20000 in
theorem ggX11_rateFor_X11_orNone : GoodIn wsX11_rateFor wsX11_orNone := goodIn_r _ [156, 157, 10, 11, 12, 5, 13, 14, 1, 158, 159, 160, 161, 162, 163, 164, 165, 166] (by decide +kernel) (by decide +kernel)
set_option maxRecDepth 20000 in
theorem gX11_rateFor_X11_orNone : GoodIn wsX11_rateFor (wsV RX11 267 RX11 yX11_orNone wsX11_orNone) := goodIn_app (goodIn_of _ (by decide +kernel)) ggX11_rateFor_X11_orNone
theorem dX11_rateFor_0 : decode cX11_rateFor 0 = .ok (.iload_n 1, 1) := by decide +kernel
theorem dX11_rateFor_1 : decode cX11_rateFor 1 = .ok (.iload_n 2, 1) := by decide +kernel
theorem dX11_rateFor_2 : decode cX11_rateFor 2 = .ok (.invokestatic 270, 3) := by decide +kernel
theorem dX11_rateFor_5 : decode cX11_rateFor 5 = .ok (.ifCond .ne 10, 3) := by decide +kernel
theorem dX11_rateFor_8 : decode cX11_rateFor 8 = .ok (.aload_n 0, 1) := by decide +kernel
theorem dX11_rateFor_9 : decode cX11_rateFor 9 = .ok (.ldc 78, 2) := by decide +kernel
theorem dX11_rateFor_11 : decode cX11_rateFor 11 = .ok (.invokevirtual 79, 3) := by decide +kernel
theorem dX11_rateFor_14 : decode cX11_rateFor 14 = .ok (.ireturn, 1) := by decide +kernel
theorem dX11_rateFor_15 : decode cX11_rateFor 15 = .ok (.aload_n 0, 1) := by decide +kernel
theorem dX11_rateFor_16 : decode cX11_rateFor 16 = .ok (.aload_n 0, 1) := by decide +kernel
theorem dX11_rateFor_17 : decode cX11_rateFor 17 = .ok (.getfield 54, 3) := by decide +kernel
theorem dX11_rateFor_20 : decode cX11_rateFor 20 = .ok (.iload_n 1, 1) := by decide +kernel
theorem dX11_rateFor_21 : decode cX11_rateFor 21 = .ok (.iload_n 2, 1) := by decide +kernel
theorem dX11_rateFor_22 : decode cX11_rateFor 22 = .ok (.invokevirtual 276, 3) := by decide +kernel
theorem dX11_rateFor_25 : decode cX11_rateFor 25 = .ok (.invokevirtual 267, 3) := by decide +kernel
theorem dX11_rateFor_28 : decode cX11_rateFor 28 = .ok (.ireturn, 1) := by decide +kernel
set_option maxRecDepth 20000 in
theorem ggX11_batteryFor_X11_isTrial : GoodIn wsX11_batteryFor wsX11_isTrial := goodIn_r _ [6, 7, 8, 5, 9] (by decide +kernel) (by decide +kernel)
set_option maxRecDepth 20000 in
theorem gX11_batteryFor_X11_isTrial : GoodIn wsX11_batteryFor (va_wsS RX11 270 yX11_isTrial wsX11_isTrial) := goodIn_app (goodIn_of _ (by decide +kernel)) ggX11_batteryFor_X11_isTrial
set_option maxRecDepth 20000 in
theorem ggX11_batteryFor_X11_tell : GoodIn wsX11_batteryFor wsX11_tell := goodIn_r _ [13, 14, 1, 159, 160, 161, 162, 163, 164, 165, 166, 167] (by decide +kernel) (by decide +kernel)
set_option maxRecDepth 20000 in
theorem gX11_batteryFor_X11_tell : GoodIn wsX11_batteryFor (wsV RX11 79 RX11 yX11_tell wsX11_tell) := goodIn_app (goodIn_of _ (by decide +kernel)) ggX11_batteryFor_X11_tell
set_option maxRecDepth 20000 in
theorem ggX11_batteryFor_X3_leastBattery : GoodIn wsX11_batteryFor wsX3_leastBattery := goodIn_r _ [19, 20, 21, 22, 23, 24, 25, 26, 27, 18, 28, 29, 30, 31, 32, 33, 34, 35, 36, 37, 38, 39, 40, 41, 42, 43, 44, 45, 46, 47, 48, 49, 50, 51, 52, 53, 54, 55, 56, 57, 58, 59, 60, 61, 62, 63, 64, 65, 66, 67, 68, 69, 70, 71, 72, 73, 74, 75, 76, 77, 78, 79, 80, 81, 82, 83, 84, 85, 86, 87, 88, 89, 90, 91, 92, 93, 94, 95, 96, 97, 98, 99, 100, 101, 102, 103, 104, 105, 106, 107, 108, 109, 110, 111, 112, 113, 114, 115, 116, 117, 118, 119, 120, 121, 122, 123, 124, 125, 126, 127, 128, 129, 130, 131, 132, 133, 134, 135, 136, 137, 138, 139, 140, 141, 142, 143, 144, 145, 146, 147, 148, 149, 150, 151, 152, 153, 168, 169, 170, 171, 172, 173, 174, 175, 176, 177, 178, 179, 180, 181, 182, 183, 184, 185, 186, 187, 188, 189, 190, 191, 192, 193, 194, 195, 196, 197, 198, 199, 200, 201, 202, 203, 204, 205] (by decide +kernel) (by decide +kernel)
set_option maxRecDepth 20000 in
theorem gX11_batteryFor_X3_leastBattery : GoodIn wsX11_batteryFor (wsV RX11 279 RX3 yX3_leastBattery wsX3_leastBattery) := goodIn_app (goodIn_of _ (by decide +kernel)) ggX11_batteryFor_X3_leastBattery
set_option maxRecDepth 20000 in
theorem ggX11_batteryFor_X11_orNone : GoodIn wsX11_batteryFor wsX11_orNone := goodIn_r _ [157, 158, 10, 11, 12, 5, 13, 14, 1, 159, 160, 161, 162, 163, 164, 165, 166, 167] (by decide +kernel) (by decide +kernel)
set_option maxRecDepth 20000 in
theorem gX11_batteryFor_X11_orNone : GoodIn wsX11_batteryFor (wsV RX11 267 RX11 yX11_orNone wsX11_orNone) := goodIn_app (goodIn_of _ (by decide +kernel)) ggX11_batteryFor_X11_orNone
theorem dX11_batteryFor_0 : decode cX11_batteryFor 0 = .ok (.iload_n 1, 1) := by decide +kernel
theorem dX11_batteryFor_1 : decode cX11_batteryFor 1 = .ok (.iload_n 2, 1) := by decide +kernel
theorem dX11_batteryFor_2 : decode cX11_batteryFor 2 = .ok (.invokestatic 270, 3) := by decide +kernel
theorem dX11_batteryFor_5 : decode cX11_batteryFor 5 = .ok (.ifCond .ne 10, 3) := by decide +kernel
theorem dX11_batteryFor_8 : decode cX11_batteryFor 8 = .ok (.aload_n 0, 1) := by decide +kernel
theorem dX11_batteryFor_9 : decode cX11_batteryFor 9 = .ok (.ldc 78, 2) := by decide +kernel
theorem dX11_batteryFor_11 : decode cX11_batteryFor 11 = .ok (.invokevirtual 79, 3) := by decide +kernel
theorem dX11_batteryFor_14 : decode cX11_batteryFor 14 = .ok (.ireturn, 1) := by decide +kernel
theorem dX11_batteryFor_15 : decode cX11_batteryFor 15 = .ok (.aload_n 0, 1) := by decide +kernel
theorem dX11_batteryFor_16 : decode cX11_batteryFor 16 = .ok (.aload_n 0, 1) := by decide +kernel
theorem dX11_batteryFor_17 : decode cX11_batteryFor 17 = .ok (.getfield 54, 3) := by decide +kernel
theorem dX11_batteryFor_20 : decode cX11_batteryFor 20 = .ok (.iload_n 1, 1) := by decide +kernel
theorem dX11_batteryFor_21 : decode cX11_batteryFor 21 = .ok (.iload_n 2, 1) := by decide +kernel
theorem dX11_batteryFor_22 : decode cX11_batteryFor 22 = .ok (.invokevirtual 279, 3) := by decide +kernel
theorem dX11_batteryFor_25 : decode cX11_batteryFor 25 = .ok (.invokevirtual 267, 3) := by decide +kernel
theorem dX11_batteryFor_28 : decode cX11_batteryFor 28 = .ok (.ireturn, 1) := by decide +kernel
set_option maxRecDepth 20000 in
theorem ggX11_cost_X11_within : GoodIn wsX11_cost wsX11_within := goodIn_r _ [8] (by decide +kernel) (by decide +kernel)
set_option maxRecDepth 20000 in
theorem gX11_cost_X11_within : GoodIn wsX11_cost (va_wsS RX11 74 yX11_within wsX11_within) := goodIn_app (goodIn_of _ (by decide +kernel)) ggX11_cost_X11_within
set_option maxRecDepth 20000 in
theorem ggX11_cost_X11_tell : GoodIn wsX11_cost wsX11_tell := goodIn_r _ [12, 13, 1, 14, 15, 16, 17, 18, 19, 20, 21, 22] (by decide +kernel) (by decide +kernel)
set_option maxRecDepth 20000 in
theorem gX11_cost_X11_tell : GoodIn wsX11_cost (wsV RX11 79 RX11 yX11_tell wsX11_tell) := goodIn_app (goodIn_of _ (by decide +kernel)) ggX11_cost_X11_tell
theorem dX11_cost_0 : decode cX11_cost 0 = .ok (.iload_n 1, 1) := by decide +kernel
theorem dX11_cost_1 : decode cX11_cost 1 = .ok (.iconst 0, 1) := by decide +kernel
theorem dX11_cost_2 : decode cX11_cost 2 = .ok (.iconst 3, 1) := by decide +kernel
theorem dX11_cost_3 : decode cX11_cost 3 = .ok (.invokestatic 74, 3) := by decide +kernel
theorem dX11_cost_6 : decode cX11_cost 6 = .ok (.ifCond .eq 14, 3) := by decide +kernel
theorem dX11_cost_9 : decode cX11_cost 9 = .ok (.iload_n 2, 1) := by decide +kernel
theorem dX11_cost_10 : decode cX11_cost 10 = .ok (.iconst 0, 1) := by decide +kernel
theorem dX11_cost_11 : decode cX11_cost 11 = .ok (.sipush 999, 3) := by decide +kernel
theorem dX11_cost_14 : decode cX11_cost 14 = .ok (.invokestatic 74, 3) := by decide +kernel
theorem dX11_cost_17 : decode cX11_cost 17 = .ok (.ifCond .ne 10, 3) := by decide +kernel
theorem dX11_cost_20 : decode cX11_cost 20 = .ok (.aload_n 0, 1) := by decide +kernel
theorem dX11_cost_21 : decode cX11_cost 21 = .ok (.ldc 78, 2) := by decide +kernel
theorem dX11_cost_23 : decode cX11_cost 23 = .ok (.invokevirtual 79, 3) := by decide +kernel
theorem dX11_cost_26 : decode cX11_cost 26 = .ok (.ireturn, 1) := by decide +kernel
theorem dX11_cost_27 : decode cX11_cost 27 = .ok (.aload_n 0, 1) := by decide +kernel
theorem dX11_cost_28 : decode cX11_cost 28 = .ok (.getfield 16, 3) := by decide +kernel
theorem dX11_cost_31 : decode cX11_cost 31 = .ok (.getfield 47, 3) := by decide +kernel
theorem dX11_cost_34 : decode cX11_cost 34 = .ok (.getfield 282, 3) := by decide +kernel
theorem dX11_cost_37 : decode cX11_cost 37 = .ok (.iload_n 1, 1) := by decide +kernel
theorem dX11_cost_38 : decode cX11_cost 38 = .ok (.iaload, 1) := by decide +kernel
theorem dX11_cost_39 : decode cX11_cost 39 = .ok (.istore_n 3, 1) := by decide +kernel
theorem dX11_cost_40 : decode cX11_cost 40 = .ok (.aload_n 0, 1) := by decide +kernel
theorem dX11_cost_41 : decode cX11_cost 41 = .ok (.getfield 16, 3) := by decide +kernel
theorem dX11_cost_44 : decode cX11_cost 44 = .ok (.getfield 47, 3) := by decide +kernel
theorem dX11_cost_47 : decode cX11_cost 47 = .ok (.getfield 282, 3) := by decide +kernel
theorem dX11_cost_50 : decode cX11_cost 50 = .ok (.iload_n 1, 1) := by decide +kernel
theorem dX11_cost_51 : decode cX11_cost 51 = .ok (.iload_n 2, 1) := by decide +kernel
theorem dX11_cost_52 : decode cX11_cost 52 = .ok (.iastore, 1) := by decide +kernel
theorem dX11_cost_53 : decode cX11_cost 53 = .ok (.iload_n 3, 1) := by decide +kernel
theorem dX11_cost_54 : decode cX11_cost 54 = .ok (.ireturn, 1) := by decide +kernel
set_option maxRecDepth 20000 in
theorem ggX11_build_X11_within : GoodIn wsX11_build wsX11_within := goodIn_r _ [9] (by decide +kernel) (by decide +kernel)
set_option maxRecDepth 20000 in
theorem gX11_build_X11_within : GoodIn wsX11_build (va_wsS RX11 74 yX11_within wsX11_within) := goodIn_app (goodIn_of _ (by decide +kernel)) ggX11_build_X11_within
set_option maxRecDepth 20000 in
theorem ggX11_build_X11_tell : GoodIn wsX11_build wsX11_tell := goodIn_r _ [13, 14, 1, 33, 34, 35, 36, 37, 38, 39, 40, 41] (by decide +kernel) (by decide +kernel)
set_option maxRecDepth 20000 in
theorem gX11_build_X11_tell : GoodIn wsX11_build (wsV RX11 79 RX11 yX11_tell wsX11_tell) := goodIn_app (goodIn_of _ (by decide +kernel)) ggX11_build_X11_tell
set_option maxRecDepth 20000 in
theorem ggX11_build_X0_has : GoodIn wsX11_build wsX0_has := goodIn_r _ [19, 20, 46, 47, 48, 49, 50, 51, 52, 53, 54, 55, 56, 57, 58] (by decide +kernel) (by decide +kernel)
set_option maxRecDepth 20000 in
theorem gX11_build_X0_has : GoodIn wsX11_build (wsV RX11 148 RX0 yX0_has wsX0_has) := goodIn_app (goodIn_of _ (by decide +kernel)) ggX11_build_X0_has
set_option maxRecDepth 20000 in
theorem ggX11_build_X0_construct : GoodIn wsX11_build wsX0_construct := goodIn_r _ [24, 20, 25, 26, 27, 28, 29, 30, 31, 32, 46, 47, 48, 49, 50, 51, 52, 53, 54, 55, 56, 57, 58, 59, 60, 61, 62, 63, 64, 65, 66, 67, 68, 69] (by decide +kernel) (by decide +kernel)
set_option maxRecDepth 20000 in
theorem gX11_build_X0_construct : GoodIn wsX11_build (wsV RX11 285 RX0 yX0_construct wsX0_construct) := goodIn_app (goodIn_of _ (by decide +kernel)) ggX11_build_X0_construct
theorem dX11_build_0 : decode cX11_build 0 = .ok (.iload_n 1, 1) := by decide +kernel
theorem dX11_build_1 : decode cX11_build 1 = .ok (.iconst 0, 1) := by decide +kernel
theorem dX11_build_2 : decode cX11_build 2 = .ok (.iconst 3, 1) := by decide +kernel
theorem dX11_build_3 : decode cX11_build 3 = .ok (.invokestatic 74, 3) := by decide +kernel
theorem dX11_build_6 : decode cX11_build 6 = .ok (.ifCond .ne 10, 3) := by decide +kernel
theorem dX11_build_9 : decode cX11_build 9 = .ok (.aload_n 0, 1) := by decide +kernel
theorem dX11_build_10 : decode cX11_build 10 = .ok (.ldc 78, 2) := by decide +kernel
theorem dX11_build_12 : decode cX11_build 12 = .ok (.invokevirtual 79, 3) := by decide +kernel
theorem dX11_build_15 : decode cX11_build 15 = .ok (.ireturn, 1) := by decide +kernel
theorem dX11_build_16 : decode cX11_build 16 = .ok (.aload_n 0, 1) := by decide +kernel
theorem dX11_build_17 : decode cX11_build 17 = .ok (.getfield 16, 3) := by decide +kernel
theorem dX11_build_20 : decode cX11_build 20 = .ok (.getfield 47, 3) := by decide +kernel
theorem dX11_build_23 : decode cX11_build 23 = .ok (.iload_n 1, 1) := by decide +kernel
theorem dX11_build_24 : decode cX11_build 24 = .ok (.invokevirtual 148, 3) := by decide +kernel
theorem dX11_build_27 : decode cX11_build 27 = .ok (.ifCond .eq 10, 3) := by decide +kernel
theorem dX11_build_30 : decode cX11_build 30 = .ok (.aload_n 0, 1) := by decide +kernel
theorem dX11_build_31 : decode cX11_build 31 = .ok (.ldc 151, 2) := by decide +kernel
theorem dX11_build_33 : decode cX11_build 33 = .ok (.invokevirtual 79, 3) := by decide +kernel
theorem dX11_build_36 : decode cX11_build 36 = .ok (.ireturn, 1) := by decide +kernel
theorem dX11_build_37 : decode cX11_build 37 = .ok (.aload_n 0, 1) := by decide +kernel
theorem dX11_build_38 : decode cX11_build 38 = .ok (.getfield 16, 3) := by decide +kernel
theorem dX11_build_41 : decode cX11_build 41 = .ok (.getfield 47, 3) := by decide +kernel
theorem dX11_build_44 : decode cX11_build 44 = .ok (.iload_n 1, 1) := by decide +kernel
theorem dX11_build_45 : decode cX11_build 45 = .ok (.invokevirtual 285, 3) := by decide +kernel
theorem dX11_build_48 : decode cX11_build 48 = .ok (.aload_n 0, 1) := by decide +kernel
theorem dX11_build_49 : decode cX11_build 49 = .ok (.getfield 16, 3) := by decide +kernel
theorem dX11_build_52 : decode cX11_build 52 = .ok (.getfield 47, 3) := by decide +kernel
theorem dX11_build_55 : decode cX11_build 55 = .ok (.getfield 288, 3) := by decide +kernel
theorem dX11_build_58 : decode cX11_build 58 = .ok (.ireturn, 1) := by decide +kernel
set_option maxRecDepth 20000 in
theorem ggX11_worth_X11_isSky : GoodIn wsX11_worth wsX11_isSky := goodIn_r _ [9, 3, 4, 10, 11, 12, 8, 13, 187, 188, 189, 190, 191, 192, 193, 194, 195, 196, 197, 198, 199, 200, 201, 202, 203] (by decide +kernel) (by decide +kernel)
set_option maxRecDepth 20000 in
theorem gX11_worth_X11_isSky : GoodIn wsX11_worth (wsV RX11 243 RX11 yX11_isSky wsX11_isSky) := goodIn_app (goodIn_of _ (by decide +kernel)) ggX11_worth_X11_isSky
set_option maxRecDepth 20000 in
theorem ggX11_worth_X11_within : GoodIn wsX11_worth wsX11_within := goodIn_r _ [13] (by decide +kernel) (by decide +kernel)
set_option maxRecDepth 20000 in
theorem gX11_worth_X11_within : GoodIn wsX11_worth (va_wsS RX11 74 yX11_within wsX11_within) := goodIn_app (goodIn_of _ (by decide +kernel)) ggX11_worth_X11_within
set_option maxRecDepth 20000 in
theorem ggX11_worth_X11_tell : GoodIn wsX11_worth wsX11_tell := goodIn_r _ [17, 18, 1, 187, 188, 189, 190, 191, 192, 193, 194, 195] (by decide +kernel) (by decide +kernel)
set_option maxRecDepth 20000 in
theorem gX11_worth_X11_tell : GoodIn wsX11_worth (wsV RX11 79 RX11 yX11_tell wsX11_tell) := goodIn_app (goodIn_of _ (by decide +kernel)) ggX11_worth_X11_tell
set_option maxRecDepth 20000 in
theorem ggX11_worth_X3_bestWorks : GoodIn wsX11_worth wsX3_bestWorks := goodIn_r _ [23, 24, 25, 26, 27, 28, 29, 30, 31, 32, 33, 34, 35, 36, 22, 37, 38, 39, 40, 41, 42, 43, 44, 45, 46, 47, 48, 49, 50, 51, 52, 53, 54, 55, 56, 57, 58, 59, 60, 61, 62, 63, 64, 65, 66, 67, 68, 69, 70, 71, 72, 73, 74, 75, 76, 77, 78, 79, 80, 81, 82, 83, 84, 85, 86, 87, 88, 89, 90, 91, 92, 93, 94, 95, 96, 97, 98, 99, 100, 101, 102, 103, 104, 105, 106, 107, 108, 109, 110, 111, 112, 113, 114, 115, 116, 117, 118, 119, 120, 121, 122, 123, 124, 125, 126, 127, 128, 129, 130, 131, 132, 133, 134, 135, 136, 137, 138, 139, 140, 141, 142, 143, 144, 145, 146, 147, 148, 149, 150, 151, 152, 153, 154, 155, 156, 157, 158, 159, 160, 161, 162, 163, 164, 165, 166, 167, 168, 169, 170, 171, 172, 173, 174, 175, 176, 177, 178, 179, 180, 181, 182, 183, 184, 185, 186, 204, 205, 206, 207, 208, 209, 210, 211, 212, 213, 214, 215, 216, 217, 218, 219, 220, 221, 222, 223, 224, 225, 226, 227, 228, 229, 230, 231, 232, 233, 234, 235, 236, 237, 238, 239, 240, 241, 200, 201, 202, 203] (by decide +kernel) (by decide +kernel)
set_option maxRecDepth 20000 in
theorem gX11_worth_X3_bestWorks : GoodIn wsX11_worth (wsV RX11 291 RX3 yX3_bestWorks wsX3_bestWorks) := goodIn_app (goodIn_of _ (by decide +kernel)) ggX11_worth_X3_bestWorks
theorem dX11_worth_0 : decode cX11_worth 0 = .ok (.aload_n 0, 1) := by decide +kernel
theorem dX11_worth_1 : decode cX11_worth 1 = .ok (.iload_n 1, 1) := by decide +kernel
theorem dX11_worth_2 : decode cX11_worth 2 = .ok (.invokevirtual 243, 3) := by decide +kernel
theorem dX11_worth_5 : decode cX11_worth 5 = .ok (.ifCond .eq 23, 3) := by decide +kernel
theorem dX11_worth_8 : decode cX11_worth 8 = .ok (.iload_n 2, 1) := by decide +kernel
theorem dX11_worth_9 : decode cX11_worth 9 = .ok (.iconst 0, 1) := by decide +kernel
theorem dX11_worth_10 : decode cX11_worth 10 = .ok (.sipush 9999, 3) := by decide +kernel
theorem dX11_worth_13 : decode cX11_worth 13 = .ok (.invokestatic 74, 3) := by decide +kernel
theorem dX11_worth_16 : decode cX11_worth 16 = .ok (.ifCond .eq 12, 3) := by decide +kernel
theorem dX11_worth_19 : decode cX11_worth 19 = .ok (.iload_n 3, 1) := by decide +kernel
theorem dX11_worth_20 : decode cX11_worth 20 = .ok (.iconst 0, 1) := by decide +kernel
theorem dX11_worth_21 : decode cX11_worth 21 = .ok (.iconst 1, 1) := by decide +kernel
theorem dX11_worth_22 : decode cX11_worth 22 = .ok (.invokestatic 74, 3) := by decide +kernel
theorem dX11_worth_25 : decode cX11_worth 25 = .ok (.ifCond .ne 10, 3) := by decide +kernel
theorem dX11_worth_28 : decode cX11_worth 28 = .ok (.aload_n 0, 1) := by decide +kernel
theorem dX11_worth_29 : decode cX11_worth 29 = .ok (.ldc 78, 2) := by decide +kernel
theorem dX11_worth_31 : decode cX11_worth 31 = .ok (.invokevirtual 79, 3) := by decide +kernel
theorem dX11_worth_34 : decode cX11_worth 34 = .ok (.ireturn, 1) := by decide +kernel
theorem dX11_worth_35 : decode cX11_worth 35 = .ok (.aload_n 0, 1) := by decide +kernel
theorem dX11_worth_36 : decode cX11_worth 36 = .ok (.getfield 54, 3) := by decide +kernel
theorem dX11_worth_39 : decode cX11_worth 39 = .ok (.aload_n 0, 1) := by decide +kernel
theorem dX11_worth_40 : decode cX11_worth 40 = .ok (.getfield 16, 3) := by decide +kernel
theorem dX11_worth_43 : decode cX11_worth 43 = .ok (.getfield 232, 3) := by decide +kernel
theorem dX11_worth_46 : decode cX11_worth 46 = .ok (.iload_n 1, 1) := by decide +kernel
theorem dX11_worth_47 : decode cX11_worth 47 = .ok (.iload_n 2, 1) := by decide +kernel
theorem dX11_worth_48 : decode cX11_worth 48 = .ok (.iload_n 3, 1) := by decide +kernel
theorem dX11_worth_49 : decode cX11_worth 49 = .ok (.invokevirtual 291, 3) := by decide +kernel
theorem dX11_worth_52 : decode cX11_worth 52 = .ok (.ireturn, 1) := by decide +kernel
set_option maxRecDepth 20000 in
theorem ggX11_rescue_X11_within : GoodIn wsX11_rescue wsX11_within := goodIn_r _ [8] (by decide +kernel) (by decide +kernel)
set_option maxRecDepth 20000 in
theorem gX11_rescue_X11_within : GoodIn wsX11_rescue (va_wsS RX11 74 yX11_within wsX11_within) := goodIn_app (goodIn_of _ (by decide +kernel)) ggX11_rescue_X11_within
set_option maxRecDepth 20000 in
theorem ggX11_rescue_X11_tell : GoodIn wsX11_rescue wsX11_tell := goodIn_r _ [12, 13, 1, 191, 192, 193, 194, 195, 196, 197, 198, 199] (by decide +kernel) (by decide +kernel)
set_option maxRecDepth 20000 in
theorem gX11_rescue_X11_tell : GoodIn wsX11_rescue (wsV RX11 79 RX11 yX11_tell wsX11_tell) := goodIn_app (goodIn_of _ (by decide +kernel)) ggX11_rescue_X11_tell
set_option maxRecDepth 20000 in
theorem ggX11_rescue_X3_foreseeLimits : GoodIn wsX11_rescue wsX3_foreseeLimits := goodIn_r _ [18, 19, 20, 21, 22, 23, 24, 25, 26, 27, 28, 29, 30, 17, 31, 32, 33, 34, 35, 36, 37, 38, 39, 40, 41, 42, 43, 44, 45, 46, 47, 48, 49, 50, 51, 52, 53, 54, 55, 56, 57, 58, 59, 60, 61, 62, 63, 64, 65, 66, 67, 68, 69, 70, 71, 72, 73, 74, 75, 76, 77, 78, 79, 80, 81, 82, 83, 84, 85, 86, 87, 88, 89, 90, 91, 92, 93, 94, 95, 96, 97, 98, 99, 100, 101, 102, 103, 104, 105, 106, 107, 108, 109, 110, 111, 112, 113, 114, 115, 116, 117, 118, 119, 120, 121, 122, 123, 124, 125, 126, 127, 128, 129, 130, 131, 132, 133, 134, 135, 136, 137, 138, 139, 140, 141, 142, 143, 144, 145, 146, 147, 148, 149, 150, 151, 152, 153, 154, 155, 156, 157, 205, 206, 207, 208, 209, 210, 211, 212, 213, 214, 215, 216, 217, 218, 219, 220, 221, 222, 223, 224, 225, 226, 227, 228, 229, 230, 231, 232, 233, 234, 235, 236, 237, 238, 239, 240, 241, 242] (by decide +kernel) (by decide +kernel)
set_option maxRecDepth 20000 in
theorem gX11_rescue_X3_foreseeLimits : GoodIn wsX11_rescue (wsV RX11 298 RX3 yX3_foreseeLimits wsX3_foreseeLimits) := goodIn_app (goodIn_of _ (by decide +kernel)) ggX11_rescue_X3_foreseeLimits
set_option maxRecDepth 20000 in
theorem ggX11_rescue_X1_liftable : GoodIn wsX11_rescue wsX1_liftable := goodIn_r _ [162, 163, 164, 165, 166, 167, 168, 169, 161, 170, 171, 172, 173, 174, 175, 176, 177, 178, 179, 180, 181, 182, 183, 184, 185, 186, 187, 188, 189, 190, 200, 201, 202, 203, 204, 221, 222, 223, 224, 225, 226] (by decide +kernel) (by decide +kernel)
set_option maxRecDepth 20000 in
theorem gX11_rescue_X1_liftable : GoodIn wsX11_rescue (wsV RX11 302 RX1 yX1_liftable wsX1_liftable) := goodIn_app (goodIn_of _ (by decide +kernel)) ggX11_rescue_X1_liftable
theorem dX11_rescue_0 : decode cX11_rescue 0 = .ok (.iload_n 1, 1) := by decide +kernel
theorem dX11_rescue_1 : decode cX11_rescue 1 = .ok (.iconst 0, 1) := by decide +kernel
theorem dX11_rescue_2 : decode cX11_rescue 2 = .ok (.iconst 2, 1) := by decide +kernel
theorem dX11_rescue_3 : decode cX11_rescue 3 = .ok (.invokestatic 74, 3) := by decide +kernel
theorem dX11_rescue_6 : decode cX11_rescue 6 = .ok (.ifCond .ne 10, 3) := by decide +kernel
theorem dX11_rescue_9 : decode cX11_rescue 9 = .ok (.aload_n 0, 1) := by decide +kernel
theorem dX11_rescue_10 : decode cX11_rescue 10 = .ok (.ldc 78, 2) := by decide +kernel
theorem dX11_rescue_12 : decode cX11_rescue 12 = .ok (.invokevirtual 79, 3) := by decide +kernel
theorem dX11_rescue_15 : decode cX11_rescue 15 = .ok (.ireturn, 1) := by decide +kernel
theorem dX11_rescue_16 : decode cX11_rescue 16 = .ok (.aload_n 0, 1) := by decide +kernel
theorem dX11_rescue_17 : decode cX11_rescue 17 = .ok (.getfield 54, 3) := by decide +kernel
theorem dX11_rescue_20 : decode cX11_rescue 20 = .ok (.aload_n 0, 1) := by decide +kernel
theorem dX11_rescue_21 : decode cX11_rescue 21 = .ok (.getfield 69, 3) := by decide +kernel
theorem dX11_rescue_24 : decode cX11_rescue 24 = .ok (.getfield 295, 3) := by decide +kernel
theorem dX11_rescue_27 : decode cX11_rescue 27 = .ok (.invokevirtual 298, 3) := by decide +kernel
theorem dX11_rescue_30 : decode cX11_rescue 30 = .ok (.aload_n 0, 1) := by decide +kernel
theorem dX11_rescue_31 : decode cX11_rescue 31 = .ok (.getfield 69, 3) := by decide +kernel
theorem dX11_rescue_34 : decode cX11_rescue 34 = .ok (.iload_n 1, 1) := by decide +kernel
theorem dX11_rescue_35 : decode cX11_rescue 35 = .ok (.invokevirtual 302, 3) := by decide +kernel
theorem dX11_rescue_38 : decode cX11_rescue 38 = .ok (.ireturn, 1) := by decide +kernel
set_option maxRecDepth 20000 in
theorem ggX11_shelf_X11_within : GoodIn wsX11_shelf wsX11_within := goodIn_r _ [6] (by decide +kernel) (by decide +kernel)
set_option maxRecDepth 20000 in
theorem gX11_shelf_X11_within : GoodIn wsX11_shelf (va_wsS RX11 74 yX11_within wsX11_within) := goodIn_app (goodIn_of _ (by decide +kernel)) ggX11_shelf_X11_within
set_option maxRecDepth 20000 in
theorem ggX11_shelf_X11_tell : GoodIn wsX11_shelf wsX11_tell := goodIn_r _ [10, 11, 1, 27, 28, 29, 30, 31, 32, 33, 34, 35] (by decide +kernel) (by decide +kernel)
set_option maxRecDepth 20000 in
theorem gX11_shelf_X11_tell : GoodIn wsX11_shelf (wsV RX11 79 RX11 yX11_tell wsX11_tell) := goodIn_app (goodIn_of _ (by decide +kernel)) ggX11_shelf_X11_tell
set_option maxRecDepth 20000 in
theorem ggX11_shelf_X1_shelved : GoodIn wsX11_shelf wsX1_shelved := goodIn_r _ [16, 17, 18, 19, 20, 21, 22, 23, 15, 24, 25, 26, 36, 37, 38, 39, 40, 41, 42, 43, 44, 45, 46] (by decide +kernel) (by decide +kernel)
set_option maxRecDepth 20000 in
theorem gX11_shelf_X1_shelved : GoodIn wsX11_shelf (wsV RX11 305 RX1 yX1_shelved wsX1_shelved) := goodIn_app (goodIn_of _ (by decide +kernel)) ggX11_shelf_X1_shelved
theorem dX11_shelf_0 : decode cX11_shelf 0 = .ok (.iload_n 1, 1) := by decide +kernel
theorem dX11_shelf_1 : decode cX11_shelf 1 = .ok (.iconst 0, 1) := by decide +kernel
theorem dX11_shelf_2 : decode cX11_shelf 2 = .ok (.sipush 600, 3) := by decide +kernel
theorem dX11_shelf_5 : decode cX11_shelf 5 = .ok (.invokestatic 74, 3) := by decide +kernel
theorem dX11_shelf_8 : decode cX11_shelf 8 = .ok (.ifCond .eq 12, 3) := by decide +kernel
theorem dX11_shelf_11 : decode cX11_shelf 11 = .ok (.iload_n 2, 1) := by decide +kernel
theorem dX11_shelf_12 : decode cX11_shelf 12 = .ok (.iconst 0, 1) := by decide +kernel
theorem dX11_shelf_13 : decode cX11_shelf 13 = .ok (.iconst 1, 1) := by decide +kernel
theorem dX11_shelf_14 : decode cX11_shelf 14 = .ok (.invokestatic 74, 3) := by decide +kernel
theorem dX11_shelf_17 : decode cX11_shelf 17 = .ok (.ifCond .ne 10, 3) := by decide +kernel
theorem dX11_shelf_20 : decode cX11_shelf 20 = .ok (.aload_n 0, 1) := by decide +kernel
theorem dX11_shelf_21 : decode cX11_shelf 21 = .ok (.ldc 78, 2) := by decide +kernel
theorem dX11_shelf_23 : decode cX11_shelf 23 = .ok (.invokevirtual 79, 3) := by decide +kernel
theorem dX11_shelf_26 : decode cX11_shelf 26 = .ok (.ireturn, 1) := by decide +kernel
theorem dX11_shelf_27 : decode cX11_shelf 27 = .ok (.aload_n 0, 1) := by decide +kernel
theorem dX11_shelf_28 : decode cX11_shelf 28 = .ok (.getfield 69, 3) := by decide +kernel
theorem dX11_shelf_31 : decode cX11_shelf 31 = .ok (.iload_n 1, 1) := by decide +kernel
theorem dX11_shelf_32 : decode cX11_shelf 32 = .ok (.iload_n 2, 1) := by decide +kernel
theorem dX11_shelf_33 : decode cX11_shelf 33 = .ok (.invokevirtual 305, 3) := by decide +kernel
theorem dX11_shelf_36 : decode cX11_shelf 36 = .ok (.ireturn, 1) := by decide +kernel
set_option maxRecDepth 20000 in
theorem ggX11_odds_X11_within : GoodIn wsX11_odds wsX11_within := goodIn_r _ [7] (by decide +kernel) (by decide +kernel)
set_option maxRecDepth 20000 in
theorem gX11_odds_X11_within : GoodIn wsX11_odds (va_wsS RX11 74 yX11_within wsX11_within) := goodIn_app (goodIn_of _ (by decide +kernel)) ggX11_odds_X11_within
set_option maxRecDepth 20000 in
theorem ggX11_odds_X11_tell : GoodIn wsX11_odds wsX11_tell := goodIn_r _ [11, 12, 1, 155, 156, 157, 158, 159, 160, 161, 162, 163] (by decide +kernel) (by decide +kernel)
set_option maxRecDepth 20000 in
theorem gX11_odds_X11_tell : GoodIn wsX11_odds (wsV RX11 79 RX11 yX11_tell wsX11_tell) := goodIn_app (goodIn_of _ (by decide +kernel)) ggX11_odds_X11_tell
set_option maxRecDepth 20000 in
theorem ggX11_odds_X2_draw : GoodIn wsX11_odds wsX2_draw := goodIn_r _ [17, 18, 19, 164, 165, 166, 167] (by decide +kernel) (by decide +kernel)
set_option maxRecDepth 20000 in
theorem gX11_odds_X2_draw : GoodIn wsX11_odds (wsV RX11 308 RX2 yX2_draw wsX2_draw) := goodIn_app (goodIn_of _ (by decide +kernel)) ggX11_odds_X2_draw
set_option maxRecDepth 20000 in
theorem ggX11_odds_X3_risesAbove : GoodIn wsX11_odds wsX3_risesAbove := goodIn_r _ [24, 25, 26, 27, 28, 29, 30, 31, 32, 23, 33, 34, 35, 36, 37, 38, 39, 40, 41, 42, 43, 44, 45, 46, 47, 48, 49, 50, 51, 52, 53, 54, 55, 56, 57, 58, 59, 60, 61, 62, 63, 64, 65, 66, 67, 68, 69, 70, 71, 72, 73, 74, 75, 76, 77, 78, 79, 80, 81, 82, 83, 84, 85, 86, 87, 88, 89, 90, 91, 92, 93, 94, 95, 96, 97, 98, 99, 100, 101, 102, 103, 104, 105, 106, 107, 108, 109, 110, 111, 112, 113, 114, 115, 116, 117, 118, 119, 120, 121, 122, 123, 124, 125, 126, 127, 128, 129, 130, 131, 132, 133, 134, 135, 136, 137, 138, 139, 140, 141, 142, 143, 144, 145, 146, 147, 148, 149, 150, 151, 152, 153, 154, 168, 169, 170, 171, 172, 173, 174, 175, 176, 177, 178, 179, 180, 181, 182, 183, 184, 185, 186, 187, 188, 189, 190, 191, 192, 193, 194, 195, 196, 197, 198, 199, 200, 201, 202, 203, 204, 205] (by decide +kernel) (by decide +kernel)
set_option maxRecDepth 20000 in
theorem gX11_odds_X3_risesAbove : GoodIn wsX11_odds (wsV RX11 311 RX3 yX3_risesAbove wsX3_risesAbove) := goodIn_app (goodIn_of _ (by decide +kernel)) ggX11_odds_X3_risesAbove
theorem dX11_odds_0 : decode cX11_odds 0 = .ok (.iload_n 1, 1) := by decide +kernel
theorem dX11_odds_1 : decode cX11_odds 1 = .ok (.iconst 1, 1) := by decide +kernel
theorem dX11_odds_2 : decode cX11_odds 2 = .ok (.bipush 20, 2) := by decide +kernel
theorem dX11_odds_4 : decode cX11_odds 4 = .ok (.invokestatic 74, 3) := by decide +kernel
theorem dX11_odds_7 : decode cX11_odds 7 = .ok (.ifCond .eq 25, 3) := by decide +kernel
theorem dX11_odds_10 : decode cX11_odds 10 = .ok (.iload_n 2, 1) := by decide +kernel
theorem dX11_odds_11 : decode cX11_odds 11 = .ok (.iconst 1, 1) := by decide +kernel
theorem dX11_odds_12 : decode cX11_odds 12 = .ok (.sipush 200, 3) := by decide +kernel
theorem dX11_odds_15 : decode cX11_odds 15 = .ok (.invokestatic 74, 3) := by decide +kernel
theorem dX11_odds_18 : decode cX11_odds 18 = .ok (.ifCond .eq 14, 3) := by decide +kernel
theorem dX11_odds_21 : decode cX11_odds 21 = .ok (.iload_n 3, 1) := by decide +kernel
theorem dX11_odds_22 : decode cX11_odds 22 = .ok (.iconst 0, 1) := by decide +kernel
theorem dX11_odds_23 : decode cX11_odds 23 = .ok (.sipush 9999, 3) := by decide +kernel
theorem dX11_odds_26 : decode cX11_odds 26 = .ok (.invokestatic 74, 3) := by decide +kernel
theorem dX11_odds_29 : decode cX11_odds 29 = .ok (.ifCond .ne 10, 3) := by decide +kernel
theorem dX11_odds_32 : decode cX11_odds 32 = .ok (.aload_n 0, 1) := by decide +kernel
theorem dX11_odds_33 : decode cX11_odds 33 = .ok (.ldc 78, 2) := by decide +kernel
theorem dX11_odds_35 : decode cX11_odds 35 = .ok (.invokevirtual 79, 3) := by decide +kernel
theorem dX11_odds_38 : decode cX11_odds 38 = .ok (.ireturn, 1) := by decide +kernel
theorem dX11_odds_39 : decode cX11_odds 39 = .ok (.iconst 0, 1) := by decide +kernel
theorem dX11_odds_40 : decode cX11_odds 40 = .ok (.istore 4, 2) := by decide +kernel
theorem dX11_odds_42 : decode cX11_odds 42 = .ok (.iconst 0, 1) := by decide +kernel
theorem dX11_odds_43 : decode cX11_odds 43 = .ok (.istore 5, 2) := by decide +kernel
theorem dX11_odds_45 : decode cX11_odds 45 = .ok (.iload 5, 2) := by decide +kernel
theorem dX11_odds_47 : decode cX11_odds 47 = .ok (.iload_n 1, 1) := by decide +kernel
theorem dX11_odds_48 : decode cX11_odds 48 = .ok (.if_icmp .ge 59, 3) := by decide +kernel
theorem dX11_odds_51 : decode cX11_odds 51 = .ok (.aload_n 0, 1) := by decide +kernel
theorem dX11_odds_52 : decode cX11_odds 52 = .ok (.getfield 16, 3) := by decide +kernel
theorem dX11_odds_55 : decode cX11_odds 55 = .ok (.invokevirtual 308, 3) := by decide +kernel
theorem dX11_odds_58 : decode cX11_odds 58 = .ok (.bipush 40, 2) := by decide +kernel
theorem dX11_odds_60 : decode cX11_odds 60 = .ok (.irem, 1) := by decide +kernel
theorem dX11_odds_61 : decode cX11_odds 61 = .ok (.istore 6, 2) := by decide +kernel
theorem dX11_odds_63 : decode cX11_odds 63 = .ok (.aload_n 0, 1) := by decide +kernel
theorem dX11_odds_64 : decode cX11_odds 64 = .ok (.getfield 16, 3) := by decide +kernel
theorem dX11_odds_67 : decode cX11_odds 67 = .ok (.invokevirtual 308, 3) := by decide +kernel
theorem dX11_odds_70 : decode cX11_odds 70 = .ok (.iconst 4, 1) := by decide +kernel
theorem dX11_odds_71 : decode cX11_odds 71 = .ok (.irem, 1) := by decide +kernel
theorem dX11_odds_72 : decode cX11_odds 72 = .ok (.ifCond .ne 7, 3) := by decide +kernel
theorem dX11_odds_75 : decode cX11_odds 75 = .ok (.iconst 1, 1) := by decide +kernel
theorem dX11_odds_76 : decode cX11_odds 76 = .ok (.goto 4, 3) := by decide +kernel
theorem dX11_odds_79 : decode cX11_odds 79 = .ok (.iconst 0, 1) := by decide +kernel
theorem dX11_odds_80 : decode cX11_odds 80 = .ok (.istore 7, 2) := by decide +kernel
theorem dX11_odds_82 : decode cX11_odds 82 = .ok (.aload_n 0, 1) := by decide +kernel
theorem dX11_odds_83 : decode cX11_odds 83 = .ok (.getfield 54, 3) := by decide +kernel
theorem dX11_odds_86 : decode cX11_odds 86 = .ok (.iload 6, 2) := by decide +kernel
theorem dX11_odds_88 : decode cX11_odds 88 = .ok (.iload 7, 2) := by decide +kernel
theorem dX11_odds_90 : decode cX11_odds 90 = .ok (.iload_n 2, 1) := by decide +kernel
theorem dX11_odds_91 : decode cX11_odds 91 = .ok (.iload_n 3, 1) := by decide +kernel
theorem dX11_odds_92 : decode cX11_odds 92 = .ok (.invokevirtual 311, 3) := by decide +kernel
theorem dX11_odds_95 : decode cX11_odds 95 = .ok (.ifCond .eq 6, 3) := by decide +kernel
theorem dX11_odds_98 : decode cX11_odds 98 = .ok (.iinc 4 1, 3) := by decide +kernel
theorem dX11_odds_101 : decode cX11_odds 101 = .ok (.iinc 5 1, 3) := by decide +kernel
theorem dX11_odds_104 : decode cX11_odds 104 = .ok (.goto (-59), 3) := by decide +kernel
theorem dX11_odds_107 : decode cX11_odds 107 = .ok (.iload 4, 2) := by decide +kernel
theorem dX11_odds_109 : decode cX11_odds 109 = .ok (.ireturn, 1) := by decide +kernel
theorem dX11_seed_0 : decode cX11_seed 0 = .ok (.aload_n 0, 1) := by decide +kernel
theorem dX11_seed_1 : decode cX11_seed 1 = .ok (.getfield 16, 3) := by decide +kernel
theorem dX11_seed_4 : decode cX11_seed 4 = .ok (.getfield 315, 3) := by decide +kernel
theorem dX11_seed_7 : decode cX11_seed 7 = .ok (.istore_n 2, 1) := by decide +kernel
theorem dX11_seed_8 : decode cX11_seed 8 = .ok (.aload_n 0, 1) := by decide +kernel
theorem dX11_seed_9 : decode cX11_seed 9 = .ok (.getfield 16, 3) := by decide +kernel
theorem dX11_seed_12 : decode cX11_seed 12 = .ok (.iload_n 1, 1) := by decide +kernel
theorem dX11_seed_13 : decode cX11_seed 13 = .ok (.putfield 315, 3) := by decide +kernel
theorem dX11_seed_16 : decode cX11_seed 16 = .ok (.iload_n 2, 1) := by decide +kernel
theorem dX11_seed_17 : decode cX11_seed 17 = .ok (.ireturn, 1) := by decide +kernel
set_option maxRecDepth 20000 in
theorem ggX11_hold_X11_within : GoodIn wsX11_hold wsX11_within := goodIn_r _ [7] (by decide +kernel) (by decide +kernel)
set_option maxRecDepth 20000 in
theorem gX11_hold_X11_within : GoodIn wsX11_hold (va_wsS RX11 74 yX11_within wsX11_within) := goodIn_app (goodIn_of _ (by decide +kernel)) ggX11_hold_X11_within
set_option maxRecDepth 20000 in
theorem ggX11_hold_X11_isWater : GoodIn wsX11_hold wsX11_isWater := goodIn_r _ [11, 2, 12, 13, 14, 4, 5, 6, 7, 20, 21, 22, 23, 24, 25, 26, 27, 28, 29, 30, 31, 32, 33, 34, 35, 36, 37, 38, 39, 40, 41, 42, 43, 44, 45, 46, 47, 48, 49, 50] (by decide +kernel) (by decide +kernel)
set_option maxRecDepth 20000 in
theorem gX11_hold_X11_isWater : GoodIn wsX11_hold (wsV RX11 98 RX11 yX11_isWater wsX11_isWater) := goodIn_app (goodIn_of _ (by decide +kernel)) ggX11_hold_X11_isWater
set_option maxRecDepth 20000 in
theorem ggX11_hold_X11_tell : GoodIn wsX11_hold wsX11_tell := goodIn_r _ [18, 19, 1, 20, 21, 22, 23, 24, 25, 26, 27, 28] (by decide +kernel) (by decide +kernel)
set_option maxRecDepth 20000 in
theorem gX11_hold_X11_tell : GoodIn wsX11_hold (wsV RX11 79 RX11 yX11_tell wsX11_tell) := goodIn_app (goodIn_of _ (by decide +kernel)) ggX11_hold_X11_tell
theorem dX11_hold_0 : decode cX11_hold 0 = .ok (.iload_n 1, 1) := by decide +kernel
theorem dX11_hold_1 : decode cX11_hold 1 = .ok (.iconst 0, 1) := by decide +kernel
theorem dX11_hold_2 : decode cX11_hold 2 = .ok (.bipush 9, 2) := by decide +kernel
theorem dX11_hold_4 : decode cX11_hold 4 = .ok (.invokestatic 74, 3) := by decide +kernel
theorem dX11_hold_7 : decode cX11_hold 7 = .ok (.ifCond .eq 16, 3) := by decide +kernel
theorem dX11_hold_10 : decode cX11_hold 10 = .ok (.iload_n 2, 1) := by decide +kernel
theorem dX11_hold_11 : decode cX11_hold 11 = .ok (.iconst (-1), 1) := by decide +kernel
theorem dX11_hold_12 : decode cX11_hold 12 = .ok (.if_icmp .eq 18, 3) := by decide +kernel
theorem dX11_hold_15 : decode cX11_hold 15 = .ok (.aload_n 0, 1) := by decide +kernel
theorem dX11_hold_16 : decode cX11_hold 16 = .ok (.iload_n 2, 1) := by decide +kernel
theorem dX11_hold_17 : decode cX11_hold 17 = .ok (.invokevirtual 98, 3) := by decide +kernel
theorem dX11_hold_20 : decode cX11_hold 20 = .ok (.ifCond .ne 10, 3) := by decide +kernel
theorem dX11_hold_23 : decode cX11_hold 23 = .ok (.aload_n 0, 1) := by decide +kernel
theorem dX11_hold_24 : decode cX11_hold 24 = .ok (.ldc 78, 2) := by decide +kernel
theorem dX11_hold_26 : decode cX11_hold 26 = .ok (.invokevirtual 79, 3) := by decide +kernel
theorem dX11_hold_29 : decode cX11_hold 29 = .ok (.ireturn, 1) := by decide +kernel
theorem dX11_hold_30 : decode cX11_hold 30 = .ok (.aload_n 0, 1) := by decide +kernel
theorem dX11_hold_31 : decode cX11_hold 31 = .ok (.getfield 16, 3) := by decide +kernel
theorem dX11_hold_34 : decode cX11_hold 34 = .ok (.getfield 318, 3) := by decide +kernel
theorem dX11_hold_37 : decode cX11_hold 37 = .ok (.iload_n 1, 1) := by decide +kernel
theorem dX11_hold_38 : decode cX11_hold 38 = .ok (.iload_n 2, 1) := by decide +kernel
theorem dX11_hold_39 : decode cX11_hold 39 = .ok (.iastore, 1) := by decide +kernel
theorem dX11_hold_40 : decode cX11_hold 40 = .ok (.iconst 1, 1) := by decide +kernel
theorem dX11_hold_41 : decode cX11_hold 41 = .ok (.ireturn, 1) := by decide +kernel
set_option maxRecDepth 20000 in
theorem ggX11_as_X11_within : GoodIn wsX11_as wsX11_within := goodIn_r _ [11] (by decide +kernel) (by decide +kernel)
set_option maxRecDepth 20000 in
theorem gX11_as_X11_within : GoodIn wsX11_as (va_wsS RX11 74 yX11_within wsX11_within) := goodIn_app (goodIn_of _ (by decide +kernel)) ggX11_as_X11_within
set_option maxRecDepth 20000 in
theorem ggX11_as_X11_tell : GoodIn wsX11_as wsX11_tell := goodIn_r _ [15, 16, 1, 28, 29, 30, 31, 32, 33, 34, 35, 36] (by decide +kernel) (by decide +kernel)
set_option maxRecDepth 20000 in
theorem gX11_as_X11_tell : GoodIn wsX11_as (wsV RX11 79 RX11 yX11_tell wsX11_tell) := goodIn_app (goodIn_of _ (by decide +kernel)) ggX11_as_X11_tell
set_option maxRecDepth 20000 in
theorem ggX11_as_X11_isWater : GoodIn wsX11_as wsX11_isWater := goodIn_r _ [20, 2, 5, 6, 21, 8, 9, 10, 11, 28, 29, 30, 31, 32, 33, 34, 35, 36, 37, 38, 39, 40, 41, 42, 43, 44, 45, 46, 47, 48, 49, 50, 51, 52, 53, 54, 55, 56, 57, 58] (by decide +kernel) (by decide +kernel)
set_option maxRecDepth 20000 in
theorem gX11_as_X11_isWater : GoodIn wsX11_as (wsV RX11 98 RX11 yX11_isWater wsX11_isWater) := goodIn_app (goodIn_of _ (by decide +kernel)) ggX11_as_X11_isWater
set_option maxRecDepth 20000 in
theorem ggX11_as_X10_isOfKind : GoodIn wsX11_as wsX10_isOfKind := goodIn_r _ [26, 27, 54, 55, 56, 57, 58] (by decide +kernel) (by decide +kernel)
set_option maxRecDepth 20000 in
theorem gX11_as_X10_isOfKind : GoodIn wsX11_as (wsV RX11 322 RX10 yX10_isOfKind wsX10_isOfKind) := goodIn_app (goodIn_of _ (by decide +kernel)) ggX11_as_X10_isOfKind
theorem dX11_as_0 : decode cX11_as 0 = .ok (.iload_n 1, 1) := by decide +kernel
theorem dX11_as_1 : decode cX11_as 1 = .ok (.iconst 0, 1) := by decide +kernel
theorem dX11_as_2 : decode cX11_as 2 = .ok (.bipush 9, 2) := by decide +kernel
theorem dX11_as_4 : decode cX11_as 4 = .ok (.invokestatic 74, 3) := by decide +kernel
theorem dX11_as_7 : decode cX11_as 7 = .ok (.ifCond .eq 13, 3) := by decide +kernel
theorem dX11_as_10 : decode cX11_as 10 = .ok (.iload_n 2, 1) := by decide +kernel
theorem dX11_as_11 : decode cX11_as 11 = .ok (.iconst 0, 1) := by decide +kernel
theorem dX11_as_12 : decode cX11_as 12 = .ok (.bipush 6, 2) := by decide +kernel
theorem dX11_as_14 : decode cX11_as 14 = .ok (.invokestatic 74, 3) := by decide +kernel
theorem dX11_as_17 : decode cX11_as 17 = .ok (.ifCond .ne 10, 3) := by decide +kernel
theorem dX11_as_20 : decode cX11_as 20 = .ok (.aload_n 0, 1) := by decide +kernel
theorem dX11_as_21 : decode cX11_as 21 = .ok (.ldc 78, 2) := by decide +kernel
theorem dX11_as_23 : decode cX11_as 23 = .ok (.invokevirtual 79, 3) := by decide +kernel
theorem dX11_as_26 : decode cX11_as 26 = .ok (.ireturn, 1) := by decide +kernel
theorem dX11_as_27 : decode cX11_as 27 = .ok (.aload_n 0, 1) := by decide +kernel
theorem dX11_as_28 : decode cX11_as 28 = .ok (.getfield 16, 3) := by decide +kernel
theorem dX11_as_31 : decode cX11_as 31 = .ok (.getfield 318, 3) := by decide +kernel
theorem dX11_as_34 : decode cX11_as 34 = .ok (.iload_n 1, 1) := by decide +kernel
theorem dX11_as_35 : decode cX11_as 35 = .ok (.iaload, 1) := by decide +kernel
theorem dX11_as_36 : decode cX11_as 36 = .ok (.istore_n 3, 1) := by decide +kernel
theorem dX11_as_37 : decode cX11_as 37 = .ok (.aload_n 0, 1) := by decide +kernel
theorem dX11_as_38 : decode cX11_as 38 = .ok (.iload_n 3, 1) := by decide +kernel
theorem dX11_as_39 : decode cX11_as 39 = .ok (.invokevirtual 98, 3) := by decide +kernel
theorem dX11_as_42 : decode cX11_as 42 = .ok (.ifCond .ne 11, 3) := by decide +kernel
theorem dX11_as_45 : decode cX11_as 45 = .ok (.aload_n 0, 1) := by decide +kernel
theorem dX11_as_46 : decode cX11_as 46 = .ok (.ldc_w 321, 3) := by decide +kernel
theorem dX11_as_49 : decode cX11_as 49 = .ok (.invokevirtual 79, 3) := by decide +kernel
theorem dX11_as_52 : decode cX11_as 52 = .ok (.ireturn, 1) := by decide +kernel
theorem dX11_as_53 : decode cX11_as 53 = .ok (.aload_n 0, 1) := by decide +kernel
theorem dX11_as_54 : decode cX11_as 54 = .ok (.getfield 16, 3) := by decide +kernel
theorem dX11_as_57 : decode cX11_as 57 = .ok (.getfield 47, 3) := by decide +kernel
theorem dX11_as_60 : decode cX11_as 60 = .ok (.getfield 83, 3) := by decide +kernel
theorem dX11_as_63 : decode cX11_as 63 = .ok (.iload_n 3, 1) := by decide +kernel
theorem dX11_as_64 : decode cX11_as 64 = .ok (.iload_n 2, 1) := by decide +kernel
theorem dX11_as_65 : decode cX11_as 65 = .ok (.invokevirtual 322, 3) := by decide +kernel
theorem dX11_as_68 : decode cX11_as 68 = .ok (.ifCond .eq 7, 3) := by decide +kernel
theorem dX11_as_71 : decode cX11_as 71 = .ok (.iload_n 3, 1) := by decide +kernel
theorem dX11_as_72 : decode cX11_as 72 = .ok (.goto 10, 3) := by decide +kernel
theorem dX11_as_75 : decode cX11_as 75 = .ok (.aload_n 0, 1) := by decide +kernel
theorem dX11_as_76 : decode cX11_as 76 = .ok (.ldc_w 325, 3) := by decide +kernel
theorem dX11_as_79 : decode cX11_as 79 = .ok (.invokevirtual 79, 3) := by decide +kernel
theorem dX11_as_82 : decode cX11_as 82 = .ok (.ireturn, 1) := by decide +kernel
set_option maxRecDepth 20000 in
theorem ggX11_sheet_X11_isSheet : GoodIn wsX11_sheet wsX11_isSheet := goodIn_r _ [8, 9, 10, 7, 11] (by decide +kernel) (by decide +kernel)
set_option maxRecDepth 20000 in
theorem gX11_sheet_X11_isSheet : GoodIn wsX11_sheet (va_wsS RX11 326 yX11_isSheet wsX11_isSheet) := goodIn_app (goodIn_of _ (by decide +kernel)) ggX11_sheet_X11_isSheet
set_option maxRecDepth 20000 in
theorem ggX11_sheet_X11_tell : GoodIn wsX11_sheet wsX11_tell := goodIn_r _ [15, 16, 1, 29, 30, 31, 32, 33, 34, 35, 36, 37] (by decide +kernel) (by decide +kernel)
set_option maxRecDepth 20000 in
theorem gX11_sheet_X11_tell : GoodIn wsX11_sheet (wsV RX11 79 RX11 yX11_tell wsX11_tell) := goodIn_app (goodIn_of _ (by decide +kernel)) ggX11_sheet_X11_tell
set_option maxRecDepth 20000 in
theorem ggX11_sheet_X6_layOut : GoodIn wsX11_sheet wsX6_layOut := goodIn_r _ [21, 22, 23, 24, 25, 26, 27, 28, 38, 39, 40] (by decide +kernel) (by decide +kernel)
set_option maxRecDepth 20000 in
theorem gX11_sheet_X6_layOut : GoodIn wsX11_sheet (wsV RX11 330 RX6 yX6_layOut wsX6_layOut) := goodIn_app (goodIn_of _ (by decide +kernel)) ggX11_sheet_X6_layOut
theorem dX11_sheet_0 : decode cX11_sheet 0 = .ok (.iload_n 1, 1) := by decide +kernel
theorem dX11_sheet_1 : decode cX11_sheet 1 = .ok (.invokestatic 326, 3) := by decide +kernel
theorem dX11_sheet_4 : decode cX11_sheet 4 = .ok (.ifCond .eq 25, 3) := by decide +kernel
theorem dX11_sheet_7 : decode cX11_sheet 7 = .ok (.iload_n 2, 1) := by decide +kernel
theorem dX11_sheet_8 : decode cX11_sheet 8 = .ok (.ifCond .eq 28, 3) := by decide +kernel
theorem dX11_sheet_11 : decode cX11_sheet 11 = .ok (.iload_n 2, 1) := by decide +kernel
theorem dX11_sheet_12 : decode cX11_sheet 12 = .ok (.bipush 8, 2) := by decide +kernel
theorem dX11_sheet_14 : decode cX11_sheet 14 = .ok (.if_icmp .eq 22, 3) := by decide +kernel
theorem dX11_sheet_17 : decode cX11_sheet 17 = .ok (.iload_n 2, 1) := by decide +kernel
theorem dX11_sheet_18 : decode cX11_sheet 18 = .ok (.bipush 16, 2) := by decide +kernel
theorem dX11_sheet_20 : decode cX11_sheet 20 = .ok (.if_icmp .eq 16, 3) := by decide +kernel
theorem dX11_sheet_23 : decode cX11_sheet 23 = .ok (.iload_n 2, 1) := by decide +kernel
theorem dX11_sheet_24 : decode cX11_sheet 24 = .ok (.bipush 32, 2) := by decide +kernel
theorem dX11_sheet_26 : decode cX11_sheet 26 = .ok (.if_icmp .eq 10, 3) := by decide +kernel
theorem dX11_sheet_29 : decode cX11_sheet 29 = .ok (.aload_n 0, 1) := by decide +kernel
theorem dX11_sheet_30 : decode cX11_sheet 30 = .ok (.ldc 78, 2) := by decide +kernel
theorem dX11_sheet_32 : decode cX11_sheet 32 = .ok (.invokevirtual 79, 3) := by decide +kernel
theorem dX11_sheet_35 : decode cX11_sheet 35 = .ok (.ireturn, 1) := by decide +kernel
theorem dX11_sheet_36 : decode cX11_sheet 36 = .ok (.iload_n 3, 1) := by decide +kernel
theorem dX11_sheet_37 : decode cX11_sheet 37 = .ok (.ifCond .ge 11, 3) := by decide +kernel
theorem dX11_sheet_40 : decode cX11_sheet 40 = .ok (.aload_n 0, 1) := by decide +kernel
theorem dX11_sheet_41 : decode cX11_sheet 41 = .ok (.ldc_w 329, 3) := by decide +kernel
theorem dX11_sheet_44 : decode cX11_sheet 44 = .ok (.invokevirtual 79, 3) := by decide +kernel
theorem dX11_sheet_47 : decode cX11_sheet 47 = .ok (.ireturn, 1) := by decide +kernel
theorem dX11_sheet_48 : decode cX11_sheet 48 = .ok (.iload_n 3, 1) := by decide +kernel
theorem dX11_sheet_49 : decode cX11_sheet 49 = .ok (.bipush 40, 2) := by decide +kernel
theorem dX11_sheet_51 : decode cX11_sheet 51 = .ok (.if_icmp .le 10, 3) := by decide +kernel
theorem dX11_sheet_54 : decode cX11_sheet 54 = .ok (.aload_n 0, 1) := by decide +kernel
theorem dX11_sheet_55 : decode cX11_sheet 55 = .ok (.ldc 78, 2) := by decide +kernel
theorem dX11_sheet_57 : decode cX11_sheet 57 = .ok (.invokevirtual 79, 3) := by decide +kernel
theorem dX11_sheet_60 : decode cX11_sheet 60 = .ok (.ireturn, 1) := by decide +kernel
theorem dX11_sheet_61 : decode cX11_sheet 61 = .ok (.aload_n 0, 1) := by decide +kernel
theorem dX11_sheet_62 : decode cX11_sheet 62 = .ok (.getfield 41, 3) := by decide +kernel
theorem dX11_sheet_65 : decode cX11_sheet 65 = .ok (.iload_n 1, 1) := by decide +kernel
theorem dX11_sheet_66 : decode cX11_sheet 66 = .ok (.aaload, 1) := by decide +kernel
theorem dX11_sheet_67 : decode cX11_sheet 67 = .ok (.iload_n 2, 1) := by decide +kernel
theorem dX11_sheet_68 : decode cX11_sheet 68 = .ok (.iload_n 3, 1) := by decide +kernel
theorem dX11_sheet_69 : decode cX11_sheet 69 = .ok (.invokevirtual 330, 3) := by decide +kernel
theorem dX11_sheet_72 : decode cX11_sheet 72 = .ok (.aload_n 0, 1) := by decide +kernel
theorem dX11_sheet_73 : decode cX11_sheet 73 = .ok (.getfield 41, 3) := by decide +kernel
theorem dX11_sheet_76 : decode cX11_sheet 76 = .ok (.iload_n 1, 1) := by decide +kernel
theorem dX11_sheet_77 : decode cX11_sheet 77 = .ok (.aaload, 1) := by decide +kernel
theorem dX11_sheet_78 : decode cX11_sheet 78 = .ok (.getfield 333, 3) := by decide +kernel
theorem dX11_sheet_81 : decode cX11_sheet 81 = .ok (.ireturn, 1) := by decide +kernel
set_option maxRecDepth 20000 in
theorem ggX11_write_X11_isSheet : GoodIn wsX11_write wsX11_isSheet := goodIn_r _ [8, 9, 10, 7, 11] (by decide +kernel) (by decide +kernel)
set_option maxRecDepth 20000 in
theorem gX11_write_X11_isSheet : GoodIn wsX11_write (va_wsS RX11 326 yX11_isSheet wsX11_isSheet) := goodIn_app (goodIn_of _ (by decide +kernel)) ggX11_write_X11_isSheet
set_option maxRecDepth 20000 in
theorem ggX11_write_X11_tell : GoodIn wsX11_write wsX11_tell := goodIn_r _ [15, 16, 1, 28, 29, 30, 31, 32, 33, 34, 35, 36] (by decide +kernel) (by decide +kernel)
set_option maxRecDepth 20000 in
theorem gX11_write_X11_tell : GoodIn wsX11_write (wsV RX11 79 RX11 yX11_tell wsX11_tell) := goodIn_app (goodIn_of _ (by decide +kernel)) ggX11_write_X11_tell
set_option maxRecDepth 20000 in
theorem ggX11_write_X6_isMissing : GoodIn wsX11_write wsX6_isMissing := goodIn_r _ [21, 22, 37, 38, 39] (by decide +kernel) (by decide +kernel)
set_option maxRecDepth 20000 in
theorem gX11_write_X6_isMissing : GoodIn wsX11_write (wsV RX11 334 RX6 yX6_isMissing wsX6_isMissing) := goodIn_app (goodIn_of _ (by decide +kernel)) ggX11_write_X6_isMissing
set_option maxRecDepth 20000 in
theorem ggX11_write_X11_within : GoodIn wsX11_write wsX11_within := goodIn_r _ [11] (by decide +kernel) (by decide +kernel)
set_option maxRecDepth 20000 in
theorem gX11_write_X11_within : GoodIn wsX11_write (va_wsS RX11 74 yX11_within wsX11_within) := goodIn_app (goodIn_of _ (by decide +kernel)) ggX11_write_X11_within
set_option maxRecDepth 20000 in
theorem ggX11_write_X6_put : GoodIn wsX11_write wsX6_put := goodIn_r _ [26, 22, 27, 37, 38, 39] (by decide +kernel) (by decide +kernel)
set_option maxRecDepth 20000 in
theorem gX11_write_X6_put : GoodIn wsX11_write (wsV RX11 337 RX6 yX6_put wsX6_put) := goodIn_app (goodIn_of _ (by decide +kernel)) ggX11_write_X6_put
theorem dX11_write_0 : decode cX11_write 0 = .ok (.iload_n 1, 1) := by decide +kernel
theorem dX11_write_1 : decode cX11_write 1 = .ok (.invokestatic 326, 3) := by decide +kernel
theorem dX11_write_4 : decode cX11_write 4 = .ok (.ifCond .ne 10, 3) := by decide +kernel
theorem dX11_write_7 : decode cX11_write 7 = .ok (.aload_n 0, 1) := by decide +kernel
theorem dX11_write_8 : decode cX11_write 8 = .ok (.ldc 78, 2) := by decide +kernel
theorem dX11_write_10 : decode cX11_write 10 = .ok (.invokevirtual 79, 3) := by decide +kernel
theorem dX11_write_13 : decode cX11_write 13 = .ok (.ireturn, 1) := by decide +kernel
theorem dX11_write_14 : decode cX11_write 14 = .ok (.aload_n 0, 1) := by decide +kernel
theorem dX11_write_15 : decode cX11_write 15 = .ok (.getfield 41, 3) := by decide +kernel
theorem dX11_write_18 : decode cX11_write 18 = .ok (.iload_n 1, 1) := by decide +kernel
theorem dX11_write_19 : decode cX11_write 19 = .ok (.aaload, 1) := by decide +kernel
theorem dX11_write_20 : decode cX11_write 20 = .ok (.invokevirtual 334, 3) := by decide +kernel
theorem dX11_write_23 : decode cX11_write 23 = .ok (.ifCond .eq 11, 3) := by decide +kernel
theorem dX11_write_26 : decode cX11_write 26 = .ok (.aload_n 0, 1) := by decide +kernel
theorem dX11_write_27 : decode cX11_write 27 = .ok (.ldc_w 321, 3) := by decide +kernel
theorem dX11_write_30 : decode cX11_write 30 = .ok (.invokevirtual 79, 3) := by decide +kernel
theorem dX11_write_33 : decode cX11_write 33 = .ok (.ireturn, 1) := by decide +kernel
theorem dX11_write_34 : decode cX11_write 34 = .ok (.iload_n 2, 1) := by decide +kernel
theorem dX11_write_35 : decode cX11_write 35 = .ok (.iconst 0, 1) := by decide +kernel
theorem dX11_write_36 : decode cX11_write 36 = .ok (.aload_n 0, 1) := by decide +kernel
theorem dX11_write_37 : decode cX11_write 37 = .ok (.getfield 41, 3) := by decide +kernel
theorem dX11_write_40 : decode cX11_write 40 = .ok (.iload_n 1, 1) := by decide +kernel
theorem dX11_write_41 : decode cX11_write 41 = .ok (.aaload, 1) := by decide +kernel
theorem dX11_write_42 : decode cX11_write 42 = .ok (.getfield 333, 3) := by decide +kernel
theorem dX11_write_45 : decode cX11_write 45 = .ok (.iconst 1, 1) := by decide +kernel
theorem dX11_write_46 : decode cX11_write 46 = .ok (.isub, 1) := by decide +kernel
theorem dX11_write_47 : decode cX11_write 47 = .ok (.invokestatic 74, 3) := by decide +kernel
theorem dX11_write_50 : decode cX11_write 50 = .ok (.ifCond .ne 10, 3) := by decide +kernel
theorem dX11_write_53 : decode cX11_write 53 = .ok (.aload_n 0, 1) := by decide +kernel
theorem dX11_write_54 : decode cX11_write 54 = .ok (.ldc 78, 2) := by decide +kernel
theorem dX11_write_56 : decode cX11_write 56 = .ok (.invokevirtual 79, 3) := by decide +kernel
theorem dX11_write_59 : decode cX11_write 59 = .ok (.ireturn, 1) := by decide +kernel
theorem dX11_write_60 : decode cX11_write 60 = .ok (.aload_n 0, 1) := by decide +kernel
theorem dX11_write_61 : decode cX11_write 61 = .ok (.getfield 41, 3) := by decide +kernel
theorem dX11_write_64 : decode cX11_write 64 = .ok (.iload_n 1, 1) := by decide +kernel
theorem dX11_write_65 : decode cX11_write 65 = .ok (.aaload, 1) := by decide +kernel
theorem dX11_write_66 : decode cX11_write 66 = .ok (.iload_n 2, 1) := by decide +kernel
theorem dX11_write_67 : decode cX11_write 67 = .ok (.iload_n 3, 1) := by decide +kernel
theorem dX11_write_68 : decode cX11_write 68 = .ok (.invokevirtual 337, 3) := by decide +kernel
theorem dX11_write_71 : decode cX11_write 71 = .ok (.iconst 1, 1) := by decide +kernel
theorem dX11_write_72 : decode cX11_write 72 = .ok (.ireturn, 1) := by decide +kernel
set_option maxRecDepth 20000 in
theorem ggX11_copy_X11_isSheet : GoodIn wsX11_copy wsX11_isSheet := goodIn_r _ [14, 15, 16, 13, 17] (by decide +kernel) (by decide +kernel)
set_option maxRecDepth 20000 in
theorem gX11_copy_X11_isSheet : GoodIn wsX11_copy (va_wsS RX11 326 yX11_isSheet wsX11_isSheet) := goodIn_app (goodIn_of _ (by decide +kernel)) ggX11_copy_X11_isSheet
set_option maxRecDepth 20000 in
theorem ggX11_copy_X11_tell : GoodIn wsX11_copy wsX11_tell := goodIn_r _ [21, 22, 1, 34, 35, 36, 37, 38, 39, 40, 41, 42] (by decide +kernel) (by decide +kernel)
set_option maxRecDepth 20000 in
theorem gX11_copy_X11_tell : GoodIn wsX11_copy (wsV RX11 79 RX11 yX11_tell wsX11_tell) := goodIn_app (goodIn_of _ (by decide +kernel)) ggX11_copy_X11_tell
set_option maxRecDepth 20000 in
theorem ggX11_copy_X6_isMissing : GoodIn wsX11_copy wsX6_isMissing := goodIn_r _ [27, 28, 43, 44, 45] (by decide +kernel) (by decide +kernel)
set_option maxRecDepth 20000 in
theorem gX11_copy_X6_isMissing : GoodIn wsX11_copy (wsV RX11 334 RX6 yX6_isMissing wsX6_isMissing) := goodIn_app (goodIn_of _ (by decide +kernel)) ggX11_copy_X6_isMissing
set_option maxRecDepth 20000 in
theorem ggX11_copy_X6_hasRange : GoodIn wsX11_copy wsX6_hasRange := goodIn_r _ [32, 33, 43, 44, 45] (by decide +kernel) (by decide +kernel)
set_option maxRecDepth 20000 in
theorem gX11_copy_X6_hasRange : GoodIn wsX11_copy (wsV RX11 343 RX6 yX6_hasRange wsX6_hasRange) := goodIn_app (goodIn_of _ (by decide +kernel)) ggX11_copy_X6_hasRange
theorem dX11_copy_0 : decode cX11_copy 0 = .ok (.iload_n 1, 1) := by decide +kernel
theorem dX11_copy_1 : decode cX11_copy 1 = .ok (.invokestatic 326, 3) := by decide +kernel
theorem dX11_copy_4 : decode cX11_copy 4 = .ok (.ifCond .eq 10, 3) := by decide +kernel
theorem dX11_copy_7 : decode cX11_copy 7 = .ok (.iload_n 3, 1) := by decide +kernel
theorem dX11_copy_8 : decode cX11_copy 8 = .ok (.invokestatic 326, 3) := by decide +kernel
theorem dX11_copy_11 : decode cX11_copy 11 = .ok (.ifCond .ne 10, 3) := by decide +kernel
theorem dX11_copy_14 : decode cX11_copy 14 = .ok (.aload_n 0, 1) := by decide +kernel
theorem dX11_copy_15 : decode cX11_copy 15 = .ok (.ldc 78, 2) := by decide +kernel
theorem dX11_copy_17 : decode cX11_copy 17 = .ok (.invokevirtual 79, 3) := by decide +kernel
theorem dX11_copy_20 : decode cX11_copy 20 = .ok (.ireturn, 1) := by decide +kernel
theorem dX11_copy_21 : decode cX11_copy 21 = .ok (.aload_n 0, 1) := by decide +kernel
theorem dX11_copy_22 : decode cX11_copy 22 = .ok (.getfield 41, 3) := by decide +kernel
theorem dX11_copy_25 : decode cX11_copy 25 = .ok (.iload_n 1, 1) := by decide +kernel
theorem dX11_copy_26 : decode cX11_copy 26 = .ok (.aaload, 1) := by decide +kernel
theorem dX11_copy_27 : decode cX11_copy 27 = .ok (.invokevirtual 334, 3) := by decide +kernel
theorem dX11_copy_30 : decode cX11_copy 30 = .ok (.ifCond .ne 15, 3) := by decide +kernel
theorem dX11_copy_33 : decode cX11_copy 33 = .ok (.aload_n 0, 1) := by decide +kernel
theorem dX11_copy_34 : decode cX11_copy 34 = .ok (.getfield 41, 3) := by decide +kernel
theorem dX11_copy_37 : decode cX11_copy 37 = .ok (.iload_n 3, 1) := by decide +kernel
theorem dX11_copy_38 : decode cX11_copy 38 = .ok (.aaload, 1) := by decide +kernel
theorem dX11_copy_39 : decode cX11_copy 39 = .ok (.invokevirtual 334, 3) := by decide +kernel
theorem dX11_copy_42 : decode cX11_copy 42 = .ok (.ifCond .eq 11, 3) := by decide +kernel
theorem dX11_copy_45 : decode cX11_copy 45 = .ok (.aload_n 0, 1) := by decide +kernel
theorem dX11_copy_46 : decode cX11_copy 46 = .ok (.ldc_w 321, 3) := by decide +kernel
theorem dX11_copy_49 : decode cX11_copy 49 = .ok (.invokevirtual 79, 3) := by decide +kernel
theorem dX11_copy_52 : decode cX11_copy 52 = .ok (.ireturn, 1) := by decide +kernel
theorem dX11_copy_53 : decode cX11_copy 53 = .ok (.aload_n 0, 1) := by decide +kernel
theorem dX11_copy_54 : decode cX11_copy 54 = .ok (.getfield 41, 3) := by decide +kernel
theorem dX11_copy_57 : decode cX11_copy 57 = .ok (.iload_n 1, 1) := by decide +kernel
theorem dX11_copy_58 : decode cX11_copy 58 = .ok (.aaload, 1) := by decide +kernel
theorem dX11_copy_59 : decode cX11_copy 59 = .ok (.getfield 340, 3) := by decide +kernel
theorem dX11_copy_62 : decode cX11_copy 62 = .ok (.aload_n 0, 1) := by decide +kernel
theorem dX11_copy_63 : decode cX11_copy 63 = .ok (.getfield 41, 3) := by decide +kernel
theorem dX11_copy_66 : decode cX11_copy 66 = .ok (.iload_n 3, 1) := by decide +kernel
theorem dX11_copy_67 : decode cX11_copy 67 = .ok (.aaload, 1) := by decide +kernel
theorem dX11_copy_68 : decode cX11_copy 68 = .ok (.getfield 340, 3) := by decide +kernel
theorem dX11_copy_71 : decode cX11_copy 71 = .ok (.if_icmp .eq 11, 3) := by decide +kernel
theorem dX11_copy_74 : decode cX11_copy 74 = .ok (.aload_n 0, 1) := by decide +kernel
theorem dX11_copy_75 : decode cX11_copy 75 = .ok (.ldc_w 325, 3) := by decide +kernel
theorem dX11_copy_78 : decode cX11_copy 78 = .ok (.invokevirtual 79, 3) := by decide +kernel
theorem dX11_copy_81 : decode cX11_copy 81 = .ok (.ireturn, 1) := by decide +kernel
theorem dX11_copy_82 : decode cX11_copy 82 = .ok (.aload_n 0, 1) := by decide +kernel
theorem dX11_copy_83 : decode cX11_copy 83 = .ok (.getfield 41, 3) := by decide +kernel
theorem dX11_copy_86 : decode cX11_copy 86 = .ok (.iload_n 1, 1) := by decide +kernel
theorem dX11_copy_87 : decode cX11_copy 87 = .ok (.aaload, 1) := by decide +kernel
theorem dX11_copy_88 : decode cX11_copy 88 = .ok (.iload_n 2, 1) := by decide +kernel
theorem dX11_copy_89 : decode cX11_copy 89 = .ok (.iload 5, 2) := by decide +kernel
theorem dX11_copy_91 : decode cX11_copy 91 = .ok (.invokevirtual 343, 3) := by decide +kernel
theorem dX11_copy_94 : decode cX11_copy 94 = .ok (.ifCond .eq 19, 3) := by decide +kernel
theorem dX11_copy_97 : decode cX11_copy 97 = .ok (.aload_n 0, 1) := by decide +kernel
theorem dX11_copy_98 : decode cX11_copy 98 = .ok (.getfield 41, 3) := by decide +kernel
theorem dX11_copy_101 : decode cX11_copy 101 = .ok (.iload_n 3, 1) := by decide +kernel
theorem dX11_copy_102 : decode cX11_copy 102 = .ok (.aaload, 1) := by decide +kernel
theorem dX11_copy_103 : decode cX11_copy 103 = .ok (.iload 4, 2) := by decide +kernel
theorem dX11_copy_105 : decode cX11_copy 105 = .ok (.iload 5, 2) := by decide +kernel
theorem dX11_copy_107 : decode cX11_copy 107 = .ok (.invokevirtual 343, 3) := by decide +kernel
theorem dX11_copy_110 : decode cX11_copy 110 = .ok (.ifCond .ne 10, 3) := by decide +kernel
theorem dX11_copy_113 : decode cX11_copy 113 = .ok (.aload_n 0, 1) := by decide +kernel
theorem dX11_copy_114 : decode cX11_copy 114 = .ok (.ldc 78, 2) := by decide +kernel
theorem dX11_copy_116 : decode cX11_copy 116 = .ok (.invokevirtual 79, 3) := by decide +kernel
theorem dX11_copy_119 : decode cX11_copy 119 = .ok (.ireturn, 1) := by decide +kernel
theorem dX11_copy_120 : decode cX11_copy 120 = .ok (.aload_n 0, 1) := by decide +kernel
theorem dX11_copy_121 : decode cX11_copy 121 = .ok (.getfield 41, 3) := by decide +kernel
theorem dX11_copy_124 : decode cX11_copy 124 = .ok (.iload_n 1, 1) := by decide +kernel
theorem dX11_copy_125 : decode cX11_copy 125 = .ok (.aaload, 1) := by decide +kernel
theorem dX11_copy_126 : decode cX11_copy 126 = .ok (.getfield 346, 3) := by decide +kernel
theorem dX11_copy_129 : decode cX11_copy 129 = .ok (.iload_n 2, 1) := by decide +kernel
theorem dX11_copy_130 : decode cX11_copy 130 = .ok (.aload_n 0, 1) := by decide +kernel
theorem dX11_copy_131 : decode cX11_copy 131 = .ok (.getfield 41, 3) := by decide +kernel
theorem dX11_copy_134 : decode cX11_copy 134 = .ok (.iload_n 3, 1) := by decide +kernel
theorem dX11_copy_135 : decode cX11_copy 135 = .ok (.aaload, 1) := by decide +kernel
theorem dX11_copy_136 : decode cX11_copy 136 = .ok (.getfield 346, 3) := by decide +kernel
theorem dX11_copy_139 : decode cX11_copy 139 = .ok (.iload 4, 2) := by decide +kernel
theorem dX11_copy_141 : decode cX11_copy 141 = .ok (.iload 5, 2) := by decide +kernel
theorem dX11_copy_143 : decode cX11_copy 143 = .ok (.invokestatic 349, 3) := by decide +kernel
theorem dX11_copy_146 : decode cX11_copy 146 = .ok (.iload 5, 2) := by decide +kernel
theorem dX11_copy_148 : decode cX11_copy 148 = .ok (.ireturn, 1) := by decide +kernel
set_option maxRecDepth 20000 in
theorem ggX11_load_X11_isSheet : GoodIn wsX11_load wsX11_isSheet := goodIn_r _ [14, 15, 16, 13, 17] (by decide +kernel) (by decide +kernel)
set_option maxRecDepth 20000 in
theorem gX11_load_X11_isSheet : GoodIn wsX11_load (va_wsS RX11 326 yX11_isSheet wsX11_isSheet) := goodIn_app (goodIn_of _ (by decide +kernel)) ggX11_load_X11_isSheet
set_option maxRecDepth 20000 in
theorem ggX11_load_X11_tell : GoodIn wsX11_load wsX11_tell := goodIn_r _ [21, 22, 1, 112, 113, 114, 115, 116, 117, 118, 119, 120] (by decide +kernel) (by decide +kernel)
set_option maxRecDepth 20000 in
theorem gX11_load_X11_tell : GoodIn wsX11_load (wsV RX11 79 RX11 yX11_tell wsX11_tell) := goodIn_app (goodIn_of _ (by decide +kernel)) ggX11_load_X11_tell
set_option maxRecDepth 20000 in
theorem ggX11_load_X6_isMissing : GoodIn wsX11_load wsX6_isMissing := goodIn_r _ [27, 28, 121, 122, 123] (by decide +kernel) (by decide +kernel)
set_option maxRecDepth 20000 in
theorem gX11_load_X6_isMissing : GoodIn wsX11_load (wsV RX11 334 RX6 yX6_isMissing wsX6_isMissing) := goodIn_app (goodIn_of _ (by decide +kernel)) ggX11_load_X6_isMissing
set_option maxRecDepth 20000 in
theorem ggX11_load_X11_within : GoodIn wsX11_load wsX11_within := goodIn_r _ [17] (by decide +kernel) (by decide +kernel)
set_option maxRecDepth 20000 in
theorem gX11_load_X11_within : GoodIn wsX11_load (va_wsS RX11 74 yX11_within wsX11_within) := goodIn_app (goodIn_of _ (by decide +kernel)) ggX11_load_X11_within
set_option maxRecDepth 20000 in
theorem ggX11_load_X0_passMinute : GoodIn wsX11_load wsX0_passMinute := goodIn_r _ [33, 34, 35, 36, 37, 38, 39, 40, 41, 42, 43, 44, 45, 46, 32, 47, 48, 49, 50, 51, 52, 53, 54, 55, 56, 57, 58, 59, 60, 61, 62, 63, 64, 65, 66, 67, 68, 69, 70, 71, 72, 73, 74, 75, 76, 77, 78, 79, 80, 81, 82, 83, 84, 85, 86, 87, 88, 89, 90, 91, 92, 93, 94, 95, 96, 97, 98, 99, 100, 101, 102, 103, 104, 105, 106, 107, 108, 109, 110, 111, 128, 129, 130, 131, 132, 133, 134, 135, 136, 137, 138, 139, 140, 141, 142, 143, 144, 145, 146, 147, 148, 149, 150, 151, 152, 153, 154, 155, 156, 157, 158, 159, 160, 161, 162] (by decide +kernel) (by decide +kernel)
set_option maxRecDepth 20000 in
theorem gX11_load_X0_passMinute : GoodIn wsX11_load (wsV RX11 358 RX0 yX0_passMinute wsX0_passMinute) := goodIn_app (goodIn_of _ (by decide +kernel)) ggX11_load_X0_passMinute
theorem dX11_load_0 : decode cX11_load 0 = .ok (.iload_n 1, 1) := by decide +kernel
theorem dX11_load_1 : decode cX11_load 1 = .ok (.invokestatic 326, 3) := by decide +kernel
theorem dX11_load_4 : decode cX11_load 4 = .ok (.ifCond .ne 10, 3) := by decide +kernel
theorem dX11_load_7 : decode cX11_load 7 = .ok (.aload_n 0, 1) := by decide +kernel
theorem dX11_load_8 : decode cX11_load 8 = .ok (.ldc 78, 2) := by decide +kernel
theorem dX11_load_10 : decode cX11_load 10 = .ok (.invokevirtual 79, 3) := by decide +kernel
theorem dX11_load_13 : decode cX11_load 13 = .ok (.ireturn, 1) := by decide +kernel
theorem dX11_load_14 : decode cX11_load 14 = .ok (.aload_n 0, 1) := by decide +kernel
theorem dX11_load_15 : decode cX11_load 15 = .ok (.getfield 41, 3) := by decide +kernel
theorem dX11_load_18 : decode cX11_load 18 = .ok (.iload_n 1, 1) := by decide +kernel
theorem dX11_load_19 : decode cX11_load 19 = .ok (.aaload, 1) := by decide +kernel
theorem dX11_load_20 : decode cX11_load 20 = .ok (.invokevirtual 334, 3) := by decide +kernel
theorem dX11_load_23 : decode cX11_load 23 = .ok (.ifCond .eq 11, 3) := by decide +kernel
theorem dX11_load_26 : decode cX11_load 26 = .ok (.aload_n 0, 1) := by decide +kernel
theorem dX11_load_27 : decode cX11_load 27 = .ok (.ldc_w 321, 3) := by decide +kernel
theorem dX11_load_30 : decode cX11_load 30 = .ok (.invokevirtual 79, 3) := by decide +kernel
theorem dX11_load_33 : decode cX11_load 33 = .ok (.ireturn, 1) := by decide +kernel
theorem dX11_load_34 : decode cX11_load 34 = .ok (.iconst 0, 1) := by decide +kernel
theorem dX11_load_35 : decode cX11_load 35 = .ok (.istore_n 2, 1) := by decide +kernel
theorem dX11_load_36 : decode cX11_load 36 = .ok (.iload_n 2, 1) := by decide +kernel
theorem dX11_load_37 : decode cX11_load 37 = .ok (.aload_n 0, 1) := by decide +kernel
theorem dX11_load_38 : decode cX11_load 38 = .ok (.getfield 41, 3) := by decide +kernel
theorem dX11_load_41 : decode cX11_load 41 = .ok (.iload_n 1, 1) := by decide +kernel
theorem dX11_load_42 : decode cX11_load 42 = .ok (.aaload, 1) := by decide +kernel
theorem dX11_load_43 : decode cX11_load 43 = .ok (.getfield 333, 3) := by decide +kernel
theorem dX11_load_46 : decode cX11_load 46 = .ok (.if_icmp .ge 67, 3) := by decide +kernel
theorem dX11_load_49 : decode cX11_load 49 = .ok (.aload_n 0, 1) := by decide +kernel
theorem dX11_load_50 : decode cX11_load 50 = .ok (.getfield 41, 3) := by decide +kernel
theorem dX11_load_53 : decode cX11_load 53 = .ok (.iload_n 1, 1) := by decide +kernel
theorem dX11_load_54 : decode cX11_load 54 = .ok (.aaload, 1) := by decide +kernel
theorem dX11_load_55 : decode cX11_load 55 = .ok (.getfield 346, 3) := by decide +kernel
theorem dX11_load_58 : decode cX11_load 58 = .ok (.iload_n 2, 1) := by decide +kernel
theorem dX11_load_59 : decode cX11_load 59 = .ok (.iaload, 1) := by decide +kernel
theorem dX11_load_60 : decode cX11_load 60 = .ok (.getstatic 117, 3) := by decide +kernel
theorem dX11_load_63 : decode cX11_load 63 = .ok (.iconst 0, 1) := by decide +kernel
theorem dX11_load_64 : decode cX11_load 64 = .ok (.iaload, 1) := by decide +kernel
theorem dX11_load_65 : decode cX11_load 65 = .ok (.getstatic 120, 3) := by decide +kernel
theorem dX11_load_68 : decode cX11_load 68 = .ok (.iconst 0, 1) := by decide +kernel
theorem dX11_load_69 : decode cX11_load 69 = .ok (.iaload, 1) := by decide +kernel
theorem dX11_load_70 : decode cX11_load 70 = .ok (.invokestatic 74, 3) := by decide +kernel
theorem dX11_load_73 : decode cX11_load 73 = .ok (.ifCond .eq 40, 3) := by decide +kernel
theorem dX11_load_76 : decode cX11_load 76 = .ok (.aload_n 0, 1) := by decide +kernel
theorem dX11_load_77 : decode cX11_load 77 = .ok (.getfield 16, 3) := by decide +kernel
theorem dX11_load_80 : decode cX11_load 80 = .ok (.getfield 47, 3) := by decide +kernel
theorem dX11_load_83 : decode cX11_load 83 = .ok (.aload_n 0, 1) := by decide +kernel
theorem dX11_load_84 : decode cX11_load 84 = .ok (.getfield 41, 3) := by decide +kernel
theorem dX11_load_87 : decode cX11_load 87 = .ok (.iload_n 1, 1) := by decide +kernel
theorem dX11_load_88 : decode cX11_load 88 = .ok (.aaload, 1) := by decide +kernel
theorem dX11_load_89 : decode cX11_load 89 = .ok (.getfield 346, 3) := by decide +kernel
theorem dX11_load_92 : decode cX11_load 92 = .ok (.iload_n 2, 1) := by decide +kernel
theorem dX11_load_93 : decode cX11_load 93 = .ok (.iaload, 1) := by decide +kernel
theorem dX11_load_94 : decode cX11_load 94 = .ok (.putfield 355, 3) := by decide +kernel
theorem dX11_load_97 : decode cX11_load 97 = .ok (.aload_n 0, 1) := by decide +kernel
theorem dX11_load_98 : decode cX11_load 98 = .ok (.getfield 16, 3) := by decide +kernel
theorem dX11_load_101 : decode cX11_load 101 = .ok (.getfield 47, 3) := by decide +kernel
theorem dX11_load_104 : decode cX11_load 104 = .ok (.invokevirtual 358, 3) := by decide +kernel
theorem dX11_load_107 : decode cX11_load 107 = .ok (.iinc 2 1, 3) := by decide +kernel
theorem dX11_load_110 : decode cX11_load 110 = .ok (.goto (-74), 3) := by decide +kernel
theorem dX11_load_113 : decode cX11_load 113 = .ok (.iload_n 2, 1) := by decide +kernel
theorem dX11_load_114 : decode cX11_load 114 = .ok (.ireturn, 1) := by decide +kernel
set_option maxRecDepth 20000 in
theorem ggX11_judge_X11_isSheet : GoodIn wsX11_judge wsX11_isSheet := goodIn_r _ [8, 9, 10, 7, 11] (by decide +kernel) (by decide +kernel)
set_option maxRecDepth 20000 in
theorem gX11_judge_X11_isSheet : GoodIn wsX11_judge (va_wsS RX11 326 yX11_isSheet wsX11_isSheet) := goodIn_app (goodIn_of _ (by decide +kernel)) ggX11_judge_X11_isSheet
set_option maxRecDepth 20000 in
theorem ggX11_judge_X11_tell : GoodIn wsX11_judge wsX11_tell := goodIn_r _ [15, 16, 1, 157, 158, 159, 160, 161, 162, 163, 164, 165] (by decide +kernel) (by decide +kernel)
set_option maxRecDepth 20000 in
theorem gX11_judge_X11_tell : GoodIn wsX11_judge (wsV RX11 79 RX11 yX11_tell wsX11_tell) := goodIn_app (goodIn_of _ (by decide +kernel)) ggX11_judge_X11_tell
set_option maxRecDepth 20000 in
theorem ggX11_judge_X6_isMissing : GoodIn wsX11_judge wsX6_isMissing := goodIn_r _ [21, 22, 166, 167, 168] (by decide +kernel) (by decide +kernel)
set_option maxRecDepth 20000 in
theorem gX11_judge_X6_isMissing : GoodIn wsX11_judge (wsV RX11 334 RX6 yX6_isMissing wsX6_isMissing) := goodIn_app (goodIn_of _ (by decide +kernel)) ggX11_judge_X6_isMissing
set_option maxRecDepth 20000 in
theorem ggX11_judge_X3_firstMisjudged : GoodIn wsX11_judge wsX3_firstMisjudged := goodIn_r _ [27, 28, 29, 30, 31, 32, 33, 34, 26, 35, 36, 37, 38, 39, 40, 41, 42, 43, 44, 45, 46, 47, 48, 49, 50, 51, 52, 53, 54, 55, 56, 57, 58, 59, 60, 61, 62, 63, 64, 65, 66, 67, 68, 69, 70, 71, 72, 73, 74, 75, 76, 77, 78, 79, 80, 81, 82, 83, 84, 85, 86, 87, 88, 89, 90, 91, 92, 93, 94, 95, 96, 97, 98, 99, 100, 101, 102, 103, 104, 105, 106, 107, 108, 109, 110, 111, 112, 113, 114, 115, 116, 117, 118, 119, 120, 121, 122, 123, 124, 125, 126, 127, 128, 129, 130, 131, 132, 133, 134, 135, 136, 137, 138, 139, 140, 141, 142, 143, 144, 145, 146, 147, 148, 149, 150, 151, 152, 153, 154, 155, 156, 166, 167, 168, 169, 170, 171, 172, 173, 174, 175, 176, 177, 178, 179, 180, 181, 182, 183, 184, 185, 186, 187, 188, 189, 190, 191, 192, 193, 194, 195, 196, 197, 198, 199, 200, 201, 202, 203, 204, 205, 206] (by decide +kernel) (by decide +kernel)
set_option maxRecDepth 20000 in
theorem gX11_judge_X3_firstMisjudged : GoodIn wsX11_judge (wsV RX11 361 RX3 yX3_firstMisjudged wsX3_firstMisjudged) := goodIn_app (goodIn_of _ (by decide +kernel)) ggX11_judge_X3_firstMisjudged
theorem dX11_judge_0 : decode cX11_judge 0 = .ok (.iload_n 1, 1) := by decide +kernel
theorem dX11_judge_1 : decode cX11_judge 1 = .ok (.invokestatic 326, 3) := by decide +kernel
theorem dX11_judge_4 : decode cX11_judge 4 = .ok (.ifCond .ne 10, 3) := by decide +kernel
theorem dX11_judge_7 : decode cX11_judge 7 = .ok (.aload_n 0, 1) := by decide +kernel
theorem dX11_judge_8 : decode cX11_judge 8 = .ok (.ldc 78, 2) := by decide +kernel
theorem dX11_judge_10 : decode cX11_judge 10 = .ok (.invokevirtual 79, 3) := by decide +kernel
theorem dX11_judge_13 : decode cX11_judge 13 = .ok (.ireturn, 1) := by decide +kernel
theorem dX11_judge_14 : decode cX11_judge 14 = .ok (.aload_n 0, 1) := by decide +kernel
theorem dX11_judge_15 : decode cX11_judge 15 = .ok (.getfield 41, 3) := by decide +kernel
theorem dX11_judge_18 : decode cX11_judge 18 = .ok (.iload_n 1, 1) := by decide +kernel
theorem dX11_judge_19 : decode cX11_judge 19 = .ok (.aaload, 1) := by decide +kernel
theorem dX11_judge_20 : decode cX11_judge 20 = .ok (.invokevirtual 334, 3) := by decide +kernel
theorem dX11_judge_23 : decode cX11_judge 23 = .ok (.ifCond .eq 11, 3) := by decide +kernel
theorem dX11_judge_26 : decode cX11_judge 26 = .ok (.aload_n 0, 1) := by decide +kernel
theorem dX11_judge_27 : decode cX11_judge 27 = .ok (.ldc_w 321, 3) := by decide +kernel
theorem dX11_judge_30 : decode cX11_judge 30 = .ok (.invokevirtual 79, 3) := by decide +kernel
theorem dX11_judge_33 : decode cX11_judge 33 = .ok (.ireturn, 1) := by decide +kernel
theorem dX11_judge_34 : decode cX11_judge 34 = .ok (.aload_n 0, 1) := by decide +kernel
theorem dX11_judge_35 : decode cX11_judge 35 = .ok (.getfield 54, 3) := by decide +kernel
theorem dX11_judge_38 : decode cX11_judge 38 = .ok (.aload_n 0, 1) := by decide +kernel
theorem dX11_judge_39 : decode cX11_judge 39 = .ok (.getfield 41, 3) := by decide +kernel
theorem dX11_judge_42 : decode cX11_judge 42 = .ok (.iload_n 1, 1) := by decide +kernel
theorem dX11_judge_43 : decode cX11_judge 43 = .ok (.aaload, 1) := by decide +kernel
theorem dX11_judge_44 : decode cX11_judge 44 = .ok (.invokevirtual 361, 3) := by decide +kernel
theorem dX11_judge_47 : decode cX11_judge 47 = .ok (.ireturn, 1) := by decide +kernel
set_option maxRecDepth 20000 in
theorem ggX11_image_X2_becomeLike : GoodIn wsX11_image wsX2_becomeLike := goodIn_r _ [8, 9, 10, 11, 12, 13, 14, 15, 16, 17, 18, 19, 20, 21, 22, 23, 24, 25, 26, 27, 28, 29, 30, 31, 32, 33, 34, 35, 36, 37, 38, 39, 40, 41, 42, 43, 44, 45, 46, 47, 48, 49, 50, 51, 52, 53, 54, 55, 56, 57, 58, 59, 60, 61, 62, 63, 64, 65, 66, 67, 68, 69, 70, 71, 72, 73, 74, 75, 76, 77, 78, 79, 80, 81, 82, 83, 84, 85, 86, 87, 88, 89, 90, 91, 92, 93, 103, 104, 105, 106, 107, 108, 109, 110, 111, 112, 113, 114, 115, 116, 117, 118, 119, 120, 121, 122, 123, 124, 125, 126, 127, 128, 129, 130, 131, 132, 133, 134, 135, 136, 137, 138, 139, 140, 141, 142, 143, 144, 145] (by decide +kernel) (by decide +kernel)
set_option maxRecDepth 20000 in
theorem gX11_image_X2_becomeLike : GoodIn wsX11_image (wsV RX11 365 RX2 yX2_becomeLike wsX2_becomeLike) := goodIn_app (goodIn_of _ (by decide +kernel)) ggX11_image_X2_becomeLike
theorem dX11_image_0 : decode cX11_image 0 = .ok (.aload_n 0, 1) := by decide +kernel
theorem dX11_image_1 : decode cX11_image 1 = .ok (.getfield 20, 3) := by decide +kernel
theorem dX11_image_4 : decode cX11_image 4 = .ok (.aload_n 0, 1) := by decide +kernel
theorem dX11_image_5 : decode cX11_image 5 = .ok (.getfield 16, 3) := by decide +kernel
theorem dX11_image_8 : decode cX11_image 8 = .ok (.invokevirtual 365, 3) := by decide +kernel
theorem dX11_image_11 : decode cX11_image 11 = .ok (.aload_n 0, 1) := by decide +kernel
theorem dX11_image_12 : decode cX11_image 12 = .ok (.iconst 1, 1) := by decide +kernel
theorem dX11_image_13 : decode cX11_image 13 = .ok (.putfield 369, 3) := by decide +kernel
theorem dX11_image_16 : decode cX11_image 16 = .ok (.iconst 1, 1) := by decide +kernel
theorem dX11_image_17 : decode cX11_image 17 = .ok (.ireturn, 1) := by decide +kernel
set_option maxRecDepth 20000 in
theorem ggX11_undo_X11_tell : GoodIn wsX11_undo wsX11_tell := goodIn_r _ [11, 12, 13, 104, 105, 106, 107, 108, 109, 110, 111, 112] (by decide +kernel) (by decide +kernel)
set_option maxRecDepth 20000 in
theorem gX11_undo_X11_tell : GoodIn wsX11_undo (wsV RX11 79 RX11 yX11_tell wsX11_tell) := goodIn_app (goodIn_of _ (by decide +kernel)) ggX11_undo_X11_tell
set_option maxRecDepth 20000 in
theorem ggX11_undo_X2_becomeLike : GoodIn wsX11_undo wsX2_becomeLike := goodIn_r _ [18, 19, 20, 21, 22, 23, 24, 25, 26, 27, 28, 29, 30, 31, 32, 33, 34, 35, 36, 37, 38, 39, 40, 41, 42, 43, 44, 45, 46, 47, 48, 49, 50, 51, 52, 53, 54, 55, 56, 57, 58, 59, 60, 61, 62, 63, 64, 65, 66, 67, 68, 69, 70, 71, 72, 73, 74, 75, 76, 77, 78, 79, 80, 81, 82, 83, 84, 85, 86, 87, 88, 89, 90, 91, 92, 93, 94, 95, 96, 97, 98, 99, 100, 101, 102, 103, 113, 114, 115, 116, 117, 118, 119, 120, 121, 122, 123, 124, 125, 126, 127, 128, 129, 130, 131, 132, 133, 134, 135, 136, 137, 138, 139, 140, 141, 142, 143, 144, 145, 146, 147, 148, 149, 150, 151, 152, 153, 154, 155] (by decide +kernel) (by decide +kernel)
set_option maxRecDepth 20000 in
theorem gX11_undo_X2_becomeLike : GoodIn wsX11_undo (wsV RX11 365 RX2 yX2_becomeLike wsX2_becomeLike) := goodIn_app (goodIn_of _ (by decide +kernel)) ggX11_undo_X2_becomeLike
theorem dX11_undo_0 : decode cX11_undo 0 = .ok (.aload_n 0, 1) := by decide +kernel
theorem dX11_undo_1 : decode cX11_undo 1 = .ok (.getfield 369, 3) := by decide +kernel
theorem dX11_undo_4 : decode cX11_undo 4 = .ok (.ifCond .ne 10, 3) := by decide +kernel
theorem dX11_undo_7 : decode cX11_undo 7 = .ok (.aload_n 0, 1) := by decide +kernel
theorem dX11_undo_8 : decode cX11_undo 8 = .ok (.ldc 191, 2) := by decide +kernel
theorem dX11_undo_10 : decode cX11_undo 10 = .ok (.invokevirtual 79, 3) := by decide +kernel
theorem dX11_undo_13 : decode cX11_undo 13 = .ok (.ireturn, 1) := by decide +kernel
theorem dX11_undo_14 : decode cX11_undo 14 = .ok (.aload_n 0, 1) := by decide +kernel
theorem dX11_undo_15 : decode cX11_undo 15 = .ok (.getfield 16, 3) := by decide +kernel
theorem dX11_undo_18 : decode cX11_undo 18 = .ok (.aload_n 0, 1) := by decide +kernel
theorem dX11_undo_19 : decode cX11_undo 19 = .ok (.getfield 20, 3) := by decide +kernel
theorem dX11_undo_22 : decode cX11_undo 22 = .ok (.invokevirtual 365, 3) := by decide +kernel
theorem dX11_undo_25 : decode cX11_undo 25 = .ok (.aload_n 0, 1) := by decide +kernel
theorem dX11_undo_26 : decode cX11_undo 26 = .ok (.getfield 16, 3) := by decide +kernel
theorem dX11_undo_29 : decode cX11_undo 29 = .ok (.getfield 47, 3) := by decide +kernel
theorem dX11_undo_32 : decode cX11_undo 32 = .ok (.getfield 162, 3) := by decide +kernel
theorem dX11_undo_35 : decode cX11_undo 35 = .ok (.ireturn, 1) := by decide +kernel
set_option maxRecDepth 20000 in
theorem ggX11_tear_X11_bit : GoodIn wsX11_tear wsX11_bit := goodIn_r _ [5] (by decide +kernel) (by decide +kernel)
set_option maxRecDepth 20000 in
theorem gX11_tear_X11_bit : GoodIn wsX11_tear (va_wsS RX11 144 yX11_bit wsX11_bit) := goodIn_app (goodIn_of _ (by decide +kernel)) ggX11_tear_X11_bit
theorem dX11_tear_0 : decode cX11_tear 0 = .ok (.aload_n 0, 1) := by decide +kernel
theorem dX11_tear_1 : decode cX11_tear 1 = .ok (.getfield 369, 3) := by decide +kernel
theorem dX11_tear_4 : decode cX11_tear 4 = .ok (.invokestatic 144, 3) := by decide +kernel
theorem dX11_tear_7 : decode cX11_tear 7 = .ok (.istore_n 1, 1) := by decide +kernel
theorem dX11_tear_8 : decode cX11_tear 8 = .ok (.aload_n 0, 1) := by decide +kernel
theorem dX11_tear_9 : decode cX11_tear 9 = .ok (.iconst 0, 1) := by decide +kernel
theorem dX11_tear_10 : decode cX11_tear 10 = .ok (.putfield 369, 3) := by decide +kernel
theorem dX11_tear_13 : decode cX11_tear 13 = .ok (.iload_n 1, 1) := by decide +kernel
theorem dX11_tear_14 : decode cX11_tear 14 = .ok (.ireturn, 1) := by decide +kernel
set_option maxRecDepth 20000 in
theorem ggX11_count_X4_logged : GoodIn wsX11_count wsX4_logged := goodIn_r _ [20, 21, 22, 23, 24, 25, 82, 83, 84, 85, 86, 87, 88, 89, 90, 91, 92] (by decide +kernel) (by decide +kernel)
set_option maxRecDepth 20000 in
theorem gX11_count_X4_logged : GoodIn wsX11_count (wsV RX11 184 RX4 yX4_logged wsX4_logged) := goodIn_app (goodIn_of _ (by decide +kernel)) ggX11_count_X4_logged
set_option maxRecDepth 20000 in
theorem ggX11_count_J6_bitCount_0f7a4 : GoodIn wsX11_count wsJ6_bitCount_0f7a4 := goodIn_r _ [29, 30, 31, 32] (by decide +kernel) (by decide +kernel)
set_option maxRecDepth 20000 in
theorem gX11_count_J6_bitCount_0f7a4 : GoodIn wsX11_count (va_wsS RX11 372 yJ6_bitCount_0f7a4 wsJ6_bitCount_0f7a4) := goodIn_app (goodIn_of _ (by decide +kernel)) ggX11_count_J6_bitCount_0f7a4
set_option maxRecDepth 20000 in
theorem ggX11_count_X11_tell : GoodIn wsX11_count wsX11_tell := goodIn_r _ [37, 38, 15, 39, 40, 41, 42, 43, 44, 45, 46, 47] (by decide +kernel) (by decide +kernel)
set_option maxRecDepth 20000 in
theorem gX11_count_X11_tell : GoodIn wsX11_count (wsV RX11 79 RX11 yX11_tell wsX11_tell) := goodIn_app (goodIn_of _ (by decide +kernel)) ggX11_count_X11_tell
theorem dX11_count_0 : decode cX11_count 0 = .ok (.iload_n 1, 1) := by decide +kernel
theorem dX11_count_1 : decode cX11_count 1 = .ok (.tableswitch 144 0 7 #[47, 61, 75, 86, 100, 111, 119, 127], 47) := by decide +kernel
theorem dX11_count_48 : decode cX11_count 48 = .ok (.aload_n 0, 1) := by decide +kernel
theorem dX11_count_49 : decode cX11_count 49 = .ok (.getfield 16, 3) := by decide +kernel
theorem dX11_count_52 : decode cX11_count 52 = .ok (.getfield 47, 3) := by decide +kernel
theorem dX11_count_55 : decode cX11_count 55 = .ok (.getfield 83, 3) := by decide +kernel
theorem dX11_count_58 : decode cX11_count 58 = .ok (.getfield 87, 3) := by decide +kernel
theorem dX11_count_61 : decode cX11_count 61 = .ok (.ireturn, 1) := by decide +kernel
theorem dX11_count_62 : decode cX11_count 62 = .ok (.aload_n 0, 1) := by decide +kernel
theorem dX11_count_63 : decode cX11_count 63 = .ok (.getfield 16, 3) := by decide +kernel
theorem dX11_count_66 : decode cX11_count 66 = .ok (.getfield 47, 3) := by decide +kernel
theorem dX11_count_69 : decode cX11_count 69 = .ok (.getfield 60, 3) := by decide +kernel
theorem dX11_count_72 : decode cX11_count 72 = .ok (.getfield 198, 3) := by decide +kernel
theorem dX11_count_75 : decode cX11_count 75 = .ok (.ireturn, 1) := by decide +kernel
