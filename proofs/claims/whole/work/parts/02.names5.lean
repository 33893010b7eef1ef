set_option maxRecDepth 20000 in
theorem gX12_load_X12_goes : GoodIn wsX12_load (wsV RX12 92 RX12 yX12_goes wsX12_goes) := goodIn_app (goodIn_of _ (by decide +kernel)) ggX12_load_X12_goes
theorem dX12_load_0 : decode cX12_load 0 = .ok (.aload_n 0, 1) := by decide +kernel
theorem dX12_load_1 : decode cX12_load 1 = .ok (.iload_n 1, 1) := by decide +kernel
theorem dX12_load_2 : decode cX12_load 2 = .ok (.invokevirtual 244, 3) := by decide +kernel
theorem dX12_load_5 : decode cX12_load 5 = .ok (.istore_n 2, 1) := by decide +kernel
theorem dX12_load_6 : decode cX12_load 6 = .ok (.iload_n 2, 1) := by decide +kernel
theorem dX12_load_7 : decode cX12_load 7 = .ok (.ifCond .lt 9, 3) := by decide +kernel
theorem dX12_load_10 : decode cX12_load 10 = .ok (.aload_n 0, 1) := by decide +kernel
theorem dX12_load_11 : decode cX12_load 11 = .ok (.iload_n 2, 1) := by decide +kernel
theorem dX12_load_12 : decode cX12_load 12 = .ok (.invokevirtual 52, 3) := by decide +kernel
theorem dX12_load_15 : decode cX12_load 15 = .ok (.ireturn, 1) := by decide +kernel
theorem dX12_load_16 : decode cX12_load 16 = .ok (.iconst 0, 1) := by decide +kernel
theorem dX12_load_17 : decode cX12_load 17 = .ok (.istore_n 3, 1) := by decide +kernel
theorem dX12_load_18 : decode cX12_load 18 = .ok (.iload_n 3, 1) := by decide +kernel
theorem dX12_load_19 : decode cX12_load 19 = .ok (.aload_n 0, 1) := by decide +kernel
theorem dX12_load_20 : decode cX12_load 20 = .ok (.getfield 34, 3) := by decide +kernel
theorem dX12_load_23 : decode cX12_load 23 = .ok (.iload_n 1, 1) := by decide +kernel
theorem dX12_load_24 : decode cX12_load 24 = .ok (.iaload, 1) := by decide +kernel
theorem dX12_load_25 : decode cX12_load 25 = .ok (.if_icmp .ge 50, 3) := by decide +kernel
theorem dX12_load_28 : decode cX12_load 28 = .ok (.aload_n 0, 1) := by decide +kernel
theorem dX12_load_29 : decode cX12_load 29 = .ok (.getfield 37, 3) := by decide +kernel
theorem dX12_load_32 : decode cX12_load 32 = .ok (.bipush 40, 2) := by decide +kernel
theorem dX12_load_34 : decode cX12_load 34 = .ok (.iload_n 1, 1) := by decide +kernel
theorem dX12_load_35 : decode cX12_load 35 = .ok (.imul, 1) := by decide +kernel
theorem dX12_load_36 : decode cX12_load 36 = .ok (.iload_n 3, 1) := by decide +kernel
theorem dX12_load_37 : decode cX12_load 37 = .ok (.iadd, 1) := by decide +kernel
theorem dX12_load_38 : decode cX12_load 38 = .ok (.iaload, 1) := by decide +kernel
theorem dX12_load_39 : decode cX12_load 39 = .ok (.iconst 0, 1) := by decide +kernel
theorem dX12_load_40 : decode cX12_load 40 = .ok (.bipush 99, 2) := by decide +kernel
theorem dX12_load_42 : decode cX12_load 42 = .ok (.invokestatic 48, 3) := by decide +kernel
theorem dX12_load_45 : decode cX12_load 45 = .ok (.ifCond .eq 30, 3) := by decide +kernel
theorem dX12_load_48 : decode cX12_load 48 = .ok (.aload_n 0, 1) := by decide +kernel
theorem dX12_load_49 : decode cX12_load 49 = .ok (.getfield 7, 3) := by decide +kernel
theorem dX12_load_52 : decode cX12_load 52 = .ok (.iconst 0, 1) := by decide +kernel
theorem dX12_load_53 : decode cX12_load 53 = .ok (.aload_n 0, 1) := by decide +kernel
theorem dX12_load_54 : decode cX12_load 54 = .ok (.getfield 37, 3) := by decide +kernel
theorem dX12_load_57 : decode cX12_load 57 = .ok (.bipush 40, 2) := by decide +kernel
theorem dX12_load_59 : decode cX12_load 59 = .ok (.iload_n 1, 1) := by decide +kernel
theorem dX12_load_60 : decode cX12_load 60 = .ok (.imul, 1) := by decide +kernel
theorem dX12_load_61 : decode cX12_load 61 = .ok (.iload_n 3, 1) := by decide +kernel
theorem dX12_load_62 : decode cX12_load 62 = .ok (.iadd, 1) := by decide +kernel
theorem dX12_load_63 : decode cX12_load 63 = .ok (.iaload, 1) := by decide +kernel
theorem dX12_load_64 : decode cX12_load 64 = .ok (.iastore, 1) := by decide +kernel
theorem dX12_load_65 : decode cX12_load 65 = .ok (.aload_n 0, 1) := by decide +kernel
theorem dX12_load_66 : decode cX12_load 66 = .ok (.invokevirtual 92, 3) := by decide +kernel
theorem dX12_load_69 : decode cX12_load 69 = .ok (.iinc 3 1, 3) := by decide +kernel
theorem dX12_load_72 : decode cX12_load 72 = .ok (.goto (-54), 3) := by decide +kernel
theorem dX12_load_75 : decode cX12_load 75 = .ok (.iload_n 3, 1) := by decide +kernel
theorem dX12_load_76 : decode cX12_load 76 = .ok (.ireturn, 1) := by decide +kernel
set_option maxRecDepth 20000 in
theorem ggX12_judge_X12_lacks : GoodIn wsX12_judge wsX12_lacks := goodIn_r _ [8, 9, 10, 11, 7, 12, 13, 14, 15, 70, 71, 72, 73, 74, 75, 76, 77, 78, 79, 80, 81, 82, 83, 84, 85, 86, 87, 88] (by decide +kernel) (by decide +kernel)
set_option maxRecDepth 20000 in
theorem gX12_judge_X12_lacks : GoodIn wsX12_judge (wsV RX12 244 RX12 yX12_lacks wsX12_lacks) := goodIn_app (goodIn_of _ (by decide +kernel)) ggX12_judge_X12_lacks
set_option maxRecDepth 20000 in
theorem ggX12_judge_X12_finding : GoodIn wsX12_judge wsX12_finding := goodIn_r _ [19, 20, 21, 70, 71, 72, 73, 74, 75, 76, 77, 78, 79, 80, 81, 82, 83, 84, 85, 86, 87, 88] (by decide +kernel) (by decide +kernel)
set_option maxRecDepth 20000 in
theorem gX12_judge_X12_finding : GoodIn wsX12_judge (wsV RX12 52 RX12 yX12_finding wsX12_finding) := goodIn_app (goodIn_of _ (by decide +kernel)) ggX12_judge_X12_finding
set_option maxRecDepth 20000 in
theorem ggX12_judge_X12_begin : GoodIn wsX12_judge wsX12_begin := goodIn_r _ [25, 2, 26, 27, 28, 7, 29, 70, 71, 72, 73, 74, 75, 76, 77, 78, 79, 80, 81, 82, 83, 84, 85, 86, 87, 88] (by decide +kernel) (by decide +kernel)
set_option maxRecDepth 20000 in
theorem gX12_judge_X12_begin : GoodIn wsX12_judge (wsV RX12 199 RX12 yX12_begin wsX12_begin) := goodIn_app (goodIn_of _ (by decide +kernel)) ggX12_judge_X12_begin
set_option maxRecDepth 20000 in
theorem ggX12_judge_X12_goes : GoodIn wsX12_judge wsX12_goes := goodIn_r _ [33, 2, 34, 35, 36, 7, 37, 38, 39, 40, 41, 42, 43, 44, 45, 46, 47, 48, 49, 50, 51, 52, 53, 54, 55, 56, 57, 58, 59, 60, 61, 62, 63, 64, 65, 70, 71, 72, 73, 74, 75, 76, 77, 78, 79, 80, 81, 82, 83, 84, 85, 86, 87, 88] (by decide +kernel) (by decide +kernel)
set_option maxRecDepth 20000 in
theorem gX12_judge_X12_goes : GoodIn wsX12_judge (wsV RX12 92 RX12 yX12_goes wsX12_goes) := goodIn_app (goodIn_of _ (by decide +kernel)) ggX12_judge_X12_goes
set_option maxRecDepth 20000 in
theorem ggX12_judge_X12_layBack : GoodIn wsX12_judge wsX12_layBack := goodIn_r _ [69, 26, 2, 27, 28, 7, 29, 70, 71, 72, 73, 74, 75, 76, 77, 78, 79, 80, 81, 82, 83, 84, 85, 86, 87, 88] (by decide +kernel) (by decide +kernel)
set_option maxRecDepth 20000 in
theorem gX12_judge_X12_layBack : GoodIn wsX12_judge (wsV RX12 196 RX12 yX12_layBack wsX12_layBack) := goodIn_app (goodIn_of _ (by decide +kernel)) ggX12_judge_X12_layBack
theorem dX12_judge_0 : decode cX12_judge 0 = .ok (.aload_n 0, 1) := by decide +kernel
theorem dX12_judge_1 : decode cX12_judge 1 = .ok (.iload_n 1, 1) := by decide +kernel
theorem dX12_judge_2 : decode cX12_judge 2 = .ok (.invokevirtual 244, 3) := by decide +kernel
theorem dX12_judge_5 : decode cX12_judge 5 = .ok (.istore_n 2, 1) := by decide +kernel
theorem dX12_judge_6 : decode cX12_judge 6 = .ok (.iload_n 2, 1) := by decide +kernel
theorem dX12_judge_7 : decode cX12_judge 7 = .ok (.ifCond .lt 9, 3) := by decide +kernel
theorem dX12_judge_10 : decode cX12_judge 10 = .ok (.aload_n 0, 1) := by decide +kernel
theorem dX12_judge_11 : decode cX12_judge 11 = .ok (.iload_n 2, 1) := by decide +kernel
theorem dX12_judge_12 : decode cX12_judge 12 = .ok (.invokevirtual 52, 3) := by decide +kernel
theorem dX12_judge_15 : decode cX12_judge 15 = .ok (.ireturn, 1) := by decide +kernel
theorem dX12_judge_16 : decode cX12_judge 16 = .ok (.aload_n 0, 1) := by decide +kernel
theorem dX12_judge_17 : decode cX12_judge 17 = .ok (.invokevirtual 199, 3) := by decide +kernel
theorem dX12_judge_20 : decode cX12_judge 20 = .ok (.iconst 0, 1) := by decide +kernel
theorem dX12_judge_21 : decode cX12_judge 21 = .ok (.istore_n 3, 1) := by decide +kernel
theorem dX12_judge_22 : decode cX12_judge 22 = .ok (.iconst 1, 1) := by decide +kernel
theorem dX12_judge_23 : decode cX12_judge 23 = .ok (.istore 4, 2) := by decide +kernel
theorem dX12_judge_25 : decode cX12_judge 25 = .ok (.iload_n 3, 1) := by decide +kernel
theorem dX12_judge_26 : decode cX12_judge 26 = .ok (.aload_n 0, 1) := by decide +kernel
theorem dX12_judge_27 : decode cX12_judge 27 = .ok (.getfield 34, 3) := by decide +kernel
theorem dX12_judge_30 : decode cX12_judge 30 = .ok (.iload_n 1, 1) := by decide +kernel
theorem dX12_judge_31 : decode cX12_judge 31 = .ok (.iaload, 1) := by decide +kernel
theorem dX12_judge_32 : decode cX12_judge 32 = .ok (.if_icmp .ge 55, 3) := by decide +kernel
theorem dX12_judge_35 : decode cX12_judge 35 = .ok (.iload 4, 2) := by decide +kernel
theorem dX12_judge_37 : decode cX12_judge 37 = .ok (.ifCond .eq 50, 3) := by decide +kernel
theorem dX12_judge_40 : decode cX12_judge 40 = .ok (.aload_n 0, 1) := by decide +kernel
theorem dX12_judge_41 : decode cX12_judge 41 = .ok (.invokevirtual 92, 3) := by decide +kernel
theorem dX12_judge_44 : decode cX12_judge 44 = .ok (.aload_n 0, 1) := by decide +kernel
theorem dX12_judge_45 : decode cX12_judge 45 = .ok (.getfield 7, 3) := by decide +kernel
theorem dX12_judge_48 : decode cX12_judge 48 = .ok (.iconst 2, 1) := by decide +kernel
theorem dX12_judge_49 : decode cX12_judge 49 = .ok (.iaload, 1) := by decide +kernel
theorem dX12_judge_50 : decode cX12_judge 50 = .ok (.aload_n 0, 1) := by decide +kernel
theorem dX12_judge_51 : decode cX12_judge 51 = .ok (.getfield 37, 3) := by decide +kernel
theorem dX12_judge_54 : decode cX12_judge 54 = .ok (.bipush 40, 2) := by decide +kernel
theorem dX12_judge_56 : decode cX12_judge 56 = .ok (.iload_n 1, 1) := by decide +kernel
theorem dX12_judge_57 : decode cX12_judge 57 = .ok (.imul, 1) := by decide +kernel
theorem dX12_judge_58 : decode cX12_judge 58 = .ok (.iload_n 3, 1) := by decide +kernel
theorem dX12_judge_59 : decode cX12_judge 59 = .ok (.iadd, 1) := by decide +kernel
theorem dX12_judge_60 : decode cX12_judge 60 = .ok (.iaload, 1) := by decide +kernel
theorem dX12_judge_61 : decode cX12_judge 61 = .ok (.if_icmp .ne 7, 3) := by decide +kernel
theorem dX12_judge_64 : decode cX12_judge 64 = .ok (.iconst 1, 1) := by decide +kernel
theorem dX12_judge_65 : decode cX12_judge 65 = .ok (.goto 4, 3) := by decide +kernel
theorem dX12_judge_68 : decode cX12_judge 68 = .ok (.iconst 0, 1) := by decide +kernel
theorem dX12_judge_69 : decode cX12_judge 69 = .ok (.istore 4, 2) := by decide +kernel
theorem dX12_judge_71 : decode cX12_judge 71 = .ok (.iload_n 3, 1) := by decide +kernel
theorem dX12_judge_72 : decode cX12_judge 72 = .ok (.iload 4, 2) := by decide +kernel
theorem dX12_judge_74 : decode cX12_judge 74 = .ok (.ifCond .eq 7, 3) := by decide +kernel
theorem dX12_judge_77 : decode cX12_judge 77 = .ok (.iconst 1, 1) := by decide +kernel
theorem dX12_judge_78 : decode cX12_judge 78 = .ok (.goto 4, 3) := by decide +kernel
theorem dX12_judge_81 : decode cX12_judge 81 = .ok (.iconst 0, 1) := by decide +kernel
theorem dX12_judge_82 : decode cX12_judge 82 = .ok (.iadd, 1) := by decide +kernel
theorem dX12_judge_83 : decode cX12_judge 83 = .ok (.istore_n 3, 1) := by decide +kernel
theorem dX12_judge_84 : decode cX12_judge 84 = .ok (.goto (-59), 3) := by decide +kernel
theorem dX12_judge_87 : decode cX12_judge 87 = .ok (.aload_n 0, 1) := by decide +kernel
theorem dX12_judge_88 : decode cX12_judge 88 = .ok (.invokevirtual 196, 3) := by decide +kernel
theorem dX12_judge_91 : decode cX12_judge 91 = .ok (.iload 4, 2) := by decide +kernel
theorem dX12_judge_93 : decode cX12_judge 93 = .ok (.ifCond .eq 7, 3) := by decide +kernel
theorem dX12_judge_96 : decode cX12_judge 96 = .ok (.iconst 0, 1) := by decide +kernel
theorem dX12_judge_97 : decode cX12_judge 97 = .ok (.goto 6, 3) := by decide +kernel
theorem dX12_judge_100 : decode cX12_judge 100 = .ok (.iconst 1, 1) := by decide +kernel
theorem dX12_judge_101 : decode cX12_judge 101 = .ok (.iload_n 3, 1) := by decide +kernel
theorem dX12_judge_102 : decode cX12_judge 102 = .ok (.iadd, 1) := by decide +kernel
theorem dX12_judge_103 : decode cX12_judge 103 = .ok (.ireturn, 1) := by decide +kernel
set_option maxRecDepth 20000 in
theorem ggX12_image_X12_lay : GoodIn wsX12_image wsX12_lay := goodIn_r _ [7] (by decide +kernel) (by decide +kernel)
set_option maxRecDepth 20000 in
theorem gX12_image_X12_lay : GoodIn wsX12_image (va_wsS RX12 44 yX12_lay wsX12_lay) := goodIn_app (goodIn_of _ (by decide +kernel)) ggX12_image_X12_lay
theorem dX12_image_0 : decode cX12_image 0 = .ok (.aload_n 0, 1) := by decide +kernel
theorem dX12_image_1 : decode cX12_image 1 = .ok (.getfield 7, 3) := by decide +kernel
theorem dX12_image_4 : decode cX12_image 4 = .ok (.aload_n 0, 1) := by decide +kernel
theorem dX12_image_5 : decode cX12_image 5 = .ok (.getfield 13, 3) := by decide +kernel
theorem dX12_image_8 : decode cX12_image 8 = .ok (.invokestatic 44, 3) := by decide +kernel
theorem dX12_image_11 : decode cX12_image 11 = .ok (.aload_n 0, 1) := by decide +kernel
theorem dX12_image_12 : decode cX12_image 12 = .ok (.iconst 1, 1) := by decide +kernel
theorem dX12_image_13 : decode cX12_image 13 = .ok (.putfield 247, 3) := by decide +kernel
theorem dX12_image_16 : decode cX12_image 16 = .ok (.iconst 1, 1) := by decide +kernel
theorem dX12_image_17 : decode cX12_image 17 = .ok (.ireturn, 1) := by decide +kernel
set_option maxRecDepth 20000 in
theorem ggX12_undo_X12_finding : GoodIn wsX12_undo wsX12_finding := goodIn_r _ [8, 9, 10, 14, 15, 16, 17, 18, 19, 20, 21, 22, 23, 24, 25, 26, 27, 28, 29, 30, 31, 32] (by decide +kernel) (by decide +kernel)
set_option maxRecDepth 20000 in
theorem gX12_undo_X12_finding : GoodIn wsX12_undo (wsV RX12 52 RX12 yX12_finding wsX12_finding) := goodIn_app (goodIn_of _ (by decide +kernel)) ggX12_undo_X12_finding
set_option maxRecDepth 20000 in
theorem ggX12_undo_X12_lay : GoodIn wsX12_undo wsX12_lay := goodIn_r _ [13] (by decide +kernel) (by decide +kernel)
set_option maxRecDepth 20000 in
theorem gX12_undo_X12_lay : GoodIn wsX12_undo (va_wsS RX12 44 yX12_lay wsX12_lay) := goodIn_app (goodIn_of _ (by decide +kernel)) ggX12_undo_X12_lay
theorem dX12_undo_0 : decode cX12_undo 0 = .ok (.aload_n 0, 1) := by decide +kernel
theorem dX12_undo_1 : decode cX12_undo 1 = .ok (.getfield 247, 3) := by decide +kernel
theorem dX12_undo_4 : decode cX12_undo 4 = .ok (.ifCond .ne 9, 3) := by decide +kernel
theorem dX12_undo_7 : decode cX12_undo 7 = .ok (.aload_n 0, 1) := by decide +kernel
theorem dX12_undo_8 : decode cX12_undo 8 = .ok (.iconst 3, 1) := by decide +kernel
theorem dX12_undo_9 : decode cX12_undo 9 = .ok (.invokevirtual 52, 3) := by decide +kernel
theorem dX12_undo_12 : decode cX12_undo 12 = .ok (.ireturn, 1) := by decide +kernel
theorem dX12_undo_13 : decode cX12_undo 13 = .ok (.aload_n 0, 1) := by decide +kernel
theorem dX12_undo_14 : decode cX12_undo 14 = .ok (.getfield 13, 3) := by decide +kernel
theorem dX12_undo_17 : decode cX12_undo 17 = .ok (.aload_n 0, 1) := by decide +kernel
theorem dX12_undo_18 : decode cX12_undo 18 = .ok (.getfield 7, 3) := by decide +kernel
theorem dX12_undo_21 : decode cX12_undo 21 = .ok (.invokestatic 44, 3) := by decide +kernel
theorem dX12_undo_24 : decode cX12_undo 24 = .ok (.aload_n 0, 1) := by decide +kernel
theorem dX12_undo_25 : decode cX12_undo 25 = .ok (.getfield 7, 3) := by decide +kernel
theorem dX12_undo_28 : decode cX12_undo 28 = .ok (.bipush 8, 2) := by decide +kernel
theorem dX12_undo_30 : decode cX12_undo 30 = .ok (.iaload, 1) := by decide +kernel
theorem dX12_undo_31 : decode cX12_undo 31 = .ok (.ireturn, 1) := by decide +kernel
theorem dX12_tear_0 : decode cX12_tear 0 = .ok (.aload_n 0, 1) := by decide +kernel
theorem dX12_tear_1 : decode cX12_tear 1 = .ok (.getfield 247, 3) := by decide +kernel
theorem dX12_tear_4 : decode cX12_tear 4 = .ok (.ifCond .eq 7, 3) := by decide +kernel
theorem dX12_tear_7 : decode cX12_tear 7 = .ok (.iconst 1, 1) := by decide +kernel
theorem dX12_tear_8 : decode cX12_tear 8 = .ok (.goto 4, 3) := by decide +kernel
theorem dX12_tear_11 : decode cX12_tear 11 = .ok (.iconst 0, 1) := by decide +kernel
theorem dX12_tear_12 : decode cX12_tear 12 = .ok (.istore_n 1, 1) := by decide +kernel
theorem dX12_tear_13 : decode cX12_tear 13 = .ok (.aload_n 0, 1) := by decide +kernel
theorem dX12_tear_14 : decode cX12_tear 14 = .ok (.iconst 0, 1) := by decide +kernel
theorem dX12_tear_15 : decode cX12_tear 15 = .ok (.putfield 247, 3) := by decide +kernel
theorem dX12_tear_18 : decode cX12_tear 18 = .ok (.iload_n 1, 1) := by decide +kernel
theorem dX12_tear_19 : decode cX12_tear 19 = .ok (.ireturn, 1) := by decide +kernel
set_option maxRecDepth 20000 in
theorem ggX12_count_X12_logged : GoodIn wsX12_count wsX12_logged := goodIn_r _ [7, 1, 18, 19, 20, 21, 22, 23, 24, 25, 26, 27, 28, 29, 30, 31, 32, 33, 34, 35, 36] (by decide +kernel) (by decide +kernel)
set_option maxRecDepth 20000 in
theorem gX12_count_X12_logged : GoodIn wsX12_count (wsV RX12 103 RX12 yX12_logged wsX12_logged) := goodIn_app (goodIn_of _ (by decide +kernel)) ggX12_count_X12_logged
set_option maxRecDepth 20000 in
theorem ggX12_count_X12_thingIts : GoodIn wsX12_count wsX12_thingIts := goodIn_r _ [11, 1, 18, 19, 20, 21, 22, 23, 24, 25, 26, 27, 28, 29, 30, 31, 32, 33, 34, 35, 36] (by decide +kernel) (by decide +kernel)
set_option maxRecDepth 20000 in
theorem gX12_count_X12_thingIts : GoodIn wsX12_count (wsV RX12 89 RX12 yX12_thingIts wsX12_thingIts) := goodIn_app (goodIn_of _ (by decide +kernel)) ggX12_count_X12_thingIts
set_option maxRecDepth 20000 in
theorem ggX12_count_X12_finding : GoodIn wsX12_count wsX12_finding := goodIn_r _ [15, 16, 17, 18, 19, 20, 21, 22, 23, 24, 25, 26, 27, 28, 29, 30, 31, 32, 33, 34, 35, 36] (by decide +kernel) (by decide +kernel)
set_option maxRecDepth 20000 in
theorem gX12_count_X12_finding : GoodIn wsX12_count (wsV RX12 52 RX12 yX12_finding wsX12_finding) := goodIn_app (goodIn_of _ (by decide +kernel)) ggX12_count_X12_finding
theorem dX12_count_0 : decode cX12_count 0 = .ok (.iload_n 1, 1) := by decide +kernel
theorem dX12_count_1 : decode cX12_count 1 = .ok (.tableswitch 129 0 7 #[47, 55, 63, 71, 76, 84, 89, 97], 47) := by decide +kernel
theorem dX12_count_48 : decode cX12_count 48 = .ok (.aload_n 0, 1) := by decide +kernel
theorem dX12_count_49 : decode cX12_count 49 = .ok (.getfield 7, 3) := by decide +kernel
theorem dX12_count_52 : decode cX12_count 52 = .ok (.bipush 16, 2) := by decide +kernel
theorem dX12_count_54 : decode cX12_count 54 = .ok (.iaload, 1) := by decide +kernel
theorem dX12_count_55 : decode cX12_count 55 = .ok (.ireturn, 1) := by decide +kernel
theorem dX12_count_56 : decode cX12_count 56 = .ok (.aload_n 0, 1) := by decide +kernel
theorem dX12_count_57 : decode cX12_count 57 = .ok (.getfield 7, 3) := by decide +kernel
theorem dX12_count_60 : decode cX12_count 60 = .ok (.bipush 17, 2) := by decide +kernel
theorem dX12_count_62 : decode cX12_count 62 = .ok (.iaload, 1) := by decide +kernel
theorem dX12_count_63 : decode cX12_count 63 = .ok (.ireturn, 1) := by decide +kernel
theorem dX12_count_64 : decode cX12_count 64 = .ok (.aload_n 0, 1) := by decide +kernel
theorem dX12_count_65 : decode cX12_count 65 = .ok (.getfield 7, 3) := by decide +kernel
theorem dX12_count_68 : decode cX12_count 68 = .ok (.bipush 18, 2) := by decide +kernel
theorem dX12_count_70 : decode cX12_count 70 = .ok (.iaload, 1) := by decide +kernel
theorem dX12_count_71 : decode cX12_count 71 = .ok (.ireturn, 1) := by decide +kernel
theorem dX12_count_72 : decode cX12_count 72 = .ok (.aload_n 0, 1) := by decide +kernel
theorem dX12_count_73 : decode cX12_count 73 = .ok (.invokevirtual 103, 3) := by decide +kernel
theorem dX12_count_76 : decode cX12_count 76 = .ok (.ireturn, 1) := by decide +kernel
theorem dX12_count_77 : decode cX12_count 77 = .ok (.aload_n 0, 1) := by decide +kernel
theorem dX12_count_78 : decode cX12_count 78 = .ok (.getfield 7, 3) := by decide +kernel
theorem dX12_count_81 : decode cX12_count 81 = .ok (.bipush 19, 2) := by decide +kernel
theorem dX12_count_83 : decode cX12_count 83 = .ok (.iaload, 1) := by decide +kernel
theorem dX12_count_84 : decode cX12_count 84 = .ok (.ireturn, 1) := by decide +kernel
theorem dX12_count_85 : decode cX12_count 85 = .ok (.aload_n 0, 1) := by decide +kernel
theorem dX12_count_86 : decode cX12_count 86 = .ok (.getfield 110, 3) := by decide +kernel
theorem dX12_count_89 : decode cX12_count 89 = .ok (.ireturn, 1) := by decide +kernel
theorem dX12_count_90 : decode cX12_count 90 = .ok (.aload_n 0, 1) := by decide +kernel
theorem dX12_count_91 : decode cX12_count 91 = .ok (.getfield 7, 3) := by decide +kernel
theorem dX12_count_94 : decode cX12_count 94 = .ok (.bipush 20, 2) := by decide +kernel
theorem dX12_count_96 : decode cX12_count 96 = .ok (.iaload, 1) := by decide +kernel
theorem dX12_count_97 : decode cX12_count 97 = .ok (.ireturn, 1) := by decide +kernel
theorem dX12_count_98 : decode cX12_count 98 = .ok (.iconst 0, 1) := by decide +kernel
theorem dX12_count_99 : decode cX12_count 99 = .ok (.istore_n 2, 1) := by decide +kernel
theorem dX12_count_100 : decode cX12_count 100 = .ok (.iconst 0, 1) := by decide +kernel
theorem dX12_count_101 : decode cX12_count 101 = .ok (.istore_n 3, 1) := by decide +kernel
theorem dX12_count_102 : decode cX12_count 102 = .ok (.iload_n 3, 1) := by decide +kernel
theorem dX12_count_103 : decode cX12_count 103 = .ok (.aload_n 0, 1) := by decide +kernel
theorem dX12_count_104 : decode cX12_count 104 = .ok (.getfield 7, 3) := by decide +kernel
theorem dX12_count_107 : decode cX12_count 107 = .ok (.bipush 17, 2) := by decide +kernel
theorem dX12_count_109 : decode cX12_count 109 = .ok (.iaload, 1) := by decide +kernel
theorem dX12_count_110 : decode cX12_count 110 = .ok (.if_icmp .ge 18, 3) := by decide +kernel
theorem dX12_count_113 : decode cX12_count 113 = .ok (.iload_n 2, 1) := by decide +kernel
theorem dX12_count_114 : decode cX12_count 114 = .ok (.aload_n 0, 1) := by decide +kernel
theorem dX12_count_115 : decode cX12_count 115 = .ok (.iload_n 3, 1) := by decide +kernel
theorem dX12_count_116 : decode cX12_count 116 = .ok (.iconst 3, 1) := by decide +kernel
theorem dX12_count_117 : decode cX12_count 117 = .ok (.invokevirtual 89, 3) := by decide +kernel
theorem dX12_count_120 : decode cX12_count 120 = .ok (.iadd, 1) := by decide +kernel
theorem dX12_count_121 : decode cX12_count 121 = .ok (.istore_n 2, 1) := by decide +kernel
theorem dX12_count_122 : decode cX12_count 122 = .ok (.iinc 3 1, 3) := by decide +kernel
theorem dX12_count_125 : decode cX12_count 125 = .ok (.goto (-23), 3) := by decide +kernel
theorem dX12_count_128 : decode cX12_count 128 = .ok (.iload_n 2, 1) := by decide +kernel
theorem dX12_count_129 : decode cX12_count 129 = .ok (.ireturn, 1) := by decide +kernel
theorem dX12_count_130 : decode cX12_count 130 = .ok (.aload_n 0, 1) := by decide +kernel
theorem dX12_count_131 : decode cX12_count 131 = .ok (.iconst 0, 1) := by decide +kernel
theorem dX12_count_132 : decode cX12_count 132 = .ok (.invokevirtual 52, 3) := by decide +kernel
theorem dX12_count_135 : decode cX12_count 135 = .ok (.ireturn, 1) := by decide +kernel
set_option maxRecDepth 20000 in
theorem ggX12_status_X12_in : GoodIn wsX12_status wsX12_in := goodIn_r _ [5] (by decide +kernel) (by decide +kernel)
set_option maxRecDepth 20000 in
theorem gX12_status_X12_in : GoodIn wsX12_status (va_wsS RX12 48 yX12_in wsX12_in) := goodIn_app (goodIn_of _ (by decide +kernel)) ggX12_status_X12_in
set_option maxRecDepth 20000 in
theorem ggX12_status_X12_finding : GoodIn wsX12_status wsX12_finding := goodIn_r _ [9, 1, 10, 11, 12, 13, 14, 15, 16, 17, 18, 19, 20, 21, 22, 23, 24, 25, 26, 27, 28, 29] (by decide +kernel) (by decide +kernel)
set_option maxRecDepth 20000 in
theorem gX12_status_X12_finding : GoodIn wsX12_status (wsV RX12 52 RX12 yX12_finding wsX12_finding) := goodIn_app (goodIn_of _ (by decide +kernel)) ggX12_status_X12_finding
theorem dX12_status_0 : decode cX12_status 0 = .ok (.iload_n 1, 1) := by decide +kernel
theorem dX12_status_1 : decode cX12_status 1 = .ok (.iconst (-1), 1) := by decide +kernel
theorem dX12_status_2 : decode cX12_status 2 = .ok (.bipush 6, 2) := by decide +kernel
theorem dX12_status_4 : decode cX12_status 4 = .ok (.invokestatic 48, 3) := by decide +kernel
theorem dX12_status_7 : decode cX12_status 7 = .ok (.ifCond .ne 9, 3) := by decide +kernel
theorem dX12_status_10 : decode cX12_status 10 = .ok (.aload_n 0, 1) := by decide +kernel
theorem dX12_status_11 : decode cX12_status 11 = .ok (.iconst 0, 1) := by decide +kernel
theorem dX12_status_12 : decode cX12_status 12 = .ok (.invokevirtual 52, 3) := by decide +kernel
theorem dX12_status_15 : decode cX12_status 15 = .ok (.ireturn, 1) := by decide +kernel
theorem dX12_status_16 : decode cX12_status 16 = .ok (.iconst 0, 1) := by decide +kernel
theorem dX12_status_17 : decode cX12_status 17 = .ok (.istore_n 2, 1) := by decide +kernel
theorem dX12_status_18 : decode cX12_status 18 = .ok (.iconst 0, 1) := by decide +kernel
theorem dX12_status_19 : decode cX12_status 19 = .ok (.istore_n 3, 1) := by decide +kernel
theorem dX12_status_20 : decode cX12_status 20 = .ok (.iload_n 3, 1) := by decide +kernel
theorem dX12_status_21 : decode cX12_status 21 = .ok (.bipush 7, 2) := by decide +kernel
theorem dX12_status_23 : decode cX12_status 23 = .ok (.if_icmp .ge 32, 3) := by decide +kernel
theorem dX12_status_26 : decode cX12_status 26 = .ok (.iload_n 2, 1) := by decide +kernel
theorem dX12_status_27 : decode cX12_status 27 = .ok (.iload_n 1, 1) := by decide +kernel
theorem dX12_status_28 : decode cX12_status 28 = .ok (.iconst (-1), 1) := by decide +kernel
theorem dX12_status_29 : decode cX12_status 29 = .ok (.if_icmp .eq 8, 3) := by decide +kernel
theorem dX12_status_32 : decode cX12_status 32 = .ok (.iload_n 1, 1) := by decide +kernel
theorem dX12_status_33 : decode cX12_status 33 = .ok (.iload_n 3, 1) := by decide +kernel
theorem dX12_status_34 : decode cX12_status 34 = .ok (.if_icmp .ne 12, 3) := by decide +kernel
theorem dX12_status_37 : decode cX12_status 37 = .ok (.aload_n 0, 1) := by decide +kernel
theorem dX12_status_38 : decode cX12_status 38 = .ok (.getfield 19, 3) := by decide +kernel
theorem dX12_status_41 : decode cX12_status 41 = .ok (.iload_n 3, 1) := by decide +kernel
theorem dX12_status_42 : decode cX12_status 42 = .ok (.iaload, 1) := by decide +kernel
theorem dX12_status_43 : decode cX12_status 43 = .ok (.goto 4, 3) := by decide +kernel
theorem dX12_status_46 : decode cX12_status 46 = .ok (.iconst 0, 1) := by decide +kernel
theorem dX12_status_47 : decode cX12_status 47 = .ok (.iadd, 1) := by decide +kernel
theorem dX12_status_48 : decode cX12_status 48 = .ok (.istore_n 2, 1) := by decide +kernel
theorem dX12_status_49 : decode cX12_status 49 = .ok (.iinc 3 1, 3) := by decide +kernel
theorem dX12_status_52 : decode cX12_status 52 = .ok (.goto (-32), 3) := by decide +kernel
theorem dX12_status_55 : decode cX12_status 55 = .ok (.iload_n 2, 1) := by decide +kernel
theorem dX12_status_56 : decode cX12_status 56 = .ok (.ireturn, 1) := by decide +kernel
theorem dJ6_bitCount_0f7a4_0 : decode cJ6_bitCount_0f7a4 0 = .ok (.iload_n 0, 1) := by decide +kernel
theorem dJ6_bitCount_0f7a4_1 : decode cJ6_bitCount_0f7a4 1 = .ok (.iload_n 0, 1) := by decide +kernel
theorem dJ6_bitCount_0f7a4_2 : decode cJ6_bitCount_0f7a4 2 = .ok (.iconst 1, 1) := by decide +kernel
theorem dJ6_bitCount_0f7a4_3 : decode cJ6_bitCount_0f7a4 3 = .ok (.iushr, 1) := by decide +kernel
theorem dJ6_bitCount_0f7a4_4 : decode cJ6_bitCount_0f7a4 4 = .ok (.ldc_w 265, 3) := by decide +kernel
theorem dJ6_bitCount_0f7a4_7 : decode cJ6_bitCount_0f7a4 7 = .ok (.iand, 1) := by decide +kernel
theorem dJ6_bitCount_0f7a4_8 : decode cJ6_bitCount_0f7a4 8 = .ok (.isub, 1) := by decide +kernel
theorem dJ6_bitCount_0f7a4_9 : decode cJ6_bitCount_0f7a4 9 = .ok (.istore_n 0, 1) := by decide +kernel
theorem dJ6_bitCount_0f7a4_10 : decode cJ6_bitCount_0f7a4 10 = .ok (.iload_n 0, 1) := by decide +kernel
theorem dJ6_bitCount_0f7a4_11 : decode cJ6_bitCount_0f7a4 11 = .ok (.ldc_w 266, 3) := by decide +kernel
theorem dJ6_bitCount_0f7a4_14 : decode cJ6_bitCount_0f7a4 14 = .ok (.iand, 1) := by decide +kernel
theorem dJ6_bitCount_0f7a4_15 : decode cJ6_bitCount_0f7a4 15 = .ok (.iload_n 0, 1) := by decide +kernel
theorem dJ6_bitCount_0f7a4_16 : decode cJ6_bitCount_0f7a4 16 = .ok (.iconst 2, 1) := by decide +kernel
theorem dJ6_bitCount_0f7a4_17 : decode cJ6_bitCount_0f7a4 17 = .ok (.iushr, 1) := by decide +kernel
theorem dJ6_bitCount_0f7a4_18 : decode cJ6_bitCount_0f7a4 18 = .ok (.ldc_w 266, 3) := by decide +kernel
theorem dJ6_bitCount_0f7a4_21 : decode cJ6_bitCount_0f7a4 21 = .ok (.iand, 1) := by decide +kernel
theorem dJ6_bitCount_0f7a4_22 : decode cJ6_bitCount_0f7a4 22 = .ok (.iadd, 1) := by decide +kernel
theorem dJ6_bitCount_0f7a4_23 : decode cJ6_bitCount_0f7a4 23 = .ok (.istore_n 0, 1) := by decide +kernel
theorem dJ6_bitCount_0f7a4_24 : decode cJ6_bitCount_0f7a4 24 = .ok (.iload_n 0, 1) := by decide +kernel
theorem dJ6_bitCount_0f7a4_25 : decode cJ6_bitCount_0f7a4 25 = .ok (.iload_n 0, 1) := by decide +kernel
theorem dJ6_bitCount_0f7a4_26 : decode cJ6_bitCount_0f7a4 26 = .ok (.iconst 4, 1) := by decide +kernel
theorem dJ6_bitCount_0f7a4_27 : decode cJ6_bitCount_0f7a4 27 = .ok (.iushr, 1) := by decide +kernel
theorem dJ6_bitCount_0f7a4_28 : decode cJ6_bitCount_0f7a4 28 = .ok (.iadd, 1) := by decide +kernel
theorem dJ6_bitCount_0f7a4_29 : decode cJ6_bitCount_0f7a4 29 = .ok (.ldc_w 267, 3) := by decide +kernel
theorem dJ6_bitCount_0f7a4_32 : decode cJ6_bitCount_0f7a4 32 = .ok (.iand, 1) := by decide +kernel
theorem dJ6_bitCount_0f7a4_33 : decode cJ6_bitCount_0f7a4 33 = .ok (.istore_n 0, 1) := by decide +kernel
theorem dJ6_bitCount_0f7a4_34 : decode cJ6_bitCount_0f7a4 34 = .ok (.iload_n 0, 1) := by decide +kernel
theorem dJ6_bitCount_0f7a4_35 : decode cJ6_bitCount_0f7a4 35 = .ok (.iload_n 0, 1) := by decide +kernel
theorem dJ6_bitCount_0f7a4_36 : decode cJ6_bitCount_0f7a4 36 = .ok (.bipush 8, 2) := by decide +kernel
theorem dJ6_bitCount_0f7a4_38 : decode cJ6_bitCount_0f7a4 38 = .ok (.iushr, 1) := by decide +kernel
theorem dJ6_bitCount_0f7a4_39 : decode cJ6_bitCount_0f7a4 39 = .ok (.iadd, 1) := by decide +kernel
theorem dJ6_bitCount_0f7a4_40 : decode cJ6_bitCount_0f7a4 40 = .ok (.istore_n 0, 1) := by decide +kernel
theorem dJ6_bitCount_0f7a4_41 : decode cJ6_bitCount_0f7a4 41 = .ok (.iload_n 0, 1) := by decide +kernel
theorem dJ6_bitCount_0f7a4_42 : decode cJ6_bitCount_0f7a4 42 = .ok (.iload_n 0, 1) := by decide +kernel
theorem dJ6_bitCount_0f7a4_43 : decode cJ6_bitCount_0f7a4 43 = .ok (.bipush 16, 2) := by decide +kernel
theorem dJ6_bitCount_0f7a4_45 : decode cJ6_bitCount_0f7a4 45 = .ok (.iushr, 1) := by decide +kernel
theorem dJ6_bitCount_0f7a4_46 : decode cJ6_bitCount_0f7a4 46 = .ok (.iadd, 1) := by decide +kernel
theorem dJ6_bitCount_0f7a4_47 : decode cJ6_bitCount_0f7a4 47 = .ok (.istore_n 0, 1) := by decide +kernel
theorem dJ6_bitCount_0f7a4_48 : decode cJ6_bitCount_0f7a4 48 = .ok (.iload_n 0, 1) := by decide +kernel
theorem dJ6_bitCount_0f7a4_49 : decode cJ6_bitCount_0f7a4 49 = .ok (.bipush 63, 2) := by decide +kernel
theorem dJ6_bitCount_0f7a4_51 : decode cJ6_bitCount_0f7a4 51 = .ok (.iand, 1) := by decide +kernel
theorem dJ6_bitCount_0f7a4_52 : decode cJ6_bitCount_0f7a4 52 = .ok (.ireturn, 1) := by decide +kernel
theorem dJ9_max_7cf53_0 : decode cJ9_max_7cf53 0 = .ok (.iload_n 0, 1) := by decide +kernel
theorem dJ9_max_7cf53_1 : decode cJ9_max_7cf53 1 = .ok (.iload_n 1, 1) := by decide +kernel
theorem dJ9_max_7cf53_2 : decode cJ9_max_7cf53 2 = .ok (.if_icmp .lt 7, 3) := by decide +kernel
theorem dJ9_max_7cf53_5 : decode cJ9_max_7cf53 5 = .ok (.iload_n 0, 1) := by decide +kernel
theorem dJ9_max_7cf53_6 : decode cJ9_max_7cf53 6 = .ok (.goto 4, 3) := by decide +kernel
theorem dJ9_max_7cf53_9 : decode cJ9_max_7cf53 9 = .ok (.iload_n 1, 1) := by decide +kernel
theorem dJ9_max_7cf53_10 : decode cJ9_max_7cf53 10 = .ok (.ireturn, 1) := by decide +kernel
theorem dJ9_min_7cf53_0 : decode cJ9_min_7cf53 0 = .ok (.iload_n 0, 1) := by decide +kernel
theorem dJ9_min_7cf53_1 : decode cJ9_min_7cf53 1 = .ok (.iload_n 1, 1) := by decide +kernel
theorem dJ9_min_7cf53_2 : decode cJ9_min_7cf53 2 = .ok (.if_icmp .gt 7, 3) := by decide +kernel
theorem dJ9_min_7cf53_5 : decode cJ9_min_7cf53 5 = .ok (.iload_n 0, 1) := by decide +kernel
theorem dJ9_min_7cf53_6 : decode cJ9_min_7cf53 6 = .ok (.goto 4, 3) := by decide +kernel
theorem dJ9_min_7cf53_9 : decode cJ9_min_7cf53 9 = .ok (.iload_n 1, 1) := by decide +kernel
theorem dJ9_min_7cf53_10 : decode cJ9_min_7cf53 10 = .ok (.ireturn, 1) := by decide +kernel
set_option maxRecDepth 20000 in
theorem ggJ0_length_8abf5_J0_coder_7d493 : GoodIn wsJ0_length_8abf5 wsJ0_coder_7d493 := goodIn_r _ [6, 7, 8] (by decide +kernel) (by decide +kernel)
set_option maxRecDepth 20000 in
theorem gJ0_length_8abf5_J0_coder_7d493 : GoodIn wsJ0_length_8abf5 (wsV RJ0 335 RJ0 yJ0_coder_7d493 wsJ0_coder_7d493) := goodIn_app (goodIn_of _ (by decide +kernel)) ggJ0_length_8abf5_J0_coder_7d493
theorem dJ0_length_8abf5_0 : decode cJ0_length_8abf5 0 = .ok (.aload_n 0, 1) := by decide +kernel
theorem dJ0_length_8abf5_1 : decode cJ0_length_8abf5 1 = .ok (.getfield 9, 3) := by decide +kernel
theorem dJ0_length_8abf5_4 : decode cJ0_length_8abf5 4 = .ok (.arraylength, 1) := by decide +kernel
theorem dJ0_length_8abf5_5 : decode cJ0_length_8abf5 5 = .ok (.aload_n 0, 1) := by decide +kernel
theorem dJ0_length_8abf5_6 : decode cJ0_length_8abf5 6 = .ok (.invokevirtual 335, 3) := by decide +kernel
theorem dJ0_length_8abf5_9 : decode cJ0_length_8abf5 9 = .ok (.ishr, 1) := by decide +kernel
theorem dJ0_length_8abf5_10 : decode cJ0_length_8abf5 10 = .ok (.ireturn, 1) := by decide +kernel
set_option maxRecDepth 20000 in
theorem ggJ0_charAt_5068e_J0_isLatin1_aae02 : GoodIn wsJ0_charAt_5068e wsJ0_isLatin1_aae02 := goodIn_r _ [6, 7, 8] (by decide +kernel) (by decide +kernel)
set_option maxRecDepth 20000 in
theorem gJ0_charAt_5068e_J0_isLatin1_aae02 : GoodIn wsJ0_charAt_5068e (wsV RJ0 492 RJ0 yJ0_isLatin1_aae02 wsJ0_isLatin1_aae02) := goodIn_app (goodIn_of _ (by decide +kernel)) ggJ0_charAt_5068e_J0_isLatin1_aae02
set_option maxRecDepth 20000 in
theorem ggJ0_charAt_5068e_J1_charAt_3b067 : GoodIn wsJ0_charAt_5068e wsJ1_charAt_3b067 := goodIn_r _ [12, 13, 14, 5, 15, 16, 17, 18, 19, 20] (by decide +kernel) (by decide +kernel)
set_option maxRecDepth 20000 in
theorem gJ0_charAt_5068e_J1_charAt_3b067 : GoodIn wsJ0_charAt_5068e (va_wsS RJ0 495 yJ1_charAt_3b067 wsJ1_charAt_3b067) := goodIn_app (goodIn_of _ (by decide +kernel)) ggJ0_charAt_5068e_J1_charAt_3b067
set_option maxRecDepth 20000 in
theorem ggJ0_charAt_5068e_J2_charAt_3b067 : GoodIn wsJ0_charAt_5068e wsJ2_charAt_3b067 := goodIn_r _ [24, 25, 26, 23, 27, 28, 29, 30, 31, 14, 5, 15, 16, 17, 18, 19, 20, 32, 33, 34, 35, 36, 37] (by decide +kernel) (by decide +kernel)
set_option maxRecDepth 20000 in
theorem gJ0_charAt_5068e_J2_charAt_3b067 : GoodIn wsJ0_charAt_5068e (va_wsS RJ0 498 yJ2_charAt_3b067 wsJ2_charAt_3b067) := goodIn_app (goodIn_of _ (by decide +kernel)) ggJ0_charAt_5068e_J2_charAt_3b067
theorem dJ0_charAt_5068e_0 : decode cJ0_charAt_5068e 0 = .ok (.aload_n 0, 1) := by decide +kernel
theorem dJ0_charAt_5068e_1 : decode cJ0_charAt_5068e 1 = .ok (.invokevirtual 492, 3) := by decide +kernel
theorem dJ0_charAt_5068e_4 : decode cJ0_charAt_5068e 4 = .ok (.ifCond .eq 12, 3) := by decide +kernel
theorem dJ0_charAt_5068e_7 : decode cJ0_charAt_5068e 7 = .ok (.aload_n 0, 1) := by decide +kernel
theorem dJ0_charAt_5068e_8 : decode cJ0_charAt_5068e 8 = .ok (.getfield 9, 3) := by decide +kernel
theorem dJ0_charAt_5068e_11 : decode cJ0_charAt_5068e 11 = .ok (.iload_n 1, 1) := by decide +kernel
theorem dJ0_charAt_5068e_12 : decode cJ0_charAt_5068e 12 = .ok (.invokestatic 495, 3) := by decide +kernel
theorem dJ0_charAt_5068e_15 : decode cJ0_charAt_5068e 15 = .ok (.ireturn, 1) := by decide +kernel
theorem dJ0_charAt_5068e_16 : decode cJ0_charAt_5068e 16 = .ok (.aload_n 0, 1) := by decide +kernel
theorem dJ0_charAt_5068e_17 : decode cJ0_charAt_5068e 17 = .ok (.getfield 9, 3) := by decide +kernel
theorem dJ0_charAt_5068e_20 : decode cJ0_charAt_5068e 20 = .ok (.iload_n 1, 1) := by decide +kernel
theorem dJ0_charAt_5068e_21 : decode cJ0_charAt_5068e 21 = .ok (.invokestatic 498, 3) := by decide +kernel
theorem dJ0_charAt_5068e_24 : decode cJ0_charAt_5068e 24 = .ok (.ireturn, 1) := by decide +kernel
theorem dJ0_coder_7d493_0 : decode cJ0_coder_7d493 0 = .ok (.getstatic 38, 3) := by decide +kernel
theorem dJ0_coder_7d493_3 : decode cJ0_coder_7d493 3 = .ok (.ifCond .eq 10, 3) := by decide +kernel
theorem dJ0_coder_7d493_6 : decode cJ0_coder_7d493 6 = .ok (.aload_n 0, 1) := by decide +kernel
theorem dJ0_coder_7d493_7 : decode cJ0_coder_7d493 7 = .ok (.getfield 15, 3) := by decide +kernel
theorem dJ0_coder_7d493_10 : decode cJ0_coder_7d493 10 = .ok (.goto 4, 3) := by decide +kernel
theorem dJ0_coder_7d493_13 : decode cJ0_coder_7d493 13 = .ok (.iconst 1, 1) := by decide +kernel
theorem dJ0_coder_7d493_14 : decode cJ0_coder_7d493 14 = .ok (.ireturn, 1) := by decide +kernel
theorem dJ0_isLatin1_aae02_0 : decode cJ0_isLatin1_aae02 0 = .ok (.getstatic 38, 3) := by decide +kernel
theorem dJ0_isLatin1_aae02_3 : decode cJ0_isLatin1_aae02 3 = .ok (.ifCond .eq 14, 3) := by decide +kernel
theorem dJ0_isLatin1_aae02_6 : decode cJ0_isLatin1_aae02 6 = .ok (.aload_n 0, 1) := by decide +kernel
theorem dJ0_isLatin1_aae02_7 : decode cJ0_isLatin1_aae02 7 = .ok (.getfield 15, 3) := by decide +kernel
theorem dJ0_isLatin1_aae02_10 : decode cJ0_isLatin1_aae02 10 = .ok (.ifCond .ne 7, 3) := by decide +kernel
theorem dJ0_isLatin1_aae02_13 : decode cJ0_isLatin1_aae02 13 = .ok (.iconst 1, 1) := by decide +kernel
theorem dJ0_isLatin1_aae02_14 : decode cJ0_isLatin1_aae02 14 = .ok (.goto 4, 3) := by decide +kernel
theorem dJ0_isLatin1_aae02_17 : decode cJ0_isLatin1_aae02 17 = .ok (.iconst 0, 1) := by decide +kernel
theorem dJ0_isLatin1_aae02_18 : decode cJ0_isLatin1_aae02 18 = .ok (.ireturn, 1) := by decide +kernel
set_option maxRecDepth 20000 in
theorem ggJ0_checkIndex_df160_J3_checkIndex_8e157 : GoodIn wsJ0_checkIndex_df160 wsJ3_checkIndex_8e157 := goodIn_r _ [5] (by decide +kernel) (by decide +kernel)
set_option maxRecDepth 20000 in
theorem gJ0_checkIndex_df160_J3_checkIndex_8e157 : GoodIn wsJ0_checkIndex_df160 (va_wsS RJ0 1059 yJ3_checkIndex_8e157 wsJ3_checkIndex_8e157) := goodIn_app (goodIn_of _ (by decide +kernel)) ggJ0_checkIndex_df160_J3_checkIndex_8e157
theorem dJ0_checkIndex_df160_0 : decode cJ0_checkIndex_df160 0 = .ok (.iload_n 0, 1) := by decide +kernel
theorem dJ0_checkIndex_df160_1 : decode cJ0_checkIndex_df160 1 = .ok (.iload_n 1, 1) := by decide +kernel
theorem dJ0_checkIndex_df160_2 : decode cJ0_checkIndex_df160 2 = .ok (.getstatic 1053, 3) := by decide +kernel
theorem dJ0_checkIndex_df160_5 : decode cJ0_checkIndex_df160 5 = .ok (.invokestatic 1059, 3) := by decide +kernel
theorem dJ0_checkIndex_df160_8 : decode cJ0_checkIndex_df160 8 = .ok (.pop, 1) := by decide +kernel
theorem dJ0_checkIndex_df160_9 : decode cJ0_checkIndex_df160 9 = .ok (.return_, 1) := by decide +kernel
set_option maxRecDepth 20000 in
theorem ggJ1_charAt_3b067_J0_checkIndex_df160 : GoodIn wsJ1_charAt_3b067 wsJ0_checkIndex_df160 := goodIn_r _ [4, 5, 6, 7, 8, 9] (by decide +kernel) (by decide +kernel)
set_option maxRecDepth 20000 in
theorem gJ1_charAt_3b067_J0_checkIndex_df160 : GoodIn wsJ1_charAt_3b067 (va_wsS RJ1 9 yJ0_checkIndex_df160 wsJ0_checkIndex_df160) := goodIn_app (goodIn_of _ (by decide +kernel)) ggJ1_charAt_3b067_J0_checkIndex_df160
theorem dJ1_charAt_3b067_0 : decode cJ1_charAt_3b067 0 = .ok (.iload_n 1, 1) := by decide +kernel
theorem dJ1_charAt_3b067_1 : decode cJ1_charAt_3b067 1 = .ok (.aload_n 0, 1) := by decide +kernel
theorem dJ1_charAt_3b067_2 : decode cJ1_charAt_3b067 2 = .ok (.arraylength, 1) := by decide +kernel
theorem dJ1_charAt_3b067_3 : decode cJ1_charAt_3b067 3 = .ok (.invokestatic 9, 3) := by decide +kernel
theorem dJ1_charAt_3b067_6 : decode cJ1_charAt_3b067 6 = .ok (.aload_n 0, 1) := by decide +kernel
theorem dJ1_charAt_3b067_7 : decode cJ1_charAt_3b067 7 = .ok (.iload_n 1, 1) := by decide +kernel
theorem dJ1_charAt_3b067_8 : decode cJ1_charAt_3b067 8 = .ok (.baload, 1) := by decide +kernel
theorem dJ1_charAt_3b067_9 : decode cJ1_charAt_3b067 9 = .ok (.sipush 255, 3) := by decide +kernel
theorem dJ1_charAt_3b067_12 : decode cJ1_charAt_3b067 12 = .ok (.iand, 1) := by decide +kernel
theorem dJ1_charAt_3b067_13 : decode cJ1_charAt_3b067 13 = .ok (.i2c, 1) := by decide +kernel
theorem dJ1_charAt_3b067_14 : decode cJ1_charAt_3b067 14 = .ok (.ireturn, 1) := by decide +kernel
set_option maxRecDepth 20000 in
theorem ggJ2_getChar_3b067_J2_length_9d52b : GoodIn wsJ2_getChar_3b067 wsJ2_length_9d52b := goodIn_r _ [7] (by decide +kernel) (by decide +kernel)
set_option maxRecDepth 20000 in
theorem gJ2_getChar_3b067_J2_length_9d52b : GoodIn wsJ2_getChar_3b067 (va_wsS RJ2 48 yJ2_length_9d52b wsJ2_length_9d52b) := goodIn_app (goodIn_of _ (by decide +kernel)) ggJ2_getChar_3b067_J2_length_9d52b
theorem dJ2_getChar_3b067_0 : decode cJ2_getChar_3b067 0 = .ok (.getstatic 44, 3) := by decide +kernel
theorem dJ2_getChar_3b067_3 : decode cJ2_getChar_3b067 3 = .ok (.ifCond .ne 25, 3) := by decide +kernel
theorem dJ2_getChar_3b067_6 : decode cJ2_getChar_3b067 6 = .ok (.iload_n 1, 1) := by decide +kernel
theorem dJ2_getChar_3b067_7 : decode cJ2_getChar_3b067 7 = .ok (.ifCond .lt 11, 3) := by decide +kernel
theorem dJ2_getChar_3b067_10 : decode cJ2_getChar_3b067 10 = .ok (.iload_n 1, 1) := by decide +kernel
theorem dJ2_getChar_3b067_11 : decode cJ2_getChar_3b067 11 = .ok (.aload_n 0, 1) := by decide +kernel
theorem dJ2_getChar_3b067_12 : decode cJ2_getChar_3b067 12 = .ok (.invokestatic 48, 3) := by decide +kernel
theorem dJ2_getChar_3b067_15 : decode cJ2_getChar_3b067 15 = .ok (.if_icmp .lt 13, 3) := by decide +kernel
theorem dJ2_getChar_3b067_18 : decode cJ2_getChar_3b067 18 = .ok (.new 52, 3) := by decide +kernel
theorem dJ2_getChar_3b067_21 : decode cJ2_getChar_3b067 21 = .ok (.dup, 1) := by decide +kernel
theorem dJ2_getChar_3b067_22 : decode cJ2_getChar_3b067 22 = .ok (.ldc 54, 2) := by decide +kernel
theorem dJ2_getChar_3b067_24 : decode cJ2_getChar_3b067 24 = .ok (.invokespecial 56, 3) := by decide +kernel
theorem dJ2_getChar_3b067_27 : decode cJ2_getChar_3b067 27 = .ok (.athrow, 1) := by decide +kernel
theorem dJ2_getChar_3b067_28 : decode cJ2_getChar_3b067 28 = .ok (.iload_n 1, 1) := by decide +kernel
theorem dJ2_getChar_3b067_29 : decode cJ2_getChar_3b067 29 = .ok (.iconst 1, 1) := by decide +kernel
theorem dJ2_getChar_3b067_30 : decode cJ2_getChar_3b067 30 = .ok (.ishl, 1) := by decide +kernel
theorem dJ2_getChar_3b067_31 : decode cJ2_getChar_3b067 31 = .ok (.istore_n 1, 1) := by decide +kernel
theorem dJ2_getChar_3b067_32 : decode cJ2_getChar_3b067 32 = .ok (.aload_n 0, 1) := by decide +kernel
theorem dJ2_getChar_3b067_33 : decode cJ2_getChar_3b067 33 = .ok (.iload_n 1, 1) := by decide +kernel
theorem dJ2_getChar_3b067_34 : decode cJ2_getChar_3b067 34 = .ok (.iinc 1 1, 3) := by decide +kernel
theorem dJ2_getChar_3b067_37 : decode cJ2_getChar_3b067 37 = .ok (.baload, 1) := by decide +kernel
theorem dJ2_getChar_3b067_38 : decode cJ2_getChar_3b067 38 = .ok (.sipush 255, 3) := by decide +kernel
theorem dJ2_getChar_3b067_41 : decode cJ2_getChar_3b067 41 = .ok (.iand, 1) := by decide +kernel
theorem dJ2_getChar_3b067_42 : decode cJ2_getChar_3b067 42 = .ok (.getstatic 59, 3) := by decide +kernel
theorem dJ2_getChar_3b067_45 : decode cJ2_getChar_3b067 45 = .ok (.ishl, 1) := by decide +kernel
theorem dJ2_getChar_3b067_46 : decode cJ2_getChar_3b067 46 = .ok (.aload_n 0, 1) := by decide +kernel
theorem dJ2_getChar_3b067_47 : decode cJ2_getChar_3b067 47 = .ok (.iload_n 1, 1) := by decide +kernel
theorem dJ2_getChar_3b067_48 : decode cJ2_getChar_3b067 48 = .ok (.baload, 1) := by decide +kernel
theorem dJ2_getChar_3b067_49 : decode cJ2_getChar_3b067 49 = .ok (.sipush 255, 3) := by decide +kernel
theorem dJ2_getChar_3b067_52 : decode cJ2_getChar_3b067 52 = .ok (.iand, 1) := by decide +kernel
theorem dJ2_getChar_3b067_53 : decode cJ2_getChar_3b067 53 = .ok (.getstatic 63, 3) := by decide +kernel
theorem dJ2_getChar_3b067_56 : decode cJ2_getChar_3b067 56 = .ok (.ishl, 1) := by decide +kernel
theorem dJ2_getChar_3b067_57 : decode cJ2_getChar_3b067 57 = .ok (.ior, 1) := by decide +kernel
theorem dJ2_getChar_3b067_58 : decode cJ2_getChar_3b067 58 = .ok (.i2c, 1) := by decide +kernel
theorem dJ2_getChar_3b067_59 : decode cJ2_getChar_3b067 59 = .ok (.ireturn, 1) := by decide +kernel
theorem dJ2_length_9d52b_0 : decode cJ2_length_9d52b 0 = .ok (.aload_n 0, 1) := by decide +kernel
theorem dJ2_length_9d52b_1 : decode cJ2_length_9d52b 1 = .ok (.arraylength, 1) := by decide +kernel
theorem dJ2_length_9d52b_2 : decode cJ2_length_9d52b 2 = .ok (.iconst 1, 1) := by decide +kernel
theorem dJ2_length_9d52b_3 : decode cJ2_length_9d52b 3 = .ok (.ishr, 1) := by decide +kernel
theorem dJ2_length_9d52b_4 : decode cJ2_length_9d52b 4 = .ok (.ireturn, 1) := by decide +kernel
set_option maxRecDepth 20000 in
theorem ggJ2_charAt_3b067_J2_checkIndex_2214a : GoodIn wsJ2_charAt_3b067 wsJ2_checkIndex_2214a := goodIn_r _ [4, 5, 6, 3, 7, 8, 9, 10, 11, 12, 13, 14, 15, 16] (by decide +kernel) (by decide +kernel)
set_option maxRecDepth 20000 in
theorem gJ2_charAt_3b067_J2_checkIndex_2214a : GoodIn wsJ2_charAt_3b067 (va_wsS RJ2 67 yJ2_checkIndex_2214a wsJ2_checkIndex_2214a) := goodIn_app (goodIn_of _ (by decide +kernel)) ggJ2_charAt_3b067_J2_checkIndex_2214a
set_option maxRecDepth 20000 in
theorem ggJ2_charAt_3b067_J2_getChar_3b067 : GoodIn wsJ2_charAt_3b067 wsJ2_getChar_3b067 := goodIn_r _ [19, 20, 21, 22, 5, 6, 3, 7] (by decide +kernel) (by decide +kernel)
set_option maxRecDepth 20000 in
theorem gJ2_charAt_3b067_J2_getChar_3b067 : GoodIn wsJ2_charAt_3b067 (va_wsS RJ2 71 yJ2_getChar_3b067 wsJ2_getChar_3b067) := goodIn_app (goodIn_of _ (by decide +kernel)) ggJ2_charAt_3b067_J2_getChar_3b067
theorem dJ2_charAt_3b067_0 : decode cJ2_charAt_3b067 0 = .ok (.iload_n 1, 1) := by decide +kernel
theorem dJ2_charAt_3b067_1 : decode cJ2_charAt_3b067 1 = .ok (.aload_n 0, 1) := by decide +kernel
theorem dJ2_charAt_3b067_2 : decode cJ2_charAt_3b067 2 = .ok (.invokestatic 67, 3) := by decide +kernel
theorem dJ2_charAt_3b067_5 : decode cJ2_charAt_3b067 5 = .ok (.aload_n 0, 1) := by decide +kernel
theorem dJ2_charAt_3b067_6 : decode cJ2_charAt_3b067 6 = .ok (.iload_n 1, 1) := by decide +kernel
theorem dJ2_charAt_3b067_7 : decode cJ2_charAt_3b067 7 = .ok (.invokestatic 71, 3) := by decide +kernel
theorem dJ2_charAt_3b067_10 : decode cJ2_charAt_3b067 10 = .ok (.ireturn, 1) := by decide +kernel
set_option maxRecDepth 20000 in
theorem ggJ2_checkIndex_2214a_J2_length_9d52b : GoodIn wsJ2_checkIndex_2214a wsJ2_length_9d52b := goodIn_r _ [4] (by decide +kernel) (by decide +kernel)
set_option maxRecDepth 20000 in
theorem gJ2_checkIndex_2214a_J2_length_9d52b : GoodIn wsJ2_checkIndex_2214a (va_wsS RJ2 48 yJ2_length_9d52b wsJ2_length_9d52b) := goodIn_app (goodIn_of _ (by decide +kernel)) ggJ2_checkIndex_2214a_J2_length_9d52b
set_option maxRecDepth 20000 in
theorem ggJ2_checkIndex_2214a_J0_checkIndex_df160 : GoodIn wsJ2_checkIndex_2214a wsJ0_checkIndex_df160 := goodIn_r _ [8, 9, 10, 11, 12, 13] (by decide +kernel) (by decide +kernel)
set_option maxRecDepth 20000 in
theorem gJ2_checkIndex_2214a_J0_checkIndex_df160 : GoodIn wsJ2_checkIndex_2214a (va_wsS RJ2 414 yJ0_checkIndex_df160 wsJ0_checkIndex_df160) := goodIn_app (goodIn_of _ (by decide +kernel)) ggJ2_checkIndex_2214a_J0_checkIndex_df160
theorem dJ2_checkIndex_2214a_0 : decode cJ2_checkIndex_2214a 0 = .ok (.iload_n 0, 1) := by decide +kernel
theorem dJ2_checkIndex_2214a_1 : decode cJ2_checkIndex_2214a 1 = .ok (.aload_n 1, 1) := by decide +kernel
theorem dJ2_checkIndex_2214a_2 : decode cJ2_checkIndex_2214a 2 = .ok (.invokestatic 48, 3) := by decide +kernel
theorem dJ2_checkIndex_2214a_5 : decode cJ2_checkIndex_2214a 5 = .ok (.invokestatic 414, 3) := by decide +kernel
theorem dJ2_checkIndex_2214a_8 : decode cJ2_checkIndex_2214a 8 = .ok (.return_, 1) := by decide +kernel
theorem dJ7_fill_53178_0 : decode cJ7_fill_53178 0 = .ok (.iconst 0, 1) := by decide +kernel
theorem dJ7_fill_53178_1 : decode cJ7_fill_53178 1 = .ok (.istore_n 2, 1) := by decide +kernel
theorem dJ7_fill_53178_2 : decode cJ7_fill_53178 2 = .ok (.aload_n 0, 1) := by decide +kernel
theorem dJ7_fill_53178_3 : decode cJ7_fill_53178 3 = .ok (.arraylength, 1) := by decide +kernel
theorem dJ7_fill_53178_4 : decode cJ7_fill_53178 4 = .ok (.istore_n 3, 1) := by decide +kernel
theorem dJ7_fill_53178_5 : decode cJ7_fill_53178 5 = .ok (.iload_n 2, 1) := by decide +kernel
theorem dJ7_fill_53178_6 : decode cJ7_fill_53178 6 = .ok (.iload_n 3, 1) := by decide +kernel
theorem dJ7_fill_53178_7 : decode cJ7_fill_53178 7 = .ok (.if_icmp .ge 13, 3) := by decide +kernel
theorem dJ7_fill_53178_10 : decode cJ7_fill_53178 10 = .ok (.aload_n 0, 1) := by decide +kernel
theorem dJ7_fill_53178_11 : decode cJ7_fill_53178 11 = .ok (.iload_n 2, 1) := by decide +kernel
theorem dJ7_fill_53178_12 : decode cJ7_fill_53178 12 = .ok (.iload_n 1, 1) := by decide +kernel
theorem dJ7_fill_53178_13 : decode cJ7_fill_53178 13 = .ok (.iastore, 1) := by decide +kernel
theorem dJ7_fill_53178_14 : decode cJ7_fill_53178 14 = .ok (.iinc 2 1, 3) := by decide +kernel
theorem dJ7_fill_53178_17 : decode cJ7_fill_53178 17 = .ok (.goto (-12), 3) := by decide +kernel
theorem dJ7_fill_53178_20 : decode cJ7_fill_53178 20 = .ok (.return_, 1) := by decide +kernel
theorem dJ3_checkIndex_8e157_0 : decode cJ3_checkIndex_8e157 0 = .ok (.iload_n 0, 1) := by decide +kernel
theorem dJ3_checkIndex_8e157_1 : decode cJ3_checkIndex_8e157 1 = .ok (.ifCond .lt 8, 3) := by decide +kernel
theorem dJ3_checkIndex_8e157_4 : decode cJ3_checkIndex_8e157 4 = .ok (.iload_n 0, 1) := by decide +kernel
theorem dJ3_checkIndex_8e157_5 : decode cJ3_checkIndex_8e157 5 = .ok (.iload_n 1, 1) := by decide +kernel
theorem dJ3_checkIndex_8e157_6 : decode cJ3_checkIndex_8e157 6 = .ok (.if_icmp .lt 10, 3) := by decide +kernel
theorem dJ3_checkIndex_8e157_9 : decode cJ3_checkIndex_8e157 9 = .ok (.aload_n 2, 1) := by decide +kernel
theorem dJ3_checkIndex_8e157_10 : decode cJ3_checkIndex_8e157 10 = .ok (.iload_n 0, 1) := by decide +kernel
theorem dJ3_checkIndex_8e157_11 : decode cJ3_checkIndex_8e157 11 = .ok (.iload_n 1, 1) := by decide +kernel
theorem dJ3_checkIndex_8e157_12 : decode cJ3_checkIndex_8e157 12 = .ok (.invokestatic 95, 3) := by decide +kernel
theorem dJ3_checkIndex_8e157_15 : decode cJ3_checkIndex_8e157 15 = .ok (.athrow, 1) := by decide +kernel
theorem dJ3_checkIndex_8e157_16 : decode cJ3_checkIndex_8e157 16 = .ok (.iload_n 0, 1) := by decide +kernel
theorem dJ3_checkIndex_8e157_17 : decode cJ3_checkIndex_8e157 17 = .ok (.ireturn, 1) := by decide +kernel
set_option maxRecDepth 20000 in
theorem ggL_law_X11_init : GoodIn wsL_law wsX11_init := goodIn_r _ [8, 9, 10, 11, 12, 13, 14, 15, 16, 17, 18, 19, 20, 21, 22, 23, 24, 25, 26, 27, 28, 29, 30, 31, 32, 33, 34, 35, 36, 37, 38, 39, 40, 41, 42, 43, 44, 45, 46, 47, 48, 49, 50, 51, 52, 53, 54, 55, 56, 57, 58, 59, 60, 61, 62, 63, 64, 65, 66, 67, 68, 69, 70, 71, 72, 73, 74, 75, 76, 77, 78, 79, 80, 81, 82, 83, 84, 85, 86, 87, 88, 89, 90, 91, 92, 93, 94, 95, 96, 97, 98, 99, 100, 101, 102, 103, 104, 105, 106, 107, 108, 109, 110, 111, 112, 113, 114, 115, 116, 117, 118, 119, 120, 121, 122, 123, 124, 125, 126, 127, 128, 129, 130, 131, 132, 133, 134, 1248, 1249, 1250, 1251, 1252, 1253, 1254, 1255, 1256, 1276, 1277, 1278, 1279, 1280, 1281, 1282, 1283, 1284, 1285, 1286, 1287, 1288, 1289, 1290, 1291, 1292, 1293, 1294, 1295, 1296, 1297, 1298, 1299, 1300, 1301, 1302, 1303, 1304, 1305, 1306, 1307, 1308, 1309, 1310, 1311, 1312, 1313, 1314, 1315, 1316, 1317, 1318, 1319, 1320, 1321, 1322, 1323, 1324, 1325, 1326, 1327, 1328, 1329, 1330, 1331, 1332, 1333, 1334, 1335, 1336] (by decide +kernel) (by decide +kernel)
set_option maxRecDepth 20000 in
theorem gL_law_X11_init : GoodIn wsL_law (wsX11_init) := ggL_law_X11_init
set_option maxRecDepth 20000 in
theorem ggL_law_X12_init : GoodIn wsL_law wsX12_init := goodIn_r _ [137, 138, 10, 11, 12, 139, 140, 141, 142, 143, 144, 145, 146, 147, 148, 149, 1257, 1258, 1259, 1260, 1261, 1262, 1263, 1264, 1265, 1266, 1267, 1268, 1269, 1270, 1271, 1272, 1273, 1274, 1275] (by decide +kernel) (by decide +kernel)
set_option maxRecDepth 20000 in
theorem gL_law_X12_init : GoodIn wsL_law (wsX12_init) := ggL_law_X12_init
set_option maxRecDepth 20000 in
theorem ggL_law_X11_water : GoodIn wsL_law wsX11_water := goodIn_r _ [153, 154, 17, 32, 155, 156, 157, 158, 159, 2, 160, 161, 162, 163, 164, 13, 165, 166, 167, 60, 168, 75, 169, 76, 77, 78, 1248, 1249, 1250, 1251, 1252, 1253, 1254, 1255, 1256, 1276, 1277, 1278, 1279, 1295, 1296, 1297, 1298, 1299, 1300, 1301, 1302, 1303, 1304, 1305, 1306, 1307, 1315, 1316, 1317, 1318, 1319] (by decide +kernel) (by decide +kernel)
set_option maxRecDepth 20000 in
theorem gL_law_X11_water : GoodIn wsL_law (wsV RL 13 RX11 yX11_water wsX11_water) := goodIn_app (goodIn_of _ (by decide +kernel)) ggL_law_X11_water
set_option maxRecDepth 20000 in
theorem ggL_law_X12_water : GoodIn wsL_law wsX12_water := goodIn_r _ [173, 139, 174, 175, 5, 176, 177, 178, 179, 180, 142, 181, 1257, 1258, 1259, 1260, 1261, 1262, 1263, 1264, 1265, 1266, 1267, 1268, 1269, 1270, 1271, 1272, 1273, 1274, 1275] (by decide +kernel) (by decide +kernel)
set_option maxRecDepth 20000 in
theorem gL_law_X12_water : GoodIn wsL_law (wsV RL 17 RX12 yX12_water wsX12_water) := goodIn_app (goodIn_of _ (by decide +kernel)) ggL_law_X12_water
set_option maxRecDepth 20000 in
theorem ggL_law_X11_waterOf : GoodIn wsL_law wsX11_waterOf := goodIn_r _ [185, 154, 17, 32, 155, 186, 187, 188, 189, 190, 191, 192, 2, 193, 156, 158, 159, 160, 161, 162, 163, 164, 13, 194, 195, 196, 47, 197, 61, 198, 199, 71, 200, 201, 202, 203, 204, 205, 206, 207, 208, 209, 210, 211, 212, 1248, 1249, 1250, 1251, 1252, 1253, 1254, 1255, 1256, 1276, 1277, 1278, 1279, 1295, 1296, 1297, 1298, 1299, 1300, 1301, 1302, 1303, 1304, 1305, 1306, 1307, 1315, 1316, 1317, 1318, 1319] (by decide +kernel) (by decide +kernel)
set_option maxRecDepth 20000 in
theorem gL_law_X11_waterOf : GoodIn wsL_law (wsV RL 18 RX11 yX11_waterOf wsX11_waterOf) := goodIn_app (goodIn_of _ (by decide +kernel)) ggL_law_X11_waterOf
set_option maxRecDepth 20000 in
theorem ggL_law_X12_waterOf : GoodIn wsL_law wsX12_waterOf := goodIn_r _ [216, 217, 218, 219, 5, 220, 139, 174, 175, 176, 177, 178, 179, 180, 142, 181, 221, 222, 223, 224, 225, 226, 227, 228, 229, 230, 231, 232, 233, 234, 235, 236, 1257, 1258, 1259, 1260, 1261, 1262, 1263, 1264, 1265, 1266, 1267, 1268, 1269, 1270, 1271, 1272, 1273, 1274, 1275] (by decide +kernel) (by decide +kernel)
set_option maxRecDepth 20000 in
theorem gL_law_X12_waterOf : GoodIn wsL_law (wsV RL 22 RX12 yX12_waterOf wsX12_waterOf) := goodIn_app (goodIn_of _ (by decide +kernel)) ggL_law_X12_waterOf
set_option maxRecDepth 20000 in
theorem ggL_law_X11_change : GoodIn wsL_law wsX11_change := goodIn_r _ [240, 154, 17, 32, 155, 187, 188, 190, 191, 192, 2, 193, 156, 158, 159, 160, 161, 162, 163, 164, 13, 1248, 1249, 1250, 1251, 1252, 1253, 1254, 1255, 1256, 1276, 1277, 1278, 1279, 1295, 1296, 1297, 1298, 1299, 1300, 1301, 1302, 1303, 1304, 1305, 1306, 1307, 1315, 1316, 1317, 1318, 1319] (by decide +kernel) (by decide +kernel)
set_option maxRecDepth 20000 in
theorem gL_law_X11_change : GoodIn wsL_law (wsV RL 23 RX11 yX11_change wsX11_change) := goodIn_app (goodIn_of _ (by decide +kernel)) ggL_law_X11_change
set_option maxRecDepth 20000 in
theorem ggL_law_X12_change : GoodIn wsL_law wsX12_change := goodIn_r _ [244, 139, 217, 218, 219, 5, 220, 174, 175, 176, 177, 178, 179, 180, 142, 181, 1257, 1258, 1259, 1260, 1261, 1262, 1263, 1264, 1265, 1266, 1267, 1268, 1269, 1270, 1271, 1272, 1273, 1274, 1275] (by decide +kernel) (by decide +kernel)
set_option maxRecDepth 20000 in
theorem gL_law_X12_change : GoodIn wsL_law (wsV RL 26 RX12 yX12_change wsX12_change) := goodIn_app (goodIn_of _ (by decide +kernel)) ggL_law_X12_change
set_option maxRecDepth 20000 in
theorem ggL_law_X11_set : GoodIn wsL_law wsX11_set := goodIn_r _ [248, 249, 250, 17, 32, 251, 154, 158, 159, 2, 160, 252, 253, 254, 64, 255, 83, 82, 161, 162, 163, 164, 13, 256, 257, 258, 47, 259, 201, 71, 260, 65, 261, 262, 263, 264, 265, 266, 267, 268, 269, 1248, 1249, 1250, 1251, 1252, 1253, 1254, 1255, 1256, 1276, 1277, 1278, 1279, 1295, 1296, 1297, 1298, 1299, 1300, 1301, 1302, 1303, 1304, 1305, 1306, 1307, 1320, 1321, 1322, 1323, 1324, 1325, 1326, 1327, 1328, 1329, 1330] (by decide +kernel) (by decide +kernel)
set_option maxRecDepth 20000 in
theorem gL_law_X11_set : GoodIn wsL_law (wsV RL 27 RX11 yX11_set wsX11_set) := goodIn_app (goodIn_of _ (by decide +kernel)) ggL_law_X11_set
set_option maxRecDepth 20000 in
theorem ggL_law_X12_set : GoodIn wsL_law wsX12_set := goodIn_r _ [273, 139, 174, 175, 5, 176, 274, 275, 276, 277, 278, 279, 177, 178, 179, 180, 142, 181, 1257, 1258, 1259, 1260, 1261, 1262, 1263, 1264, 1265, 1266, 1267, 1268, 1269, 1270, 1271, 1272, 1273, 1274, 1275] (by decide +kernel) (by decide +kernel)
set_option maxRecDepth 20000 in
theorem gL_law_X12_set : GoodIn wsL_law (wsV RL 30 RX12 yX12_set wsX12_set) := goodIn_app (goodIn_of _ (by decide +kernel)) ggL_law_X12_set
set_option maxRecDepth 20000 in
theorem ggL_law_X11_current : GoodIn wsL_law wsX11_current := goodIn_r _ [283, 17, 32, 251, 284, 285, 286, 2, 287, 1248, 1249, 1250, 1251, 1252, 1253, 1254, 1255, 1256, 1276, 1277, 1278, 1279, 1295, 1296, 1297, 1298, 1299, 1300, 1301, 1302, 1303, 1304, 1305, 1306, 1307, 1320, 1321, 1322, 1323, 1324, 1325, 1326, 1327, 1328, 1329, 1330] (by decide +kernel) (by decide +kernel)
set_option maxRecDepth 20000 in
theorem gL_law_X11_current : GoodIn wsL_law (wsV RL 31 RX11 yX11_current wsX11_current) := goodIn_app (goodIn_of _ (by decide +kernel)) ggL_law_X11_current
set_option maxRecDepth 20000 in
theorem ggL_law_X12_current : GoodIn wsL_law wsX12_current := goodIn_r _ [291, 139, 1257, 1258, 1259, 1260, 1261, 1262, 1263, 1264, 1265, 1266, 1267, 1268, 1269, 1270, 1271, 1272, 1273, 1274, 1275] (by decide +kernel) (by decide +kernel)
set_option maxRecDepth 20000 in
theorem gL_law_X12_current : GoodIn wsL_law (wsV RL 35 RX12 yX12_current wsX12_current) := goodIn_app (goodIn_of _ (by decide +kernel)) ggL_law_X12_current
set_option maxRecDepth 20000 in
theorem ggL_law_X11_flap : GoodIn wsL_law wsX11_flap := goodIn_r _ [295, 17, 32, 296, 297, 298, 209, 210, 47, 211, 212, 161, 162, 163, 2, 164, 13, 154, 285, 286, 287, 1248, 1249, 1250, 1251, 1252, 1253, 1254, 1255, 1256, 1276, 1277, 1278, 1279, 1295, 1296, 1297, 1298, 1299, 1300, 1301, 1302, 1303, 1304, 1305, 1306, 1307] (by decide +kernel) (by decide +kernel)
set_option maxRecDepth 20000 in
theorem gL_law_X11_flap : GoodIn wsL_law (wsV RL 36 RX11 yX11_flap wsX11_flap) := goodIn_app (goodIn_of _ (by decide +kernel)) ggL_law_X11_flap
set_option maxRecDepth 20000 in
theorem ggL_law_X12_flap : GoodIn wsL_law wsX12_flap := goodIn_r _ [302, 139, 233, 234, 235, 5, 236, 177, 178, 179, 180, 142, 181, 1257, 1258, 1259, 1260, 1261, 1262, 1263, 1264, 1265, 1266, 1267, 1268, 1269, 1270, 1271, 1272, 1273, 1274, 1275] (by decide +kernel) (by decide +kernel)
set_option maxRecDepth 20000 in
theorem gL_law_X12_flap : GoodIn wsL_law (wsV RL 39 RX12 yX12_flap wsX12_flap) := goodIn_app (goodIn_of _ (by decide +kernel)) ggL_law_X12_flap
set_option maxRecDepth 20000 in
theorem ggL_law_X11_minutes : GoodIn wsL_law wsX11_minutes := goodIn_r _ [306, 154, 17, 32, 307, 158, 159, 2, 160, 161, 162, 163, 164, 13, 308, 309, 310, 47, 311, 312, 313, 314, 315, 260, 316, 65, 207, 69, 317, 202, 203, 204, 205, 318, 319, 320, 321, 71, 201, 322, 323, 324, 325, 326, 327, 328, 61, 329, 330, 331, 332, 195, 196, 197, 198, 199, 200, 206, 208, 209, 210, 211, 212, 333, 334, 335, 64, 336, 337, 82, 86, 338, 339, 84, 340, 341, 83, 342, 343, 344, 345, 346, 347, 348, 349, 350, 85, 351, 352, 353, 354, 87, 355, 356, 357, 68, 358, 359, 93, 360, 361, 1248, 1249, 1250, 1251, 1252, 1253, 1254, 1255, 1256, 1276, 1277, 1278, 1279, 1295, 1296, 1297, 1298, 1299, 1300, 1301, 1302, 1303, 1304, 1305, 1306, 1307, 1315, 1316, 1317, 1318, 1319, 1320, 1321, 1322, 1323, 1324, 1325, 1326, 1327, 1328, 1329, 1330, 1331, 1332, 1333, 1334, 1335, 1336] (by decide +kernel) (by decide +kernel)
set_option maxRecDepth 20000 in
theorem gL_law_X11_minutes : GoodIn wsL_law (wsV RL 40 RX11 yX11_minutes wsX11_minutes) := goodIn_app (goodIn_of _ (by decide +kernel)) ggL_law_X11_minutes
set_option maxRecDepth 20000 in
theorem ggL_law_X12_minutes : GoodIn wsL_law wsX12_minutes := goodIn_r _ [365, 139, 174, 175, 5, 176, 177, 178, 179, 180, 142, 181, 366, 367, 368, 369, 370, 371, 372, 373, 374, 375, 376, 377, 378, 221, 222, 223, 224, 225, 226, 227, 228, 229, 230, 231, 232, 233, 234, 235, 236, 379, 380, 381, 382, 383, 384, 385, 386, 387, 388, 389, 390, 1257, 1258, 1259, 1260, 1261, 1262, 1263, 1264, 1265, 1266, 1267, 1268, 1269, 1270, 1271, 1272, 1273, 1274, 1275] (by decide +kernel) (by decide +kernel)
set_option maxRecDepth 20000 in
theorem gL_law_X12_minutes : GoodIn wsL_law (wsV RL 44 RX12 yX12_minutes wsX12_minutes) := goodIn_app (goodIn_of _ (by decide +kernel)) ggL_law_X12_minutes
set_option maxRecDepth 20000 in
theorem ggL_law_X11_now : GoodIn wsL_law wsX11_now := goodIn_r _ [394, 154, 17, 32, 395, 251, 396, 397, 398, 399, 400, 284, 297, 158, 159, 2, 160, 161, 162, 163, 164, 13, 285, 286, 287, 401, 347, 348, 64, 349, 350, 85, 256, 257, 258, 47, 259, 201, 71, 260, 65, 261, 262, 263, 264, 265, 1248, 1249, 1250, 1251, 1252, 1253, 1254, 1255, 1256, 1276, 1277, 1278, 1279, 1295, 1296, 1297, 1298, 1299, 1300, 1301, 1302, 1303, 1304, 1305, 1306, 1307, 1320, 1321, 1322, 1323, 1324, 1325, 1326, 1327, 1328, 1329, 1330] (by decide +kernel) (by decide +kernel)
set_option maxRecDepth 20000 in
theorem gL_law_X11_now : GoodIn wsL_law (wsV RL 45 RX11 yX11_now wsX11_now) := goodIn_app (goodIn_of _ (by decide +kernel)) ggL_law_X11_now
set_option maxRecDepth 20000 in
theorem ggL_law_X12_now : GoodIn wsL_law wsX12_now := goodIn_r _ [405, 139, 383, 384, 385, 5, 386, 174, 175, 176, 177, 178, 179, 180, 142, 181, 1257, 1258, 1259, 1260, 1261, 1262, 1263, 1264, 1265, 1266, 1267, 1268, 1269, 1270, 1271, 1272, 1273, 1274, 1275] (by decide +kernel) (by decide +kernel)
set_option maxRecDepth 20000 in
theorem gL_law_X12_now : GoodIn wsL_law (wsV RL 48 RX12 yX12_now wsX12_now) := goodIn_app (goodIn_of _ (by decide +kernel)) ggL_law_X12_now
set_option maxRecDepth 20000 in
theorem ggL_law_X11_renew : GoodIn wsL_law wsX11_renew := goodIn_r _ [409, 17, 32, 251, 396, 397, 1248, 1249, 1250, 1251, 1252, 1253, 1254, 1255, 1256, 1276, 1277, 1278, 1279, 1295, 1296, 1297, 1298, 1299, 1300, 1301, 1302, 1303, 1304, 1305, 1306, 1307, 1320, 1321, 1322, 1323, 1324, 1325, 1326, 1327, 1328, 1329, 1330] (by decide +kernel) (by decide +kernel)
set_option maxRecDepth 20000 in
theorem gL_law_X11_renew : GoodIn wsL_law (wsV RL 49 RX11 yX11_renew wsX11_renew) := goodIn_app (goodIn_of _ (by decide +kernel)) ggL_law_X11_renew
set_option maxRecDepth 20000 in
theorem ggL_law_X12_renew : GoodIn wsL_law wsX12_renew := goodIn_r _ [413, 139, 1257, 1258, 1259, 1260, 1261, 1262, 1263, 1264, 1265, 1266, 1267, 1268, 1269, 1270, 1271, 1272, 1273, 1274, 1275] (by decide +kernel) (by decide +kernel)
set_option maxRecDepth 20000 in
theorem gL_law_X12_renew : GoodIn wsL_law (wsV RL 53 RX12 yX12_renew wsX12_renew) := goodIn_app (goodIn_of _ (by decide +kernel)) ggL_law_X12_renew
set_option maxRecDepth 20000 in
theorem ggL_law_X11_start : GoodIn wsL_law wsX11_start := goodIn_r _ [417, 17, 32, 251, 154, 418, 419, 420, 421, 64, 422, 350, 340, 323, 204, 324, 158, 159, 2, 160, 161, 162, 163, 164, 13, 1248, 1249, 1250, 1251, 1252, 1253, 1254, 1255, 1256, 1276, 1277, 1278, 1279, 1295, 1296, 1297, 1298, 1299, 1300, 1301, 1302, 1303, 1304, 1305, 1306, 1307, 1320, 1321, 1322, 1323, 1324, 1325, 1326, 1327, 1328, 1329, 1330] (by decide +kernel) (by decide +kernel)
set_option maxRecDepth 20000 in
theorem gL_law_X11_start : GoodIn wsL_law (wsV RL 54 RX11 yX11_start wsX11_start) := goodIn_app (goodIn_of _ (by decide +kernel)) ggL_law_X11_start
set_option maxRecDepth 20000 in
theorem ggL_law_X12_start : GoodIn wsL_law wsX12_start := goodIn_r _ [426, 139, 427, 428, 429, 5, 430, 174, 175, 176, 177, 178, 179, 180, 142, 181, 1257, 1258, 1259, 1260, 1261, 1262, 1263, 1264, 1265, 1266, 1267, 1268, 1269, 1270, 1271, 1272, 1273, 1274, 1275] (by decide +kernel) (by decide +kernel)
set_option maxRecDepth 20000 in
theorem gL_law_X12_start : GoodIn wsL_law (wsV RL 57 RX12 yX12_start wsX12_start) := goodIn_app (goodIn_of _ (by decide +kernel)) ggL_law_X12_start
set_option maxRecDepth 20000 in
theorem ggL_law_X11_quickest : GoodIn wsL_law wsX11_quickest := goodIn_r _ [434, 17, 32, 251, 435, 419, 420, 421, 64, 422, 350, 340, 323, 204, 324, 161, 162, 163, 2, 164, 13, 154, 436, 437, 438, 439, 87, 440, 1248, 1249, 1250, 1251, 1252, 1253, 1254, 1255, 1256, 1276, 1277, 1278, 1279, 1295, 1296, 1297, 1298, 1299, 1300, 1301, 1302, 1303, 1304, 1305, 1306, 1307, 1320, 1321, 1322, 1323, 1324, 1325, 1326, 1327, 1328, 1329, 1330] (by decide +kernel) (by decide +kernel)
set_option maxRecDepth 20000 in
theorem gL_law_X11_quickest : GoodIn wsL_law (wsV RL 58 RX11 yX11_quickest wsX11_quickest) := goodIn_app (goodIn_of _ (by decide +kernel)) ggL_law_X11_quickest
set_option maxRecDepth 20000 in
theorem ggL_law_X12_quickest : GoodIn wsL_law wsX12_quickest := goodIn_r _ [444, 139, 427, 428, 429, 5, 430, 177, 178, 179, 180, 142, 181, 1257, 1258, 1259, 1260, 1261, 1262, 1263, 1264, 1265, 1266, 1267, 1268, 1269, 1270, 1271, 1272, 1273, 1274, 1275] (by decide +kernel) (by decide +kernel)
set_option maxRecDepth 20000 in
theorem gL_law_X12_quickest : GoodIn wsL_law (wsV RL 61 RX12 yX12_quickest wsX12_quickest) := goodIn_app (goodIn_of _ (by decide +kernel)) ggL_law_X12_quickest
set_option maxRecDepth 20000 in
theorem ggL_law_X11_came : GoodIn wsL_law wsX11_came := goodIn_r _ [448, 17, 32, 155, 156, 435, 161, 162, 163, 2, 164, 13, 154, 449, 450, 451, 60, 452, 169, 78, 1248, 1249, 1250, 1251, 1252, 1253, 1254, 1255, 1256, 1276, 1277, 1278, 1279, 1295, 1296, 1297, 1298, 1299, 1300, 1301, 1302, 1303, 1304, 1305, 1306, 1307, 1315, 1316, 1317, 1318, 1319] (by decide +kernel) (by decide +kernel)
set_option maxRecDepth 20000 in
theorem gL_law_X11_came : GoodIn wsL_law (wsV RL 62 RX11 yX11_came wsX11_came) := goodIn_app (goodIn_of _ (by decide +kernel)) ggL_law_X11_came
set_option maxRecDepth 20000 in
theorem ggL_law_X12_came : GoodIn wsL_law wsX12_came := goodIn_r _ [456, 139, 177, 178, 179, 5, 180, 142, 181, 225, 226, 227, 228, 1257, 1258, 1259, 1260, 1261, 1262, 1263, 1264, 1265, 1266, 1267, 1268, 1269, 1270, 1271, 1272, 1273, 1274, 1275] (by decide +kernel) (by decide +kernel)
set_option maxRecDepth 20000 in
theorem gL_law_X12_came : GoodIn wsL_law (wsV RL 65 RX12 yX12_came wsX12_came) := goodIn_app (goodIn_of _ (by decide +kernel)) ggL_law_X12_came
set_option maxRecDepth 20000 in
theorem ggL_law_X11_thing : GoodIn wsL_law wsX11_thing := goodIn_r _ [460, 154, 17, 32, 37, 461, 157, 158, 159, 2, 160, 161, 162, 163, 164, 13, 462, 463, 464, 68, 465, 91, 359, 92, 93, 1248, 1249, 1250, 1251, 1252, 1253, 1254, 1255, 1256, 1276, 1277, 1278, 1279, 1295, 1296, 1297, 1298, 1299, 1300, 1301, 1302, 1303, 1304, 1305, 1306, 1307, 1331, 1332, 1333, 1334, 1335, 1336] (by decide +kernel) (by decide +kernel)
set_option maxRecDepth 20000 in
theorem gL_law_X11_thing : GoodIn wsL_law (wsV RL 66 RX11 yX11_thing wsX11_thing) := goodIn_app (goodIn_of _ (by decide +kernel)) ggL_law_X11_thing
set_option maxRecDepth 20000 in
theorem ggL_law_X12_thing : GoodIn wsL_law wsX12_thing := goodIn_r _ [469, 139, 174, 175, 5, 176, 177, 178, 179, 180, 142, 181, 1257, 1258, 1259, 1260, 1261, 1262, 1263, 1264, 1265, 1266, 1267, 1268, 1269, 1270, 1271, 1272, 1273, 1274, 1275] (by decide +kernel) (by decide +kernel)
set_option maxRecDepth 20000 in
theorem gL_law_X12_thing : GoodIn wsL_law (wsV RL 69 RX12 yX12_thing wsX12_thing) := goodIn_app (goodIn_of _ (by decide +kernel)) ggL_law_X12_thing
set_option maxRecDepth 20000 in
theorem ggL_law_X11_thingOf : GoodIn wsL_law wsX11_thingOf := goodIn_r _ [473, 154, 17, 32, 37, 474, 475, 476, 477, 478, 479, 2, 480, 461, 158, 159, 160, 161, 162, 163, 164, 13, 481, 482, 483, 68, 484, 360, 285, 286, 287, 485, 486, 487, 488, 361, 1248, 1249, 1250, 1251, 1252, 1253, 1254, 1255, 1256, 1276, 1277, 1278, 1279, 1295, 1296, 1297, 1298, 1299, 1300, 1301, 1302, 1303, 1304, 1305, 1306, 1307, 1331, 1332, 1333, 1334, 1335, 1336] (by decide +kernel) (by decide +kernel)
set_option maxRecDepth 20000 in
theorem gL_law_X11_thingOf : GoodIn wsL_law (wsV RL 70 RX11 yX11_thingOf wsX11_thingOf) := goodIn_app (goodIn_of _ (by decide +kernel)) ggL_law_X11_thingOf
set_option maxRecDepth 20000 in
theorem ggL_law_X12_thingOf : GoodIn wsL_law wsX12_thingOf := goodIn_r _ [492, 493, 494, 495, 5, 496, 139, 174, 175, 176, 387, 388, 389, 390, 177, 178, 179, 180, 142, 181, 1257, 1258, 1259, 1260, 1261, 1262, 1263, 1264, 1265, 1266, 1267, 1268, 1269, 1270, 1271, 1272, 1273, 1274, 1275] (by decide +kernel) (by decide +kernel)
set_option maxRecDepth 20000 in
theorem gL_law_X12_thingOf : GoodIn wsL_law (wsV RL 73 RX12 yX12_thingOf wsX12_thingOf) := goodIn_app (goodIn_of _ (by decide +kernel)) ggL_law_X12_thingOf
set_option maxRecDepth 20000 in
theorem ggL_law_X11_lift : GoodIn wsL_law wsX11_lift := goodIn_r _ [500, 154, 17, 32, 37, 296, 475, 501, 307, 477, 478, 479, 2, 480, 461, 158, 159, 160, 161, 162, 163, 164, 13, 481, 482, 483, 68, 484, 360, 485, 486, 487, 488, 361, 308, 309, 310, 47, 311, 312, 313, 314, 315, 260, 316, 65, 207, 69, 317, 202, 203, 204, 205, 318, 319, 320, 321, 71, 201, 322, 323, 324, 325, 326, 327, 328, 61, 329, 330, 331, 332, 195, 196, 197, 198, 199, 200, 206, 208, 209, 210, 211, 212, 333, 334, 335, 64, 336, 337, 82, 86, 338, 339, 84, 340, 341, 83, 342, 343, 344, 345, 346, 347, 348, 349, 350, 85, 351, 352, 353, 354, 87, 355, 356, 357, 358, 359, 93, 1248, 1249, 1250, 1251, 1252, 1253, 1254, 1255, 1256, 1276, 1277, 1278, 1279, 1295, 1296, 1297, 1298, 1299, 1300, 1301, 1302, 1303, 1304, 1305, 1306, 1307, 1331, 1332, 1333, 1334, 1335, 1336, 1315, 1316, 1317, 1318, 1319, 1320, 1321, 1322, 1323, 1324, 1325, 1326, 1327, 1328, 1329, 1330] (by decide +kernel) (by decide +kernel)
set_option maxRecDepth 20000 in
theorem gL_law_X11_lift : GoodIn wsL_law (wsV RL 74 RX11 yX11_lift wsX11_lift) := goodIn_app (goodIn_of _ (by decide +kernel)) ggL_law_X11_lift
set_option maxRecDepth 20000 in
theorem ggL_law_X12_lift : GoodIn wsL_law wsX12_lift := goodIn_r _ [505, 139, 493, 494, 495, 5, 496, 174, 175, 176, 177, 178, 179, 180, 142, 181, 387, 388, 389, 390, 366, 367, 368, 369, 370, 371, 372, 373, 374, 375, 376, 377, 378, 221, 222, 223, 224, 225, 226, 227, 228, 229, 230, 231, 232, 233, 234, 235, 236, 379, 380, 381, 382, 383, 384, 385, 386, 1257, 1258, 1259, 1260, 1261, 1262, 1263, 1264, 1265, 1266, 1267, 1268, 1269, 1270, 1271, 1272, 1273, 1274, 1275] (by decide +kernel) (by decide +kernel)
set_option maxRecDepth 20000 in
theorem gL_law_X12_lift : GoodIn wsL_law (wsV RL 77 RX12 yX12_lift wsX12_lift) := goodIn_app (goodIn_of _ (by decide +kernel)) ggL_law_X12_lift
set_option maxRecDepth 20000 in
theorem ggL_law_X11_down : GoodIn wsL_law wsX11_down := goodIn_r _ [509, 154, 17, 32, 37, 476, 501, 477, 478, 479, 2, 480, 461, 158, 159, 160, 161, 162, 163, 164, 13, 481, 482, 483, 68, 484, 360, 285, 286, 287, 1248, 1249, 1250, 1251, 1252, 1253, 1254, 1255, 1256, 1276, 1277, 1278, 1279, 1295, 1296, 1297, 1298, 1299, 1300, 1301, 1302, 1303, 1304, 1305, 1306, 1307, 1331, 1332, 1333, 1334, 1335, 1336] (by decide +kernel) (by decide +kernel)
set_option maxRecDepth 20000 in
theorem gL_law_X11_down : GoodIn wsL_law (wsV RL 78 RX11 yX11_down wsX11_down) := goodIn_app (goodIn_of _ (by decide +kernel)) ggL_law_X11_down
set_option maxRecDepth 20000 in
theorem ggL_law_X12_down : GoodIn wsL_law wsX12_down := goodIn_r _ [513, 139, 493, 494, 495, 5, 496, 174, 175, 176, 177, 178, 179, 180, 142, 181, 387, 388, 389, 390, 1257, 1258, 1259, 1260, 1261, 1262, 1263, 1264, 1265, 1266, 1267, 1268, 1269, 1270, 1271, 1272, 1273, 1274, 1275] (by decide +kernel) (by decide +kernel)
set_option maxRecDepth 20000 in
theorem gL_law_X12_down : GoodIn wsL_law (wsV RL 81 RX12 yX12_down wsX12_down) := goodIn_app (goodIn_of _ (by decide +kernel)) ggL_law_X12_down
set_option maxRecDepth 20000 in
theorem ggL_law_X11_harm : GoodIn wsL_law wsX11_harm := goodIn_r _ [517, 17, 32, 37, 518, 519, 520, 68, 521, 359, 91, 522, 486, 487, 488, 361, 1248, 1249, 1250, 1251, 1252, 1253, 1254, 1255, 1256, 1276, 1277, 1278, 1279, 1295, 1296, 1297, 1298, 1299, 1300, 1301, 1302, 1303, 1304, 1305, 1306, 1307, 1331, 1332, 1333, 1334, 1335, 1336] (by decide +kernel) (by decide +kernel)
set_option maxRecDepth 20000 in
theorem gL_law_X11_harm : GoodIn wsL_law (wsV RL 82 RX11 yX11_harm wsX11_harm) := goodIn_app (goodIn_of _ (by decide +kernel)) ggL_law_X11_harm
set_option maxRecDepth 20000 in
theorem ggL_law_X12_harm : GoodIn wsL_law wsX12_harm := goodIn_r _ [526, 139, 387, 388, 389, 5, 390, 1257, 1258, 1259, 1260, 1261, 1262, 1263, 1264, 1265, 1266, 1267, 1268, 1269, 1270, 1271, 1272, 1273, 1274, 1275] (by decide +kernel) (by decide +kernel)
set_option maxRecDepth 20000 in
theorem gL_law_X12_harm : GoodIn wsL_law (wsV RL 85 RX12 yX12_harm wsX12_harm) := goodIn_app (goodIn_of _ (by decide +kernel)) ggL_law_X12_harm
set_option maxRecDepth 20000 in
theorem ggL_law_X11_feed : GoodIn wsL_law wsX11_feed := goodIn_r _ [530, 154, 22, 531, 157, 158, 159, 2, 160, 161, 162, 163, 164, 13, 532, 533, 534, 21, 535, 107, 536, 1248, 1249, 1250, 1251, 1252, 1253, 1254, 1255, 1256, 1280, 1281] (by decide +kernel) (by decide +kernel)
set_option maxRecDepth 20000 in
theorem gL_law_X11_feed : GoodIn wsL_law (wsV RL 86 RX11 yX11_feed wsX11_feed) := goodIn_app (goodIn_of _ (by decide +kernel)) ggL_law_X11_feed
set_option maxRecDepth 20000 in
theorem ggL_law_X12_feed : GoodIn wsL_law wsX12_feed := goodIn_r _ [540, 541, 143, 174, 175, 5, 176, 177, 178, 179, 180, 142, 181, 1257, 1258, 1259, 1260, 1261, 1262, 1263, 1264, 1265, 1266, 1267, 1268, 1269, 1270, 1271, 1272, 1273, 1274, 1275] (by decide +kernel) (by decide +kernel)
set_option maxRecDepth 20000 in
theorem gL_law_X12_feed : GoodIn wsL_law (wsV RL 89 RX12 yX12_feed wsX12_feed) := goodIn_app (goodIn_of _ (by decide +kernel)) ggL_law_X12_feed
set_option maxRecDepth 20000 in
theorem ggL_law_X11_wipe : GoodIn wsL_law wsX11_wipe := goodIn_r _ [545, 22, 531, 1248, 1249, 1250, 1251, 1252, 1253, 1254, 1255, 1256, 1280, 1281] (by decide +kernel) (by decide +kernel)
set_option maxRecDepth 20000 in
theorem gL_law_X11_wipe : GoodIn wsL_law (wsV RL 90 RX11 yX11_wipe wsX11_wipe) := goodIn_app (goodIn_of _ (by decide +kernel)) ggL_law_X11_wipe
set_option maxRecDepth 20000 in
theorem ggL_law_X12_wipe : GoodIn wsL_law wsX12_wipe := goodIn_r _ [549, 541, 1257, 1258, 1259, 1260, 1261, 1262, 1263, 1264, 1265, 1266, 1267, 1268, 1269, 1270, 1271, 1272, 1273, 1274, 1275] (by decide +kernel) (by decide +kernel)
set_option maxRecDepth 20000 in
theorem gL_law_X12_wipe : GoodIn wsL_law (wsV RL 93 RX12 yX12_wipe wsX12_wipe) := goodIn_app (goodIn_of _ (by decide +kernel)) ggL_law_X12_wipe
set_option maxRecDepth 20000 in
theorem ggL_law_X11_sky : GoodIn wsL_law wsX11_sky := goodIn_r _ [553, 17, 554, 555, 157, 26, 22, 531, 161, 162, 163, 2, 164, 13, 154, 556, 557, 558, 25, 559, 560, 561, 562, 563, 564, 565, 566, 567, 568, 569, 570, 112, 571, 572, 573, 574, 575, 21, 576, 107, 159, 160, 577, 578, 579, 580, 581, 582, 583, 584, 585, 586, 587, 588, 589, 590, 323, 204, 324, 591, 592, 593, 594, 595, 596, 597, 598, 599, 600, 601, 602, 603, 604, 605, 606, 607, 608, 609, 610, 611, 612, 613, 614, 615, 616, 617, 618, 619, 620, 621, 622, 623, 624, 625, 626, 627, 628, 629, 630, 631, 632, 633, 634, 635, 636, 637, 638, 639, 640, 641, 642, 643, 644, 645, 646, 647, 648, 649, 650, 651, 652, 653, 654, 655, 656, 657, 658, 659, 660, 661, 51, 662, 98, 663, 99, 664, 665, 666, 667, 97, 1248, 1249, 1250, 1251, 1252, 1253, 1254, 1255, 1256, 1276, 1277, 1278, 1279, 1311, 1312, 1313, 1314, 1280, 1281, 1282, 1283, 1284, 1285, 1286] (by decide +kernel) (by decide +kernel)
set_option maxRecDepth 20000 in
theorem gL_law_X11_sky : GoodIn wsL_law (wsV RL 94 RX11 yX11_sky wsX11_sky) := goodIn_app (goodIn_of _ (by decide +kernel)) ggL_law_X11_sky
set_option maxRecDepth 20000 in
theorem ggL_law_X12_sky : GoodIn wsL_law wsX12_sky := goodIn_r _ [671, 139, 541, 672, 673, 144, 177, 178, 179, 5, 180, 142, 181, 674, 675, 676, 677, 678, 679, 680, 681, 682, 683, 684, 685, 686, 687, 688, 143, 174, 175, 176, 689, 690, 691, 692, 693, 694, 695, 696, 697, 698, 699, 700, 701, 603, 604, 605, 606, 607, 608, 609, 610, 611, 612, 613, 702, 615, 616, 617, 618, 619, 620, 621, 622, 623, 624, 625, 626, 627, 628, 629, 630, 631, 632, 633, 634, 635, 636, 637, 638, 639, 640, 641, 642, 643, 644, 645, 646, 647, 648, 649, 650, 703, 704, 705, 706, 707, 708, 709, 710, 711, 712, 713, 714, 1257, 1258, 1259, 1260, 1261, 1262, 1263, 1264, 1265, 1266, 1267, 1268, 1269, 1270, 1271, 1272, 1273, 1274, 1275] (by decide +kernel) (by decide +kernel)
set_option maxRecDepth 20000 in
theorem gL_law_X12_sky : GoodIn wsL_law (wsV RL 97 RX12 yX12_sky wsX12_sky) := goodIn_app (goodIn_of _ (by decide +kernel)) ggL_law_X12_sky
set_option maxRecDepth 20000 in
theorem ggL_law_X11_skyOf : GoodIn wsL_law wsX11_skyOf := goodIn_r _ [718, 154, 17, 554, 719, 720, 721, 722, 2, 723, 555, 158, 159, 160, 161, 162, 163, 164, 13, 724, 725, 726, 51, 727, 97, 98, 99, 1248, 1249, 1250, 1251, 1252, 1253, 1254, 1255, 1256, 1276, 1277, 1278, 1279, 1311, 1312, 1313, 1314] (by decide +kernel) (by decide +kernel)
set_option maxRecDepth 20000 in
theorem gL_law_X11_skyOf : GoodIn wsL_law (wsV RL 98 RX11 yX11_skyOf wsX11_skyOf) := goodIn_app (goodIn_of _ (by decide +kernel)) ggL_law_X11_skyOf
set_option maxRecDepth 20000 in
theorem ggL_law_X12_skyOf : GoodIn wsL_law wsX12_skyOf := goodIn_r _ [731, 139, 732, 733, 734, 5, 735, 174, 175, 176, 177, 178, 179, 180, 142, 181, 1257, 1258, 1259, 1260, 1261, 1262, 1263, 1264, 1265, 1266, 1267, 1268, 1269, 1270, 1271, 1272, 1273, 1274, 1275] (by decide +kernel) (by decide +kernel)
set_option maxRecDepth 20000 in
theorem gL_law_X12_skyOf : GoodIn wsL_law (wsV RL 101 RX12 yX12_skyOf wsX12_skyOf) := goodIn_app (goodIn_of _ (by decide +kernel)) ggL_law_X12_skyOf
set_option maxRecDepth 20000 in
theorem ggL_law_X11_play : GoodIn wsL_law wsX11_play := goodIn_r _ [739, 154, 17, 554, 32, 307, 720, 721, 722, 2, 723, 555, 158, 159, 160, 161, 162, 163, 164, 13, 740, 741, 742, 51, 743, 97, 98, 99, 744, 313, 314, 47, 315, 260, 316, 65, 207, 69, 317, 202, 203, 204, 205, 318, 319, 320, 321, 71, 201, 322, 323, 324, 325, 326, 327, 328, 61, 329, 330, 331, 332, 195, 196, 197, 198, 199, 200, 206, 208, 209, 210, 211, 212, 333, 334, 335, 64, 336, 337, 82, 86, 338, 339, 84, 340, 341, 83, 342, 343, 344, 345, 346, 347, 348, 349, 350, 85, 351, 352, 353, 354, 87, 355, 356, 357, 68, 358, 359, 93, 360, 361, 745, 746, 747, 748, 749, 265, 1248, 1249, 1250, 1251, 1252, 1253, 1254, 1255, 1256, 1276, 1277, 1278, 1279, 1295, 1296, 1297, 1298, 1299, 1300, 1301, 1302, 1303, 1304, 1305, 1306, 1307, 1311, 1312, 1313, 1314, 1315, 1316, 1317, 1318, 1319, 1320, 1321, 1322, 1323, 1324, 1325, 1326, 1327, 1328, 1329, 1330, 1331, 1332, 1333, 1334, 1335, 1336] (by decide +kernel) (by decide +kernel)
set_option maxRecDepth 20000 in
theorem gL_law_X11_play : GoodIn wsL_law (wsV RL 102 RX11 yX11_play wsX11_play) := goodIn_app (goodIn_of _ (by decide +kernel)) ggL_law_X11_play
set_option maxRecDepth 20000 in
theorem ggL_law_X12_play : GoodIn wsL_law wsX12_play := goodIn_r _ [753, 139, 732, 733, 734, 5, 735, 174, 175, 176, 177, 178, 179, 180, 142, 181, 754, 755, 756, 757, 366, 367, 368, 369, 370, 371, 372, 373, 374, 375, 376, 377, 378, 221, 222, 223, 224, 225, 226, 227, 228, 229, 230, 231, 232, 233, 234, 235, 236, 379, 380, 381, 382, 383, 384, 385, 386, 387, 388, 389, 390, 1257, 1258, 1259, 1260, 1261, 1262, 1263, 1264, 1265, 1266, 1267, 1268, 1269, 1270, 1271, 1272, 1273, 1274, 1275] (by decide +kernel) (by decide +kernel)
set_option maxRecDepth 20000 in
theorem gL_law_X12_play : GoodIn wsL_law (wsV RL 105 RX12 yX12_play wsX12_play) := goodIn_app (goodIn_of _ (by decide +kernel)) ggL_law_X12_play
set_option maxRecDepth 20000 in
theorem ggL_law_X11_ahead : GoodIn wsL_law wsX11_ahead := goodIn_r _ [761, 154, 33, 158, 159, 2, 160, 161, 162, 163, 164, 13, 762, 763, 764, 31, 765, 118, 766, 767, 768, 769, 120, 770, 771, 772, 773, 47, 774, 61, 65, 69, 70, 775, 776, 777, 778, 212, 206, 201, 71, 260, 207, 331, 316, 317, 779, 780, 781, 60, 782, 169, 75, 783, 76, 77, 78, 784, 785, 786, 64, 787, 82, 83, 84, 85, 338, 86, 339, 337, 350, 341, 87, 788, 440, 420, 421, 422, 340, 323, 204, 324, 789, 790, 791, 68, 792, 359, 91, 793, 92, 93, 360, 361, 794, 309, 310, 311, 312, 313, 314, 315, 202, 203, 205, 318, 319, 320, 321, 322, 325, 326, 327, 328, 329, 330, 332, 195, 196, 197, 198, 199, 200, 208, 209, 210, 211, 333, 334, 335, 336, 342, 343, 344, 345, 346, 347, 348, 349, 351, 352, 353, 354, 355, 356, 357, 358, 795, 796, 797, 798, 799, 800, 801, 802, 803, 519, 520, 521, 522, 486, 487, 488, 1248, 1249, 1250, 1251, 1252, 1253, 1254, 1255, 1256, 1287, 1288, 1289, 1295, 1296, 1297, 1298, 1299, 1300, 1301, 1302, 1303, 1304, 1305, 1306, 1307, 1315, 1316, 1317, 1318, 1319, 1320, 1321, 1322, 1323, 1324, 1325, 1326, 1327, 1328, 1329, 1330, 1331, 1332, 1333, 1334, 1335, 1336] (by decide +kernel) (by decide +kernel)
set_option maxRecDepth 20000 in
theorem gL_law_X11_ahead : GoodIn wsL_law (wsV RL 106 RX11 yX11_ahead wsX11_ahead) := goodIn_app (goodIn_of _ (by decide +kernel)) ggL_law_X11_ahead
set_option maxRecDepth 20000 in
theorem ggL_law_X12_ahead : GoodIn wsL_law wsX12_ahead := goodIn_r _ [807, 370, 139, 174, 175, 5, 176, 177, 178, 179, 180, 142, 181, 808, 809, 810, 811, 141, 812, 813, 814, 366, 367, 368, 369, 371, 372, 373, 374, 375, 376, 377, 378, 221, 222, 223, 224, 225, 226, 227, 228, 229, 230, 231, 232, 233, 234, 235, 236, 379, 380, 381, 382, 383, 384, 385, 386, 387, 388, 389, 390, 815, 816, 817, 818, 819, 524, 525, 526, 820, 821, 822, 823, 1257, 1258, 1259, 1260, 1261, 1262, 1263, 1264, 1265, 1266, 1267, 1268, 1269, 1270, 1271, 1272, 1273, 1274, 1275] (by decide +kernel) (by decide +kernel)
set_option maxRecDepth 20000 in
theorem gL_law_X12_ahead : GoodIn wsL_law (wsV RL 109 RX12 yX12_ahead wsX12_ahead) := goodIn_app (goodIn_of _ (by decide +kernel)) ggL_law_X12_ahead
set_option maxRecDepth 20000 in
theorem ggL_law_X11_under : GoodIn wsL_law wsX11_under := goodIn_r _ [827, 154, 33, 17, 554, 720, 721, 722, 2, 723, 555, 158, 159, 160, 161, 162, 163, 164, 13, 828, 829, 830, 31, 831, 118, 766, 767, 768, 769, 120, 770, 771, 772, 773, 47, 774, 61, 65, 69, 70, 775, 776, 777, 778, 212, 206, 201, 71, 260, 207, 331, 316, 317, 779, 780, 781, 60, 782, 169, 75, 783, 76, 77, 78, 784, 785, 786, 64, 787, 82, 83, 84, 85, 338, 86, 339, 337, 350, 341, 87, 788, 440, 420, 421, 422, 340, 323, 204, 324, 789, 790, 791, 68, 792, 359, 91, 793, 92, 93, 360, 361, 832, 741, 742, 51, 743, 97, 98, 99, 744, 313, 314, 315, 202, 203, 205, 318, 319, 320, 321, 322, 325, 326, 327, 328, 329, 330, 332, 195, 196, 197, 198, 199, 200, 208, 209, 210, 211, 333, 334, 335, 336, 342, 343, 344, 345, 346, 347, 348, 349, 351, 352, 353, 354, 355, 356, 357, 358, 745, 746, 747, 748, 749, 265, 795, 796, 797, 798, 799, 800, 801, 802, 803, 519, 520, 521, 522, 486, 487, 488, 1248, 1249, 1250, 1251, 1252, 1253, 1254, 1255, 1256, 1276, 1277, 1278, 1279, 1311, 1312, 1313, 1314, 1287, 1288, 1289, 1295, 1296, 1297, 1298, 1299, 1300, 1301, 1302, 1303, 1304, 1305, 1306, 1307, 1315, 1316, 1317, 1318, 1319, 1320, 1321, 1322, 1323, 1324, 1325, 1326, 1327, 1328, 1329, 1330, 1331, 1332, 1333, 1334, 1335, 1336] (by decide +kernel) (by decide +kernel)
set_option maxRecDepth 20000 in
theorem gL_law_X11_under : GoodIn wsL_law (wsV RL 110 RX11 yX11_under wsX11_under) := goodIn_app (goodIn_of _ (by decide +kernel)) ggL_law_X11_under
set_option maxRecDepth 20000 in
theorem ggL_law_X12_under : GoodIn wsL_law wsX12_under := goodIn_r _ [836, 370, 139, 732, 733, 734, 5, 735, 174, 175, 176, 177, 178, 179, 180, 142, 181, 808, 809, 810, 811, 141, 812, 813, 814, 754, 755, 756, 757, 366, 367, 368, 369, 371, 372, 373, 374, 375, 376, 377, 378, 221, 222, 223, 224, 225, 226, 227, 228, 229, 230, 231, 232, 233, 234, 235, 236, 379, 380, 381, 382, 383, 384, 385, 386, 387, 388, 389, 390, 815, 816, 817, 818, 819, 524, 525, 526, 820, 821, 822, 823, 1257, 1258, 1259, 1260, 1261, 1262, 1263, 1264, 1265, 1266, 1267, 1268, 1269, 1270, 1271, 1272, 1273, 1274, 1275] (by decide +kernel) (by decide +kernel)
set_option maxRecDepth 20000 in
theorem gL_law_X12_under : GoodIn wsL_law (wsV RL 113 RX12 yX12_under wsX12_under) := goodIn_app (goodIn_of _ (by decide +kernel)) ggL_law_X12_under
set_option maxRecDepth 20000 in
theorem ggL_law_X11_reaches : GoodIn wsL_law wsX11_reaches := goodIn_r _ [840, 154, 33, 158, 159, 2, 160, 161, 162, 163, 164, 13, 841, 842, 843, 31, 844, 118, 799, 766, 767, 768, 769, 120, 770, 771, 772, 773, 47, 774, 61, 65, 69, 70, 775, 776, 777, 778, 212, 206, 201, 71, 260, 207, 331, 316, 317, 779, 780, 781, 60, 782, 169, 75, 783, 76, 77, 78, 784, 785, 786, 64, 787, 82, 83, 84, 85, 338, 86, 339, 337, 350, 341, 87, 788, 440, 420, 421, 422, 340, 323, 204, 324, 789, 790, 791, 68, 792, 359, 91, 793, 92, 93, 360, 361, 845, 313, 314, 315, 202, 203, 205, 318, 319, 320, 321, 322, 325, 326, 327, 328, 329, 330, 332, 195, 196, 197, 198, 199, 200, 208, 209, 210, 211, 333, 334, 335, 336, 342, 343, 344, 345, 346, 347, 348, 349, 351, 352, 353, 354, 355, 356, 357, 358, 846, 847, 848, 849, 435, 1248, 1249, 1250, 1251, 1252, 1253, 1254, 1255, 1256, 1287, 1288, 1289, 1295, 1296, 1297, 1298, 1299, 1300, 1301, 1302, 1303, 1304, 1305, 1306, 1307, 1315, 1316, 1317, 1318, 1319, 1320, 1321, 1322, 1323, 1324, 1325, 1326, 1327, 1328, 1329, 1330, 1331, 1332, 1333, 1334, 1335, 1336] (by decide +kernel) (by decide +kernel)
set_option maxRecDepth 20000 in
theorem gL_law_X11_reaches : GoodIn wsL_law (wsV RL 114 RX11 yX11_reaches wsX11_reaches) := goodIn_app (goodIn_of _ (by decide +kernel)) ggL_law_X11_reaches
set_option maxRecDepth 20000 in
theorem ggL_law_X12_reaches : GoodIn wsL_law wsX12_reaches := goodIn_r _ [853, 370, 174, 175, 5, 176, 177, 178, 179, 180, 142, 181, 808, 809, 810, 811, 139, 141, 812, 813, 814, 366, 367, 368, 369, 371, 372, 373, 374, 375, 376, 377, 378, 221, 222, 223, 224, 225, 226, 227, 228, 229, 230, 231, 232, 233, 234, 235, 236, 379, 380, 381, 382, 383, 384, 385, 386, 387, 388, 389, 390, 820, 821, 822, 823, 1257, 1258, 1259, 1260, 1261, 1262, 1263, 1264, 1265, 1266, 1267, 1268, 1269, 1270, 1271, 1272, 1273, 1274, 1275] (by decide +kernel) (by decide +kernel)
set_option maxRecDepth 20000 in
theorem gL_law_X12_reaches : GoodIn wsL_law (wsV RL 117 RX12 yX12_reaches wsX12_reaches) := goodIn_app (goodIn_of _ (by decide +kernel)) ggL_law_X12_reaches
set_option maxRecDepth 20000 in
theorem ggL_law_X11_bestOn : GoodIn wsL_law wsX11_bestOn := goodIn_r _ [857, 154, 33, 858, 859, 2, 860, 158, 159, 160, 161, 162, 163, 164, 13, 861, 862, 863, 31, 864, 120, 800, 865, 118, 866, 801, 867, 868, 869, 870, 119, 871, 766, 767, 768, 769, 770, 771, 772, 773, 47, 774, 61, 65, 69, 70, 775, 776, 777, 778, 212, 206, 201, 71, 260, 207, 331, 316, 317, 779, 780, 781, 60, 782, 169, 75, 783, 76, 77, 78, 784, 785, 786, 64, 787, 82, 83, 84, 85, 338, 86, 339, 337, 350, 341, 87, 788, 440, 420, 421, 422, 340, 323, 204, 324, 789, 790, 791, 68, 792, 359, 91, 793, 92, 93, 360, 361, 872, 319, 320, 321, 322, 873, 326, 327, 328, 329, 330, 332, 195, 196, 197, 198, 199, 200, 202, 203, 205, 208, 209, 210, 211, 874, 875, 876, 877, 878, 799, 879, 880, 334, 335, 336, 342, 343, 344, 345, 346, 347, 348, 349, 351, 352, 353, 354, 846, 847, 848, 849, 435, 1248, 1249, 1250, 1251, 1252, 1253, 1254, 1255, 1256, 1287, 1288, 1289, 1295, 1296, 1297, 1298, 1299, 1300, 1301, 1302, 1303, 1304, 1305, 1306, 1307, 1320, 1321, 1322, 1323, 1324, 1325, 1326, 1327, 1328, 1329, 1330, 1315, 1316, 1317, 1318, 1319, 1331, 1332, 1333, 1334, 1335, 1336] (by decide +kernel) (by decide +kernel)
set_option maxRecDepth 20000 in
theorem gL_law_X11_bestOn : GoodIn wsL_law (wsV RL 118 RX11 yX11_bestOn wsX11_bestOn) := goodIn_app (goodIn_of _ (by decide +kernel)) ggL_law_X11_bestOn
set_option maxRecDepth 20000 in
theorem ggL_law_X12_bestOn : GoodIn wsL_law wsX12_bestOn := goodIn_r _ [884, 139, 885, 886, 5, 887, 174, 175, 176, 177, 178, 179, 180, 142, 181, 888, 889, 890, 891, 370, 808, 809, 810, 811, 141, 812, 813, 814, 366, 367, 368, 369, 371, 372, 373, 374, 375, 376, 377, 378, 221, 222, 223, 224, 225, 226, 227, 228, 229, 230, 231, 232, 233, 234, 235, 236, 379, 380, 381, 382, 383, 384, 385, 386, 387, 388, 389, 390, 820, 821, 822, 823, 1257, 1258, 1259, 1260, 1261, 1262, 1263, 1264, 1265, 1266, 1267, 1268, 1269, 1270, 1271, 1272, 1273, 1274, 1275] (by decide +kernel) (by decide +kernel)
set_option maxRecDepth 20000 in
theorem gL_law_X12_bestOn : GoodIn wsL_law (wsV RL 121 RX12 yX12_bestOn wsX12_bestOn) := goodIn_app (goodIn_of _ (by decide +kernel)) ggL_law_X12_bestOn
set_option maxRecDepth 20000 in
theorem ggL_law_X11_rateFor : GoodIn wsL_law wsX11_rateFor := goodIn_r _ [895, 154, 33, 858, 859, 2, 860, 158, 159, 160, 161, 162, 163, 164, 13, 896, 897, 898, 31, 899, 118, 800, 120, 900, 867, 868, 869, 870, 119, 871, 766, 767, 768, 769, 770, 771, 772, 773, 47, 774, 61, 65, 69, 70, 775, 776, 777, 778, 212, 206, 201, 71, 260, 207, 331, 316, 317, 779, 780, 781, 60, 782, 169, 75, 783, 76, 77, 78, 784, 785, 786, 64, 787, 82, 83, 84, 85, 338, 86, 339, 337, 350, 341, 87, 788, 440, 420, 421, 422, 340, 323, 204, 324, 789, 790, 791, 68, 792, 359, 91, 793, 92, 93, 360, 361, 872, 319, 320, 321, 322, 873, 326, 327, 328, 329, 330, 332, 195, 196, 197, 198, 199, 200, 202, 203, 205, 208, 209, 210, 211, 874, 875, 876, 877, 878, 799, 879, 880, 334, 335, 336, 342, 343, 344, 345, 346, 347, 348, 349, 351, 352, 353, 354, 846, 847, 848, 849, 435, 1248, 1249, 1250, 1251, 1252, 1253, 1254, 1255, 1256, 1287, 1288, 1289, 1295, 1296, 1297, 1298, 1299, 1300, 1301, 1302, 1303, 1304, 1305, 1306, 1307, 1320, 1321, 1322, 1323, 1324, 1325, 1326, 1327, 1328, 1329, 1330, 1315, 1316, 1317, 1318, 1319, 1331, 1332, 1333, 1334, 1335, 1336] (by decide +kernel) (by decide +kernel)
set_option maxRecDepth 20000 in
theorem gL_law_X11_rateFor : GoodIn wsL_law (wsV RL 122 RX11 yX11_rateFor wsX11_rateFor) := goodIn_app (goodIn_of _ (by decide +kernel)) ggL_law_X11_rateFor
set_option maxRecDepth 20000 in
theorem ggL_law_X12_rateFor : GoodIn wsL_law wsX12_rateFor := goodIn_r _ [904, 885, 886, 5, 887, 174, 175, 176, 177, 178, 179, 180, 142, 181, 888, 889, 890, 891, 370, 139, 808, 809, 810, 811, 141, 812, 813, 814, 366, 367, 368, 369, 371, 372, 373, 374, 375, 376, 377, 378, 221, 222, 223, 224, 225, 226, 227, 228, 229, 230, 231, 232, 233, 234, 235, 236, 379, 380, 381, 382, 383, 384, 385, 386, 387, 388, 389, 390, 820, 821, 822, 823, 1257, 1258, 1259, 1260, 1261, 1262, 1263, 1264, 1265, 1266, 1267, 1268, 1269, 1270, 1271, 1272, 1273, 1274, 1275] (by decide +kernel) (by decide +kernel)
set_option maxRecDepth 20000 in
theorem gL_law_X12_rateFor : GoodIn wsL_law (wsV RL 125 RX12 yX12_rateFor wsX12_rateFor) := goodIn_app (goodIn_of _ (by decide +kernel)) ggL_law_X12_rateFor
set_option maxRecDepth 20000 in
theorem ggL_law_X11_batteryFor : GoodIn wsL_law wsX11_batteryFor := goodIn_r _ [908, 154, 33, 858, 859, 2, 860, 158, 159, 160, 161, 162, 163, 164, 13, 909, 910, 911, 31, 912, 118, 800, 120, 913, 914, 867, 868, 869, 870, 119, 871, 766, 767, 768, 769, 770, 771, 772, 773, 47, 774, 61, 65, 69, 70, 775, 776, 777, 778, 212, 206, 201, 71, 260, 207, 331, 316, 317, 779, 780, 781, 60, 782, 169, 75, 783, 76, 77, 78, 784, 785, 786, 64, 787, 82, 83, 84, 85, 338, 86, 339, 337, 350, 341, 87, 788, 440, 420, 421, 422, 340, 323, 204, 324, 789, 790, 791, 68, 792, 359, 91, 793, 92, 93, 360, 361, 872, 319, 320, 321, 322, 873, 326, 327, 328, 329, 330, 332, 195, 196, 197, 198, 199, 200, 202, 203, 205, 208, 209, 210, 211, 874, 875, 876, 877, 878, 799, 879, 880, 334, 335, 336, 342, 343, 344, 345, 346, 347, 348, 349, 351, 352, 353, 354, 846, 847, 848, 849, 435, 1248, 1249, 1250, 1251, 1252, 1253, 1254, 1255, 1256, 1287, 1288, 1289, 1295, 1296, 1297, 1298, 1299, 1300, 1301, 1302, 1303, 1304, 1305, 1306, 1307, 1320, 1321, 1322, 1323, 1324, 1325, 1326, 1327, 1328, 1329, 1330, 1315, 1316, 1317, 1318, 1319, 1331, 1332, 1333, 1334, 1335, 1336] (by decide +kernel) (by decide +kernel)
set_option maxRecDepth 20000 in
theorem gL_law_X11_batteryFor : GoodIn wsL_law (wsV RL 126 RX11 yX11_batteryFor wsX11_batteryFor) := goodIn_app (goodIn_of _ (by decide +kernel)) ggL_law_X11_batteryFor
set_option maxRecDepth 20000 in
theorem ggL_law_X12_batteryFor : GoodIn wsL_law wsX12_batteryFor := goodIn_r _ [918, 139, 885, 886, 5, 887, 174, 175, 176, 177, 178, 179, 180, 142, 181, 888, 889, 890, 891, 370, 808, 809, 810, 811, 141, 812, 813, 814, 366, 367, 368, 369, 371, 372, 373, 374, 375, 376, 377, 378, 221, 222, 223, 224, 225, 226, 227, 228, 229, 230, 231, 232, 233, 234, 235, 236, 379, 380, 381, 382, 383, 384, 385, 386, 387, 388, 389, 390, 820, 821, 822, 823, 1257, 1258, 1259, 1260, 1261, 1262, 1263, 1264, 1265, 1266, 1267, 1268, 1269, 1270, 1271, 1272, 1273, 1274, 1275] (by decide +kernel) (by decide +kernel)
set_option maxRecDepth 20000 in
theorem gL_law_X12_batteryFor : GoodIn wsL_law (wsV RL 129 RX12 yX12_batteryFor wsX12_batteryFor) := goodIn_app (goodIn_of _ (by decide +kernel)) ggL_law_X12_batteryFor
set_option maxRecDepth 20000 in
theorem ggL_law_X11_cost : GoodIn wsL_law wsX11_cost := goodIn_r _ [922, 154, 17, 32, 923, 158, 159, 2, 160, 161, 162, 163, 164, 13, 1248, 1249, 1250, 1251, 1252, 1253, 1254, 1255, 1256, 1276, 1277, 1278, 1279, 1295, 1296, 1297, 1298, 1299, 1300, 1301, 1302, 1303, 1304, 1305, 1306, 1307] (by decide +kernel) (by decide +kernel)
set_option maxRecDepth 20000 in
theorem gL_law_X11_cost : GoodIn wsL_law (wsV RL 130 RX11 yX11_cost wsX11_cost) := goodIn_app (goodIn_of _ (by decide +kernel)) ggL_law_X11_cost
set_option maxRecDepth 20000 in
theorem ggL_law_X12_cost : GoodIn wsL_law wsX12_cost := goodIn_r _ [927, 139, 174, 175, 5, 176, 177, 178, 179, 180, 142, 181, 1257, 1258, 1259, 1260, 1261, 1262, 1263, 1264, 1265, 1266, 1267, 1268, 1269, 1270, 1271, 1272, 1273, 1274, 1275] (by decide +kernel) (by decide +kernel)
set_option maxRecDepth 20000 in
theorem gL_law_X12_cost : GoodIn wsL_law (wsV RL 133 RX12 yX12_cost wsX12_cost) := goodIn_app (goodIn_of _ (by decide +kernel)) ggL_law_X12_cost
set_option maxRecDepth 20000 in
theorem ggL_law_X11_build : GoodIn wsL_law wsX11_build := goodIn_r _ [931, 154, 17, 32, 296, 932, 158, 159, 2, 160, 161, 162, 163, 164, 13, 298, 209, 210, 47, 211, 212, 933, 934, 935, 936, 206, 65, 937, 265, 322, 323, 204, 324, 1248, 1249, 1250, 1251, 1252, 1253, 1254, 1255, 1256, 1276, 1277, 1278, 1279, 1295, 1296, 1297, 1298, 1299, 1300, 1301, 1302, 1303, 1304, 1305, 1306, 1307, 1320, 1321, 1322, 1323, 1324, 1325, 1326, 1327, 1328, 1329, 1330] (by decide +kernel) (by decide +kernel)
set_option maxRecDepth 20000 in
theorem gL_law_X11_build : GoodIn wsL_law (wsV RL 134 RX11 yX11_build wsX11_build) := goodIn_app (goodIn_of _ (by decide +kernel)) ggL_law_X11_build
set_option maxRecDepth 20000 in
theorem ggL_law_X12_build : GoodIn wsL_law wsX12_build := goodIn_r _ [941, 139, 174, 175, 5, 176, 177, 178, 179, 180, 142, 181, 233, 234, 235, 236, 942, 943, 944, 945, 1257, 1258, 1259, 1260, 1261, 1262, 1263, 1264, 1265, 1266, 1267, 1268, 1269, 1270, 1271, 1272, 1273, 1274, 1275] (by decide +kernel) (by decide +kernel)
set_option maxRecDepth 20000 in
theorem gL_law_X12_build : GoodIn wsL_law (wsV RL 137 RX12 yX12_build wsX12_build) := goodIn_app (goodIn_of _ (by decide +kernel)) ggL_law_X12_build
set_option maxRecDepth 20000 in
theorem ggL_law_X11_worth : GoodIn wsL_law wsX11_worth := goodIn_r _ [949, 154, 33, 17, 554, 720, 721, 722, 2, 723, 555, 158, 159, 160, 161, 162, 163, 164, 13, 950, 951, 952, 31, 953, 120, 954, 118, 802, 955, 956, 957, 47, 958, 70, 766, 767, 768, 769, 770, 771, 772, 773, 774, 61, 65, 69, 775, 776, 777, 778, 212, 206, 201, 71, 260, 207, 331, 316, 317, 779, 780, 781, 60, 782, 169, 75, 783, 76, 77, 78, 784, 785, 786, 64, 787, 82, 83, 84, 85, 338, 86, 339, 337, 350, 341, 87, 788, 440, 420, 421, 422, 340, 323, 204, 324, 789, 790, 791, 68, 792, 359, 91, 793, 92, 93, 360, 361, 959, 960, 961, 962, 963, 934, 935, 936, 937, 265, 322, 832, 741, 742, 51, 743, 97, 98, 99, 744, 313, 314, 315, 202, 203, 205, 318, 319, 320, 321, 325, 326, 327, 328, 329, 330, 332, 195, 196, 197, 198, 199, 200, 208, 209, 210, 211, 333, 334, 335, 336, 342, 343, 344, 345, 346, 347, 348, 349, 351, 352, 353, 354, 355, 356, 357, 358, 745, 746, 747, 748, 749, 803, 519, 520, 521, 522, 486, 487, 488, 1248, 1249, 1250, 1251, 1252, 1253, 1254, 1255, 1256, 1276, 1277, 1278, 1279, 1311, 1312, 1313, 1314, 1287, 1288, 1289, 1295, 1296, 1297, 1298, 1299, 1300, 1301, 1302, 1303, 1304, 1305, 1306, 1307, 1315, 1316, 1317, 1318, 1319, 1320, 1321, 1322, 1323, 1324, 1325, 1326, 1327, 1328, 1329, 1330, 1331, 1332, 1333, 1334, 1335, 1336] (by decide +kernel) (by decide +kernel)
set_option maxRecDepth 20000 in
theorem gL_law_X11_worth : GoodIn wsL_law (wsV RL 138 RX11 yX11_worth wsX11_worth) := goodIn_app (goodIn_of _ (by decide +kernel)) ggL_law_X11_worth
set_option maxRecDepth 20000 in
theorem ggL_law_X12_worth : GoodIn wsL_law wsX12_worth := goodIn_r _ [967, 139, 732, 733, 734, 5, 735, 174, 175, 176, 177, 178, 179, 180, 142, 181, 968, 969, 970, 971, 808, 809, 810, 811, 141, 812, 813, 814, 942, 943, 944, 945, 754, 755, 756, 757, 366, 367, 368, 369, 370, 371, 372, 373, 374, 375, 376, 377, 378, 221, 222, 223, 224, 225, 226, 227, 228, 229, 230, 231, 232, 233, 234, 235, 236, 379, 380, 381, 382, 383, 384, 385, 386, 387, 388, 389, 390, 815, 816, 817, 818, 819, 524, 525, 526, 820, 821, 822, 823, 972, 973, 974, 975, 1257, 1258, 1259, 1260, 1261, 1262, 1263, 1264, 1265, 1266, 1267, 1268, 1269, 1270, 1271, 1272, 1273, 1274, 1275] (by decide +kernel) (by decide +kernel)
set_option maxRecDepth 20000 in
theorem gL_law_X12_worth : GoodIn wsL_law (wsV RL 141 RX12 yX12_worth wsX12_worth) := goodIn_app (goodIn_of _ (by decide +kernel)) ggL_law_X12_worth
set_option maxRecDepth 20000 in
theorem ggL_law_X11_rescue : GoodIn wsL_law wsX11_rescue := goodIn_r _ [979, 154, 33, 38, 980, 158, 159, 2, 160, 161, 162, 163, 164, 13, 981, 982, 983, 31, 984, 118, 802, 985, 799, 986, 879, 323, 204, 324, 766, 767, 768, 769, 120, 770, 771, 772, 773, 47, 774, 61, 65, 69, 70, 775, 776, 777, 778, 212, 206, 201, 71, 260, 207, 331, 316, 317, 779, 780, 781, 60, 782, 169, 75, 783, 76, 77, 78, 784, 785, 786, 64, 787, 82, 83, 84, 85, 338, 86, 339, 337, 350, 341, 87, 788, 440, 420, 421, 422, 340, 789, 790, 791, 68, 792, 359, 91, 793, 92, 93, 360, 361, 987, 482, 483, 484, 988, 486, 487, 488, 845, 313, 314, 315, 202, 203, 205, 318, 319, 320, 321, 322, 325, 326, 327, 328, 329, 330, 332, 195, 196, 197, 198, 199, 200, 208, 209, 210, 211, 333, 334, 335, 336, 342, 343, 344, 345, 346, 347, 348, 349, 351, 352, 353, 354, 355, 356, 357, 358, 989, 990, 991, 36, 992, 129, 130, 993, 127, 994, 995, 996, 997, 126, 998, 999, 1000, 1001, 1002, 1003, 125, 1004, 1005, 1006, 1007, 1008, 1009, 1010, 1011, 1012, 1013, 1014, 1015, 1248, 1249, 1250, 1251, 1252, 1253, 1254, 1255, 1256, 1290, 1291, 1292, 1293, 1294, 1287, 1288, 1289, 1295, 1296, 1297, 1298, 1299, 1300, 1301, 1302, 1303, 1304, 1305, 1306, 1307, 1331, 1332, 1333, 1334, 1335, 1336, 1315, 1316, 1317, 1318, 1319, 1320, 1321, 1322, 1323, 1324, 1325, 1326, 1327, 1328, 1329, 1330] (by decide +kernel) (by decide +kernel)
set_option maxRecDepth 20000 in
theorem gL_law_X11_rescue : GoodIn wsL_law (wsV RL 142 RX11 yX11_rescue wsX11_rescue) := goodIn_app (goodIn_of _ (by decide +kernel)) ggL_law_X11_rescue
set_option maxRecDepth 20000 in
theorem ggL_law_X12_rescue : GoodIn wsL_law wsX12_rescue := goodIn_r _ [1019, 139, 145, 174, 175, 5, 176, 177, 178, 179, 180, 142, 181, 1020, 1021, 1022, 1023, 808, 809, 810, 811, 141, 812, 813, 814, 371, 372, 373, 374, 375, 376, 377, 378, 221, 222, 223, 224, 225, 226, 227, 228, 229, 230, 231, 232, 233, 234, 235, 236, 379, 380, 381, 382, 383, 384, 385, 386, 387, 388, 389, 390, 820, 821, 822, 823, 1024, 1025, 1026, 1027, 1028, 1029, 1030, 1031, 1257, 1258, 1259, 1260, 1261, 1262, 1263, 1264, 1265, 1266, 1267, 1268, 1269, 1270, 1271, 1272, 1273, 1274, 1275] (by decide +kernel) (by decide +kernel)
set_option maxRecDepth 20000 in
theorem gL_law_X12_rescue : GoodIn wsL_law (wsV RL 145 RX12 yX12_rescue wsX12_rescue) := goodIn_app (goodIn_of _ (by decide +kernel)) ggL_law_X12_rescue
set_option maxRecDepth 20000 in
theorem ggL_law_X11_shelf : GoodIn wsL_law wsX11_shelf := goodIn_r _ [1035, 154, 38, 158, 159, 2, 160, 161, 162, 163, 164, 13, 1036, 1037, 1038, 36, 1039, 130, 993, 126, 127, 994, 995, 996, 997, 998, 999, 1248, 1249, 1250, 1251, 1252, 1253, 1254, 1255, 1256, 1290, 1291, 1292, 1293, 1294, 1331, 1332, 1333, 1334, 1335, 1336] (by decide +kernel) (by decide +kernel)
set_option maxRecDepth 20000 in
theorem gL_law_X11_shelf : GoodIn wsL_law (wsV RL 146 RX11 yX11_shelf wsX11_shelf) := goodIn_app (goodIn_of _ (by decide +kernel)) ggL_law_X11_shelf
set_option maxRecDepth 20000 in
theorem ggL_law_X12_shelf : GoodIn wsL_law wsX12_shelf := goodIn_r _ [1043, 139, 174, 175, 5, 176, 177, 178, 179, 180, 142, 181, 1044, 1045, 1046, 1047, 387, 388, 389, 390, 1024, 1025, 1026, 1027, 1257, 1258, 1259, 1260, 1261, 1262, 1263, 1264, 1265, 1266, 1267, 1268, 1269, 1270, 1271, 1272, 1273, 1274, 1275] (by decide +kernel) (by decide +kernel)
set_option maxRecDepth 20000 in
theorem gL_law_X12_shelf : GoodIn wsL_law (wsV RL 149 RX12 yX12_shelf wsX12_shelf) := goodIn_app (goodIn_of _ (by decide +kernel)) ggL_law_X12_shelf
set_option maxRecDepth 20000 in
theorem ggL_law_X11_odds : GoodIn wsL_law wsX11_odds := goodIn_r _ [1051, 154, 17, 33, 158, 159, 2, 160, 161, 162, 163, 164, 13, 1052, 1053, 1054, 16, 1055, 54, 1056, 1057, 1058, 1059, 31, 1060, 118, 1061, 800, 913, 799, 766, 767, 768, 769, 120, 770, 771, 772, 773, 47, 774, 61, 65, 69, 70, 775, 776, 777, 778, 212, 206, 201, 71, 260, 207, 331, 316, 317, 779, 780, 781, 60, 782, 169, 75, 783, 76, 77, 78, 784, 785, 786, 64, 787, 82, 83, 84, 85, 338, 86, 339, 337, 350, 341, 87, 788, 440, 420, 421, 422, 340, 323, 204, 324, 789, 790, 791, 68, 792, 359, 91, 793, 92, 93, 360, 361, 845, 313, 314, 315, 202, 203, 205, 318, 319, 320, 321, 322, 325, 326, 327, 328, 329, 330, 332, 195, 196, 197, 198, 199, 200, 208, 209, 210, 211, 333, 334, 335, 336, 342, 343, 344, 345, 346, 347, 348, 349, 351, 352, 353, 354, 355, 356, 357, 358, 1248, 1249, 1250, 1251, 1252, 1253, 1254, 1255, 1256, 1276, 1277, 1278, 1279, 1287, 1288, 1289, 1295, 1296, 1297, 1298, 1299, 1300, 1301, 1302, 1303, 1304, 1305, 1306, 1307, 1320, 1321, 1322, 1323, 1324, 1325, 1326, 1327, 1328, 1329, 1330, 1315, 1316, 1317, 1318, 1319, 1331, 1332, 1333, 1334, 1335, 1336] (by decide +kernel) (by decide +kernel)
set_option maxRecDepth 20000 in
theorem gL_law_X11_odds : GoodIn wsL_law (wsV RL 150 RX11 yX11_odds wsX11_odds) := goodIn_app (goodIn_of _ (by decide +kernel)) ggL_law_X11_odds
set_option maxRecDepth 20000 in
theorem ggL_law_X12_odds : GoodIn wsL_law wsX12_odds := goodIn_r _ [1065, 370, 139, 174, 175, 5, 176, 177, 178, 179, 180, 142, 181, 1066, 1067, 1068, 1069, 1070, 808, 809, 810, 811, 141, 812, 813, 814, 366, 367, 368, 369, 371, 372, 373, 374, 375, 376, 377, 378, 221, 222, 223, 224, 225, 226, 227, 228, 229, 230, 231, 232, 233, 234, 235, 236, 379, 380, 381, 382, 383, 384, 385, 386, 387, 388, 389, 390, 820, 821, 822, 823, 1257, 1258, 1259, 1260, 1261, 1262, 1263, 1264, 1265, 1266, 1267, 1268, 1269, 1270, 1271, 1272, 1273, 1274, 1275] (by decide +kernel) (by decide +kernel)
set_option maxRecDepth 20000 in
theorem gL_law_X12_odds : GoodIn wsL_law (wsV RL 153 RX12 yX12_odds wsX12_odds) := goodIn_app (goodIn_of _ (by decide +kernel)) ggL_law_X12_odds
set_option maxRecDepth 20000 in
theorem ggL_law_X11_seed : GoodIn wsL_law wsX11_seed := goodIn_r _ [1074, 17, 1075, 1248, 1249, 1250, 1251, 1252, 1253, 1254, 1255, 1256, 1276, 1277, 1278, 1279] (by decide +kernel) (by decide +kernel)
set_option maxRecDepth 20000 in
theorem gL_law_X11_seed : GoodIn wsL_law (wsV RL 154 RX11 yX11_seed wsX11_seed) := goodIn_app (goodIn_of _ (by decide +kernel)) ggL_law_X11_seed
set_option maxRecDepth 20000 in
theorem ggL_law_X12_seed : GoodIn wsL_law wsX12_seed := goodIn_r _ [1079, 139, 1257, 1258, 1259, 1260, 1261, 1262, 1263, 1264, 1265, 1266, 1267, 1268, 1269, 1270, 1271, 1272, 1273, 1274, 1275] (by decide +kernel) (by decide +kernel)
set_option maxRecDepth 20000 in
theorem gL_law_X12_seed : GoodIn wsL_law (wsV RL 157 RX12 yX12_seed wsX12_seed) := goodIn_app (goodIn_of _ (by decide +kernel)) ggL_law_X12_seed
set_option maxRecDepth 20000 in
theorem ggL_law_X11_hold : GoodIn wsL_law wsX11_hold := goodIn_r _ [1083, 154, 17, 1084, 158, 159, 2, 160, 190, 191, 192, 193, 32, 155, 156, 161, 162, 163, 164, 13, 1248, 1249, 1250, 1251, 1252, 1253, 1254, 1255, 1256, 1276, 1277, 1278, 1279, 1295, 1296, 1297, 1298, 1299, 1300, 1301, 1302, 1303, 1304, 1305, 1306, 1307, 1315, 1316, 1317, 1318, 1319] (by decide +kernel) (by decide +kernel)
set_option maxRecDepth 20000 in
theorem gL_law_X11_hold : GoodIn wsL_law (wsV RL 158 RX11 yX11_hold wsX11_hold) := goodIn_app (goodIn_of _ (by decide +kernel)) ggL_law_X11_hold
set_option maxRecDepth 20000 in
theorem ggL_law_X12_hold : GoodIn wsL_law wsX12_hold := goodIn_r _ [1088, 139, 174, 175, 5, 176, 217, 218, 219, 220, 177, 178, 179, 180, 142, 181, 1257, 1258, 1259, 1260, 1261, 1262, 1263, 1264, 1265, 1266, 1267, 1268, 1269, 1270, 1271, 1272, 1273, 1274, 1275] (by decide +kernel) (by decide +kernel)
set_option maxRecDepth 20000 in
theorem gL_law_X12_hold : GoodIn wsL_law (wsV RL 161 RX12 yX12_hold wsX12_hold) := goodIn_app (goodIn_of _ (by decide +kernel)) ggL_law_X12_hold
set_option maxRecDepth 20000 in
theorem ggL_law_X11_as : GoodIn wsL_law wsX11_as := goodIn_r _ [1092, 154, 17, 1084, 1093, 32, 155, 1094, 158, 159, 2, 160, 161, 162, 163, 164, 13, 190, 191, 192, 193, 156, 1095, 1096, 1097, 60, 1098, 75, 1248, 1249, 1250, 1251, 1252, 1253, 1254, 1255, 1256, 1276, 1277, 1278, 1279, 1295, 1296, 1297, 1298, 1299, 1300, 1301, 1302, 1303, 1304, 1305, 1306, 1307, 1315, 1316, 1317, 1318, 1319] (by decide +kernel) (by decide +kernel)
set_option maxRecDepth 20000 in
theorem gL_law_X11_as : GoodIn wsL_law (wsV RL 162 RX11 yX11_as wsX11_as) := goodIn_app (goodIn_of _ (by decide +kernel)) ggL_law_X11_as
set_option maxRecDepth 20000 in
theorem ggL_law_X12_as : GoodIn wsL_law wsX12_as := goodIn_r _ [1102, 139, 174, 175, 5, 176, 177, 178, 179, 180, 142, 181, 225, 226, 227, 228, 1103, 1104, 1105, 1257, 1258, 1259, 1260, 1261, 1262, 1263, 1264, 1265, 1266, 1267, 1268, 1269, 1270, 1271, 1272, 1273, 1274, 1275] (by decide +kernel) (by decide +kernel)
set_option maxRecDepth 20000 in
theorem gL_law_X12_as : GoodIn wsL_law (wsV RL 165 RX12 yX12_as wsX12_as) := goodIn_app (goodIn_of _ (by decide +kernel)) ggL_law_X12_as
set_option maxRecDepth 20000 in
theorem ggL_law_X11_sheet : GoodIn wsL_law wsX11_sheet := goodIn_r _ [1109, 154, 1110, 28, 1111, 1112, 1113, 2, 1114, 158, 159, 160, 161, 162, 163, 164, 13, 1115, 1116, 1117, 40, 1118, 1119, 1120, 134, 1121, 101, 102, 103, 1248, 1249, 1250, 1251, 1252, 1253, 1254, 1255, 1256, 1308, 1309, 1310] (by decide +kernel) (by decide +kernel)
set_option maxRecDepth 20000 in
theorem gL_law_X11_sheet : GoodIn wsL_law (wsV RL 166 RX11 yX11_sheet wsX11_sheet) := goodIn_app (goodIn_of _ (by decide +kernel)) ggL_law_X11_sheet
set_option maxRecDepth 20000 in
theorem ggL_law_X12_sheet : GoodIn wsL_law wsX12_sheet := goodIn_r _ [1125, 146, 147, 148, 1126, 1127, 5, 1128, 174, 175, 176, 177, 178, 179, 180, 142, 181, 1257, 1258, 1259, 1260, 1261, 1262, 1263, 1264, 1265, 1266, 1267, 1268, 1269, 1270, 1271, 1272, 1273, 1274, 1275] (by decide +kernel) (by decide +kernel)
set_option maxRecDepth 20000 in
theorem gL_law_X12_sheet : GoodIn wsL_law (wsV RL 169 RX12 yX12_sheet wsX12_sheet) := goodIn_app (goodIn_of _ (by decide +kernel)) ggL_law_X12_sheet
set_option maxRecDepth 20000 in
theorem ggL_law_X11_write : GoodIn wsL_law wsX11_write := goodIn_r _ [1132, 154, 28, 1093, 1111, 1112, 1113, 2, 1114, 158, 159, 160, 161, 162, 163, 164, 13, 1133, 1134, 1135, 40, 1136, 1119, 1137, 1138, 1139, 1140, 134, 1248, 1249, 1250, 1251, 1252, 1253, 1254, 1255, 1256, 1308, 1309, 1310] (by decide +kernel) (by decide +kernel)
set_option maxRecDepth 20000 in
theorem gL_law_X11_write : GoodIn wsL_law (wsV RL 170 RX11 yX11_write wsX11_write) := goodIn_app (goodIn_of _ (by decide +kernel)) ggL_law_X11_write
set_option maxRecDepth 20000 in
theorem ggL_law_X12_write : GoodIn wsL_law wsX12_write := goodIn_r _ [1144, 146, 147, 148, 1126, 1127, 5, 1128, 174, 175, 176, 177, 178, 179, 180, 142, 181, 1257, 1258, 1259, 1260, 1261, 1262, 1263, 1264, 1265, 1266, 1267, 1268, 1269, 1270, 1271, 1272, 1273, 1274, 1275] (by decide +kernel) (by decide +kernel)
set_option maxRecDepth 20000 in
theorem gL_law_X12_write : GoodIn wsL_law (wsV RL 173 RX12 yX12_write wsX12_write) := goodIn_app (goodIn_of _ (by decide +kernel)) ggL_law_X12_write
set_option maxRecDepth 20000 in
theorem ggL_law_X11_copy : GoodIn wsL_law wsX11_copy := goodIn_r _ [1148, 154, 28, 1093, 1149, 1094, 1150, 1151, 776, 777, 778, 1112, 1113, 2, 1114, 158, 159, 160, 161, 162, 163, 164, 13, 1133, 1134, 1135, 40, 1136, 1119, 1152, 1153, 1154, 1155, 1120, 1248, 1249, 1250, 1251, 1252, 1253, 1254, 1255, 1256, 1308, 1309, 1310] (by decide +kernel) (by decide +kernel)
set_option maxRecDepth 20000 in
theorem gL_law_X11_copy : GoodIn wsL_law (wsV RL 174 RX11 yX11_copy wsX11_copy) := goodIn_app (goodIn_of _ (by decide +kernel)) ggL_law_X11_copy
set_option maxRecDepth 20000 in
theorem ggL_law_X12_copy : GoodIn wsL_law wsX12_copy := goodIn_r _ [1159, 146, 147, 149, 148, 1126, 1127, 5, 1128, 174, 175, 176, 177, 178, 179, 180, 142, 181, 1257, 1258, 1259, 1260, 1261, 1262, 1263, 1264, 1265, 1266, 1267, 1268, 1269, 1270, 1271, 1272, 1273, 1274, 1275] (by decide +kernel) (by decide +kernel)
set_option maxRecDepth 20000 in
theorem gL_law_X12_copy : GoodIn wsL_law (wsV RL 178 RX12 yX12_copy wsX12_copy) := goodIn_app (goodIn_of _ (by decide +kernel)) ggL_law_X12_copy
set_option maxRecDepth 20000 in
theorem ggL_law_X11_load : GoodIn wsL_law wsX11_load := goodIn_r _ [1163, 154, 28, 1093, 1111, 1150, 249, 250, 17, 32, 1164, 1112, 1113, 2, 1114, 158, 159, 160, 161, 162, 163, 164, 13, 1133, 1134, 1135, 40, 1136, 1119, 1165, 313, 314, 47, 315, 260, 316, 65, 207, 69, 317, 202, 203, 204, 205, 318, 319, 320, 321, 71, 201, 322, 323, 324, 325, 326, 327, 328, 61, 329, 330, 331, 332, 195, 196, 197, 198, 199, 200, 206, 208, 209, 210, 211, 212, 333, 334, 335, 64, 336, 337, 82, 86, 338, 339, 84, 340, 341, 83, 342, 343, 344, 345, 346, 347, 348, 349, 350, 85, 351, 352, 353, 354, 87, 355, 356, 357, 68, 358, 359, 93, 360, 361, 1248, 1249, 1250, 1251, 1252, 1253, 1254, 1255, 1256, 1308, 1309, 1310, 1276, 1277, 1278, 1279, 1295, 1296, 1297, 1298, 1299, 1300, 1301, 1302, 1303, 1304, 1305, 1306, 1307, 1315, 1316, 1317, 1318, 1319, 1320, 1321, 1322, 1323, 1324, 1325, 1326, 1327, 1328, 1329, 1330, 1331, 1332, 1333, 1334, 1335, 1336] (by decide +kernel) (by decide +kernel)
set_option maxRecDepth 20000 in
theorem gL_law_X11_load : GoodIn wsL_law (wsV RL 179 RX11 yX11_load wsX11_load) := goodIn_app (goodIn_of _ (by decide +kernel)) ggL_law_X11_load
set_option maxRecDepth 20000 in
theorem ggL_law_X12_load : GoodIn wsL_law wsX12_load := goodIn_r _ [1169, 147, 148, 139, 1170, 1171, 1172, 5, 1173, 146, 1126, 1127, 1128, 174, 175, 176, 177, 178, 179, 180, 142, 181, 371, 372, 373, 374, 375, 376, 377, 378, 221, 222, 223, 224, 225, 226, 227, 228, 229, 230, 231, 232, 233, 234, 235, 236, 379, 380, 381, 382, 383, 384, 385, 386, 387, 388, 389, 390, 1257, 1258, 1259, 1260, 1261, 1262, 1263, 1264, 1265, 1266, 1267, 1268, 1269, 1270, 1271, 1272, 1273, 1274, 1275] (by decide +kernel) (by decide +kernel)
set_option maxRecDepth 20000 in
theorem gL_law_X12_load : GoodIn wsL_law (wsV RL 182 RX12 yX12_load wsX12_load) := goodIn_app (goodIn_of _ (by decide +kernel)) ggL_law_X12_load
set_option maxRecDepth 20000 in
theorem ggL_law_X11_judge : GoodIn wsL_law wsX11_judge := goodIn_r _ [1177, 154, 28, 1093, 33, 1112, 1113, 2, 1114, 158, 159, 160, 161, 162, 163, 164, 13, 1133, 1134, 1135, 40, 1136, 1119, 1178, 1179, 1180, 31, 1181, 1182, 118, 799, 1183, 766, 767, 768, 769, 120, 770, 771, 772, 773, 47, 774, 61, 65, 69, 70, 775, 776, 777, 778, 212, 206, 201, 71, 260, 207, 331, 316, 317, 779, 780, 781, 60, 782, 169, 75, 783, 76, 77, 78, 784, 785, 786, 64, 787, 82, 83, 84, 85, 338, 86, 339, 337, 350, 341, 87, 788, 440, 420, 421, 422, 340, 323, 204, 324, 789, 790, 791, 68, 792, 359, 91, 793, 92, 93, 360, 361, 845, 313, 314, 315, 202, 203, 205, 318, 319, 320, 321, 322, 325, 326, 327, 328, 329, 330, 332, 195, 196, 197, 198, 199, 200, 208, 209, 210, 211, 333, 334, 335, 336, 342, 343, 344, 345, 346, 347, 348, 349, 351, 352, 353, 354, 355, 356, 357, 358, 1248, 1249, 1250, 1251, 1252, 1253, 1254, 1255, 1256, 1308, 1309, 1310, 1287, 1288, 1289, 1295, 1296, 1297, 1298, 1299, 1300, 1301, 1302, 1303, 1304, 1305, 1306, 1307, 1315, 1316, 1317, 1318, 1319, 1320, 1321, 1322, 1323, 1324, 1325, 1326, 1327, 1328, 1329, 1330, 1331, 1332, 1333, 1334, 1335, 1336] (by decide +kernel) (by decide +kernel)
set_option maxRecDepth 20000 in
theorem gL_law_X11_judge : GoodIn wsL_law (wsV RL 183 RX11 yX11_judge wsX11_judge) := goodIn_app (goodIn_of _ (by decide +kernel)) ggL_law_X11_judge
set_option maxRecDepth 20000 in
theorem ggL_law_X12_judge : GoodIn wsL_law wsX12_judge := goodIn_r _ [1187, 147, 139, 148, 1170, 1171, 1172, 5, 1173, 146, 1126, 1127, 1128, 174, 175, 176, 177, 178, 179, 180, 142, 181, 808, 809, 810, 811, 141, 812, 813, 814, 371, 372, 373, 374, 375, 376, 377, 378, 221, 222, 223, 224, 225, 226, 227, 228, 229, 230, 231, 232, 233, 234, 235, 236, 379, 380, 381, 382, 383, 384, 385, 386, 387, 388, 389, 390, 820, 821, 822, 823, 1257, 1258, 1259, 1260, 1261, 1262, 1263, 1264, 1265, 1266, 1267, 1268, 1269, 1270, 1271, 1272, 1273, 1274, 1275] (by decide +kernel) (by decide +kernel)
set_option maxRecDepth 20000 in
theorem gL_law_X12_judge : GoodIn wsL_law (wsV RL 186 RX12 yX12_judge wsX12_judge) := goodIn_app (goodIn_of _ (by decide +kernel)) ggL_law_X12_judge
set_option maxRecDepth 20000 in
theorem ggL_law_X11_image : GoodIn wsL_law wsX11_image := goodIn_r _ [1191, 18, 17, 1192, 1193, 1194, 1195, 16, 1196, 48, 52, 53, 1197, 776, 777, 778, 54, 1198, 772, 773, 47, 774, 61, 65, 69, 70, 775, 212, 206, 201, 71, 260, 207, 331, 316, 317, 779, 780, 781, 60, 782, 169, 75, 783, 76, 77, 78, 784, 785, 786, 64, 787, 82, 83, 84, 85, 338, 86, 339, 337, 350, 341, 87, 788, 440, 420, 421, 422, 340, 323, 204, 324, 789, 790, 791, 68, 792, 359, 91, 793, 92, 93, 360, 361, 1199, 1200, 1201, 51, 1202, 663, 97, 1203, 98, 99, 1248, 1249, 1250, 1251, 1252, 1253, 1254, 1255, 1256, 1276, 1277, 1278, 1279, 1295, 1296, 1297, 1298, 1299, 1300, 1301, 1302, 1303, 1304, 1305, 1306, 1307, 1315, 1316, 1317, 1318, 1319, 1320, 1321, 1322, 1323, 1324, 1325, 1326, 1327, 1328, 1329, 1330, 1331, 1332, 1333, 1334, 1335, 1336, 1311, 1312, 1313, 1314] (by decide +kernel) (by decide +kernel)
set_option maxRecDepth 20000 in
theorem gL_law_X11_image : GoodIn wsL_law (wsV RL 187 RX11 yX11_image wsX11_image) := goodIn_app (goodIn_of _ (by decide +kernel)) ggL_law_X11_image
set_option maxRecDepth 20000 in
theorem ggL_law_X12_image : GoodIn wsL_law wsX12_image := goodIn_r _ [1207, 139, 140, 1208, 812, 813, 5, 814, 1257, 1258, 1259, 1260, 1261, 1262, 1263, 1264, 1265, 1266, 1267, 1268, 1269, 1270, 1271, 1272, 1273, 1274, 1275] (by decide +kernel) (by decide +kernel)
set_option maxRecDepth 20000 in
theorem gL_law_X12_image : GoodIn wsL_law (wsV RL 190 RX12 yX12_image wsX12_image) := goodIn_app (goodIn_of _ (by decide +kernel)) ggL_law_X12_image
set_option maxRecDepth 20000 in
theorem ggL_law_X11_undo : GoodIn wsL_law wsX11_undo := goodIn_r _ [1212, 1192, 435, 17, 18, 32, 395, 161, 162, 163, 2, 164, 13, 154, 1193, 1194, 1195, 16, 1196, 48, 52, 53, 1197, 776, 777, 778, 54, 1198, 772, 773, 47, 774, 61, 65, 69, 70, 775, 212, 206, 201, 71, 260, 207, 331, 316, 317, 779, 780, 781, 60, 782, 169, 75, 783, 76, 77, 78, 784, 785, 786, 64, 787, 82, 83, 84, 85, 338, 86, 339, 337, 350, 341, 87, 788, 440, 420, 421, 422, 340, 323, 204, 324, 789, 790, 791, 68, 792, 359, 91, 793, 92, 93, 360, 361, 1199, 1200, 1201, 51, 1202, 663, 97, 1203, 98, 99, 1248, 1249, 1250, 1251, 1252, 1253, 1254, 1255, 1256, 1276, 1277, 1278, 1279, 1295, 1296, 1297, 1298, 1299, 1300, 1301, 1302, 1303, 1304, 1305, 1306, 1307, 1315, 1316, 1317, 1318, 1319, 1320, 1321, 1322, 1323, 1324, 1325, 1326, 1327, 1328, 1329, 1330, 1331, 1332, 1333, 1334, 1335, 1336, 1311, 1312, 1313, 1314] (by decide +kernel) (by decide +kernel)
set_option maxRecDepth 20000 in
theorem gL_law_X11_undo : GoodIn wsL_law (wsV RL 191 RX11 yX11_undo wsX11_undo) := goodIn_app (goodIn_of _ (by decide +kernel)) ggL_law_X11_undo
set_option maxRecDepth 20000 in
theorem ggL_law_X12_undo : GoodIn wsL_law wsX12_undo := goodIn_r _ [1216, 1208, 140, 139, 177, 178, 179, 5, 180, 142, 181, 812, 813, 814, 1257, 1258, 1259, 1260, 1261, 1262, 1263, 1264, 1265, 1266, 1267, 1268, 1269, 1270, 1271, 1272, 1273, 1274, 1275] (by decide +kernel) (by decide +kernel)
set_option maxRecDepth 20000 in
theorem gL_law_X12_undo : GoodIn wsL_law (wsV RL 194 RX12 yX12_undo wsX12_undo) := goodIn_app (goodIn_of _ (by decide +kernel)) ggL_law_X12_undo
set_option maxRecDepth 20000 in
theorem ggL_law_X11_tear : GoodIn wsL_law wsX11_tear := goodIn_r _ [1220, 1192, 285, 286, 2, 287, 1248, 1249, 1250, 1251, 1252, 1253, 1254, 1255, 1256] (by decide +kernel) (by decide +kernel)
set_option maxRecDepth 20000 in
theorem gL_law_X11_tear : GoodIn wsL_law (wsV RL 195 RX11 yX11_tear wsX11_tear) := goodIn_app (goodIn_of _ (by decide +kernel)) ggL_law_X11_tear
set_option maxRecDepth 20000 in
theorem ggL_law_X12_tear : GoodIn wsL_law wsX12_tear := goodIn_r _ [1224, 1208, 1257, 1258, 1259, 1260, 1261, 1262, 1263, 1264, 1265, 1266, 1267, 1268, 1269, 1270, 1271, 1272, 1273, 1274, 1275] (by decide +kernel) (by decide +kernel)
set_option maxRecDepth 20000 in
theorem gL_law_X12_tear : GoodIn wsL_law (wsV RL 198 RX12 yX12_tear wsX12_tear) := goodIn_app (goodIn_of _ (by decide +kernel)) ggL_law_X12_tear
set_option maxRecDepth 20000 in
theorem ggL_law_X11_count : GoodIn wsL_law wsX11_count := goodIn_r _ [1228, 17, 32, 155, 156, 37, 461, 554, 555, 251, 932, 22, 531, 1075, 501, 154, 419, 420, 421, 64, 422, 350, 340, 323, 204, 324, 1229, 1230, 1231, 1232, 1233, 1234, 1235, 161, 162, 163, 2, 164, 13, 1248, 1249, 1250, 1251, 1252, 1253, 1254, 1255, 1256, 1276, 1277, 1278, 1279, 1295, 1296, 1297, 1298, 1299, 1300, 1301, 1302, 1303, 1304, 1305, 1306, 1307, 1315, 1316, 1317, 1318, 1319, 1331, 1332, 1333, 1334, 1335, 1336, 1311, 1312, 1313, 1314, 1280, 1281, 1320, 1321, 1322, 1323, 1324, 1325, 1326, 1327, 1328, 1329, 1330] (by decide +kernel) (by decide +kernel)
set_option maxRecDepth 20000 in
theorem gL_law_X11_count : GoodIn wsL_law (wsV RL 199 RX11 yX11_count wsX11_count) := goodIn_app (goodIn_of _ (by decide +kernel)) ggL_law_X11_count
set_option maxRecDepth 20000 in
theorem ggL_law_X12_count : GoodIn wsL_law wsX12_count := goodIn_r _ [1239, 139, 541, 427, 428, 429, 5, 430, 387, 388, 389, 390, 177, 178, 179, 180, 142, 181, 1257, 1258, 1259, 1260, 1261, 1262, 1263, 1264, 1265, 1266, 1267, 1268, 1269, 1270, 1271, 1272, 1273, 1274, 1275] (by decide +kernel) (by decide +kernel)
set_option maxRecDepth 20000 in
theorem gL_law_X12_count : GoodIn wsL_law (wsV RL 202 RX12 yX12_count wsX12_count) := goodIn_app (goodIn_of _ (by decide +kernel)) ggL_law_X12_count
set_option maxRecDepth 20000 in
theorem ggL_law_X11_status : GoodIn wsL_law wsX11_status := goodIn_r _ [1243, 154, 13, 158, 159, 2, 160, 161, 162, 163, 164, 1248, 1249, 1250, 1251, 1252, 1253, 1254, 1255, 1256] (by decide +kernel) (by decide +kernel)
set_option maxRecDepth 20000 in
theorem gL_law_X11_status : GoodIn wsL_law (wsV RL 203 RX11 yX11_status wsX11_status) := goodIn_app (goodIn_of _ (by decide +kernel)) ggL_law_X11_status
set_option maxRecDepth 20000 in
theorem ggL_law_X12_status : GoodIn wsL_law wsX12_status := goodIn_r _ [1247, 142, 174, 175, 5, 176, 177, 178, 179, 180, 181, 1257, 1258, 1259, 1260, 1261, 1262, 1263, 1264, 1265, 1266, 1267, 1268, 1269, 1270, 1271, 1272, 1273, 1274, 1275] (by decide +kernel) (by decide +kernel)
set_option maxRecDepth 20000 in
theorem gL_law_X12_status : GoodIn wsL_law (wsV RL 206 RX12 yX12_status wsX12_status) := goodIn_app (goodIn_of _ (by decide +kernel)) ggL_law_X12_status
theorem dL_law_0 : decode cL_law 0 = .ok (.new 7, 3) := by decide +kernel
theorem dL_law_3 : decode cL_law 3 = .ok (.dup, 1) := by decide +kernel
theorem dL_law_4 : decode cL_law 4 = .ok (.invokespecial 9, 3) := by decide +kernel
theorem dL_law_7 : decode cL_law 7 = .ok (.astore_n 1, 1) := by decide +kernel
theorem dL_law_8 : decode cL_law 8 = .ok (.new 10, 3) := by decide +kernel
theorem dL_law_11 : decode cL_law 11 = .ok (.dup, 1) := by decide +kernel
theorem dL_law_12 : decode cL_law 12 = .ok (.invokespecial 12, 3) := by decide +kernel
theorem dL_law_15 : decode cL_law 15 = .ok (.astore_n 2, 1) := by decide +kernel
theorem dL_law_16 : decode cL_law 16 = .ok (.iconst 0, 1) := by decide +kernel
theorem dL_law_17 : decode cL_law 17 = .ok (.istore_n 3, 1) := by decide +kernel
theorem dL_law_18 : decode cL_law 18 = .ok (.iload_n 3, 1) := by decide +kernel
theorem dL_law_19 : decode cL_law 19 = .ok (.aload_n 0, 1) := by decide +kernel
theorem dL_law_20 : decode cL_law 20 = .ok (.arraylength, 1) := by decide +kernel
theorem dL_law_21 : decode cL_law 21 = .ok (.bipush 6, 2) := by decide +kernel
theorem dL_law_23 : decode cL_law 23 = .ok (.isub, 1) := by decide +kernel
theorem dL_law_24 : decode cL_law 24 = .ok (.if_icmp .gt 1571, 3) := by decide +kernel
theorem dL_law_27 : decode cL_law 27 = .ok (.aload_n 0, 1) := by decide +kernel
theorem dL_law_28 : decode cL_law 28 = .ok (.iload_n 3, 1) := by decide +kernel
theorem dL_law_29 : decode cL_law 29 = .ok (.iaload, 1) := by decide +kernel
theorem dL_law_30 : decode cL_law 30 = .ok (.bipush 63, 2) := by decide +kernel
theorem dL_law_32 : decode cL_law 32 = .ok (.iand, 1) := by decide +kernel
theorem dL_law_33 : decode cL_law 33 = .ok (.tableswitch 1556 0 46 #[203, 246, 279, 322, 355, 394, 433, 456, 479, 492, 515, 528, 541, 584, 617, 640, 673, 686, 719, 732, 745, 778, 801, 834, 867, 890, 923, 956, 989, 1022, 1045, 1088, 1111, 1144, 1187, 1210, 1243, 1276, 1319, 1362, 1425, 1448, 1471, 1484, 1497, 1510, 1533], 203) := by decide +kernel
theorem dL_law_236 : decode cL_law 236 = .ok (.aload_n 1, 1) := by decide +kernel
theorem dL_law_237 : decode cL_law 237 = .ok (.aload_n 0, 1) := by decide +kernel
theorem dL_law_238 : decode cL_law 238 = .ok (.iload_n 3, 1) := by decide +kernel
theorem dL_law_239 : decode cL_law 239 = .ok (.iconst 1, 1) := by decide +kernel
theorem dL_law_240 : decode cL_law 240 = .ok (.iadd, 1) := by decide +kernel
theorem dL_law_241 : decode cL_law 241 = .ok (.iaload, 1) := by decide +kernel
theorem dL_law_242 : decode cL_law 242 = .ok (.aload_n 0, 1) := by decide +kernel
theorem dL_law_243 : decode cL_law 243 = .ok (.iload_n 3, 1) := by decide +kernel
theorem dL_law_244 : decode cL_law 244 = .ok (.iconst 2, 1) := by decide +kernel
theorem dL_law_245 : decode cL_law 245 = .ok (.iadd, 1) := by decide +kernel
theorem dL_law_246 : decode cL_law 246 = .ok (.iaload, 1) := by decide +kernel
theorem dL_law_247 : decode cL_law 247 = .ok (.aload_n 0, 1) := by decide +kernel
theorem dL_law_248 : decode cL_law 248 = .ok (.iload_n 3, 1) := by decide +kernel
theorem dL_law_249 : decode cL_law 249 = .ok (.iconst 3, 1) := by decide +kernel
theorem dL_law_250 : decode cL_law 250 = .ok (.iadd, 1) := by decide +kernel
theorem dL_law_251 : decode cL_law 251 = .ok (.iaload, 1) := by decide +kernel
theorem dL_law_252 : decode cL_law 252 = .ok (.invokevirtual 13, 3) := by decide +kernel
theorem dL_law_255 : decode cL_law 255 = .ok (.aload_n 2, 1) := by decide +kernel
theorem dL_law_256 : decode cL_law 256 = .ok (.aload_n 0, 1) := by decide +kernel
theorem dL_law_257 : decode cL_law 257 = .ok (.iload_n 3, 1) := by decide +kernel
theorem dL_law_258 : decode cL_law 258 = .ok (.iconst 1, 1) := by decide +kernel
theorem dL_law_259 : decode cL_law 259 = .ok (.iadd, 1) := by decide +kernel
theorem dL_law_260 : decode cL_law 260 = .ok (.iaload, 1) := by decide +kernel
theorem dL_law_261 : decode cL_law 261 = .ok (.aload_n 0, 1) := by decide +kernel
theorem dL_law_262 : decode cL_law 262 = .ok (.iload_n 3, 1) := by decide +kernel
theorem dL_law_263 : decode cL_law 263 = .ok (.iconst 2, 1) := by decide +kernel
theorem dL_law_264 : decode cL_law 264 = .ok (.iadd, 1) := by decide +kernel
theorem dL_law_265 : decode cL_law 265 = .ok (.iaload, 1) := by decide +kernel
theorem dL_law_266 : decode cL_law 266 = .ok (.aload_n 0, 1) := by decide +kernel
theorem dL_law_267 : decode cL_law 267 = .ok (.iload_n 3, 1) := by decide +kernel
theorem dL_law_268 : decode cL_law 268 = .ok (.iconst 3, 1) := by decide +kernel
theorem dL_law_269 : decode cL_law 269 = .ok (.iadd, 1) := by decide +kernel
theorem dL_law_270 : decode cL_law 270 = .ok (.iaload, 1) := by decide +kernel
theorem dL_law_271 : decode cL_law 271 = .ok (.invokevirtual 17, 3) := by decide +kernel
theorem dL_law_274 : decode cL_law 274 = .ok (.if_icmp .eq 1315, 3) := by decide +kernel
theorem dL_law_277 : decode cL_law 277 = .ok (.iconst 0, 1) := by decide +kernel
theorem dL_law_278 : decode cL_law 278 = .ok (.ireturn, 1) := by decide +kernel
theorem dL_law_279 : decode cL_law 279 = .ok (.aload_n 1, 1) := by decide +kernel
theorem dL_law_280 : decode cL_law 280 = .ok (.aload_n 0, 1) := by decide +kernel
theorem dL_law_281 : decode cL_law 281 = .ok (.iload_n 3, 1) := by decide +kernel
theorem dL_law_282 : decode cL_law 282 = .ok (.iconst 1, 1) := by decide +kernel
theorem dL_law_283 : decode cL_law 283 = .ok (.iadd, 1) := by decide +kernel
theorem dL_law_284 : decode cL_law 284 = .ok (.iaload, 1) := by decide +kernel
theorem dL_law_285 : decode cL_law 285 = .ok (.aload_n 0, 1) := by decide +kernel
theorem dL_law_286 : decode cL_law 286 = .ok (.iload_n 3, 1) := by decide +kernel
theorem dL_law_287 : decode cL_law 287 = .ok (.iconst 2, 1) := by decide +kernel
theorem dL_law_288 : decode cL_law 288 = .ok (.iadd, 1) := by decide +kernel
theorem dL_law_289 : decode cL_law 289 = .ok (.iaload, 1) := by decide +kernel
theorem dL_law_290 : decode cL_law 290 = .ok (.invokevirtual 18, 3) := by decide +kernel
theorem dL_law_293 : decode cL_law 293 = .ok (.aload_n 2, 1) := by decide +kernel
theorem dL_law_294 : decode cL_law 294 = .ok (.aload_n 0, 1) := by decide +kernel
theorem dL_law_295 : decode cL_law 295 = .ok (.iload_n 3, 1) := by decide +kernel
theorem dL_law_296 : decode cL_law 296 = .ok (.iconst 1, 1) := by decide +kernel
theorem dL_law_297 : decode cL_law 297 = .ok (.iadd, 1) := by decide +kernel
theorem dL_law_298 : decode cL_law 298 = .ok (.iaload, 1) := by decide +kernel
theorem dL_law_299 : decode cL_law 299 = .ok (.aload_n 0, 1) := by decide +kernel
theorem dL_law_300 : decode cL_law 300 = .ok (.iload_n 3, 1) := by decide +kernel
theorem dL_law_301 : decode cL_law 301 = .ok (.iconst 2, 1) := by decide +kernel
theorem dL_law_302 : decode cL_law 302 = .ok (.iadd, 1) := by decide +kernel
theorem dL_law_303 : decode cL_law 303 = .ok (.iaload, 1) := by decide +kernel
theorem dL_law_304 : decode cL_law 304 = .ok (.invokevirtual 22, 3) := by decide +kernel
theorem dL_law_307 : decode cL_law 307 = .ok (.if_icmp .eq 1282, 3) := by decide +kernel
theorem dL_law_310 : decode cL_law 310 = .ok (.iconst 0, 1) := by decide +kernel
theorem dL_law_311 : decode cL_law 311 = .ok (.ireturn, 1) := by decide +kernel
theorem dL_law_312 : decode cL_law 312 = .ok (.aload_n 1, 1) := by decide +kernel
theorem dL_law_313 : decode cL_law 313 = .ok (.aload_n 0, 1) := by decide +kernel
theorem dL_law_314 : decode cL_law 314 = .ok (.iload_n 3, 1) := by decide +kernel
theorem dL_law_315 : decode cL_law 315 = .ok (.iconst 1, 1) := by decide +kernel
theorem dL_law_316 : decode cL_law 316 = .ok (.iadd, 1) := by decide +kernel
theorem dL_law_317 : decode cL_law 317 = .ok (.iaload, 1) := by decide +kernel
theorem dL_law_318 : decode cL_law 318 = .ok (.aload_n 0, 1) := by decide +kernel
theorem dL_law_319 : decode cL_law 319 = .ok (.iload_n 3, 1) := by decide +kernel
theorem dL_law_320 : decode cL_law 320 = .ok (.iconst 2, 1) := by decide +kernel
theorem dL_law_321 : decode cL_law 321 = .ok (.iadd, 1) := by decide +kernel
theorem dL_law_322 : decode cL_law 322 = .ok (.iaload, 1) := by decide +kernel
theorem dL_law_323 : decode cL_law 323 = .ok (.aload_n 0, 1) := by decide +kernel
theorem dL_law_324 : decode cL_law 324 = .ok (.iload_n 3, 1) := by decide +kernel
theorem dL_law_325 : decode cL_law 325 = .ok (.iconst 3, 1) := by decide +kernel
theorem dL_law_326 : decode cL_law 326 = .ok (.iadd, 1) := by decide +kernel
theorem dL_law_327 : decode cL_law 327 = .ok (.iaload, 1) := by decide +kernel
theorem dL_law_328 : decode cL_law 328 = .ok (.invokevirtual 23, 3) := by decide +kernel
theorem dL_law_331 : decode cL_law 331 = .ok (.aload_n 2, 1) := by decide +kernel
theorem dL_law_332 : decode cL_law 332 = .ok (.aload_n 0, 1) := by decide +kernel
theorem dL_law_333 : decode cL_law 333 = .ok (.iload_n 3, 1) := by decide +kernel
theorem dL_law_334 : decode cL_law 334 = .ok (.iconst 1, 1) := by decide +kernel
theorem dL_law_335 : decode cL_law 335 = .ok (.iadd, 1) := by decide +kernel
theorem dL_law_336 : decode cL_law 336 = .ok (.iaload, 1) := by decide +kernel
theorem dL_law_337 : decode cL_law 337 = .ok (.aload_n 0, 1) := by decide +kernel
theorem dL_law_338 : decode cL_law 338 = .ok (.iload_n 3, 1) := by decide +kernel
theorem dL_law_339 : decode cL_law 339 = .ok (.iconst 2, 1) := by decide +kernel
theorem dL_law_340 : decode cL_law 340 = .ok (.iadd, 1) := by decide +kernel
theorem dL_law_341 : decode cL_law 341 = .ok (.iaload, 1) := by decide +kernel
theorem dL_law_342 : decode cL_law 342 = .ok (.aload_n 0, 1) := by decide +kernel
theorem dL_law_343 : decode cL_law 343 = .ok (.iload_n 3, 1) := by decide +kernel
theorem dL_law_344 : decode cL_law 344 = .ok (.iconst 3, 1) := by decide +kernel
theorem dL_law_345 : decode cL_law 345 = .ok (.iadd, 1) := by decide +kernel
theorem dL_law_346 : decode cL_law 346 = .ok (.iaload, 1) := by decide +kernel
theorem dL_law_347 : decode cL_law 347 = .ok (.invokevirtual 26, 3) := by decide +kernel
theorem dL_law_350 : decode cL_law 350 = .ok (.if_icmp .eq 1239, 3) := by decide +kernel
theorem dL_law_353 : decode cL_law 353 = .ok (.iconst 0, 1) := by decide +kernel
theorem dL_law_354 : decode cL_law 354 = .ok (.ireturn, 1) := by decide +kernel
theorem dL_law_355 : decode cL_law 355 = .ok (.aload_n 1, 1) := by decide +kernel
theorem dL_law_356 : decode cL_law 356 = .ok (.aload_n 0, 1) := by decide +kernel
theorem dL_law_357 : decode cL_law 357 = .ok (.iload_n 3, 1) := by decide +kernel
theorem dL_law_358 : decode cL_law 358 = .ok (.iconst 1, 1) := by decide +kernel
theorem dL_law_359 : decode cL_law 359 = .ok (.iadd, 1) := by decide +kernel
theorem dL_law_360 : decode cL_law 360 = .ok (.iaload, 1) := by decide +kernel
theorem dL_law_361 : decode cL_law 361 = .ok (.aload_n 0, 1) := by decide +kernel
theorem dL_law_362 : decode cL_law 362 = .ok (.iload_n 3, 1) := by decide +kernel
theorem dL_law_363 : decode cL_law 363 = .ok (.iconst 2, 1) := by decide +kernel
theorem dL_law_364 : decode cL_law 364 = .ok (.iadd, 1) := by decide +kernel
theorem dL_law_365 : decode cL_law 365 = .ok (.iaload, 1) := by decide +kernel
theorem dL_law_366 : decode cL_law 366 = .ok (.invokevirtual 27, 3) := by decide +kernel
theorem dL_law_369 : decode cL_law 369 = .ok (.aload_n 2, 1) := by decide +kernel
theorem dL_law_370 : decode cL_law 370 = .ok (.aload_n 0, 1) := by decide +kernel
theorem dL_law_371 : decode cL_law 371 = .ok (.iload_n 3, 1) := by decide +kernel
theorem dL_law_372 : decode cL_law 372 = .ok (.iconst 1, 1) := by decide +kernel
theorem dL_law_373 : decode cL_law 373 = .ok (.iadd, 1) := by decide +kernel
theorem dL_law_374 : decode cL_law 374 = .ok (.iaload, 1) := by decide +kernel
theorem dL_law_375 : decode cL_law 375 = .ok (.aload_n 0, 1) := by decide +kernel
theorem dL_law_376 : decode cL_law 376 = .ok (.iload_n 3, 1) := by decide +kernel
theorem dL_law_377 : decode cL_law 377 = .ok (.iconst 2, 1) := by decide +kernel
theorem dL_law_378 : decode cL_law 378 = .ok (.iadd, 1) := by decide +kernel
theorem dL_law_379 : decode cL_law 379 = .ok (.iaload, 1) := by decide +kernel
theorem dL_law_380 : decode cL_law 380 = .ok (.invokevirtual 30, 3) := by decide +kernel
theorem dL_law_383 : decode cL_law 383 = .ok (.if_icmp .eq 1206, 3) := by decide +kernel
theorem dL_law_386 : decode cL_law 386 = .ok (.iconst 0, 1) := by decide +kernel
theorem dL_law_387 : decode cL_law 387 = .ok (.ireturn, 1) := by decide +kernel
theorem dL_law_388 : decode cL_law 388 = .ok (.aload_n 1, 1) := by decide +kernel
theorem dL_law_389 : decode cL_law 389 = .ok (.aload_n 0, 1) := by decide +kernel
theorem dL_law_390 : decode cL_law 390 = .ok (.iload_n 3, 1) := by decide +kernel
theorem dL_law_391 : decode cL_law 391 = .ok (.iconst 1, 1) := by decide +kernel
theorem dL_law_392 : decode cL_law 392 = .ok (.iadd, 1) := by decide +kernel
theorem dL_law_393 : decode cL_law 393 = .ok (.iaload, 1) := by decide +kernel
theorem dL_law_394 : decode cL_law 394 = .ok (.ifCond .eq 7, 3) := by decide +kernel
theorem dL_law_397 : decode cL_law 397 = .ok (.iconst 1, 1) := by decide +kernel
theorem dL_law_398 : decode cL_law 398 = .ok (.goto 4, 3) := by decide +kernel
theorem dL_law_401 : decode cL_law 401 = .ok (.iconst 0, 1) := by decide +kernel
theorem dL_law_402 : decode cL_law 402 = .ok (.invokevirtual 31, 3) := by decide +kernel
theorem dL_law_405 : decode cL_law 405 = .ok (.aload_n 2, 1) := by decide +kernel
theorem dL_law_406 : decode cL_law 406 = .ok (.aload_n 0, 1) := by decide +kernel
theorem dL_law_407 : decode cL_law 407 = .ok (.iload_n 3, 1) := by decide +kernel
theorem dL_law_408 : decode cL_law 408 = .ok (.iconst 1, 1) := by decide +kernel
theorem dL_law_409 : decode cL_law 409 = .ok (.iadd, 1) := by decide +kernel
theorem dL_law_410 : decode cL_law 410 = .ok (.iaload, 1) := by decide +kernel
theorem dL_law_411 : decode cL_law 411 = .ok (.ifCond .eq 7, 3) := by decide +kernel
theorem dL_law_414 : decode cL_law 414 = .ok (.iconst 1, 1) := by decide +kernel
theorem dL_law_415 : decode cL_law 415 = .ok (.goto 4, 3) := by decide +kernel
theorem dL_law_418 : decode cL_law 418 = .ok (.iconst 0, 1) := by decide +kernel
theorem dL_law_419 : decode cL_law 419 = .ok (.invokevirtual 35, 3) := by decide +kernel
theorem dL_law_422 : decode cL_law 422 = .ok (.if_icmp .eq 1167, 3) := by decide +kernel
theorem dL_law_425 : decode cL_law 425 = .ok (.iconst 0, 1) := by decide +kernel
theorem dL_law_426 : decode cL_law 426 = .ok (.ireturn, 1) := by decide +kernel
theorem dL_law_427 : decode cL_law 427 = .ok (.aload_n 1, 1) := by decide +kernel
theorem dL_law_428 : decode cL_law 428 = .ok (.aload_n 0, 1) := by decide +kernel
theorem dL_law_429 : decode cL_law 429 = .ok (.iload_n 3, 1) := by decide +kernel
theorem dL_law_430 : decode cL_law 430 = .ok (.iconst 1, 1) := by decide +kernel
theorem dL_law_431 : decode cL_law 431 = .ok (.iadd, 1) := by decide +kernel
theorem dL_law_432 : decode cL_law 432 = .ok (.iaload, 1) := by decide +kernel
theorem dL_law_433 : decode cL_law 433 = .ok (.ifCond .eq 7, 3) := by decide +kernel
theorem dL_law_436 : decode cL_law 436 = .ok (.iconst 1, 1) := by decide +kernel
theorem dL_law_437 : decode cL_law 437 = .ok (.goto 4, 3) := by decide +kernel
theorem dL_law_440 : decode cL_law 440 = .ok (.iconst 0, 1) := by decide +kernel
theorem dL_law_441 : decode cL_law 441 = .ok (.invokevirtual 36, 3) := by decide +kernel
theorem dL_law_444 : decode cL_law 444 = .ok (.aload_n 2, 1) := by decide +kernel
theorem dL_law_445 : decode cL_law 445 = .ok (.aload_n 0, 1) := by decide +kernel
theorem dL_law_446 : decode cL_law 446 = .ok (.iload_n 3, 1) := by decide +kernel
theorem dL_law_447 : decode cL_law 447 = .ok (.iconst 1, 1) := by decide +kernel
theorem dL_law_448 : decode cL_law 448 = .ok (.iadd, 1) := by decide +kernel
theorem dL_law_449 : decode cL_law 449 = .ok (.iaload, 1) := by decide +kernel
theorem dL_law_450 : decode cL_law 450 = .ok (.ifCond .eq 7, 3) := by decide +kernel
theorem dL_law_453 : decode cL_law 453 = .ok (.iconst 1, 1) := by decide +kernel
theorem dL_law_454 : decode cL_law 454 = .ok (.goto 4, 3) := by decide +kernel
theorem dL_law_457 : decode cL_law 457 = .ok (.iconst 0, 1) := by decide +kernel
theorem dL_law_458 : decode cL_law 458 = .ok (.invokevirtual 39, 3) := by decide +kernel
theorem dL_law_461 : decode cL_law 461 = .ok (.if_icmp .eq 1128, 3) := by decide +kernel
theorem dL_law_464 : decode cL_law 464 = .ok (.iconst 0, 1) := by decide +kernel
theorem dL_law_465 : decode cL_law 465 = .ok (.ireturn, 1) := by decide +kernel
theorem dL_law_466 : decode cL_law 466 = .ok (.aload_n 1, 1) := by decide +kernel
theorem dL_law_467 : decode cL_law 467 = .ok (.aload_n 0, 1) := by decide +kernel
theorem dL_law_468 : decode cL_law 468 = .ok (.iload_n 3, 1) := by decide +kernel
theorem dL_law_469 : decode cL_law 469 = .ok (.iconst 1, 1) := by decide +kernel
theorem dL_law_470 : decode cL_law 470 = .ok (.iadd, 1) := by decide +kernel
theorem dL_law_471 : decode cL_law 471 = .ok (.iaload, 1) := by decide +kernel
theorem dL_law_472 : decode cL_law 472 = .ok (.invokevirtual 40, 3) := by decide +kernel
theorem dL_law_475 : decode cL_law 475 = .ok (.aload_n 2, 1) := by decide +kernel
theorem dL_law_476 : decode cL_law 476 = .ok (.aload_n 0, 1) := by decide +kernel
theorem dL_law_477 : decode cL_law 477 = .ok (.iload_n 3, 1) := by decide +kernel
theorem dL_law_478 : decode cL_law 478 = .ok (.iconst 1, 1) := by decide +kernel
theorem dL_law_479 : decode cL_law 479 = .ok (.iadd, 1) := by decide +kernel
theorem dL_law_480 : decode cL_law 480 = .ok (.iaload, 1) := by decide +kernel
theorem dL_law_481 : decode cL_law 481 = .ok (.invokevirtual 44, 3) := by decide +kernel
theorem dL_law_484 : decode cL_law 484 = .ok (.if_icmp .eq 1105, 3) := by decide +kernel
theorem dL_law_487 : decode cL_law 487 = .ok (.iconst 0, 1) := by decide +kernel
theorem dL_law_488 : decode cL_law 488 = .ok (.ireturn, 1) := by decide +kernel
theorem dL_law_489 : decode cL_law 489 = .ok (.aload_n 1, 1) := by decide +kernel
theorem dL_law_490 : decode cL_law 490 = .ok (.aload_n 0, 1) := by decide +kernel
theorem dL_law_491 : decode cL_law 491 = .ok (.iload_n 3, 1) := by decide +kernel
theorem dL_law_492 : decode cL_law 492 = .ok (.iconst 1, 1) := by decide +kernel
theorem dL_law_493 : decode cL_law 493 = .ok (.iadd, 1) := by decide +kernel
theorem dL_law_494 : decode cL_law 494 = .ok (.iaload, 1) := by decide +kernel
theorem dL_law_495 : decode cL_law 495 = .ok (.invokevirtual 45, 3) := by decide +kernel
theorem dL_law_498 : decode cL_law 498 = .ok (.aload_n 2, 1) := by decide +kernel
theorem dL_law_499 : decode cL_law 499 = .ok (.aload_n 0, 1) := by decide +kernel
theorem dL_law_500 : decode cL_law 500 = .ok (.iload_n 3, 1) := by decide +kernel
theorem dL_law_501 : decode cL_law 501 = .ok (.iconst 1, 1) := by decide +kernel
theorem dL_law_502 : decode cL_law 502 = .ok (.iadd, 1) := by decide +kernel
theorem dL_law_503 : decode cL_law 503 = .ok (.iaload, 1) := by decide +kernel
theorem dL_law_504 : decode cL_law 504 = .ok (.invokevirtual 48, 3) := by decide +kernel
theorem dL_law_507 : decode cL_law 507 = .ok (.if_icmp .eq 1082, 3) := by decide +kernel
theorem dL_law_510 : decode cL_law 510 = .ok (.iconst 0, 1) := by decide +kernel
theorem dL_law_511 : decode cL_law 511 = .ok (.ireturn, 1) := by decide +kernel
theorem dL_law_512 : decode cL_law 512 = .ok (.aload_n 1, 1) := by decide +kernel
theorem dL_law_513 : decode cL_law 513 = .ok (.invokevirtual 49, 3) := by decide +kernel
theorem dL_law_516 : decode cL_law 516 = .ok (.aload_n 2, 1) := by decide +kernel
theorem dL_law_517 : decode cL_law 517 = .ok (.invokevirtual 53, 3) := by decide +kernel
theorem dL_law_520 : decode cL_law 520 = .ok (.if_icmp .eq 1069, 3) := by decide +kernel
theorem dL_law_523 : decode cL_law 523 = .ok (.iconst 0, 1) := by decide +kernel
theorem dL_law_524 : decode cL_law 524 = .ok (.ireturn, 1) := by decide +kernel
theorem dL_law_525 : decode cL_law 525 = .ok (.aload_n 1, 1) := by decide +kernel
theorem dL_law_526 : decode cL_law 526 = .ok (.aload_n 0, 1) := by decide +kernel
theorem dL_law_527 : decode cL_law 527 = .ok (.iload_n 3, 1) := by decide +kernel
theorem dL_law_528 : decode cL_law 528 = .ok (.iconst 1, 1) := by decide +kernel
theorem dL_law_529 : decode cL_law 529 = .ok (.iadd, 1) := by decide +kernel
theorem dL_law_530 : decode cL_law 530 = .ok (.iaload, 1) := by decide +kernel
theorem dL_law_531 : decode cL_law 531 = .ok (.invokevirtual 54, 3) := by decide +kernel
theorem dL_law_534 : decode cL_law 534 = .ok (.aload_n 2, 1) := by decide +kernel
theorem dL_law_535 : decode cL_law 535 = .ok (.aload_n 0, 1) := by decide +kernel
theorem dL_law_536 : decode cL_law 536 = .ok (.iload_n 3, 1) := by decide +kernel
theorem dL_law_537 : decode cL_law 537 = .ok (.iconst 1, 1) := by decide +kernel
theorem dL_law_538 : decode cL_law 538 = .ok (.iadd, 1) := by decide +kernel
theorem dL_law_539 : decode cL_law 539 = .ok (.iaload, 1) := by decide +kernel
theorem dL_law_540 : decode cL_law 540 = .ok (.invokevirtual 57, 3) := by decide +kernel
theorem dL_law_543 : decode cL_law 543 = .ok (.if_icmp .eq 1046, 3) := by decide +kernel
theorem dL_law_546 : decode cL_law 546 = .ok (.iconst 0, 1) := by decide +kernel
theorem dL_law_547 : decode cL_law 547 = .ok (.ireturn, 1) := by decide +kernel
theorem dL_law_548 : decode cL_law 548 = .ok (.aload_n 1, 1) := by decide +kernel
theorem dL_law_549 : decode cL_law 549 = .ok (.invokevirtual 58, 3) := by decide +kernel
theorem dL_law_552 : decode cL_law 552 = .ok (.aload_n 2, 1) := by decide +kernel
theorem dL_law_553 : decode cL_law 553 = .ok (.invokevirtual 61, 3) := by decide +kernel
theorem dL_law_556 : decode cL_law 556 = .ok (.if_icmp .eq 1033, 3) := by decide +kernel
theorem dL_law_559 : decode cL_law 559 = .ok (.iconst 0, 1) := by decide +kernel
theorem dL_law_560 : decode cL_law 560 = .ok (.ireturn, 1) := by decide +kernel
theorem dL_law_561 : decode cL_law 561 = .ok (.aload_n 1, 1) := by decide +kernel
theorem dL_law_562 : decode cL_law 562 = .ok (.invokevirtual 62, 3) := by decide +kernel
theorem dL_law_565 : decode cL_law 565 = .ok (.aload_n 2, 1) := by decide +kernel
theorem dL_law_566 : decode cL_law 566 = .ok (.invokevirtual 65, 3) := by decide +kernel
theorem dL_law_569 : decode cL_law 569 = .ok (.if_icmp .eq 1020, 3) := by decide +kernel
theorem dL_law_572 : decode cL_law 572 = .ok (.iconst 0, 1) := by decide +kernel
theorem dL_law_573 : decode cL_law 573 = .ok (.ireturn, 1) := by decide +kernel
theorem dL_law_574 : decode cL_law 574 = .ok (.aload_n 1, 1) := by decide +kernel
theorem dL_law_575 : decode cL_law 575 = .ok (.aload_n 0, 1) := by decide +kernel
theorem dL_law_576 : decode cL_law 576 = .ok (.iload_n 3, 1) := by decide +kernel
theorem dL_law_577 : decode cL_law 577 = .ok (.iconst 1, 1) := by decide +kernel
theorem dL_law_578 : decode cL_law 578 = .ok (.iadd, 1) := by decide +kernel
theorem dL_law_579 : decode cL_law 579 = .ok (.iaload, 1) := by decide +kernel
theorem dL_law_580 : decode cL_law 580 = .ok (.aload_n 0, 1) := by decide +kernel
theorem dL_law_581 : decode cL_law 581 = .ok (.iload_n 3, 1) := by decide +kernel
theorem dL_law_582 : decode cL_law 582 = .ok (.iconst 2, 1) := by decide +kernel
theorem dL_law_583 : decode cL_law 583 = .ok (.iadd, 1) := by decide +kernel
theorem dL_law_584 : decode cL_law 584 = .ok (.iaload, 1) := by decide +kernel
theorem dL_law_585 : decode cL_law 585 = .ok (.aload_n 0, 1) := by decide +kernel
theorem dL_law_586 : decode cL_law 586 = .ok (.iload_n 3, 1) := by decide +kernel
theorem dL_law_587 : decode cL_law 587 = .ok (.iconst 3, 1) := by decide +kernel
theorem dL_law_588 : decode cL_law 588 = .ok (.iadd, 1) := by decide +kernel
theorem dL_law_589 : decode cL_law 589 = .ok (.iaload, 1) := by decide +kernel
theorem dL_law_590 : decode cL_law 590 = .ok (.invokevirtual 66, 3) := by decide +kernel
theorem dL_law_593 : decode cL_law 593 = .ok (.aload_n 2, 1) := by decide +kernel
theorem dL_law_594 : decode cL_law 594 = .ok (.aload_n 0, 1) := by decide +kernel
theorem dL_law_595 : decode cL_law 595 = .ok (.iload_n 3, 1) := by decide +kernel
theorem dL_law_596 : decode cL_law 596 = .ok (.iconst 1, 1) := by decide +kernel
theorem dL_law_597 : decode cL_law 597 = .ok (.iadd, 1) := by decide +kernel
theorem dL_law_598 : decode cL_law 598 = .ok (.iaload, 1) := by decide +kernel
theorem dL_law_599 : decode cL_law 599 = .ok (.aload_n 0, 1) := by decide +kernel
theorem dL_law_600 : decode cL_law 600 = .ok (.iload_n 3, 1) := by decide +kernel
theorem dL_law_601 : decode cL_law 601 = .ok (.iconst 2, 1) := by decide +kernel
theorem dL_law_602 : decode cL_law 602 = .ok (.iadd, 1) := by decide +kernel
theorem dL_law_603 : decode cL_law 603 = .ok (.iaload, 1) := by decide +kernel
theorem dL_law_604 : decode cL_law 604 = .ok (.aload_n 0, 1) := by decide +kernel
theorem dL_law_605 : decode cL_law 605 = .ok (.iload_n 3, 1) := by decide +kernel
theorem dL_law_606 : decode cL_law 606 = .ok (.iconst 3, 1) := by decide +kernel
theorem dL_law_607 : decode cL_law 607 = .ok (.iadd, 1) := by decide +kernel
theorem dL_law_608 : decode cL_law 608 = .ok (.iaload, 1) := by decide +kernel
theorem dL_law_609 : decode cL_law 609 = .ok (.invokevirtual 69, 3) := by decide +kernel
theorem dL_law_612 : decode cL_law 612 = .ok (.if_icmp .eq 977, 3) := by decide +kernel
theorem dL_law_615 : decode cL_law 615 = .ok (.iconst 0, 1) := by decide +kernel
theorem dL_law_616 : decode cL_law 616 = .ok (.ireturn, 1) := by decide +kernel
theorem dL_law_617 : decode cL_law 617 = .ok (.aload_n 1, 1) := by decide +kernel
theorem dL_law_618 : decode cL_law 618 = .ok (.aload_n 0, 1) := by decide +kernel
theorem dL_law_619 : decode cL_law 619 = .ok (.iload_n 3, 1) := by decide +kernel
theorem dL_law_620 : decode cL_law 620 = .ok (.iconst 1, 1) := by decide +kernel
theorem dL_law_621 : decode cL_law 621 = .ok (.iadd, 1) := by decide +kernel
theorem dL_law_622 : decode cL_law 622 = .ok (.iaload, 1) := by decide +kernel
theorem dL_law_623 : decode cL_law 623 = .ok (.aload_n 0, 1) := by decide +kernel
theorem dL_law_624 : decode cL_law 624 = .ok (.iload_n 3, 1) := by decide +kernel
theorem dL_law_625 : decode cL_law 625 = .ok (.iconst 2, 1) := by decide +kernel
theorem dL_law_626 : decode cL_law 626 = .ok (.iadd, 1) := by decide +kernel
theorem dL_law_627 : decode cL_law 627 = .ok (.iaload, 1) := by decide +kernel
theorem dL_law_628 : decode cL_law 628 = .ok (.invokevirtual 70, 3) := by decide +kernel
theorem dL_law_631 : decode cL_law 631 = .ok (.aload_n 2, 1) := by decide +kernel
theorem dL_law_632 : decode cL_law 632 = .ok (.aload_n 0, 1) := by decide +kernel
theorem dL_law_633 : decode cL_law 633 = .ok (.iload_n 3, 1) := by decide +kernel
theorem dL_law_634 : decode cL_law 634 = .ok (.iconst 1, 1) := by decide +kernel
theorem dL_law_635 : decode cL_law 635 = .ok (.iadd, 1) := by decide +kernel
theorem dL_law_636 : decode cL_law 636 = .ok (.iaload, 1) := by decide +kernel
theorem dL_law_637 : decode cL_law 637 = .ok (.aload_n 0, 1) := by decide +kernel
theorem dL_law_638 : decode cL_law 638 = .ok (.iload_n 3, 1) := by decide +kernel
theorem dL_law_639 : decode cL_law 639 = .ok (.iconst 2, 1) := by decide +kernel
theorem dL_law_640 : decode cL_law 640 = .ok (.iadd, 1) := by decide +kernel
theorem dL_law_641 : decode cL_law 641 = .ok (.iaload, 1) := by decide +kernel
theorem dL_law_642 : decode cL_law 642 = .ok (.invokevirtual 73, 3) := by decide +kernel
theorem dL_law_645 : decode cL_law 645 = .ok (.if_icmp .eq 944, 3) := by decide +kernel
theorem dL_law_648 : decode cL_law 648 = .ok (.iconst 0, 1) := by decide +kernel
theorem dL_law_649 : decode cL_law 649 = .ok (.ireturn, 1) := by decide +kernel
theorem dL_law_650 : decode cL_law 650 = .ok (.aload_n 1, 1) := by decide +kernel
theorem dL_law_651 : decode cL_law 651 = .ok (.aload_n 0, 1) := by decide +kernel
theorem dL_law_652 : decode cL_law 652 = .ok (.iload_n 3, 1) := by decide +kernel
theorem dL_law_653 : decode cL_law 653 = .ok (.iconst 1, 1) := by decide +kernel
theorem dL_law_654 : decode cL_law 654 = .ok (.iadd, 1) := by decide +kernel
theorem dL_law_655 : decode cL_law 655 = .ok (.iaload, 1) := by decide +kernel
theorem dL_law_656 : decode cL_law 656 = .ok (.invokevirtual 74, 3) := by decide +kernel
theorem dL_law_659 : decode cL_law 659 = .ok (.aload_n 2, 1) := by decide +kernel
theorem dL_law_660 : decode cL_law 660 = .ok (.aload_n 0, 1) := by decide +kernel
theorem dL_law_661 : decode cL_law 661 = .ok (.iload_n 3, 1) := by decide +kernel
theorem dL_law_662 : decode cL_law 662 = .ok (.iconst 1, 1) := by decide +kernel
theorem dL_law_663 : decode cL_law 663 = .ok (.iadd, 1) := by decide +kernel
theorem dL_law_664 : decode cL_law 664 = .ok (.iaload, 1) := by decide +kernel
theorem dL_law_665 : decode cL_law 665 = .ok (.invokevirtual 77, 3) := by decide +kernel
theorem dL_law_668 : decode cL_law 668 = .ok (.if_icmp .eq 921, 3) := by decide +kernel
theorem dL_law_671 : decode cL_law 671 = .ok (.iconst 0, 1) := by decide +kernel
theorem dL_law_672 : decode cL_law 672 = .ok (.ireturn, 1) := by decide +kernel
theorem dL_law_673 : decode cL_law 673 = .ok (.aload_n 1, 1) := by decide +kernel
theorem dL_law_674 : decode cL_law 674 = .ok (.aload_n 0, 1) := by decide +kernel
theorem dL_law_675 : decode cL_law 675 = .ok (.iload_n 3, 1) := by decide +kernel
theorem dL_law_676 : decode cL_law 676 = .ok (.iconst 1, 1) := by decide +kernel
theorem dL_law_677 : decode cL_law 677 = .ok (.iadd, 1) := by decide +kernel
theorem dL_law_678 : decode cL_law 678 = .ok (.iaload, 1) := by decide +kernel
theorem dL_law_679 : decode cL_law 679 = .ok (.aload_n 0, 1) := by decide +kernel
theorem dL_law_680 : decode cL_law 680 = .ok (.iload_n 3, 1) := by decide +kernel
theorem dL_law_681 : decode cL_law 681 = .ok (.iconst 2, 1) := by decide +kernel
theorem dL_law_682 : decode cL_law 682 = .ok (.iadd, 1) := by decide +kernel
theorem dL_law_683 : decode cL_law 683 = .ok (.iaload, 1) := by decide +kernel
theorem dL_law_684 : decode cL_law 684 = .ok (.invokevirtual 78, 3) := by decide +kernel
theorem dL_law_687 : decode cL_law 687 = .ok (.aload_n 2, 1) := by decide +kernel
theorem dL_law_688 : decode cL_law 688 = .ok (.aload_n 0, 1) := by decide +kernel
theorem dL_law_689 : decode cL_law 689 = .ok (.iload_n 3, 1) := by decide +kernel
theorem dL_law_690 : decode cL_law 690 = .ok (.iconst 1, 1) := by decide +kernel
theorem dL_law_691 : decode cL_law 691 = .ok (.iadd, 1) := by decide +kernel
theorem dL_law_692 : decode cL_law 692 = .ok (.iaload, 1) := by decide +kernel
theorem dL_law_693 : decode cL_law 693 = .ok (.aload_n 0, 1) := by decide +kernel
theorem dL_law_694 : decode cL_law 694 = .ok (.iload_n 3, 1) := by decide +kernel
theorem dL_law_695 : decode cL_law 695 = .ok (.iconst 2, 1) := by decide +kernel
theorem dL_law_696 : decode cL_law 696 = .ok (.iadd, 1) := by decide +kernel
theorem dL_law_697 : decode cL_law 697 = .ok (.iaload, 1) := by decide +kernel
theorem dL_law_698 : decode cL_law 698 = .ok (.invokevirtual 81, 3) := by decide +kernel
theorem dL_law_701 : decode cL_law 701 = .ok (.if_icmp .eq 888, 3) := by decide +kernel
theorem dL_law_704 : decode cL_law 704 = .ok (.iconst 0, 1) := by decide +kernel
theorem dL_law_705 : decode cL_law 705 = .ok (.ireturn, 1) := by decide +kernel
theorem dL_law_706 : decode cL_law 706 = .ok (.aload_n 1, 1) := by decide +kernel
theorem dL_law_707 : decode cL_law 707 = .ok (.invokevirtual 82, 3) := by decide +kernel
theorem dL_law_710 : decode cL_law 710 = .ok (.aload_n 2, 1) := by decide +kernel
theorem dL_law_711 : decode cL_law 711 = .ok (.invokevirtual 85, 3) := by decide +kernel
theorem dL_law_714 : decode cL_law 714 = .ok (.if_icmp .eq 875, 3) := by decide +kernel
theorem dL_law_717 : decode cL_law 717 = .ok (.iconst 0, 1) := by decide +kernel
theorem dL_law_718 : decode cL_law 718 = .ok (.ireturn, 1) := by decide +kernel
theorem dL_law_719 : decode cL_law 719 = .ok (.aload_n 1, 1) := by decide +kernel
theorem dL_law_720 : decode cL_law 720 = .ok (.aload_n 0, 1) := by decide +kernel
theorem dL_law_721 : decode cL_law 721 = .ok (.iload_n 3, 1) := by decide +kernel
theorem dL_law_722 : decode cL_law 722 = .ok (.iconst 1, 1) := by decide +kernel
theorem dL_law_723 : decode cL_law 723 = .ok (.iadd, 1) := by decide +kernel
theorem dL_law_724 : decode cL_law 724 = .ok (.iaload, 1) := by decide +kernel
theorem dL_law_725 : decode cL_law 725 = .ok (.aload_n 0, 1) := by decide +kernel
theorem dL_law_726 : decode cL_law 726 = .ok (.iload_n 3, 1) := by decide +kernel
theorem dL_law_727 : decode cL_law 727 = .ok (.iconst 2, 1) := by decide +kernel
theorem dL_law_728 : decode cL_law 728 = .ok (.iadd, 1) := by decide +kernel
theorem dL_law_729 : decode cL_law 729 = .ok (.iaload, 1) := by decide +kernel
theorem dL_law_730 : decode cL_law 730 = .ok (.invokevirtual 86, 3) := by decide +kernel
theorem dL_law_733 : decode cL_law 733 = .ok (.aload_n 2, 1) := by decide +kernel
theorem dL_law_734 : decode cL_law 734 = .ok (.aload_n 0, 1) := by decide +kernel
theorem dL_law_735 : decode cL_law 735 = .ok (.iload_n 3, 1) := by decide +kernel
theorem dL_law_736 : decode cL_law 736 = .ok (.iconst 1, 1) := by decide +kernel
theorem dL_law_737 : decode cL_law 737 = .ok (.iadd, 1) := by decide +kernel
theorem dL_law_738 : decode cL_law 738 = .ok (.iaload, 1) := by decide +kernel
theorem dL_law_739 : decode cL_law 739 = .ok (.aload_n 0, 1) := by decide +kernel
theorem dL_law_740 : decode cL_law 740 = .ok (.iload_n 3, 1) := by decide +kernel
theorem dL_law_741 : decode cL_law 741 = .ok (.iconst 2, 1) := by decide +kernel
theorem dL_law_742 : decode cL_law 742 = .ok (.iadd, 1) := by decide +kernel
theorem dL_law_743 : decode cL_law 743 = .ok (.iaload, 1) := by decide +kernel
theorem dL_law_744 : decode cL_law 744 = .ok (.invokevirtual 89, 3) := by decide +kernel
theorem dL_law_747 : decode cL_law 747 = .ok (.if_icmp .eq 842, 3) := by decide +kernel
theorem dL_law_750 : decode cL_law 750 = .ok (.iconst 0, 1) := by decide +kernel
theorem dL_law_751 : decode cL_law 751 = .ok (.ireturn, 1) := by decide +kernel
theorem dL_law_752 : decode cL_law 752 = .ok (.aload_n 1, 1) := by decide +kernel
theorem dL_law_753 : decode cL_law 753 = .ok (.invokevirtual 90, 3) := by decide +kernel
theorem dL_law_756 : decode cL_law 756 = .ok (.aload_n 2, 1) := by decide +kernel
theorem dL_law_757 : decode cL_law 757 = .ok (.invokevirtual 93, 3) := by decide +kernel
theorem dL_law_760 : decode cL_law 760 = .ok (.if_icmp .eq 829, 3) := by decide +kernel
theorem dL_law_763 : decode cL_law 763 = .ok (.iconst 0, 1) := by decide +kernel
theorem dL_law_764 : decode cL_law 764 = .ok (.ireturn, 1) := by decide +kernel
theorem dL_law_765 : decode cL_law 765 = .ok (.aload_n 1, 1) := by decide +kernel
theorem dL_law_766 : decode cL_law 766 = .ok (.invokevirtual 94, 3) := by decide +kernel
theorem dL_law_769 : decode cL_law 769 = .ok (.aload_n 2, 1) := by decide +kernel
theorem dL_law_770 : decode cL_law 770 = .ok (.invokevirtual 97, 3) := by decide +kernel
theorem dL_law_773 : decode cL_law 773 = .ok (.if_icmp .eq 816, 3) := by decide +kernel
theorem dL_law_776 : decode cL_law 776 = .ok (.iconst 0, 1) := by decide +kernel
theorem dL_law_777 : decode cL_law 777 = .ok (.ireturn, 1) := by decide +kernel
theorem dL_law_778 : decode cL_law 778 = .ok (.aload_n 1, 1) := by decide +kernel
theorem dL_law_779 : decode cL_law 779 = .ok (.aload_n 0, 1) := by decide +kernel
theorem dL_law_780 : decode cL_law 780 = .ok (.iload_n 3, 1) := by decide +kernel
theorem dL_law_781 : decode cL_law 781 = .ok (.iconst 1, 1) := by decide +kernel
theorem dL_law_782 : decode cL_law 782 = .ok (.iadd, 1) := by decide +kernel
theorem dL_law_783 : decode cL_law 783 = .ok (.iaload, 1) := by decide +kernel
theorem dL_law_784 : decode cL_law 784 = .ok (.aload_n 0, 1) := by decide +kernel
theorem dL_law_785 : decode cL_law 785 = .ok (.iload_n 3, 1) := by decide +kernel
theorem dL_law_786 : decode cL_law 786 = .ok (.iconst 2, 1) := by decide +kernel
theorem dL_law_787 : decode cL_law 787 = .ok (.iadd, 1) := by decide +kernel
theorem dL_law_788 : decode cL_law 788 = .ok (.iaload, 1) := by decide +kernel
theorem dL_law_789 : decode cL_law 789 = .ok (.invokevirtual 98, 3) := by decide +kernel
theorem dL_law_792 : decode cL_law 792 = .ok (.aload_n 2, 1) := by decide +kernel
theorem dL_law_793 : decode cL_law 793 = .ok (.aload_n 0, 1) := by decide +kernel
theorem dL_law_794 : decode cL_law 794 = .ok (.iload_n 3, 1) := by decide +kernel
theorem dL_law_795 : decode cL_law 795 = .ok (.iconst 1, 1) := by decide +kernel
theorem dL_law_796 : decode cL_law 796 = .ok (.iadd, 1) := by decide +kernel
theorem dL_law_797 : decode cL_law 797 = .ok (.iaload, 1) := by decide +kernel
theorem dL_law_798 : decode cL_law 798 = .ok (.aload_n 0, 1) := by decide +kernel
theorem dL_law_799 : decode cL_law 799 = .ok (.iload_n 3, 1) := by decide +kernel
theorem dL_law_800 : decode cL_law 800 = .ok (.iconst 2, 1) := by decide +kernel
theorem dL_law_801 : decode cL_law 801 = .ok (.iadd, 1) := by decide +kernel
theorem dL_law_802 : decode cL_law 802 = .ok (.iaload, 1) := by decide +kernel
theorem dL_law_803 : decode cL_law 803 = .ok (.invokevirtual 101, 3) := by decide +kernel
theorem dL_law_806 : decode cL_law 806 = .ok (.if_icmp .eq 783, 3) := by decide +kernel
theorem dL_law_809 : decode cL_law 809 = .ok (.iconst 0, 1) := by decide +kernel
theorem dL_law_810 : decode cL_law 810 = .ok (.ireturn, 1) := by decide +kernel
theorem dL_law_811 : decode cL_law 811 = .ok (.aload_n 1, 1) := by decide +kernel
theorem dL_law_812 : decode cL_law 812 = .ok (.aload_n 0, 1) := by decide +kernel
theorem dL_law_813 : decode cL_law 813 = .ok (.iload_n 3, 1) := by decide +kernel
theorem dL_law_814 : decode cL_law 814 = .ok (.iconst 1, 1) := by decide +kernel
theorem dL_law_815 : decode cL_law 815 = .ok (.iadd, 1) := by decide +kernel
theorem dL_law_816 : decode cL_law 816 = .ok (.iaload, 1) := by decide +kernel
theorem dL_law_817 : decode cL_law 817 = .ok (.invokevirtual 102, 3) := by decide +kernel
theorem dL_law_820 : decode cL_law 820 = .ok (.aload_n 2, 1) := by decide +kernel
theorem dL_law_821 : decode cL_law 821 = .ok (.aload_n 0, 1) := by decide +kernel
theorem dL_law_822 : decode cL_law 822 = .ok (.iload_n 3, 1) := by decide +kernel
theorem dL_law_823 : decode cL_law 823 = .ok (.iconst 1, 1) := by decide +kernel
theorem dL_law_824 : decode cL_law 824 = .ok (.iadd, 1) := by decide +kernel
theorem dL_law_825 : decode cL_law 825 = .ok (.iaload, 1) := by decide +kernel
theorem dL_law_826 : decode cL_law 826 = .ok (.invokevirtual 105, 3) := by decide +kernel
theorem dL_law_829 : decode cL_law 829 = .ok (.if_icmp .eq 760, 3) := by decide +kernel
theorem dL_law_832 : decode cL_law 832 = .ok (.iconst 0, 1) := by decide +kernel
theorem dL_law_833 : decode cL_law 833 = .ok (.ireturn, 1) := by decide +kernel
theorem dL_law_834 : decode cL_law 834 = .ok (.aload_n 1, 1) := by decide +kernel
theorem dL_law_835 : decode cL_law 835 = .ok (.aload_n 0, 1) := by decide +kernel
theorem dL_law_836 : decode cL_law 836 = .ok (.iload_n 3, 1) := by decide +kernel
theorem dL_law_837 : decode cL_law 837 = .ok (.iconst 1, 1) := by decide +kernel
theorem dL_law_838 : decode cL_law 838 = .ok (.iadd, 1) := by decide +kernel
theorem dL_law_839 : decode cL_law 839 = .ok (.iaload, 1) := by decide +kernel
theorem dL_law_840 : decode cL_law 840 = .ok (.aload_n 0, 1) := by decide +kernel
theorem dL_law_841 : decode cL_law 841 = .ok (.iload_n 3, 1) := by decide +kernel
theorem dL_law_842 : decode cL_law 842 = .ok (.iconst 2, 1) := by decide +kernel
theorem dL_law_843 : decode cL_law 843 = .ok (.iadd, 1) := by decide +kernel
theorem dL_law_844 : decode cL_law 844 = .ok (.iaload, 1) := by decide +kernel
theorem dL_law_845 : decode cL_law 845 = .ok (.invokevirtual 106, 3) := by decide +kernel
theorem dL_law_848 : decode cL_law 848 = .ok (.aload_n 2, 1) := by decide +kernel
theorem dL_law_849 : decode cL_law 849 = .ok (.aload_n 0, 1) := by decide +kernel
theorem dL_law_850 : decode cL_law 850 = .ok (.iload_n 3, 1) := by decide +kernel
theorem dL_law_851 : decode cL_law 851 = .ok (.iconst 1, 1) := by decide +kernel
theorem dL_law_852 : decode cL_law 852 = .ok (.iadd, 1) := by decide +kernel
theorem dL_law_853 : decode cL_law 853 = .ok (.iaload, 1) := by decide +kernel
theorem dL_law_854 : decode cL_law 854 = .ok (.aload_n 0, 1) := by decide +kernel
theorem dL_law_855 : decode cL_law 855 = .ok (.iload_n 3, 1) := by decide +kernel
theorem dL_law_856 : decode cL_law 856 = .ok (.iconst 2, 1) := by decide +kernel
theorem dL_law_857 : decode cL_law 857 = .ok (.iadd, 1) := by decide +kernel
theorem dL_law_858 : decode cL_law 858 = .ok (.iaload, 1) := by decide +kernel
theorem dL_law_859 : decode cL_law 859 = .ok (.invokevirtual 109, 3) := by decide +kernel
theorem dL_law_862 : decode cL_law 862 = .ok (.if_icmp .eq 727, 3) := by decide +kernel
theorem dL_law_865 : decode cL_law 865 = .ok (.iconst 0, 1) := by decide +kernel
theorem dL_law_866 : decode cL_law 866 = .ok (.ireturn, 1) := by decide +kernel
theorem dL_law_867 : decode cL_law 867 = .ok (.aload_n 1, 1) := by decide +kernel
theorem dL_law_868 : decode cL_law 868 = .ok (.aload_n 0, 1) := by decide +kernel
theorem dL_law_869 : decode cL_law 869 = .ok (.iload_n 3, 1) := by decide +kernel
theorem dL_law_870 : decode cL_law 870 = .ok (.iconst 1, 1) := by decide +kernel
theorem dL_law_871 : decode cL_law 871 = .ok (.iadd, 1) := by decide +kernel
theorem dL_law_872 : decode cL_law 872 = .ok (.iaload, 1) := by decide +kernel
theorem dL_law_873 : decode cL_law 873 = .ok (.aload_n 0, 1) := by decide +kernel
theorem dL_law_874 : decode cL_law 874 = .ok (.iload_n 3, 1) := by decide +kernel
theorem dL_law_875 : decode cL_law 875 = .ok (.iconst 2, 1) := by decide +kernel
theorem dL_law_876 : decode cL_law 876 = .ok (.iadd, 1) := by decide +kernel
theorem dL_law_877 : decode cL_law 877 = .ok (.iaload, 1) := by decide +kernel
theorem dL_law_878 : decode cL_law 878 = .ok (.invokevirtual 110, 3) := by decide +kernel
theorem dL_law_881 : decode cL_law 881 = .ok (.aload_n 2, 1) := by decide +kernel
theorem dL_law_882 : decode cL_law 882 = .ok (.aload_n 0, 1) := by decide +kernel
theorem dL_law_883 : decode cL_law 883 = .ok (.iload_n 3, 1) := by decide +kernel
theorem dL_law_884 : decode cL_law 884 = .ok (.iconst 1, 1) := by decide +kernel
theorem dL_law_885 : decode cL_law 885 = .ok (.iadd, 1) := by decide +kernel
theorem dL_law_886 : decode cL_law 886 = .ok (.iaload, 1) := by decide +kernel
theorem dL_law_887 : decode cL_law 887 = .ok (.aload_n 0, 1) := by decide +kernel
theorem dL_law_888 : decode cL_law 888 = .ok (.iload_n 3, 1) := by decide +kernel
theorem dL_law_889 : decode cL_law 889 = .ok (.iconst 2, 1) := by decide +kernel
theorem dL_law_890 : decode cL_law 890 = .ok (.iadd, 1) := by decide +kernel
theorem dL_law_891 : decode cL_law 891 = .ok (.iaload, 1) := by decide +kernel
theorem dL_law_892 : decode cL_law 892 = .ok (.invokevirtual 113, 3) := by decide +kernel
theorem dL_law_895 : decode cL_law 895 = .ok (.if_icmp .eq 694, 3) := by decide +kernel
theorem dL_law_898 : decode cL_law 898 = .ok (.iconst 0, 1) := by decide +kernel
theorem dL_law_899 : decode cL_law 899 = .ok (.ireturn, 1) := by decide +kernel
theorem dL_law_900 : decode cL_law 900 = .ok (.aload_n 1, 1) := by decide +kernel
theorem dL_law_901 : decode cL_law 901 = .ok (.aload_n 0, 1) := by decide +kernel
theorem dL_law_902 : decode cL_law 902 = .ok (.iload_n 3, 1) := by decide +kernel
theorem dL_law_903 : decode cL_law 903 = .ok (.iconst 1, 1) := by decide +kernel
theorem dL_law_904 : decode cL_law 904 = .ok (.iadd, 1) := by decide +kernel
theorem dL_law_905 : decode cL_law 905 = .ok (.iaload, 1) := by decide +kernel
theorem dL_law_906 : decode cL_law 906 = .ok (.invokevirtual 114, 3) := by decide +kernel
theorem dL_law_909 : decode cL_law 909 = .ok (.aload_n 2, 1) := by decide +kernel
theorem dL_law_910 : decode cL_law 910 = .ok (.aload_n 0, 1) := by decide +kernel
theorem dL_law_911 : decode cL_law 911 = .ok (.iload_n 3, 1) := by decide +kernel
theorem dL_law_912 : decode cL_law 912 = .ok (.iconst 1, 1) := by decide +kernel
theorem dL_law_913 : decode cL_law 913 = .ok (.iadd, 1) := by decide +kernel
theorem dL_law_914 : decode cL_law 914 = .ok (.iaload, 1) := by decide +kernel
theorem dL_law_915 : decode cL_law 915 = .ok (.invokevirtual 117, 3) := by decide +kernel
theorem dL_law_918 : decode cL_law 918 = .ok (.if_icmp .eq 671, 3) := by decide +kernel
theorem dL_law_921 : decode cL_law 921 = .ok (.iconst 0, 1) := by decide +kernel
theorem dL_law_922 : decode cL_law 922 = .ok (.ireturn, 1) := by decide +kernel
theorem dL_law_923 : decode cL_law 923 = .ok (.aload_n 1, 1) := by decide +kernel
theorem dL_law_924 : decode cL_law 924 = .ok (.aload_n 0, 1) := by decide +kernel
theorem dL_law_925 : decode cL_law 925 = .ok (.iload_n 3, 1) := by decide +kernel
theorem dL_law_926 : decode cL_law 926 = .ok (.iconst 1, 1) := by decide +kernel
theorem dL_law_927 : decode cL_law 927 = .ok (.iadd, 1) := by decide +kernel
theorem dL_law_928 : decode cL_law 928 = .ok (.iaload, 1) := by decide +kernel
theorem dL_law_929 : decode cL_law 929 = .ok (.aload_n 0, 1) := by decide +kernel
theorem dL_law_930 : decode cL_law 930 = .ok (.iload_n 3, 1) := by decide +kernel
theorem dL_law_931 : decode cL_law 931 = .ok (.iconst 2, 1) := by decide +kernel
theorem dL_law_932 : decode cL_law 932 = .ok (.iadd, 1) := by decide +kernel
theorem dL_law_933 : decode cL_law 933 = .ok (.iaload, 1) := by decide +kernel
theorem dL_law_934 : decode cL_law 934 = .ok (.invokevirtual 118, 3) := by decide +kernel
theorem dL_law_937 : decode cL_law 937 = .ok (.aload_n 2, 1) := by decide +kernel
theorem dL_law_938 : decode cL_law 938 = .ok (.aload_n 0, 1) := by decide +kernel
theorem dL_law_939 : decode cL_law 939 = .ok (.iload_n 3, 1) := by decide +kernel
theorem dL_law_940 : decode cL_law 940 = .ok (.iconst 1, 1) := by decide +kernel
theorem dL_law_941 : decode cL_law 941 = .ok (.iadd, 1) := by decide +kernel
theorem dL_law_942 : decode cL_law 942 = .ok (.iaload, 1) := by decide +kernel
theorem dL_law_943 : decode cL_law 943 = .ok (.aload_n 0, 1) := by decide +kernel
theorem dL_law_944 : decode cL_law 944 = .ok (.iload_n 3, 1) := by decide +kernel
theorem dL_law_945 : decode cL_law 945 = .ok (.iconst 2, 1) := by decide +kernel
theorem dL_law_946 : decode cL_law 946 = .ok (.iadd, 1) := by decide +kernel
theorem dL_law_947 : decode cL_law 947 = .ok (.iaload, 1) := by decide +kernel
theorem dL_law_948 : decode cL_law 948 = .ok (.invokevirtual 121, 3) := by decide +kernel
theorem dL_law_951 : decode cL_law 951 = .ok (.if_icmp .eq 638, 3) := by decide +kernel
theorem dL_law_954 : decode cL_law 954 = .ok (.iconst 0, 1) := by decide +kernel
theorem dL_law_955 : decode cL_law 955 = .ok (.ireturn, 1) := by decide +kernel
theorem dL_law_956 : decode cL_law 956 = .ok (.aload_n 1, 1) := by decide +kernel
theorem dL_law_957 : decode cL_law 957 = .ok (.aload_n 0, 1) := by decide +kernel
theorem dL_law_958 : decode cL_law 958 = .ok (.iload_n 3, 1) := by decide +kernel
theorem dL_law_959 : decode cL_law 959 = .ok (.iconst 1, 1) := by decide +kernel
theorem dL_law_960 : decode cL_law 960 = .ok (.iadd, 1) := by decide +kernel
theorem dL_law_961 : decode cL_law 961 = .ok (.iaload, 1) := by decide +kernel
theorem dL_law_962 : decode cL_law 962 = .ok (.aload_n 0, 1) := by decide +kernel
theorem dL_law_963 : decode cL_law 963 = .ok (.iload_n 3, 1) := by decide +kernel
theorem dL_law_964 : decode cL_law 964 = .ok (.iconst 2, 1) := by decide +kernel
theorem dL_law_965 : decode cL_law 965 = .ok (.iadd, 1) := by decide +kernel
theorem dL_law_966 : decode cL_law 966 = .ok (.iaload, 1) := by decide +kernel
theorem dL_law_967 : decode cL_law 967 = .ok (.invokevirtual 122, 3) := by decide +kernel
theorem dL_law_970 : decode cL_law 970 = .ok (.aload_n 2, 1) := by decide +kernel
theorem dL_law_971 : decode cL_law 971 = .ok (.aload_n 0, 1) := by decide +kernel
theorem dL_law_972 : decode cL_law 972 = .ok (.iload_n 3, 1) := by decide +kernel
theorem dL_law_973 : decode cL_law 973 = .ok (.iconst 1, 1) := by decide +kernel
theorem dL_law_974 : decode cL_law 974 = .ok (.iadd, 1) := by decide +kernel
theorem dL_law_975 : decode cL_law 975 = .ok (.iaload, 1) := by decide +kernel
theorem dL_law_976 : decode cL_law 976 = .ok (.aload_n 0, 1) := by decide +kernel
theorem dL_law_977 : decode cL_law 977 = .ok (.iload_n 3, 1) := by decide +kernel
theorem dL_law_978 : decode cL_law 978 = .ok (.iconst 2, 1) := by decide +kernel
theorem dL_law_979 : decode cL_law 979 = .ok (.iadd, 1) := by decide +kernel
theorem dL_law_980 : decode cL_law 980 = .ok (.iaload, 1) := by decide +kernel
theorem dL_law_981 : decode cL_law 981 = .ok (.invokevirtual 125, 3) := by decide +kernel
theorem dL_law_984 : decode cL_law 984 = .ok (.if_icmp .eq 605, 3) := by decide +kernel
theorem dL_law_987 : decode cL_law 987 = .ok (.iconst 0, 1) := by decide +kernel
theorem dL_law_988 : decode cL_law 988 = .ok (.ireturn, 1) := by decide +kernel
theorem dL_law_989 : decode cL_law 989 = .ok (.aload_n 1, 1) := by decide +kernel
theorem dL_law_990 : decode cL_law 990 = .ok (.aload_n 0, 1) := by decide +kernel
theorem dL_law_991 : decode cL_law 991 = .ok (.iload_n 3, 1) := by decide +kernel
theorem dL_law_992 : decode cL_law 992 = .ok (.iconst 1, 1) := by decide +kernel
theorem dL_law_993 : decode cL_law 993 = .ok (.iadd, 1) := by decide +kernel
theorem dL_law_994 : decode cL_law 994 = .ok (.iaload, 1) := by decide +kernel
theorem dL_law_995 : decode cL_law 995 = .ok (.aload_n 0, 1) := by decide +kernel
theorem dL_law_996 : decode cL_law 996 = .ok (.iload_n 3, 1) := by decide +kernel
theorem dL_law_997 : decode cL_law 997 = .ok (.iconst 2, 1) := by decide +kernel
theorem dL_law_998 : decode cL_law 998 = .ok (.iadd, 1) := by decide +kernel
theorem dL_law_999 : decode cL_law 999 = .ok (.iaload, 1) := by decide +kernel
theorem dL_law_1000 : decode cL_law 1000 = .ok (.invokevirtual 126, 3) := by decide +kernel
theorem dL_law_1003 : decode cL_law 1003 = .ok (.aload_n 2, 1) := by decide +kernel
theorem dL_law_1004 : decode cL_law 1004 = .ok (.aload_n 0, 1) := by decide +kernel
theorem dL_law_1005 : decode cL_law 1005 = .ok (.iload_n 3, 1) := by decide +kernel
theorem dL_law_1006 : decode cL_law 1006 = .ok (.iconst 1, 1) := by decide +kernel
theorem dL_law_1007 : decode cL_law 1007 = .ok (.iadd, 1) := by decide +kernel
theorem dL_law_1008 : decode cL_law 1008 = .ok (.iaload, 1) := by decide +kernel
theorem dL_law_1009 : decode cL_law 1009 = .ok (.aload_n 0, 1) := by decide +kernel
theorem dL_law_1010 : decode cL_law 1010 = .ok (.iload_n 3, 1) := by decide +kernel
theorem dL_law_1011 : decode cL_law 1011 = .ok (.iconst 2, 1) := by decide +kernel
theorem dL_law_1012 : decode cL_law 1012 = .ok (.iadd, 1) := by decide +kernel
theorem dL_law_1013 : decode cL_law 1013 = .ok (.iaload, 1) := by decide +kernel
theorem dL_law_1014 : decode cL_law 1014 = .ok (.invokevirtual 129, 3) := by decide +kernel
theorem dL_law_1017 : decode cL_law 1017 = .ok (.if_icmp .eq 572, 3) := by decide +kernel
theorem dL_law_1020 : decode cL_law 1020 = .ok (.iconst 0, 1) := by decide +kernel
theorem dL_law_1021 : decode cL_law 1021 = .ok (.ireturn, 1) := by decide +kernel
theorem dL_law_1022 : decode cL_law 1022 = .ok (.aload_n 1, 1) := by decide +kernel
theorem dL_law_1023 : decode cL_law 1023 = .ok (.aload_n 0, 1) := by decide +kernel
theorem dL_law_1024 : decode cL_law 1024 = .ok (.iload_n 3, 1) := by decide +kernel
theorem dL_law_1025 : decode cL_law 1025 = .ok (.iconst 1, 1) := by decide +kernel
theorem dL_law_1026 : decode cL_law 1026 = .ok (.iadd, 1) := by decide +kernel
theorem dL_law_1027 : decode cL_law 1027 = .ok (.iaload, 1) := by decide +kernel
theorem dL_law_1028 : decode cL_law 1028 = .ok (.aload_n 0, 1) := by decide +kernel
theorem dL_law_1029 : decode cL_law 1029 = .ok (.iload_n 3, 1) := by decide +kernel
theorem dL_law_1030 : decode cL_law 1030 = .ok (.iconst 2, 1) := by decide +kernel
theorem dL_law_1031 : decode cL_law 1031 = .ok (.iadd, 1) := by decide +kernel
theorem dL_law_1032 : decode cL_law 1032 = .ok (.iaload, 1) := by decide +kernel
theorem dL_law_1033 : decode cL_law 1033 = .ok (.invokevirtual 130, 3) := by decide +kernel
theorem dL_law_1036 : decode cL_law 1036 = .ok (.aload_n 2, 1) := by decide +kernel
theorem dL_law_1037 : decode cL_law 1037 = .ok (.aload_n 0, 1) := by decide +kernel
theorem dL_law_1038 : decode cL_law 1038 = .ok (.iload_n 3, 1) := by decide +kernel
theorem dL_law_1039 : decode cL_law 1039 = .ok (.iconst 1, 1) := by decide +kernel
theorem dL_law_1040 : decode cL_law 1040 = .ok (.iadd, 1) := by decide +kernel
theorem dL_law_1041 : decode cL_law 1041 = .ok (.iaload, 1) := by decide +kernel
theorem dL_law_1042 : decode cL_law 1042 = .ok (.aload_n 0, 1) := by decide +kernel
theorem dL_law_1043 : decode cL_law 1043 = .ok (.iload_n 3, 1) := by decide +kernel
theorem dL_law_1044 : decode cL_law 1044 = .ok (.iconst 2, 1) := by decide +kernel
theorem dL_law_1045 : decode cL_law 1045 = .ok (.iadd, 1) := by decide +kernel
theorem dL_law_1046 : decode cL_law 1046 = .ok (.iaload, 1) := by decide +kernel
theorem dL_law_1047 : decode cL_law 1047 = .ok (.invokevirtual 133, 3) := by decide +kernel
theorem dL_law_1050 : decode cL_law 1050 = .ok (.if_icmp .eq 539, 3) := by decide +kernel
theorem dL_law_1053 : decode cL_law 1053 = .ok (.iconst 0, 1) := by decide +kernel
theorem dL_law_1054 : decode cL_law 1054 = .ok (.ireturn, 1) := by decide +kernel
theorem dL_law_1055 : decode cL_law 1055 = .ok (.aload_n 1, 1) := by decide +kernel
theorem dL_law_1056 : decode cL_law 1056 = .ok (.aload_n 0, 1) := by decide +kernel
theorem dL_law_1057 : decode cL_law 1057 = .ok (.iload_n 3, 1) := by decide +kernel
theorem dL_law_1058 : decode cL_law 1058 = .ok (.iconst 1, 1) := by decide +kernel
theorem dL_law_1059 : decode cL_law 1059 = .ok (.iadd, 1) := by decide +kernel
theorem dL_law_1060 : decode cL_law 1060 = .ok (.iaload, 1) := by decide +kernel
theorem dL_law_1061 : decode cL_law 1061 = .ok (.invokevirtual 134, 3) := by decide +kernel
theorem dL_law_1064 : decode cL_law 1064 = .ok (.aload_n 2, 1) := by decide +kernel
theorem dL_law_1065 : decode cL_law 1065 = .ok (.aload_n 0, 1) := by decide +kernel
theorem dL_law_1066 : decode cL_law 1066 = .ok (.iload_n 3, 1) := by decide +kernel
theorem dL_law_1067 : decode cL_law 1067 = .ok (.iconst 1, 1) := by decide +kernel
theorem dL_law_1068 : decode cL_law 1068 = .ok (.iadd, 1) := by decide +kernel
theorem dL_law_1069 : decode cL_law 1069 = .ok (.iaload, 1) := by decide +kernel
theorem dL_law_1070 : decode cL_law 1070 = .ok (.invokevirtual 137, 3) := by decide +kernel
theorem dL_law_1073 : decode cL_law 1073 = .ok (.if_icmp .eq 516, 3) := by decide +kernel
theorem dL_law_1076 : decode cL_law 1076 = .ok (.iconst 0, 1) := by decide +kernel
theorem dL_law_1077 : decode cL_law 1077 = .ok (.ireturn, 1) := by decide +kernel
theorem dL_law_1078 : decode cL_law 1078 = .ok (.aload_n 1, 1) := by decide +kernel
theorem dL_law_1079 : decode cL_law 1079 = .ok (.aload_n 0, 1) := by decide +kernel
theorem dL_law_1080 : decode cL_law 1080 = .ok (.iload_n 3, 1) := by decide +kernel
theorem dL_law_1081 : decode cL_law 1081 = .ok (.iconst 1, 1) := by decide +kernel
theorem dL_law_1082 : decode cL_law 1082 = .ok (.iadd, 1) := by decide +kernel
theorem dL_law_1083 : decode cL_law 1083 = .ok (.iaload, 1) := by decide +kernel
theorem dL_law_1084 : decode cL_law 1084 = .ok (.aload_n 0, 1) := by decide +kernel
theorem dL_law_1085 : decode cL_law 1085 = .ok (.iload_n 3, 1) := by decide +kernel
theorem dL_law_1086 : decode cL_law 1086 = .ok (.iconst 2, 1) := by decide +kernel
theorem dL_law_1087 : decode cL_law 1087 = .ok (.iadd, 1) := by decide +kernel
theorem dL_law_1088 : decode cL_law 1088 = .ok (.iaload, 1) := by decide +kernel
theorem dL_law_1089 : decode cL_law 1089 = .ok (.aload_n 0, 1) := by decide +kernel
theorem dL_law_1090 : decode cL_law 1090 = .ok (.iload_n 3, 1) := by decide +kernel
theorem dL_law_1091 : decode cL_law 1091 = .ok (.iconst 3, 1) := by decide +kernel
theorem dL_law_1092 : decode cL_law 1092 = .ok (.iadd, 1) := by decide +kernel
theorem dL_law_1093 : decode cL_law 1093 = .ok (.iaload, 1) := by decide +kernel
theorem dL_law_1094 : decode cL_law 1094 = .ok (.invokevirtual 138, 3) := by decide +kernel
theorem dL_law_1097 : decode cL_law 1097 = .ok (.aload_n 2, 1) := by decide +kernel
theorem dL_law_1098 : decode cL_law 1098 = .ok (.aload_n 0, 1) := by decide +kernel
theorem dL_law_1099 : decode cL_law 1099 = .ok (.iload_n 3, 1) := by decide +kernel
theorem dL_law_1100 : decode cL_law 1100 = .ok (.iconst 1, 1) := by decide +kernel
theorem dL_law_1101 : decode cL_law 1101 = .ok (.iadd, 1) := by decide +kernel
theorem dL_law_1102 : decode cL_law 1102 = .ok (.iaload, 1) := by decide +kernel
theorem dL_law_1103 : decode cL_law 1103 = .ok (.aload_n 0, 1) := by decide +kernel
theorem dL_law_1104 : decode cL_law 1104 = .ok (.iload_n 3, 1) := by decide +kernel
theorem dL_law_1105 : decode cL_law 1105 = .ok (.iconst 2, 1) := by decide +kernel
theorem dL_law_1106 : decode cL_law 1106 = .ok (.iadd, 1) := by decide +kernel
theorem dL_law_1107 : decode cL_law 1107 = .ok (.iaload, 1) := by decide +kernel
theorem dL_law_1108 : decode cL_law 1108 = .ok (.aload_n 0, 1) := by decide +kernel
theorem dL_law_1109 : decode cL_law 1109 = .ok (.iload_n 3, 1) := by decide +kernel
theorem dL_law_1110 : decode cL_law 1110 = .ok (.iconst 3, 1) := by decide +kernel
theorem dL_law_1111 : decode cL_law 1111 = .ok (.iadd, 1) := by decide +kernel
theorem dL_law_1112 : decode cL_law 1112 = .ok (.iaload, 1) := by decide +kernel
theorem dL_law_1113 : decode cL_law 1113 = .ok (.invokevirtual 141, 3) := by decide +kernel
theorem dL_law_1116 : decode cL_law 1116 = .ok (.if_icmp .eq 473, 3) := by decide +kernel
theorem dL_law_1119 : decode cL_law 1119 = .ok (.iconst 0, 1) := by decide +kernel
theorem dL_law_1120 : decode cL_law 1120 = .ok (.ireturn, 1) := by decide +kernel
theorem dL_law_1121 : decode cL_law 1121 = .ok (.aload_n 1, 1) := by decide +kernel
theorem dL_law_1122 : decode cL_law 1122 = .ok (.aload_n 0, 1) := by decide +kernel
theorem dL_law_1123 : decode cL_law 1123 = .ok (.iload_n 3, 1) := by decide +kernel
theorem dL_law_1124 : decode cL_law 1124 = .ok (.iconst 1, 1) := by decide +kernel
theorem dL_law_1125 : decode cL_law 1125 = .ok (.iadd, 1) := by decide +kernel
theorem dL_law_1126 : decode cL_law 1126 = .ok (.iaload, 1) := by decide +kernel
theorem dL_law_1127 : decode cL_law 1127 = .ok (.invokevirtual 142, 3) := by decide +kernel
theorem dL_law_1130 : decode cL_law 1130 = .ok (.aload_n 2, 1) := by decide +kernel
theorem dL_law_1131 : decode cL_law 1131 = .ok (.aload_n 0, 1) := by decide +kernel
theorem dL_law_1132 : decode cL_law 1132 = .ok (.iload_n 3, 1) := by decide +kernel
theorem dL_law_1133 : decode cL_law 1133 = .ok (.iconst 1, 1) := by decide +kernel
theorem dL_law_1134 : decode cL_law 1134 = .ok (.iadd, 1) := by decide +kernel
theorem dL_law_1135 : decode cL_law 1135 = .ok (.iaload, 1) := by decide +kernel
theorem dL_law_1136 : decode cL_law 1136 = .ok (.invokevirtual 145, 3) := by decide +kernel
theorem dL_law_1139 : decode cL_law 1139 = .ok (.if_icmp .eq 450, 3) := by decide +kernel
theorem dL_law_1142 : decode cL_law 1142 = .ok (.iconst 0, 1) := by decide +kernel
theorem dL_law_1143 : decode cL_law 1143 = .ok (.ireturn, 1) := by decide +kernel
theorem dL_law_1144 : decode cL_law 1144 = .ok (.aload_n 1, 1) := by decide +kernel
theorem dL_law_1145 : decode cL_law 1145 = .ok (.aload_n 0, 1) := by decide +kernel
theorem dL_law_1146 : decode cL_law 1146 = .ok (.iload_n 3, 1) := by decide +kernel
theorem dL_law_1147 : decode cL_law 1147 = .ok (.iconst 1, 1) := by decide +kernel
theorem dL_law_1148 : decode cL_law 1148 = .ok (.iadd, 1) := by decide +kernel
theorem dL_law_1149 : decode cL_law 1149 = .ok (.iaload, 1) := by decide +kernel
theorem dL_law_1150 : decode cL_law 1150 = .ok (.aload_n 0, 1) := by decide +kernel
theorem dL_law_1151 : decode cL_law 1151 = .ok (.iload_n 3, 1) := by decide +kernel
theorem dL_law_1152 : decode cL_law 1152 = .ok (.iconst 2, 1) := by decide +kernel
theorem dL_law_1153 : decode cL_law 1153 = .ok (.iadd, 1) := by decide +kernel
theorem dL_law_1154 : decode cL_law 1154 = .ok (.iaload, 1) := by decide +kernel
theorem dL_law_1155 : decode cL_law 1155 = .ok (.invokevirtual 146, 3) := by decide +kernel
theorem dL_law_1158 : decode cL_law 1158 = .ok (.aload_n 2, 1) := by decide +kernel
theorem dL_law_1159 : decode cL_law 1159 = .ok (.aload_n 0, 1) := by decide +kernel
theorem dL_law_1160 : decode cL_law 1160 = .ok (.iload_n 3, 1) := by decide +kernel
theorem dL_law_1161 : decode cL_law 1161 = .ok (.iconst 1, 1) := by decide +kernel
theorem dL_law_1162 : decode cL_law 1162 = .ok (.iadd, 1) := by decide +kernel
theorem dL_law_1163 : decode cL_law 1163 = .ok (.iaload, 1) := by decide +kernel
theorem dL_law_1164 : decode cL_law 1164 = .ok (.aload_n 0, 1) := by decide +kernel
theorem dL_law_1165 : decode cL_law 1165 = .ok (.iload_n 3, 1) := by decide +kernel
theorem dL_law_1166 : decode cL_law 1166 = .ok (.iconst 2, 1) := by decide +kernel
theorem dL_law_1167 : decode cL_law 1167 = .ok (.iadd, 1) := by decide +kernel
theorem dL_law_1168 : decode cL_law 1168 = .ok (.iaload, 1) := by decide +kernel
theorem dL_law_1169 : decode cL_law 1169 = .ok (.invokevirtual 149, 3) := by decide +kernel
theorem dL_law_1172 : decode cL_law 1172 = .ok (.if_icmp .eq 417, 3) := by decide +kernel
theorem dL_law_1175 : decode cL_law 1175 = .ok (.iconst 0, 1) := by decide +kernel
theorem dL_law_1176 : decode cL_law 1176 = .ok (.ireturn, 1) := by decide +kernel
theorem dL_law_1177 : decode cL_law 1177 = .ok (.aload_n 1, 1) := by decide +kernel
theorem dL_law_1178 : decode cL_law 1178 = .ok (.aload_n 0, 1) := by decide +kernel
theorem dL_law_1179 : decode cL_law 1179 = .ok (.iload_n 3, 1) := by decide +kernel
theorem dL_law_1180 : decode cL_law 1180 = .ok (.iconst 1, 1) := by decide +kernel
theorem dL_law_1181 : decode cL_law 1181 = .ok (.iadd, 1) := by decide +kernel
theorem dL_law_1182 : decode cL_law 1182 = .ok (.iaload, 1) := by decide +kernel
theorem dL_law_1183 : decode cL_law 1183 = .ok (.aload_n 0, 1) := by decide +kernel
theorem dL_law_1184 : decode cL_law 1184 = .ok (.iload_n 3, 1) := by decide +kernel
theorem dL_law_1185 : decode cL_law 1185 = .ok (.iconst 2, 1) := by decide +kernel
theorem dL_law_1186 : decode cL_law 1186 = .ok (.iadd, 1) := by decide +kernel
theorem dL_law_1187 : decode cL_law 1187 = .ok (.iaload, 1) := by decide +kernel
theorem dL_law_1188 : decode cL_law 1188 = .ok (.aload_n 0, 1) := by decide +kernel
theorem dL_law_1189 : decode cL_law 1189 = .ok (.iload_n 3, 1) := by decide +kernel
theorem dL_law_1190 : decode cL_law 1190 = .ok (.iconst 3, 1) := by decide +kernel
theorem dL_law_1191 : decode cL_law 1191 = .ok (.iadd, 1) := by decide +kernel
theorem dL_law_1192 : decode cL_law 1192 = .ok (.iaload, 1) := by decide +kernel
theorem dL_law_1193 : decode cL_law 1193 = .ok (.invokevirtual 150, 3) := by decide +kernel
theorem dL_law_1196 : decode cL_law 1196 = .ok (.aload_n 2, 1) := by decide +kernel
theorem dL_law_1197 : decode cL_law 1197 = .ok (.aload_n 0, 1) := by decide +kernel
theorem dL_law_1198 : decode cL_law 1198 = .ok (.iload_n 3, 1) := by decide +kernel
theorem dL_law_1199 : decode cL_law 1199 = .ok (.iconst 1, 1) := by decide +kernel
theorem dL_law_1200 : decode cL_law 1200 = .ok (.iadd, 1) := by decide +kernel
theorem dL_law_1201 : decode cL_law 1201 = .ok (.iaload, 1) := by decide +kernel
theorem dL_law_1202 : decode cL_law 1202 = .ok (.aload_n 0, 1) := by decide +kernel
theorem dL_law_1203 : decode cL_law 1203 = .ok (.iload_n 3, 1) := by decide +kernel
theorem dL_law_1204 : decode cL_law 1204 = .ok (.iconst 2, 1) := by decide +kernel
theorem dL_law_1205 : decode cL_law 1205 = .ok (.iadd, 1) := by decide +kernel
theorem dL_law_1206 : decode cL_law 1206 = .ok (.iaload, 1) := by decide +kernel
theorem dL_law_1207 : decode cL_law 1207 = .ok (.aload_n 0, 1) := by decide +kernel
theorem dL_law_1208 : decode cL_law 1208 = .ok (.iload_n 3, 1) := by decide +kernel
theorem dL_law_1209 : decode cL_law 1209 = .ok (.iconst 3, 1) := by decide +kernel
theorem dL_law_1210 : decode cL_law 1210 = .ok (.iadd, 1) := by decide +kernel
theorem dL_law_1211 : decode cL_law 1211 = .ok (.iaload, 1) := by decide +kernel
theorem dL_law_1212 : decode cL_law 1212 = .ok (.invokevirtual 153, 3) := by decide +kernel
theorem dL_law_1215 : decode cL_law 1215 = .ok (.if_icmp .eq 374, 3) := by decide +kernel
theorem dL_law_1218 : decode cL_law 1218 = .ok (.iconst 0, 1) := by decide +kernel
theorem dL_law_1219 : decode cL_law 1219 = .ok (.ireturn, 1) := by decide +kernel
theorem dL_law_1220 : decode cL_law 1220 = .ok (.aload_n 1, 1) := by decide +kernel
theorem dL_law_1221 : decode cL_law 1221 = .ok (.aload_n 0, 1) := by decide +kernel
theorem dL_law_1222 : decode cL_law 1222 = .ok (.iload_n 3, 1) := by decide +kernel
theorem dL_law_1223 : decode cL_law 1223 = .ok (.iconst 1, 1) := by decide +kernel
theorem dL_law_1224 : decode cL_law 1224 = .ok (.iadd, 1) := by decide +kernel
theorem dL_law_1225 : decode cL_law 1225 = .ok (.iaload, 1) := by decide +kernel
theorem dL_law_1226 : decode cL_law 1226 = .ok (.invokevirtual 154, 3) := by decide +kernel
theorem dL_law_1229 : decode cL_law 1229 = .ok (.aload_n 2, 1) := by decide +kernel
theorem dL_law_1230 : decode cL_law 1230 = .ok (.aload_n 0, 1) := by decide +kernel
theorem dL_law_1231 : decode cL_law 1231 = .ok (.iload_n 3, 1) := by decide +kernel
theorem dL_law_1232 : decode cL_law 1232 = .ok (.iconst 1, 1) := by decide +kernel
theorem dL_law_1233 : decode cL_law 1233 = .ok (.iadd, 1) := by decide +kernel
theorem dL_law_1234 : decode cL_law 1234 = .ok (.iaload, 1) := by decide +kernel
theorem dL_law_1235 : decode cL_law 1235 = .ok (.invokevirtual 157, 3) := by decide +kernel
theorem dL_law_1238 : decode cL_law 1238 = .ok (.if_icmp .eq 351, 3) := by decide +kernel
theorem dL_law_1241 : decode cL_law 1241 = .ok (.iconst 0, 1) := by decide +kernel
theorem dL_law_1242 : decode cL_law 1242 = .ok (.ireturn, 1) := by decide +kernel
theorem dL_law_1243 : decode cL_law 1243 = .ok (.aload_n 1, 1) := by decide +kernel
theorem dL_law_1244 : decode cL_law 1244 = .ok (.aload_n 0, 1) := by decide +kernel
theorem dL_law_1245 : decode cL_law 1245 = .ok (.iload_n 3, 1) := by decide +kernel
theorem dL_law_1246 : decode cL_law 1246 = .ok (.iconst 1, 1) := by decide +kernel
theorem dL_law_1247 : decode cL_law 1247 = .ok (.iadd, 1) := by decide +kernel
theorem dL_law_1248 : decode cL_law 1248 = .ok (.iaload, 1) := by decide +kernel
theorem dL_law_1249 : decode cL_law 1249 = .ok (.aload_n 0, 1) := by decide +kernel
theorem dL_law_1250 : decode cL_law 1250 = .ok (.iload_n 3, 1) := by decide +kernel
theorem dL_law_1251 : decode cL_law 1251 = .ok (.iconst 2, 1) := by decide +kernel
theorem dL_law_1252 : decode cL_law 1252 = .ok (.iadd, 1) := by decide +kernel
theorem dL_law_1253 : decode cL_law 1253 = .ok (.iaload, 1) := by decide +kernel
theorem dL_law_1254 : decode cL_law 1254 = .ok (.invokevirtual 158, 3) := by decide +kernel
theorem dL_law_1257 : decode cL_law 1257 = .ok (.aload_n 2, 1) := by decide +kernel
theorem dL_law_1258 : decode cL_law 1258 = .ok (.aload_n 0, 1) := by decide +kernel
theorem dL_law_1259 : decode cL_law 1259 = .ok (.iload_n 3, 1) := by decide +kernel
theorem dL_law_1260 : decode cL_law 1260 = .ok (.iconst 1, 1) := by decide +kernel
theorem dL_law_1261 : decode cL_law 1261 = .ok (.iadd, 1) := by decide +kernel
theorem dL_law_1262 : decode cL_law 1262 = .ok (.iaload, 1) := by decide +kernel
theorem dL_law_1263 : decode cL_law 1263 = .ok (.aload_n 0, 1) := by decide +kernel
theorem dL_law_1264 : decode cL_law 1264 = .ok (.iload_n 3, 1) := by decide +kernel
theorem dL_law_1265 : decode cL_law 1265 = .ok (.iconst 2, 1) := by decide +kernel
theorem dL_law_1266 : decode cL_law 1266 = .ok (.iadd, 1) := by decide +kernel
theorem dL_law_1267 : decode cL_law 1267 = .ok (.iaload, 1) := by decide +kernel
theorem dL_law_1268 : decode cL_law 1268 = .ok (.invokevirtual 161, 3) := by decide +kernel
theorem dL_law_1271 : decode cL_law 1271 = .ok (.if_icmp .eq 318, 3) := by decide +kernel
theorem dL_law_1274 : decode cL_law 1274 = .ok (.iconst 0, 1) := by decide +kernel
theorem dL_law_1275 : decode cL_law 1275 = .ok (.ireturn, 1) := by decide +kernel
theorem dL_law_1276 : decode cL_law 1276 = .ok (.aload_n 1, 1) := by decide +kernel
theorem dL_law_1277 : decode cL_law 1277 = .ok (.aload_n 0, 1) := by decide +kernel
theorem dL_law_1278 : decode cL_law 1278 = .ok (.iload_n 3, 1) := by decide +kernel
theorem dL_law_1279 : decode cL_law 1279 = .ok (.iconst 1, 1) := by decide +kernel
theorem dL_law_1280 : decode cL_law 1280 = .ok (.iadd, 1) := by decide +kernel
theorem dL_law_1281 : decode cL_law 1281 = .ok (.iaload, 1) := by decide +kernel
theorem dL_law_1282 : decode cL_law 1282 = .ok (.aload_n 0, 1) := by decide +kernel
theorem dL_law_1283 : decode cL_law 1283 = .ok (.iload_n 3, 1) := by decide +kernel
theorem dL_law_1284 : decode cL_law 1284 = .ok (.iconst 2, 1) := by decide +kernel
theorem dL_law_1285 : decode cL_law 1285 = .ok (.iadd, 1) := by decide +kernel
theorem dL_law_1286 : decode cL_law 1286 = .ok (.iaload, 1) := by decide +kernel
theorem dL_law_1287 : decode cL_law 1287 = .ok (.invokevirtual 162, 3) := by decide +kernel
theorem dL_law_1290 : decode cL_law 1290 = .ok (.aload_n 2, 1) := by decide +kernel
theorem dL_law_1291 : decode cL_law 1291 = .ok (.aload_n 0, 1) := by decide +kernel
theorem dL_law_1292 : decode cL_law 1292 = .ok (.iload_n 3, 1) := by decide +kernel
theorem dL_law_1293 : decode cL_law 1293 = .ok (.iconst 1, 1) := by decide +kernel
theorem dL_law_1294 : decode cL_law 1294 = .ok (.iadd, 1) := by decide +kernel
theorem dL_law_1295 : decode cL_law 1295 = .ok (.iaload, 1) := by decide +kernel
theorem dL_law_1296 : decode cL_law 1296 = .ok (.aload_n 0, 1) := by decide +kernel
theorem dL_law_1297 : decode cL_law 1297 = .ok (.iload_n 3, 1) := by decide +kernel
theorem dL_law_1298 : decode cL_law 1298 = .ok (.iconst 2, 1) := by decide +kernel
theorem dL_law_1299 : decode cL_law 1299 = .ok (.iadd, 1) := by decide +kernel
theorem dL_law_1300 : decode cL_law 1300 = .ok (.iaload, 1) := by decide +kernel
theorem dL_law_1301 : decode cL_law 1301 = .ok (.invokevirtual 165, 3) := by decide +kernel
theorem dL_law_1304 : decode cL_law 1304 = .ok (.if_icmp .eq 285, 3) := by decide +kernel
theorem dL_law_1307 : decode cL_law 1307 = .ok (.iconst 0, 1) := by decide +kernel
theorem dL_law_1308 : decode cL_law 1308 = .ok (.ireturn, 1) := by decide +kernel
theorem dL_law_1309 : decode cL_law 1309 = .ok (.aload_n 1, 1) := by decide +kernel
theorem dL_law_1310 : decode cL_law 1310 = .ok (.aload_n 0, 1) := by decide +kernel
theorem dL_law_1311 : decode cL_law 1311 = .ok (.iload_n 3, 1) := by decide +kernel
theorem dL_law_1312 : decode cL_law 1312 = .ok (.iconst 1, 1) := by decide +kernel
theorem dL_law_1313 : decode cL_law 1313 = .ok (.iadd, 1) := by decide +kernel
theorem dL_law_1314 : decode cL_law 1314 = .ok (.iaload, 1) := by decide +kernel
theorem dL_law_1315 : decode cL_law 1315 = .ok (.aload_n 0, 1) := by decide +kernel
theorem dL_law_1316 : decode cL_law 1316 = .ok (.iload_n 3, 1) := by decide +kernel
theorem dL_law_1317 : decode cL_law 1317 = .ok (.iconst 2, 1) := by decide +kernel
theorem dL_law_1318 : decode cL_law 1318 = .ok (.iadd, 1) := by decide +kernel
theorem dL_law_1319 : decode cL_law 1319 = .ok (.iaload, 1) := by decide +kernel
theorem dL_law_1320 : decode cL_law 1320 = .ok (.aload_n 0, 1) := by decide +kernel
theorem dL_law_1321 : decode cL_law 1321 = .ok (.iload_n 3, 1) := by decide +kernel
theorem dL_law_1322 : decode cL_law 1322 = .ok (.iconst 3, 1) := by decide +kernel
theorem dL_law_1323 : decode cL_law 1323 = .ok (.iadd, 1) := by decide +kernel
theorem dL_law_1324 : decode cL_law 1324 = .ok (.iaload, 1) := by decide +kernel
theorem dL_law_1325 : decode cL_law 1325 = .ok (.invokevirtual 166, 3) := by decide +kernel
theorem dL_law_1328 : decode cL_law 1328 = .ok (.aload_n 2, 1) := by decide +kernel
theorem dL_law_1329 : decode cL_law 1329 = .ok (.aload_n 0, 1) := by decide +kernel
theorem dL_law_1330 : decode cL_law 1330 = .ok (.iload_n 3, 1) := by decide +kernel
theorem dL_law_1331 : decode cL_law 1331 = .ok (.iconst 1, 1) := by decide +kernel
theorem dL_law_1332 : decode cL_law 1332 = .ok (.iadd, 1) := by decide +kernel
theorem dL_law_1333 : decode cL_law 1333 = .ok (.iaload, 1) := by decide +kernel
theorem dL_law_1334 : decode cL_law 1334 = .ok (.aload_n 0, 1) := by decide +kernel
theorem dL_law_1335 : decode cL_law 1335 = .ok (.iload_n 3, 1) := by decide +kernel
theorem dL_law_1336 : decode cL_law 1336 = .ok (.iconst 2, 1) := by decide +kernel
theorem dL_law_1337 : decode cL_law 1337 = .ok (.iadd, 1) := by decide +kernel
theorem dL_law_1338 : decode cL_law 1338 = .ok (.iaload, 1) := by decide +kernel
theorem dL_law_1339 : decode cL_law 1339 = .ok (.aload_n 0, 1) := by decide +kernel
theorem dL_law_1340 : decode cL_law 1340 = .ok (.iload_n 3, 1) := by decide +kernel
theorem dL_law_1341 : decode cL_law 1341 = .ok (.iconst 3, 1) := by decide +kernel
theorem dL_law_1342 : decode cL_law 1342 = .ok (.iadd, 1) := by decide +kernel
theorem dL_law_1343 : decode cL_law 1343 = .ok (.iaload, 1) := by decide +kernel
theorem dL_law_1344 : decode cL_law 1344 = .ok (.invokevirtual 169, 3) := by decide +kernel
theorem dL_law_1347 : decode cL_law 1347 = .ok (.if_icmp .eq 242, 3) := by decide +kernel
theorem dL_law_1350 : decode cL_law 1350 = .ok (.iconst 0, 1) := by decide +kernel
theorem dL_law_1351 : decode cL_law 1351 = .ok (.ireturn, 1) := by decide +kernel
theorem dL_law_1352 : decode cL_law 1352 = .ok (.aload_n 1, 1) := by decide +kernel
theorem dL_law_1353 : decode cL_law 1353 = .ok (.aload_n 0, 1) := by decide +kernel
theorem dL_law_1354 : decode cL_law 1354 = .ok (.iload_n 3, 1) := by decide +kernel
theorem dL_law_1355 : decode cL_law 1355 = .ok (.iconst 1, 1) := by decide +kernel
theorem dL_law_1356 : decode cL_law 1356 = .ok (.iadd, 1) := by decide +kernel
theorem dL_law_1357 : decode cL_law 1357 = .ok (.iaload, 1) := by decide +kernel
theorem dL_law_1358 : decode cL_law 1358 = .ok (.aload_n 0, 1) := by decide +kernel
theorem dL_law_1359 : decode cL_law 1359 = .ok (.iload_n 3, 1) := by decide +kernel
theorem dL_law_1360 : decode cL_law 1360 = .ok (.iconst 2, 1) := by decide +kernel
theorem dL_law_1361 : decode cL_law 1361 = .ok (.iadd, 1) := by decide +kernel
theorem dL_law_1362 : decode cL_law 1362 = .ok (.iaload, 1) := by decide +kernel
theorem dL_law_1363 : decode cL_law 1363 = .ok (.aload_n 0, 1) := by decide +kernel
theorem dL_law_1364 : decode cL_law 1364 = .ok (.iload_n 3, 1) := by decide +kernel
theorem dL_law_1365 : decode cL_law 1365 = .ok (.iconst 3, 1) := by decide +kernel
theorem dL_law_1366 : decode cL_law 1366 = .ok (.iadd, 1) := by decide +kernel
theorem dL_law_1367 : decode cL_law 1367 = .ok (.iaload, 1) := by decide +kernel
theorem dL_law_1368 : decode cL_law 1368 = .ok (.invokevirtual 170, 3) := by decide +kernel
theorem dL_law_1371 : decode cL_law 1371 = .ok (.aload_n 2, 1) := by decide +kernel
theorem dL_law_1372 : decode cL_law 1372 = .ok (.aload_n 0, 1) := by decide +kernel
theorem dL_law_1373 : decode cL_law 1373 = .ok (.iload_n 3, 1) := by decide +kernel
theorem dL_law_1374 : decode cL_law 1374 = .ok (.iconst 1, 1) := by decide +kernel
theorem dL_law_1375 : decode cL_law 1375 = .ok (.iadd, 1) := by decide +kernel
theorem dL_law_1376 : decode cL_law 1376 = .ok (.iaload, 1) := by decide +kernel
theorem dL_law_1377 : decode cL_law 1377 = .ok (.aload_n 0, 1) := by decide +kernel
theorem dL_law_1378 : decode cL_law 1378 = .ok (.iload_n 3, 1) := by decide +kernel
theorem dL_law_1379 : decode cL_law 1379 = .ok (.iconst 2, 1) := by decide +kernel
theorem dL_law_1380 : decode cL_law 1380 = .ok (.iadd, 1) := by decide +kernel
theorem dL_law_1381 : decode cL_law 1381 = .ok (.iaload, 1) := by decide +kernel
theorem dL_law_1382 : decode cL_law 1382 = .ok (.aload_n 0, 1) := by decide +kernel
theorem dL_law_1383 : decode cL_law 1383 = .ok (.iload_n 3, 1) := by decide +kernel
theorem dL_law_1384 : decode cL_law 1384 = .ok (.iconst 3, 1) := by decide +kernel
theorem dL_law_1385 : decode cL_law 1385 = .ok (.iadd, 1) := by decide +kernel
theorem dL_law_1386 : decode cL_law 1386 = .ok (.iaload, 1) := by decide +kernel
theorem dL_law_1387 : decode cL_law 1387 = .ok (.invokevirtual 173, 3) := by decide +kernel
theorem dL_law_1390 : decode cL_law 1390 = .ok (.if_icmp .eq 199, 3) := by decide +kernel
theorem dL_law_1393 : decode cL_law 1393 = .ok (.iconst 0, 1) := by decide +kernel
theorem dL_law_1394 : decode cL_law 1394 = .ok (.ireturn, 1) := by decide +kernel
theorem dL_law_1395 : decode cL_law 1395 = .ok (.aload_n 1, 1) := by decide +kernel
theorem dL_law_1396 : decode cL_law 1396 = .ok (.aload_n 0, 1) := by decide +kernel
theorem dL_law_1397 : decode cL_law 1397 = .ok (.iload_n 3, 1) := by decide +kernel
theorem dL_law_1398 : decode cL_law 1398 = .ok (.iconst 1, 1) := by decide +kernel
theorem dL_law_1399 : decode cL_law 1399 = .ok (.iadd, 1) := by decide +kernel
theorem dL_law_1400 : decode cL_law 1400 = .ok (.iaload, 1) := by decide +kernel
theorem dL_law_1401 : decode cL_law 1401 = .ok (.aload_n 0, 1) := by decide +kernel
theorem dL_law_1402 : decode cL_law 1402 = .ok (.iload_n 3, 1) := by decide +kernel
theorem dL_law_1403 : decode cL_law 1403 = .ok (.iconst 2, 1) := by decide +kernel
theorem dL_law_1404 : decode cL_law 1404 = .ok (.iadd, 1) := by decide +kernel
theorem dL_law_1405 : decode cL_law 1405 = .ok (.iaload, 1) := by decide +kernel
theorem dL_law_1406 : decode cL_law 1406 = .ok (.aload_n 0, 1) := by decide +kernel
theorem dL_law_1407 : decode cL_law 1407 = .ok (.iload_n 3, 1) := by decide +kernel
theorem dL_law_1408 : decode cL_law 1408 = .ok (.iconst 3, 1) := by decide +kernel
theorem dL_law_1409 : decode cL_law 1409 = .ok (.iadd, 1) := by decide +kernel
theorem dL_law_1410 : decode cL_law 1410 = .ok (.iaload, 1) := by decide +kernel
theorem dL_law_1411 : decode cL_law 1411 = .ok (.aload_n 0, 1) := by decide +kernel
theorem dL_law_1412 : decode cL_law 1412 = .ok (.iload_n 3, 1) := by decide +kernel
theorem dL_law_1413 : decode cL_law 1413 = .ok (.iconst 4, 1) := by decide +kernel
theorem dL_law_1414 : decode cL_law 1414 = .ok (.iadd, 1) := by decide +kernel
theorem dL_law_1415 : decode cL_law 1415 = .ok (.iaload, 1) := by decide +kernel
theorem dL_law_1416 : decode cL_law 1416 = .ok (.aload_n 0, 1) := by decide +kernel
theorem dL_law_1417 : decode cL_law 1417 = .ok (.iload_n 3, 1) := by decide +kernel
theorem dL_law_1418 : decode cL_law 1418 = .ok (.iconst 5, 1) := by decide +kernel
theorem dL_law_1419 : decode cL_law 1419 = .ok (.iadd, 1) := by decide +kernel
theorem dL_law_1420 : decode cL_law 1420 = .ok (.iaload, 1) := by decide +kernel
theorem dL_law_1421 : decode cL_law 1421 = .ok (.invokevirtual 174, 3) := by decide +kernel
theorem dL_law_1424 : decode cL_law 1424 = .ok (.aload_n 2, 1) := by decide +kernel
theorem dL_law_1425 : decode cL_law 1425 = .ok (.aload_n 0, 1) := by decide +kernel
theorem dL_law_1426 : decode cL_law 1426 = .ok (.iload_n 3, 1) := by decide +kernel
theorem dL_law_1427 : decode cL_law 1427 = .ok (.iconst 1, 1) := by decide +kernel
theorem dL_law_1428 : decode cL_law 1428 = .ok (.iadd, 1) := by decide +kernel
theorem dL_law_1429 : decode cL_law 1429 = .ok (.iaload, 1) := by decide +kernel
theorem dL_law_1430 : decode cL_law 1430 = .ok (.aload_n 0, 1) := by decide +kernel
theorem dL_law_1431 : decode cL_law 1431 = .ok (.iload_n 3, 1) := by decide +kernel
theorem dL_law_1432 : decode cL_law 1432 = .ok (.iconst 2, 1) := by decide +kernel
theorem dL_law_1433 : decode cL_law 1433 = .ok (.iadd, 1) := by decide +kernel
theorem dL_law_1434 : decode cL_law 1434 = .ok (.iaload, 1) := by decide +kernel
theorem dL_law_1435 : decode cL_law 1435 = .ok (.aload_n 0, 1) := by decide +kernel
theorem dL_law_1436 : decode cL_law 1436 = .ok (.iload_n 3, 1) := by decide +kernel
theorem dL_law_1437 : decode cL_law 1437 = .ok (.iconst 3, 1) := by decide +kernel
theorem dL_law_1438 : decode cL_law 1438 = .ok (.iadd, 1) := by decide +kernel
theorem dL_law_1439 : decode cL_law 1439 = .ok (.iaload, 1) := by decide +kernel
theorem dL_law_1440 : decode cL_law 1440 = .ok (.aload_n 0, 1) := by decide +kernel
theorem dL_law_1441 : decode cL_law 1441 = .ok (.iload_n 3, 1) := by decide +kernel
theorem dL_law_1442 : decode cL_law 1442 = .ok (.iconst 4, 1) := by decide +kernel
theorem dL_law_1443 : decode cL_law 1443 = .ok (.iadd, 1) := by decide +kernel
theorem dL_law_1444 : decode cL_law 1444 = .ok (.iaload, 1) := by decide +kernel
theorem dL_law_1445 : decode cL_law 1445 = .ok (.aload_n 0, 1) := by decide +kernel
theorem dL_law_1446 : decode cL_law 1446 = .ok (.iload_n 3, 1) := by decide +kernel
theorem dL_law_1447 : decode cL_law 1447 = .ok (.iconst 5, 1) := by decide +kernel
theorem dL_law_1448 : decode cL_law 1448 = .ok (.iadd, 1) := by decide +kernel
theorem dL_law_1449 : decode cL_law 1449 = .ok (.iaload, 1) := by decide +kernel
theorem dL_law_1450 : decode cL_law 1450 = .ok (.invokevirtual 178, 3) := by decide +kernel
theorem dL_law_1453 : decode cL_law 1453 = .ok (.if_icmp .eq 136, 3) := by decide +kernel
theorem dL_law_1456 : decode cL_law 1456 = .ok (.iconst 0, 1) := by decide +kernel
theorem dL_law_1457 : decode cL_law 1457 = .ok (.ireturn, 1) := by decide +kernel
theorem dL_law_1458 : decode cL_law 1458 = .ok (.aload_n 1, 1) := by decide +kernel
theorem dL_law_1459 : decode cL_law 1459 = .ok (.aload_n 0, 1) := by decide +kernel
theorem dL_law_1460 : decode cL_law 1460 = .ok (.iload_n 3, 1) := by decide +kernel
theorem dL_law_1461 : decode cL_law 1461 = .ok (.iconst 1, 1) := by decide +kernel
theorem dL_law_1462 : decode cL_law 1462 = .ok (.iadd, 1) := by decide +kernel
theorem dL_law_1463 : decode cL_law 1463 = .ok (.iaload, 1) := by decide +kernel
theorem dL_law_1464 : decode cL_law 1464 = .ok (.invokevirtual 179, 3) := by decide +kernel
theorem dL_law_1467 : decode cL_law 1467 = .ok (.aload_n 2, 1) := by decide +kernel
theorem dL_law_1468 : decode cL_law 1468 = .ok (.aload_n 0, 1) := by decide +kernel
theorem dL_law_1469 : decode cL_law 1469 = .ok (.iload_n 3, 1) := by decide +kernel
theorem dL_law_1470 : decode cL_law 1470 = .ok (.iconst 1, 1) := by decide +kernel
theorem dL_law_1471 : decode cL_law 1471 = .ok (.iadd, 1) := by decide +kernel
theorem dL_law_1472 : decode cL_law 1472 = .ok (.iaload, 1) := by decide +kernel
theorem dL_law_1473 : decode cL_law 1473 = .ok (.invokevirtual 182, 3) := by decide +kernel
theorem dL_law_1476 : decode cL_law 1476 = .ok (.if_icmp .eq 113, 3) := by decide +kernel
theorem dL_law_1479 : decode cL_law 1479 = .ok (.iconst 0, 1) := by decide +kernel
theorem dL_law_1480 : decode cL_law 1480 = .ok (.ireturn, 1) := by decide +kernel
theorem dL_law_1481 : decode cL_law 1481 = .ok (.aload_n 1, 1) := by decide +kernel
theorem dL_law_1482 : decode cL_law 1482 = .ok (.aload_n 0, 1) := by decide +kernel
theorem dL_law_1483 : decode cL_law 1483 = .ok (.iload_n 3, 1) := by decide +kernel
theorem dL_law_1484 : decode cL_law 1484 = .ok (.iconst 1, 1) := by decide +kernel
theorem dL_law_1485 : decode cL_law 1485 = .ok (.iadd, 1) := by decide +kernel
theorem dL_law_1486 : decode cL_law 1486 = .ok (.iaload, 1) := by decide +kernel
theorem dL_law_1487 : decode cL_law 1487 = .ok (.invokevirtual 183, 3) := by decide +kernel
theorem dL_law_1490 : decode cL_law 1490 = .ok (.aload_n 2, 1) := by decide +kernel
theorem dL_law_1491 : decode cL_law 1491 = .ok (.aload_n 0, 1) := by decide +kernel
theorem dL_law_1492 : decode cL_law 1492 = .ok (.iload_n 3, 1) := by decide +kernel
theorem dL_law_1493 : decode cL_law 1493 = .ok (.iconst 1, 1) := by decide +kernel
theorem dL_law_1494 : decode cL_law 1494 = .ok (.iadd, 1) := by decide +kernel
theorem dL_law_1495 : decode cL_law 1495 = .ok (.iaload, 1) := by decide +kernel
theorem dL_law_1496 : decode cL_law 1496 = .ok (.invokevirtual 186, 3) := by decide +kernel
theorem dL_law_1499 : decode cL_law 1499 = .ok (.if_icmp .eq 90, 3) := by decide +kernel
theorem dL_law_1502 : decode cL_law 1502 = .ok (.iconst 0, 1) := by decide +kernel
theorem dL_law_1503 : decode cL_law 1503 = .ok (.ireturn, 1) := by decide +kernel
theorem dL_law_1504 : decode cL_law 1504 = .ok (.aload_n 1, 1) := by decide +kernel
theorem dL_law_1505 : decode cL_law 1505 = .ok (.invokevirtual 187, 3) := by decide +kernel
theorem dL_law_1508 : decode cL_law 1508 = .ok (.aload_n 2, 1) := by decide +kernel
theorem dL_law_1509 : decode cL_law 1509 = .ok (.invokevirtual 190, 3) := by decide +kernel
theorem dL_law_1512 : decode cL_law 1512 = .ok (.if_icmp .eq 77, 3) := by decide +kernel
theorem dL_law_1515 : decode cL_law 1515 = .ok (.iconst 0, 1) := by decide +kernel
theorem dL_law_1516 : decode cL_law 1516 = .ok (.ireturn, 1) := by decide +kernel
theorem dL_law_1517 : decode cL_law 1517 = .ok (.aload_n 1, 1) := by decide +kernel
theorem dL_law_1518 : decode cL_law 1518 = .ok (.invokevirtual 191, 3) := by decide +kernel
theorem dL_law_1521 : decode cL_law 1521 = .ok (.aload_n 2, 1) := by decide +kernel
theorem dL_law_1522 : decode cL_law 1522 = .ok (.invokevirtual 194, 3) := by decide +kernel
theorem dL_law_1525 : decode cL_law 1525 = .ok (.if_icmp .eq 64, 3) := by decide +kernel
theorem dL_law_1528 : decode cL_law 1528 = .ok (.iconst 0, 1) := by decide +kernel
theorem dL_law_1529 : decode cL_law 1529 = .ok (.ireturn, 1) := by decide +kernel
theorem dL_law_1530 : decode cL_law 1530 = .ok (.aload_n 1, 1) := by decide +kernel
theorem dL_law_1531 : decode cL_law 1531 = .ok (.invokevirtual 195, 3) := by decide +kernel
theorem dL_law_1534 : decode cL_law 1534 = .ok (.aload_n 2, 1) := by decide +kernel
theorem dL_law_1535 : decode cL_law 1535 = .ok (.invokevirtual 198, 3) := by decide +kernel
theorem dL_law_1538 : decode cL_law 1538 = .ok (.if_icmp .eq 51, 3) := by decide +kernel
theorem dL_law_1541 : decode cL_law 1541 = .ok (.iconst 0, 1) := by decide +kernel
theorem dL_law_1542 : decode cL_law 1542 = .ok (.ireturn, 1) := by decide +kernel
theorem dL_law_1543 : decode cL_law 1543 = .ok (.aload_n 1, 1) := by decide +kernel
theorem dL_law_1544 : decode cL_law 1544 = .ok (.aload_n 0, 1) := by decide +kernel
theorem dL_law_1545 : decode cL_law 1545 = .ok (.iload_n 3, 1) := by decide +kernel
theorem dL_law_1546 : decode cL_law 1546 = .ok (.iconst 1, 1) := by decide +kernel
theorem dL_law_1547 : decode cL_law 1547 = .ok (.iadd, 1) := by decide +kernel
theorem dL_law_1548 : decode cL_law 1548 = .ok (.iaload, 1) := by decide +kernel
theorem dL_law_1549 : decode cL_law 1549 = .ok (.invokevirtual 199, 3) := by decide +kernel
theorem dL_law_1552 : decode cL_law 1552 = .ok (.aload_n 2, 1) := by decide +kernel
theorem dL_law_1553 : decode cL_law 1553 = .ok (.aload_n 0, 1) := by decide +kernel
theorem dL_law_1554 : decode cL_law 1554 = .ok (.iload_n 3, 1) := by decide +kernel
theorem dL_law_1555 : decode cL_law 1555 = .ok (.iconst 1, 1) := by decide +kernel
theorem dL_law_1556 : decode cL_law 1556 = .ok (.iadd, 1) := by decide +kernel
theorem dL_law_1557 : decode cL_law 1557 = .ok (.iaload, 1) := by decide +kernel
theorem dL_law_1558 : decode cL_law 1558 = .ok (.invokevirtual 202, 3) := by decide +kernel
theorem dL_law_1561 : decode cL_law 1561 = .ok (.if_icmp .eq 28, 3) := by decide +kernel
theorem dL_law_1564 : decode cL_law 1564 = .ok (.iconst 0, 1) := by decide +kernel
theorem dL_law_1565 : decode cL_law 1565 = .ok (.ireturn, 1) := by decide +kernel
theorem dL_law_1566 : decode cL_law 1566 = .ok (.aload_n 1, 1) := by decide +kernel
theorem dL_law_1567 : decode cL_law 1567 = .ok (.aload_n 0, 1) := by decide +kernel
theorem dL_law_1568 : decode cL_law 1568 = .ok (.iload_n 3, 1) := by decide +kernel
theorem dL_law_1569 : decode cL_law 1569 = .ok (.iconst 1, 1) := by decide +kernel
theorem dL_law_1570 : decode cL_law 1570 = .ok (.iadd, 1) := by decide +kernel
theorem dL_law_1571 : decode cL_law 1571 = .ok (.iaload, 1) := by decide +kernel
theorem dL_law_1572 : decode cL_law 1572 = .ok (.invokevirtual 203, 3) := by decide +kernel
theorem dL_law_1575 : decode cL_law 1575 = .ok (.aload_n 2, 1) := by decide +kernel
theorem dL_law_1576 : decode cL_law 1576 = .ok (.aload_n 0, 1) := by decide +kernel
theorem dL_law_1577 : decode cL_law 1577 = .ok (.iload_n 3, 1) := by decide +kernel
theorem dL_law_1578 : decode cL_law 1578 = .ok (.iconst 1, 1) := by decide +kernel
theorem dL_law_1579 : decode cL_law 1579 = .ok (.iadd, 1) := by decide +kernel
theorem dL_law_1580 : decode cL_law 1580 = .ok (.iaload, 1) := by decide +kernel
theorem dL_law_1581 : decode cL_law 1581 = .ok (.invokevirtual 206, 3) := by decide +kernel
theorem dL_law_1584 : decode cL_law 1584 = .ok (.if_icmp .eq 5, 3) := by decide +kernel
theorem dL_law_1587 : decode cL_law 1587 = .ok (.iconst 0, 1) := by decide +kernel
theorem dL_law_1588 : decode cL_law 1588 = .ok (.ireturn, 1) := by decide +kernel
theorem dL_law_1589 : decode cL_law 1589 = .ok (.iinc 3 6, 3) := by decide +kernel
theorem dL_law_1592 : decode cL_law 1592 = .ok (.goto (-1574), 3) := by decide +kernel
theorem dL_law_1595 : decode cL_law 1595 = .ok (.iconst 1, 1) := by decide +kernel
theorem dL_law_1596 : decode cL_law 1596 = .ok (.ireturn, 1) := by decide +kernel
abbrev vwCl : List vw_C := [(RX0, TX0, 13), (RX1, TX1, 5), (RX2, TX2, 4), (RX3, TX3, 3), (RX4, TX4, 11), (RX5, TX5, 5), (RX6, TX6, 3), (RX7, TX7, 4), (RX8, TX8, 2), (RX9, TX9, 6), (RX10, TX10, 5), (RX11, TX11, 9), (RX12, TX12, 19)]
/-- the objects of CellarPump$Cellar, kind 0: what each holds, by its address -/
structure wK_O_Cellar where
  f_waters : Nat → Option Nat
  f_pump : Nat → Option Nat
  f_things : Nat → Option Nat
  f_costs : Nat → Option Nat
  f_built : Nat → Int32
  f_flapSticks : Nat → Int32
  f_rain : Nat → Int32
  f_ground : Nat → Int32
  f_deep : Nat → Int32
  f_minute : Nat → Int32
  f_cameInAll : Nat → Int32
  f_ranOver : Nat → Int32
  f_greatest : Nat → Int32
/-- the objects of CellarPump$Choice, kind 1: what each holds, by its address -/
structure wK_O_Choice where
  f_limit : Nat → Option Nat
  f_things : Nat → Option Nat
  f_weights : Nat → Option Nat
  f_worths : Nat → Option Nat
  f_inTime : Nat → Option Nat
/-- the objects of CellarPump$House, kind 2: what each holds, by its address -/
structure wK_O_House where
  f_cellar : Nat → Option Nat
  f_skies : Nat → Option Nat
  f_spots : Nat → Option Nat
  f_z : Nat → Int32
/-- the objects of CellarPump$Nights, kind 3: what each holds, by its address -/
structure wK_O_Nights where
  f_real : Nat → Option Nat
  f_night : Nat → Option Nat
  f_inflow : Nat → Option Nat
/-- the objects of CellarPump$Pump, kind 4: what each holds, by its address -/
structure wK_O_Pump where
  f_on : Nat → Int32
  f_off : Nat → Int32
  f_rate : Nat → Int32
  f_life : Nat → Int32
  f_battery : Nat → Int32
  f_hasCurrent : Nat → Int32
  f_countsTwice : Nat → Int32
  f_runs : Nat → Int32
  f_starts : Nat → Int32
  f_pumped : Nat → Int32
  f_log : Nat → Option Nat
/-- the objects of CellarPump$Reader, kind 5: what each holds, by its address -/
structure wK_O_Reader where
  f_tape : Nat → Option Nat
  f_token : Nat → Int32
  f_begin : Nat → Int32
  f_end : Nat → Int32
  f_value : Nat → Int32
/-- the objects of CellarPump$Sheet, kind 6: what each holds, by its address -/
structure wK_O_Sheet where
  f_bits : Nat → Int32
  f_size : Nat → Int32
  f_numbers : Nat → Option Nat
/-- the objects of CellarPump$Skies, kind 7: what each holds, by its address -/
structure wK_O_Skies where
  f_count : Nat → Int32
  f_length : Nat → Option Nat
  f_deeds : Nat → Option Nat
  f_values : Nat → Option Nat
/-- the objects of CellarPump$Tape, kind 8: what each holds, by its address -/
structure wK_O_Tape where
  f_bytes : Nat → Option Nat
  f_size : Nat → Int32
/-- the objects of CellarPump$Things, kind 9: what each holds, by its address -/
structure wK_O_Things where
  f_count : Nat → Int32
  f_worth : Nat → Option Nat
  f_weight : Nat → Option Nat
  f_height : Nat → Option Nat
  f_lifted : Nat → Int32
  f_harmed : Nat → Int32
/-- the objects of CellarPump$Waters, kind 10: what each holds, by its address -/
structure wK_O_Waters where
  f_count : Nat → Int32
  f_kind : Nat → Option Nat
  f_flow : Nat → Option Nat
  f_mark : Nat → Option Nat
  f_brought : Nat → Option Nat
/-- the objects of CellarPump, kind 11: what each holds, by its address -/
structure wK_O_CellarPump where
  f_found : Nat → Option Nat
  f_house : Nat → Option Nat
  f_kept : Nat → Option Nat
  f_isKept : Nat → Int32
  f_tape : Nat → Option Nat
  f_reader : Nat → Option Nat
  f_sheets : Nat → Option Nat
  f_nights : Nat → Option Nat
  f_choice : Nat → Option Nat
/-- the objects of CellarPumpModel, kind 12: what each holds, by its address -/
structure wK_O_CellarPumpModel where
  f_s : Nat → Option Nat
  f_kept : Nat → Option Nat
  f_aside : Nat → Option Nat
  f_isKept : Nat → Int32
  f_findings : Nat → Option Nat
  f_greatest : Nat → Int32
  f_tape : Nat → Option Nat
  f_taped : Nat → Int32
  f_at : Nat → Int32
  f_token : Nat → Int32
  f_tokenAt : Nat → Int32
  f_value : Nat → Int32
  f_deed : Nat → Option Nat
  f_deeds : Nat → Int32
  f_due : Nat → Option Nat
  f_bits : Nat → Option Nat
  f_sizes : Nat → Option Nat
  f_number : Nat → Option Nat
  f_carried : Nat → Option Nat
/-- the arrays of kind 13: what each holds, by its address -/
structure wK_R_I where
  len : Nat → Nat
  row : Nat → Nat → Int32
/-- the arrays of kind 14: what each holds, by its address -/
structure wK_R_Z where
  len : Nat → Nat
  row : Nat → Nat → Int32
/-- the arrays of kind 15: what each holds, by its address -/
structure wK_R_Sheet where
  len : Nat → Nat
  row : Nat → Nat → Option Nat
/-- the pool: the addresses, the kind of each, and the kinds -/
structure wPS where
  L : List Nat
  K : Nat → Nat
  O_Cellar : wK_O_Cellar
  O_Choice : wK_O_Choice
  O_House : wK_O_House
  O_Nights : wK_O_Nights
  O_Pump : wK_O_Pump
  O_Reader : wK_O_Reader
  O_Sheet : wK_O_Sheet
  O_Skies : wK_O_Skies
  O_Tape : wK_O_Tape
  O_Things : wK_O_Things
  O_Waters : wK_O_Waters
  O_CellarPump : wK_O_CellarPump
  O_CellarPumpModel : wK_O_CellarPumpModel
  R_I : wK_R_I
  R_Z : wK_R_Z
  R_Sheet : wK_R_Sheet
/-- the empty pool -/
abbrev wP0 : wPS := { L := [], K := (fun _ => 0), O_Cellar := { f_waters := (fun _ => none), f_pump := (fun _ => none), f_things := (fun _ => none), f_costs := (fun _ => none), f_built := (fun _ => 0), f_flapSticks := (fun _ => 0), f_rain := (fun _ => 0), f_ground := (fun _ => 0), f_deep := (fun _ => 0), f_minute := (fun _ => 0), f_cameInAll := (fun _ => 0), f_ranOver := (fun _ => 0), f_greatest := (fun _ => 0) }, O_Choice := { f_limit := (fun _ => none), f_things := (fun _ => none), f_weights := (fun _ => none), f_worths := (fun _ => none), f_inTime := (fun _ => none) }, O_House := { f_cellar := (fun _ => none), f_skies := (fun _ => none), f_spots := (fun _ => none), f_z := (fun _ => 0) }, O_Nights := { f_real := (fun _ => none), f_night := (fun _ => none), f_inflow := (fun _ => none) }, O_Pump := { f_on := (fun _ => 0), f_off := (fun _ => 0), f_rate := (fun _ => 0), f_life := (fun _ => 0), f_battery := (fun _ => 0), f_hasCurrent := (fun _ => 0), f_countsTwice := (fun _ => 0), f_runs := (fun _ => 0), f_starts := (fun _ => 0), f_pumped := (fun _ => 0), f_log := (fun _ => none) }, O_Reader := { f_tape := (fun _ => none), f_token := (fun _ => 0), f_begin := (fun _ => 0), f_end := (fun _ => 0), f_value := (fun _ => 0) }, O_Sheet := { f_bits := (fun _ => 0), f_size := (fun _ => 0), f_numbers := (fun _ => none) }, O_Skies := { f_count := (fun _ => 0), f_length := (fun _ => none), f_deeds := (fun _ => none), f_values := (fun _ => none) }, O_Tape := { f_bytes := (fun _ => none), f_size := (fun _ => 0) }, O_Things := { f_count := (fun _ => 0), f_worth := (fun _ => none), f_weight := (fun _ => none), f_height := (fun _ => none), f_lifted := (fun _ => 0), f_harmed := (fun _ => 0) }, O_Waters := { f_count := (fun _ => 0), f_kind := (fun _ => none), f_flow := (fun _ => none), f_mark := (fun _ => none), f_brought := (fun _ => none) }, O_CellarPump := { f_found := (fun _ => none), f_house := (fun _ => none), f_kept := (fun _ => none), f_isKept := (fun _ => 0), f_tape := (fun _ => none), f_reader := (fun _ => none), f_sheets := (fun _ => none), f_nights := (fun _ => none), f_choice := (fun _ => none) }, O_CellarPumpModel := { f_s := (fun _ => none), f_kept := (fun _ => none), f_aside := (fun _ => none), f_isKept := (fun _ => 0), f_findings := (fun _ => none), f_greatest := (fun _ => 0), f_tape := (fun _ => none), f_taped := (fun _ => 0), f_at := (fun _ => 0), f_token := (fun _ => 0), f_tokenAt := (fun _ => 0), f_value := (fun _ => 0), f_deed := (fun _ => none), f_deeds := (fun _ => 0), f_due := (fun _ => none), f_bits := (fun _ => none), f_sizes := (fun _ => none), f_number := (fun _ => none), f_carried := (fun _ => none) }, R_I := { len := (fun _ => 0), row := (fun _ _ => 0) }, R_Z := { len := (fun _ => 0), row := (fun _ _ => 0) }, R_Sheet := { len := (fun _ => 0), row := (fun _ _ => none) } }
/-- the pool's rows by their kinds -/
abbrev wPF (cyI : ClassId) (cyZ : ClassId) (cyO5a941 : ClassId) (S : wPS) : Nat → va_E := fun a => if S.K a = 0 then .inr (0, [va_rf (S.O_Cellar.f_waters a), va_rf (S.O_Cellar.f_pump a), va_rf (S.O_Cellar.f_things a), va_rf (S.O_Cellar.f_costs a), .int (S.O_Cellar.f_built a), .int (S.O_Cellar.f_flapSticks a), .int (S.O_Cellar.f_rain a), .int (S.O_Cellar.f_ground a), .int (S.O_Cellar.f_deep a), .int (S.O_Cellar.f_minute a), .int (S.O_Cellar.f_cameInAll a), .int (S.O_Cellar.f_ranOver a), .int (S.O_Cellar.f_greatest a)]) else if S.K a = 1 then .inr (1, [va_rf (S.O_Choice.f_limit a), va_rf (S.O_Choice.f_things a), va_rf (S.O_Choice.f_weights a), va_rf (S.O_Choice.f_worths a), va_rf (S.O_Choice.f_inTime a)]) else if S.K a = 2 then .inr (2, [va_rf (S.O_House.f_cellar a), va_rf (S.O_House.f_skies a), va_rf (S.O_House.f_spots a), .int (S.O_House.f_z a)]) else if S.K a = 3 then .inr (3, [va_rf (S.O_Nights.f_real a), va_rf (S.O_Nights.f_night a), va_rf (S.O_Nights.f_inflow a)]) else if S.K a = 4 then .inr (4, [.int (S.O_Pump.f_on a), .int (S.O_Pump.f_off a), .int (S.O_Pump.f_rate a), .int (S.O_Pump.f_life a), .int (S.O_Pump.f_battery a), .int (S.O_Pump.f_hasCurrent a), .int (S.O_Pump.f_countsTwice a), .int (S.O_Pump.f_runs a), .int (S.O_Pump.f_starts a), .int (S.O_Pump.f_pumped a), va_rf (S.O_Pump.f_log a)]) else if S.K a = 5 then .inr (5, [va_rf (S.O_Reader.f_tape a), .int (S.O_Reader.f_token a), .int (S.O_Reader.f_begin a), .int (S.O_Reader.f_end a), .int (S.O_Reader.f_value a)]) else if S.K a = 6 then .inr (6, [.int (S.O_Sheet.f_bits a), .int (S.O_Sheet.f_size a), va_rf (S.O_Sheet.f_numbers a)]) else if S.K a = 7 then .inr (7, [.int (S.O_Skies.f_count a), va_rf (S.O_Skies.f_length a), va_rf (S.O_Skies.f_deeds a), va_rf (S.O_Skies.f_values a)]) else if S.K a = 8 then .inr (8, [va_rf (S.O_Tape.f_bytes a), .int (S.O_Tape.f_size a)]) else if S.K a = 9 then .inr (9, [.int (S.O_Things.f_count a), va_rf (S.O_Things.f_worth a), va_rf (S.O_Things.f_weight a), va_rf (S.O_Things.f_height a), .int (S.O_Things.f_lifted a), .int (S.O_Things.f_harmed a)]) else if S.K a = 10 then .inr (10, [.int (S.O_Waters.f_count a), va_rf (S.O_Waters.f_kind a), va_rf (S.O_Waters.f_flow a), va_rf (S.O_Waters.f_mark a), va_rf (S.O_Waters.f_brought a)]) else if S.K a = 11 then .inr (11, [va_rf (S.O_CellarPump.f_found a), va_rf (S.O_CellarPump.f_house a), va_rf (S.O_CellarPump.f_kept a), .int (S.O_CellarPump.f_isKept a), va_rf (S.O_CellarPump.f_tape a), va_rf (S.O_CellarPump.f_reader a), va_rf (S.O_CellarPump.f_sheets a), va_rf (S.O_CellarPump.f_nights a), va_rf (S.O_CellarPump.f_choice a)]) else if S.K a = 12 then .inr (12, [va_rf (S.O_CellarPumpModel.f_s a), va_rf (S.O_CellarPumpModel.f_kept a), va_rf (S.O_CellarPumpModel.f_aside a), .int (S.O_CellarPumpModel.f_isKept a), va_rf (S.O_CellarPumpModel.f_findings a), .int (S.O_CellarPumpModel.f_greatest a), va_rf (S.O_CellarPumpModel.f_tape a), .int (S.O_CellarPumpModel.f_taped a), .int (S.O_CellarPumpModel.f_at a), .int (S.O_CellarPumpModel.f_token a), .int (S.O_CellarPumpModel.f_tokenAt a), .int (S.O_CellarPumpModel.f_value a), va_rf (S.O_CellarPumpModel.f_deed a), .int (S.O_CellarPumpModel.f_deeds a), va_rf (S.O_CellarPumpModel.f_due a), va_rf (S.O_CellarPumpModel.f_bits a), va_rf (S.O_CellarPumpModel.f_sizes a), va_rf (S.O_CellarPumpModel.f_number a), va_rf (S.O_CellarPumpModel.f_carried a)]) else if S.K a = 13 then .inl (cyI, S.R_I.len a, .inl (S.R_I.row a)) else if S.K a = 14 then .inl (cyZ, S.R_Z.len a, .inl (S.R_Z.row a)) else .inl (cyO5a941, S.R_Sheet.len a, .inr (.inr (.inr (.inr (S.R_Sheet.row a)))))
theorem wAt_O_Cellar (cyI : ClassId) (cyZ : ClassId) (cyO5a941 : ClassId) (S : wPS) {a : Nat} (h : S.K a = 0) : wPF cyI cyZ cyO5a941 S a = .inr (0, [va_rf (S.O_Cellar.f_waters a), va_rf (S.O_Cellar.f_pump a), va_rf (S.O_Cellar.f_things a), va_rf (S.O_Cellar.f_costs a), .int (S.O_Cellar.f_built a), .int (S.O_Cellar.f_flapSticks a), .int (S.O_Cellar.f_rain a), .int (S.O_Cellar.f_ground a), .int (S.O_Cellar.f_deep a), .int (S.O_Cellar.f_minute a), .int (S.O_Cellar.f_cameInAll a), .int (S.O_Cellar.f_ranOver a), .int (S.O_Cellar.f_greatest a)]) := by simp [wPF, h]
theorem wGt_O_Cellar (cyI : ClassId) (cyZ : ClassId) (cyO5a941 : ClassId) (X : va_W) (S : wPS) {a : Nat} (hL : a ∈ S.L) (h : S.K a = 0) : ∃ k : Nat, (X ++ va_pl S.L (wPF cyI cyZ cyO5a941 S))[k]? = some (a, wPF cyI cyZ cyO5a941 S a) ∧ (X ++ va_pl S.L (wPF cyI cyZ cyO5a941 S))[k]? = some (a, .inr (0, [va_rf (S.O_Cellar.f_waters a), va_rf (S.O_Cellar.f_pump a), va_rf (S.O_Cellar.f_things a), va_rf (S.O_Cellar.f_costs a), .int (S.O_Cellar.f_built a), .int (S.O_Cellar.f_flapSticks a), .int (S.O_Cellar.f_rain a), .int (S.O_Cellar.f_ground a), .int (S.O_Cellar.f_deep a), .int (S.O_Cellar.f_minute a), .int (S.O_Cellar.f_cameInAll a), .int (S.O_Cellar.f_ranOver a), .int (S.O_Cellar.f_greatest a)])) := by
  obtain ⟨k, hk⟩ := va_pl_get (X := X) (f := wPF cyI cyZ cyO5a941 S) hL
  exact ⟨k, hk, hk.trans (congrArg (fun e => some (a, e)) (wAt_O_Cellar cyI cyZ cyO5a941 S h))⟩
theorem wSt_O_Cellar_f_waters (cyI : ClassId) (cyZ : ClassId) (cyO5a941 : ClassId) (S : wPS) {a : Nat} (h : S.K a = 0) (v : Option Nat) (b : Nat) : va_up (wPF cyI cyZ cyO5a941 S) a (.inr (0, [va_rf v, va_rf (S.O_Cellar.f_pump a), va_rf (S.O_Cellar.f_things a), va_rf (S.O_Cellar.f_costs a), .int (S.O_Cellar.f_built a), .int (S.O_Cellar.f_flapSticks a), .int (S.O_Cellar.f_rain a), .int (S.O_Cellar.f_ground a), .int (S.O_Cellar.f_deep a), .int (S.O_Cellar.f_minute a), .int (S.O_Cellar.f_cameInAll a), .int (S.O_Cellar.f_ranOver a), .int (S.O_Cellar.f_greatest a)])) b = wPF cyI cyZ cyO5a941 { S with O_Cellar := { S.O_Cellar with f_waters := va_up S.O_Cellar.f_waters a v } } b := by by_cases hb : b = a <;> first | (simp only [wPF, va_up_ne _ _ hb]; done) | (simp only [wPF, va_up, if_neg hb]; done) | simp [wPF, va_re, va_up, va_rf, hb, h]
theorem wPu_O_Cellar_f_waters (cyI : ClassId) (cyZ : ClassId) (cyO5a941 : ClassId) (X : va_W) (S : wPS) {A : Nat → Prop} {a k : Nat} (hD : va_D A (X ++ va_pl S.L (wPF cyI cyZ cyO5a941 S))) (hL : a ∈ S.L) (h : S.K a = 0) (hk : (X ++ va_pl S.L (wPF cyI cyZ cyO5a941 S))[k]? = some (a, wPF cyI cyZ cyO5a941 S a)) (v : Option Nat) : (X ++ va_pl S.L (wPF cyI cyZ cyO5a941 S)).set k (a, .inr (0, [va_rf v, va_rf (S.O_Cellar.f_pump a), va_rf (S.O_Cellar.f_things a), va_rf (S.O_Cellar.f_costs a), .int (S.O_Cellar.f_built a), .int (S.O_Cellar.f_flapSticks a), .int (S.O_Cellar.f_rain a), .int (S.O_Cellar.f_ground a), .int (S.O_Cellar.f_deep a), .int (S.O_Cellar.f_minute a), .int (S.O_Cellar.f_cameInAll a), .int (S.O_Cellar.f_ranOver a), .int (S.O_Cellar.f_greatest a)])) = X ++ va_pl S.L (wPF cyI cyZ cyO5a941 { S with O_Cellar := { S.O_Cellar with f_waters := va_up S.O_Cellar.f_waters a v } }) := by
  rw [va_pl_set hD hL hk]
  exact congrArg (fun l => X ++ l) (va_pl_congr (wSt_O_Cellar_f_waters cyI cyZ cyO5a941 S h v))
theorem wSt_O_Cellar_f_pump (cyI : ClassId) (cyZ : ClassId) (cyO5a941 : ClassId) (S : wPS) {a : Nat} (h : S.K a = 0) (v : Option Nat) (b : Nat) : va_up (wPF cyI cyZ cyO5a941 S) a (.inr (0, [va_rf (S.O_Cellar.f_waters a), va_rf v, va_rf (S.O_Cellar.f_things a), va_rf (S.O_Cellar.f_costs a), .int (S.O_Cellar.f_built a), .int (S.O_Cellar.f_flapSticks a), .int (S.O_Cellar.f_rain a), .int (S.O_Cellar.f_ground a), .int (S.O_Cellar.f_deep a), .int (S.O_Cellar.f_minute a), .int (S.O_Cellar.f_cameInAll a), .int (S.O_Cellar.f_ranOver a), .int (S.O_Cellar.f_greatest a)])) b = wPF cyI cyZ cyO5a941 { S with O_Cellar := { S.O_Cellar with f_pump := va_up S.O_Cellar.f_pump a v } } b := by by_cases hb : b = a <;> first | (simp only [wPF, va_up_ne _ _ hb]; done) | (simp only [wPF, va_up, if_neg hb]; done) | simp [wPF, va_re, va_up, va_rf, hb, h]
theorem wPu_O_Cellar_f_pump (cyI : ClassId) (cyZ : ClassId) (cyO5a941 : ClassId) (X : va_W) (S : wPS) {A : Nat → Prop} {a k : Nat} (hD : va_D A (X ++ va_pl S.L (wPF cyI cyZ cyO5a941 S))) (hL : a ∈ S.L) (h : S.K a = 0) (hk : (X ++ va_pl S.L (wPF cyI cyZ cyO5a941 S))[k]? = some (a, wPF cyI cyZ cyO5a941 S a)) (v : Option Nat) : (X ++ va_pl S.L (wPF cyI cyZ cyO5a941 S)).set k (a, .inr (0, [va_rf (S.O_Cellar.f_waters a), va_rf v, va_rf (S.O_Cellar.f_things a), va_rf (S.O_Cellar.f_costs a), .int (S.O_Cellar.f_built a), .int (S.O_Cellar.f_flapSticks a), .int (S.O_Cellar.f_rain a), .int (S.O_Cellar.f_ground a), .int (S.O_Cellar.f_deep a), .int (S.O_Cellar.f_minute a), .int (S.O_Cellar.f_cameInAll a), .int (S.O_Cellar.f_ranOver a), .int (S.O_Cellar.f_greatest a)])) = X ++ va_pl S.L (wPF cyI cyZ cyO5a941 { S with O_Cellar := { S.O_Cellar with f_pump := va_up S.O_Cellar.f_pump a v } }) := by
  rw [va_pl_set hD hL hk]
  exact congrArg (fun l => X ++ l) (va_pl_congr (wSt_O_Cellar_f_pump cyI cyZ cyO5a941 S h v))
theorem wSt_O_Cellar_f_things (cyI : ClassId) (cyZ : ClassId) (cyO5a941 : ClassId) (S : wPS) {a : Nat} (h : S.K a = 0) (v : Option Nat) (b : Nat) : va_up (wPF cyI cyZ cyO5a941 S) a (.inr (0, [va_rf (S.O_Cellar.f_waters a), va_rf (S.O_Cellar.f_pump a), va_rf v, va_rf (S.O_Cellar.f_costs a), .int (S.O_Cellar.f_built a), .int (S.O_Cellar.f_flapSticks a), .int (S.O_Cellar.f_rain a), .int (S.O_Cellar.f_ground a), .int (S.O_Cellar.f_deep a), .int (S.O_Cellar.f_minute a), .int (S.O_Cellar.f_cameInAll a), .int (S.O_Cellar.f_ranOver a), .int (S.O_Cellar.f_greatest a)])) b = wPF cyI cyZ cyO5a941 { S with O_Cellar := { S.O_Cellar with f_things := va_up S.O_Cellar.f_things a v } } b := by by_cases hb : b = a <;> first | (simp only [wPF, va_up_ne _ _ hb]; done) | (simp only [wPF, va_up, if_neg hb]; done) | simp [wPF, va_re, va_up, va_rf, hb, h]
theorem wPu_O_Cellar_f_things (cyI : ClassId) (cyZ : ClassId) (cyO5a941 : ClassId) (X : va_W) (S : wPS) {A : Nat → Prop} {a k : Nat} (hD : va_D A (X ++ va_pl S.L (wPF cyI cyZ cyO5a941 S))) (hL : a ∈ S.L) (h : S.K a = 0) (hk : (X ++ va_pl S.L (wPF cyI cyZ cyO5a941 S))[k]? = some (a, wPF cyI cyZ cyO5a941 S a)) (v : Option Nat) : (X ++ va_pl S.L (wPF cyI cyZ cyO5a941 S)).set k (a, .inr (0, [va_rf (S.O_Cellar.f_waters a), va_rf (S.O_Cellar.f_pump a), va_rf v, va_rf (S.O_Cellar.f_costs a), .int (S.O_Cellar.f_built a), .int (S.O_Cellar.f_flapSticks a), .int (S.O_Cellar.f_rain a), .int (S.O_Cellar.f_ground a), .int (S.O_Cellar.f_deep a), .int (S.O_Cellar.f_minute a), .int (S.O_Cellar.f_cameInAll a), .int (S.O_Cellar.f_ranOver a), .int (S.O_Cellar.f_greatest a)])) = X ++ va_pl S.L (wPF cyI cyZ cyO5a941 { S with O_Cellar := { S.O_Cellar with f_things := va_up S.O_Cellar.f_things a v } }) := by
  rw [va_pl_set hD hL hk]
  exact congrArg (fun l => X ++ l) (va_pl_congr (wSt_O_Cellar_f_things cyI cyZ cyO5a941 S h v))
theorem wSt_O_Cellar_f_costs (cyI : ClassId) (cyZ : ClassId) (cyO5a941 : ClassId) (S : wPS) {a : Nat} (h : S.K a = 0) (v : Option Nat) (b : Nat) : va_up (wPF cyI cyZ cyO5a941 S) a (.inr (0, [va_rf (S.O_Cellar.f_waters a), va_rf (S.O_Cellar.f_pump a), va_rf (S.O_Cellar.f_things a), va_rf v, .int (S.O_Cellar.f_built a), .int (S.O_Cellar.f_flapSticks a), .int (S.O_Cellar.f_rain a), .int (S.O_Cellar.f_ground a), .int (S.O_Cellar.f_deep a), .int (S.O_Cellar.f_minute a), .int (S.O_Cellar.f_cameInAll a), .int (S.O_Cellar.f_ranOver a), .int (S.O_Cellar.f_greatest a)])) b = wPF cyI cyZ cyO5a941 { S with O_Cellar := { S.O_Cellar with f_costs := va_up S.O_Cellar.f_costs a v } } b := by by_cases hb : b = a <;> first | (simp only [wPF, va_up_ne _ _ hb]; done) | (simp only [wPF, va_up, if_neg hb]; done) | simp [wPF, va_re, va_up, va_rf, hb, h]
theorem wPu_O_Cellar_f_costs (cyI : ClassId) (cyZ : ClassId) (cyO5a941 : ClassId) (X : va_W) (S : wPS) {A : Nat → Prop} {a k : Nat} (hD : va_D A (X ++ va_pl S.L (wPF cyI cyZ cyO5a941 S))) (hL : a ∈ S.L) (h : S.K a = 0) (hk : (X ++ va_pl S.L (wPF cyI cyZ cyO5a941 S))[k]? = some (a, wPF cyI cyZ cyO5a941 S a)) (v : Option Nat) : (X ++ va_pl S.L (wPF cyI cyZ cyO5a941 S)).set k (a, .inr (0, [va_rf (S.O_Cellar.f_waters a), va_rf (S.O_Cellar.f_pump a), va_rf (S.O_Cellar.f_things a), va_rf v, .int (S.O_Cellar.f_built a), .int (S.O_Cellar.f_flapSticks a), .int (S.O_Cellar.f_rain a), .int (S.O_Cellar.f_ground a), .int (S.O_Cellar.f_deep a), .int (S.O_Cellar.f_minute a), .int (S.O_Cellar.f_cameInAll a), .int (S.O_Cellar.f_ranOver a), .int (S.O_Cellar.f_greatest a)])) = X ++ va_pl S.L (wPF cyI cyZ cyO5a941 { S with O_Cellar := { S.O_Cellar with f_costs := va_up S.O_Cellar.f_costs a v } }) := by
  rw [va_pl_set hD hL hk]
  exact congrArg (fun l => X ++ l) (va_pl_congr (wSt_O_Cellar_f_costs cyI cyZ cyO5a941 S h v))
theorem wSt_O_Cellar_f_built (cyI : ClassId) (cyZ : ClassId) (cyO5a941 : ClassId) (S : wPS) {a : Nat} (h : S.K a = 0) (v : Int32) (b : Nat) : va_up (wPF cyI cyZ cyO5a941 S) a (.inr (0, [va_rf (S.O_Cellar.f_waters a), va_rf (S.O_Cellar.f_pump a), va_rf (S.O_Cellar.f_things a), va_rf (S.O_Cellar.f_costs a), .int v, .int (S.O_Cellar.f_flapSticks a), .int (S.O_Cellar.f_rain a), .int (S.O_Cellar.f_ground a), .int (S.O_Cellar.f_deep a), .int (S.O_Cellar.f_minute a), .int (S.O_Cellar.f_cameInAll a), .int (S.O_Cellar.f_ranOver a), .int (S.O_Cellar.f_greatest a)])) b = wPF cyI cyZ cyO5a941 { S with O_Cellar := { S.O_Cellar with f_built := va_up S.O_Cellar.f_built a v } } b := by by_cases hb : b = a <;> first | (simp only [wPF, va_up_ne _ _ hb]; done) | (simp only [wPF, va_up, if_neg hb]; done) | simp [wPF, va_re, va_up, va_rf, hb, h]
theorem wPu_O_Cellar_f_built (cyI : ClassId) (cyZ : ClassId) (cyO5a941 : ClassId) (X : va_W) (S : wPS) {A : Nat → Prop} {a k : Nat} (hD : va_D A (X ++ va_pl S.L (wPF cyI cyZ cyO5a941 S))) (hL : a ∈ S.L) (h : S.K a = 0) (hk : (X ++ va_pl S.L (wPF cyI cyZ cyO5a941 S))[k]? = some (a, wPF cyI cyZ cyO5a941 S a)) (v : Int32) : (X ++ va_pl S.L (wPF cyI cyZ cyO5a941 S)).set k (a, .inr (0, [va_rf (S.O_Cellar.f_waters a), va_rf (S.O_Cellar.f_pump a), va_rf (S.O_Cellar.f_things a), va_rf (S.O_Cellar.f_costs a), .int v, .int (S.O_Cellar.f_flapSticks a), .int (S.O_Cellar.f_rain a), .int (S.O_Cellar.f_ground a), .int (S.O_Cellar.f_deep a), .int (S.O_Cellar.f_minute a), .int (S.O_Cellar.f_cameInAll a), .int (S.O_Cellar.f_ranOver a), .int (S.O_Cellar.f_greatest a)])) = X ++ va_pl S.L (wPF cyI cyZ cyO5a941 { S with O_Cellar := { S.O_Cellar with f_built := va_up S.O_Cellar.f_built a v } }) := by
  rw [va_pl_set hD hL hk]
  exact congrArg (fun l => X ++ l) (va_pl_congr (wSt_O_Cellar_f_built cyI cyZ cyO5a941 S h v))
theorem wSt_O_Cellar_f_flapSticks (cyI : ClassId) (cyZ : ClassId) (cyO5a941 : ClassId) (S : wPS) {a : Nat} (h : S.K a = 0) (v : Int32) (b : Nat) : va_up (wPF cyI cyZ cyO5a941 S) a (.inr (0, [va_rf (S.O_Cellar.f_waters a), va_rf (S.O_Cellar.f_pump a), va_rf (S.O_Cellar.f_things a), va_rf (S.O_Cellar.f_costs a), .int (S.O_Cellar.f_built a), .int v, .int (S.O_Cellar.f_rain a), .int (S.O_Cellar.f_ground a), .int (S.O_Cellar.f_deep a), .int (S.O_Cellar.f_minute a), .int (S.O_Cellar.f_cameInAll a), .int (S.O_Cellar.f_ranOver a), .int (S.O_Cellar.f_greatest a)])) b = wPF cyI cyZ cyO5a941 { S with O_Cellar := { S.O_Cellar with f_flapSticks := va_up S.O_Cellar.f_flapSticks a v } } b := by by_cases hb : b = a <;> first | (simp only [wPF, va_up_ne _ _ hb]; done) | (simp only [wPF, va_up, if_neg hb]; done) | simp [wPF, va_re, va_up, va_rf, hb, h]
theorem wPu_O_Cellar_f_flapSticks (cyI : ClassId) (cyZ : ClassId) (cyO5a941 : ClassId) (X : va_W) (S : wPS) {A : Nat → Prop} {a k : Nat} (hD : va_D A (X ++ va_pl S.L (wPF cyI cyZ cyO5a941 S))) (hL : a ∈ S.L) (h : S.K a = 0) (hk : (X ++ va_pl S.L (wPF cyI cyZ cyO5a941 S))[k]? = some (a, wPF cyI cyZ cyO5a941 S a)) (v : Int32) : (X ++ va_pl S.L (wPF cyI cyZ cyO5a941 S)).set k (a, .inr (0, [va_rf (S.O_Cellar.f_waters a), va_rf (S.O_Cellar.f_pump a), va_rf (S.O_Cellar.f_things a), va_rf (S.O_Cellar.f_costs a), .int (S.O_Cellar.f_built a), .int v, .int (S.O_Cellar.f_rain a), .int (S.O_Cellar.f_ground a), .int (S.O_Cellar.f_deep a), .int (S.O_Cellar.f_minute a), .int (S.O_Cellar.f_cameInAll a), .int (S.O_Cellar.f_ranOver a), .int (S.O_Cellar.f_greatest a)])) = X ++ va_pl S.L (wPF cyI cyZ cyO5a941 { S with O_Cellar := { S.O_Cellar with f_flapSticks := va_up S.O_Cellar.f_flapSticks a v } }) := by
  rw [va_pl_set hD hL hk]
  exact congrArg (fun l => X ++ l) (va_pl_congr (wSt_O_Cellar_f_flapSticks cyI cyZ cyO5a941 S h v))
theorem wSt_O_Cellar_f_rain (cyI : ClassId) (cyZ : ClassId) (cyO5a941 : ClassId) (S : wPS) {a : Nat} (h : S.K a = 0) (v : Int32) (b : Nat) : va_up (wPF cyI cyZ cyO5a941 S) a (.inr (0, [va_rf (S.O_Cellar.f_waters a), va_rf (S.O_Cellar.f_pump a), va_rf (S.O_Cellar.f_things a), va_rf (S.O_Cellar.f_costs a), .int (S.O_Cellar.f_built a), .int (S.O_Cellar.f_flapSticks a), .int v, .int (S.O_Cellar.f_ground a), .int (S.O_Cellar.f_deep a), .int (S.O_Cellar.f_minute a), .int (S.O_Cellar.f_cameInAll a), .int (S.O_Cellar.f_ranOver a), .int (S.O_Cellar.f_greatest a)])) b = wPF cyI cyZ cyO5a941 { S with O_Cellar := { S.O_Cellar with f_rain := va_up S.O_Cellar.f_rain a v } } b := by by_cases hb : b = a <;> first | (simp only [wPF, va_up_ne _ _ hb]; done) | (simp only [wPF, va_up, if_neg hb]; done) | simp [wPF, va_re, va_up, va_rf, hb, h]
theorem wPu_O_Cellar_f_rain (cyI : ClassId) (cyZ : ClassId) (cyO5a941 : ClassId) (X : va_W) (S : wPS) {A : Nat → Prop} {a k : Nat} (hD : va_D A (X ++ va_pl S.L (wPF cyI cyZ cyO5a941 S))) (hL : a ∈ S.L) (h : S.K a = 0) (hk : (X ++ va_pl S.L (wPF cyI cyZ cyO5a941 S))[k]? = some (a, wPF cyI cyZ cyO5a941 S a)) (v : Int32) : (X ++ va_pl S.L (wPF cyI cyZ cyO5a941 S)).set k (a, .inr (0, [va_rf (S.O_Cellar.f_waters a), va_rf (S.O_Cellar.f_pump a), va_rf (S.O_Cellar.f_things a), va_rf (S.O_Cellar.f_costs a), .int (S.O_Cellar.f_built a), .int (S.O_Cellar.f_flapSticks a), .int v, .int (S.O_Cellar.f_ground a), .int (S.O_Cellar.f_deep a), .int (S.O_Cellar.f_minute a), .int (S.O_Cellar.f_cameInAll a), .int (S.O_Cellar.f_ranOver a), .int (S.O_Cellar.f_greatest a)])) = X ++ va_pl S.L (wPF cyI cyZ cyO5a941 { S with O_Cellar := { S.O_Cellar with f_rain := va_up S.O_Cellar.f_rain a v } }) := by
  rw [va_pl_set hD hL hk]
  exact congrArg (fun l => X ++ l) (va_pl_congr (wSt_O_Cellar_f_rain cyI cyZ cyO5a941 S h v))
theorem wSt_O_Cellar_f_ground (cyI : ClassId) (cyZ : ClassId) (cyO5a941 : ClassId) (S : wPS) {a : Nat} (h : S.K a = 0) (v : Int32) (b : Nat) : va_up (wPF cyI cyZ cyO5a941 S) a (.inr (0, [va_rf (S.O_Cellar.f_waters a), va_rf (S.O_Cellar.f_pump a), va_rf (S.O_Cellar.f_things a), va_rf (S.O_Cellar.f_costs a), .int (S.O_Cellar.f_built a), .int (S.O_Cellar.f_flapSticks a), .int (S.O_Cellar.f_rain a), .int v, .int (S.O_Cellar.f_deep a), .int (S.O_Cellar.f_minute a), .int (S.O_Cellar.f_cameInAll a), .int (S.O_Cellar.f_ranOver a), .int (S.O_Cellar.f_greatest a)])) b = wPF cyI cyZ cyO5a941 { S with O_Cellar := { S.O_Cellar with f_ground := va_up S.O_Cellar.f_ground a v } } b := by by_cases hb : b = a <;> first | (simp only [wPF, va_up_ne _ _ hb]; done) | (simp only [wPF, va_up, if_neg hb]; done) | simp [wPF, va_re, va_up, va_rf, hb, h]
theorem wPu_O_Cellar_f_ground (cyI : ClassId) (cyZ : ClassId) (cyO5a941 : ClassId) (X : va_W) (S : wPS) {A : Nat → Prop} {a k : Nat} (hD : va_D A (X ++ va_pl S.L (wPF cyI cyZ cyO5a941 S))) (hL : a ∈ S.L) (h : S.K a = 0) (hk : (X ++ va_pl S.L (wPF cyI cyZ cyO5a941 S))[k]? = some (a, wPF cyI cyZ cyO5a941 S a)) (v : Int32) : (X ++ va_pl S.L (wPF cyI cyZ cyO5a941 S)).set k (a, .inr (0, [va_rf (S.O_Cellar.f_waters a), va_rf (S.O_Cellar.f_pump a), va_rf (S.O_Cellar.f_things a), va_rf (S.O_Cellar.f_costs a), .int (S.O_Cellar.f_built a), .int (S.O_Cellar.f_flapSticks a), .int (S.O_Cellar.f_rain a), .int v, .int (S.O_Cellar.f_deep a), .int (S.O_Cellar.f_minute a), .int (S.O_Cellar.f_cameInAll a), .int (S.O_Cellar.f_ranOver a), .int (S.O_Cellar.f_greatest a)])) = X ++ va_pl S.L (wPF cyI cyZ cyO5a941 { S with O_Cellar := { S.O_Cellar with f_ground := va_up S.O_Cellar.f_ground a v } }) := by
  rw [va_pl_set hD hL hk]
  exact congrArg (fun l => X ++ l) (va_pl_congr (wSt_O_Cellar_f_ground cyI cyZ cyO5a941 S h v))
theorem wSt_O_Cellar_f_deep (cyI : ClassId) (cyZ : ClassId) (cyO5a941 : ClassId) (S : wPS) {a : Nat} (h : S.K a = 0) (v : Int32) (b : Nat) : va_up (wPF cyI cyZ cyO5a941 S) a (.inr (0, [va_rf (S.O_Cellar.f_waters a), va_rf (S.O_Cellar.f_pump a), va_rf (S.O_Cellar.f_things a), va_rf (S.O_Cellar.f_costs a), .int (S.O_Cellar.f_built a), .int (S.O_Cellar.f_flapSticks a), .int (S.O_Cellar.f_rain a), .int (S.O_Cellar.f_ground a), .int v, .int (S.O_Cellar.f_minute a), .int (S.O_Cellar.f_cameInAll a), .int (S.O_Cellar.f_ranOver a), .int (S.O_Cellar.f_greatest a)])) b = wPF cyI cyZ cyO5a941 { S with O_Cellar := { S.O_Cellar with f_deep := va_up S.O_Cellar.f_deep a v } } b := by by_cases hb : b = a <;> first | (simp only [wPF, va_up_ne _ _ hb]; done) | (simp only [wPF, va_up, if_neg hb]; done) | simp [wPF, va_re, va_up, va_rf, hb, h]
theorem wPu_O_Cellar_f_deep (cyI : ClassId) (cyZ : ClassId) (cyO5a941 : ClassId) (X : va_W) (S : wPS) {A : Nat → Prop} {a k : Nat} (hD : va_D A (X ++ va_pl S.L (wPF cyI cyZ cyO5a941 S))) (hL : a ∈ S.L) (h : S.K a = 0) (hk : (X ++ va_pl S.L (wPF cyI cyZ cyO5a941 S))[k]? = some (a, wPF cyI cyZ cyO5a941 S a)) (v : Int32) : (X ++ va_pl S.L (wPF cyI cyZ cyO5a941 S)).set k (a, .inr (0, [va_rf (S.O_Cellar.f_waters a), va_rf (S.O_Cellar.f_pump a), va_rf (S.O_Cellar.f_things a), va_rf (S.O_Cellar.f_costs a), .int (S.O_Cellar.f_built a), .int (S.O_Cellar.f_flapSticks a), .int (S.O_Cellar.f_rain a), .int (S.O_Cellar.f_ground a), .int v, .int (S.O_Cellar.f_minute a), .int (S.O_Cellar.f_cameInAll a), .int (S.O_Cellar.f_ranOver a), .int (S.O_Cellar.f_greatest a)])) = X ++ va_pl S.L (wPF cyI cyZ cyO5a941 { S with O_Cellar := { S.O_Cellar with f_deep := va_up S.O_Cellar.f_deep a v } }) := by
  rw [va_pl_set hD hL hk]
  exact congrArg (fun l => X ++ l) (va_pl_congr (wSt_O_Cellar_f_deep cyI cyZ cyO5a941 S h v))
theorem wSt_O_Cellar_f_minute (cyI : ClassId) (cyZ : ClassId) (cyO5a941 : ClassId) (S : wPS) {a : Nat} (h : S.K a = 0) (v : Int32) (b : Nat) : va_up (wPF cyI cyZ cyO5a941 S) a (.inr (0, [va_rf (S.O_Cellar.f_waters a), va_rf (S.O_Cellar.f_pump a), va_rf (S.O_Cellar.f_things a), va_rf (S.O_Cellar.f_costs a), .int (S.O_Cellar.f_built a), .int (S.O_Cellar.f_flapSticks a), .int (S.O_Cellar.f_rain a), .int (S.O_Cellar.f_ground a), .int (S.O_Cellar.f_deep a), .int v, .int (S.O_Cellar.f_cameInAll a), .int (S.O_Cellar.f_ranOver a), .int (S.O_Cellar.f_greatest a)])) b = wPF cyI cyZ cyO5a941 { S with O_Cellar := { S.O_Cellar with f_minute := va_up S.O_Cellar.f_minute a v } } b := by by_cases hb : b = a <;> first | (simp only [wPF, va_up_ne _ _ hb]; done) | (simp only [wPF, va_up, if_neg hb]; done) | simp [wPF, va_re, va_up, va_rf, hb, h]
theorem wPu_O_Cellar_f_minute (cyI : ClassId) (cyZ : ClassId) (cyO5a941 : ClassId) (X : va_W) (S : wPS) {A : Nat → Prop} {a k : Nat} (hD : va_D A (X ++ va_pl S.L (wPF cyI cyZ cyO5a941 S))) (hL : a ∈ S.L) (h : S.K a = 0) (hk : (X ++ va_pl S.L (wPF cyI cyZ cyO5a941 S))[k]? = some (a, wPF cyI cyZ cyO5a941 S a)) (v : Int32) : (X ++ va_pl S.L (wPF cyI cyZ cyO5a941 S)).set k (a, .inr (0, [va_rf (S.O_Cellar.f_waters a), va_rf (S.O_Cellar.f_pump a), va_rf (S.O_Cellar.f_things a), va_rf (S.O_Cellar.f_costs a), .int (S.O_Cellar.f_built a), .int (S.O_Cellar.f_flapSticks a), .int (S.O_Cellar.f_rain a), .int (S.O_Cellar.f_ground a), .int (S.O_Cellar.f_deep a), .int v, .int (S.O_Cellar.f_cameInAll a), .int (S.O_Cellar.f_ranOver a), .int (S.O_Cellar.f_greatest a)])) = X ++ va_pl S.L (wPF cyI cyZ cyO5a941 { S with O_Cellar := { S.O_Cellar with f_minute := va_up S.O_Cellar.f_minute a v } }) := by
  rw [va_pl_set hD hL hk]
  exact congrArg (fun l => X ++ l) (va_pl_congr (wSt_O_Cellar_f_minute cyI cyZ cyO5a941 S h v))
theorem wSt_O_Cellar_f_cameInAll (cyI : ClassId) (cyZ : ClassId) (cyO5a941 : ClassId) (S : wPS) {a : Nat} (h : S.K a = 0) (v : Int32) (b : Nat) : va_up (wPF cyI cyZ cyO5a941 S) a (.inr (0, [va_rf (S.O_Cellar.f_waters a), va_rf (S.O_Cellar.f_pump a), va_rf (S.O_Cellar.f_things a), va_rf (S.O_Cellar.f_costs a), .int (S.O_Cellar.f_built a), .int (S.O_Cellar.f_flapSticks a), .int (S.O_Cellar.f_rain a), .int (S.O_Cellar.f_ground a), .int (S.O_Cellar.f_deep a), .int (S.O_Cellar.f_minute a), .int v, .int (S.O_Cellar.f_ranOver a), .int (S.O_Cellar.f_greatest a)])) b = wPF cyI cyZ cyO5a941 { S with O_Cellar := { S.O_Cellar with f_cameInAll := va_up S.O_Cellar.f_cameInAll a v } } b := by by_cases hb : b = a <;> first | (simp only [wPF, va_up_ne _ _ hb]; done) | (simp only [wPF, va_up, if_neg hb]; done) | simp [wPF, va_re, va_up, va_rf, hb, h]
theorem wPu_O_Cellar_f_cameInAll (cyI : ClassId) (cyZ : ClassId) (cyO5a941 : ClassId) (X : va_W) (S : wPS) {A : Nat → Prop} {a k : Nat} (hD : va_D A (X ++ va_pl S.L (wPF cyI cyZ cyO5a941 S))) (hL : a ∈ S.L) (h : S.K a = 0) (hk : (X ++ va_pl S.L (wPF cyI cyZ cyO5a941 S))[k]? = some (a, wPF cyI cyZ cyO5a941 S a)) (v : Int32) : (X ++ va_pl S.L (wPF cyI cyZ cyO5a941 S)).set k (a, .inr (0, [va_rf (S.O_Cellar.f_waters a), va_rf (S.O_Cellar.f_pump a), va_rf (S.O_Cellar.f_things a), va_rf (S.O_Cellar.f_costs a), .int (S.O_Cellar.f_built a), .int (S.O_Cellar.f_flapSticks a), .int (S.O_Cellar.f_rain a), .int (S.O_Cellar.f_ground a), .int (S.O_Cellar.f_deep a), .int (S.O_Cellar.f_minute a), .int v, .int (S.O_Cellar.f_ranOver a), .int (S.O_Cellar.f_greatest a)])) = X ++ va_pl S.L (wPF cyI cyZ cyO5a941 { S with O_Cellar := { S.O_Cellar with f_cameInAll := va_up S.O_Cellar.f_cameInAll a v } }) := by
  rw [va_pl_set hD hL hk]
  exact congrArg (fun l => X ++ l) (va_pl_congr (wSt_O_Cellar_f_cameInAll cyI cyZ cyO5a941 S h v))
theorem wSt_O_Cellar_f_ranOver (cyI : ClassId) (cyZ : ClassId) (cyO5a941 : ClassId) (S : wPS) {a : Nat} (h : S.K a = 0) (v : Int32) (b : Nat) : va_up (wPF cyI cyZ cyO5a941 S) a (.inr (0, [va_rf (S.O_Cellar.f_waters a), va_rf (S.O_Cellar.f_pump a), va_rf (S.O_Cellar.f_things a), va_rf (S.O_Cellar.f_costs a), .int (S.O_Cellar.f_built a), .int (S.O_Cellar.f_flapSticks a), .int (S.O_Cellar.f_rain a), .int (S.O_Cellar.f_ground a), .int (S.O_Cellar.f_deep a), .int (S.O_Cellar.f_minute a), .int (S.O_Cellar.f_cameInAll a), .int v, .int (S.O_Cellar.f_greatest a)])) b = wPF cyI cyZ cyO5a941 { S with O_Cellar := { S.O_Cellar with f_ranOver := va_up S.O_Cellar.f_ranOver a v } } b := by by_cases hb : b = a <;> first | (simp only [wPF, va_up_ne _ _ hb]; done) | (simp only [wPF, va_up, if_neg hb]; done) | simp [wPF, va_re, va_up, va_rf, hb, h]
theorem wPu_O_Cellar_f_ranOver (cyI : ClassId) (cyZ : ClassId) (cyO5a941 : ClassId) (X : va_W) (S : wPS) {A : Nat → Prop} {a k : Nat} (hD : va_D A (X ++ va_pl S.L (wPF cyI cyZ cyO5a941 S))) (hL : a ∈ S.L) (h : S.K a = 0) (hk : (X ++ va_pl S.L (wPF cyI cyZ cyO5a941 S))[k]? = some (a, wPF cyI cyZ cyO5a941 S a)) (v : Int32) : (X ++ va_pl S.L (wPF cyI cyZ cyO5a941 S)).set k (a, .inr (0, [va_rf (S.O_Cellar.f_waters a), va_rf (S.O_Cellar.f_pump a), va_rf (S.O_Cellar.f_things a), va_rf (S.O_Cellar.f_costs a), .int (S.O_Cellar.f_built a), .int (S.O_Cellar.f_flapSticks a), .int (S.O_Cellar.f_rain a), .int (S.O_Cellar.f_ground a), .int (S.O_Cellar.f_deep a), .int (S.O_Cellar.f_minute a), .int (S.O_Cellar.f_cameInAll a), .int v, .int (S.O_Cellar.f_greatest a)])) = X ++ va_pl S.L (wPF cyI cyZ cyO5a941 { S with O_Cellar := { S.O_Cellar with f_ranOver := va_up S.O_Cellar.f_ranOver a v } }) := by
  rw [va_pl_set hD hL hk]
  exact congrArg (fun l => X ++ l) (va_pl_congr (wSt_O_Cellar_f_ranOver cyI cyZ cyO5a941 S h v))
theorem wSt_O_Cellar_f_greatest (cyI : ClassId) (cyZ : ClassId) (cyO5a941 : ClassId) (S : wPS) {a : Nat} (h : S.K a = 0) (v : Int32) (b : Nat) : va_up (wPF cyI cyZ cyO5a941 S) a (.inr (0, [va_rf (S.O_Cellar.f_waters a), va_rf (S.O_Cellar.f_pump a), va_rf (S.O_Cellar.f_things a), va_rf (S.O_Cellar.f_costs a), .int (S.O_Cellar.f_built a), .int (S.O_Cellar.f_flapSticks a), .int (S.O_Cellar.f_rain a), .int (S.O_Cellar.f_ground a), .int (S.O_Cellar.f_deep a), .int (S.O_Cellar.f_minute a), .int (S.O_Cellar.f_cameInAll a), .int (S.O_Cellar.f_ranOver a), .int v])) b = wPF cyI cyZ cyO5a941 { S with O_Cellar := { S.O_Cellar with f_greatest := va_up S.O_Cellar.f_greatest a v } } b := by by_cases hb : b = a <;> first | (simp only [wPF, va_up_ne _ _ hb]; done) | (simp only [wPF, va_up, if_neg hb]; done) | simp [wPF, va_re, va_up, va_rf, hb, h]
theorem wPu_O_Cellar_f_greatest (cyI : ClassId) (cyZ : ClassId) (cyO5a941 : ClassId) (X : va_W) (S : wPS) {A : Nat → Prop} {a k : Nat} (hD : va_D A (X ++ va_pl S.L (wPF cyI cyZ cyO5a941 S))) (hL : a ∈ S.L) (h : S.K a = 0) (hk : (X ++ va_pl S.L (wPF cyI cyZ cyO5a941 S))[k]? = some (a, wPF cyI cyZ cyO5a941 S a)) (v : Int32) : (X ++ va_pl S.L (wPF cyI cyZ cyO5a941 S)).set k (a, .inr (0, [va_rf (S.O_Cellar.f_waters a), va_rf (S.O_Cellar.f_pump a), va_rf (S.O_Cellar.f_things a), va_rf (S.O_Cellar.f_costs a), .int (S.O_Cellar.f_built a), .int (S.O_Cellar.f_flapSticks a), .int (S.O_Cellar.f_rain a), .int (S.O_Cellar.f_ground a), .int (S.O_Cellar.f_deep a), .int (S.O_Cellar.f_minute a), .int (S.O_Cellar.f_cameInAll a), .int (S.O_Cellar.f_ranOver a), .int v])) = X ++ va_pl S.L (wPF cyI cyZ cyO5a941 { S with O_Cellar := { S.O_Cellar with f_greatest := va_up S.O_Cellar.f_greatest a v } }) := by
  rw [va_pl_set hD hL hk]
  exact congrArg (fun l => X ++ l) (va_pl_congr (wSt_O_Cellar_f_greatest cyI cyZ cyO5a941 S h v))
theorem wNw_O_Cellar (cyI : ClassId) (cyZ : ClassId) (cyO5a941 : ClassId) (S : wPS) (a b : Nat) : va_up (wPF cyI cyZ cyO5a941 S) a (.inr (0, [.null, .null, .null, .null, .int 0, .int 0, .int 0, .int 0, .int 0, .int 0, .int 0, .int 0, .int 0])) b = wPF cyI cyZ cyO5a941 { S with L := S.L ++ [a], K := va_up S.K a 0, O_Cellar := { f_waters := va_up S.O_Cellar.f_waters a none, f_pump := va_up S.O_Cellar.f_pump a none, f_things := va_up S.O_Cellar.f_things a none, f_costs := va_up S.O_Cellar.f_costs a none, f_built := va_up S.O_Cellar.f_built a 0, f_flapSticks := va_up S.O_Cellar.f_flapSticks a 0, f_rain := va_up S.O_Cellar.f_rain a 0, f_ground := va_up S.O_Cellar.f_ground a 0, f_deep := va_up S.O_Cellar.f_deep a 0, f_minute := va_up S.O_Cellar.f_minute a 0, f_cameInAll := va_up S.O_Cellar.f_cameInAll a 0, f_ranOver := va_up S.O_Cellar.f_ranOver a 0, f_greatest := va_up S.O_Cellar.f_greatest a 0 } } b := by by_cases hb : b = a <;> first | (simp only [wPF, va_up_ne _ _ hb]; done) | (simp only [wPF, va_up, if_neg hb]; done) | simp [wPF, va_re, va_up, va_rf, hb]
theorem wPn_O_Cellar (cyI : ClassId) (cyZ : ClassId) (cyO5a941 : ClassId) (X : va_W) (S : wPS) {a : Nat} (ha : a ∉ S.L) : (X ++ va_pl S.L (wPF cyI cyZ cyO5a941 S)) ++ [(a, .inr (0, [.null, .null, .null, .null, .int 0, .int 0, .int 0, .int 0, .int 0, .int 0, .int 0, .int 0, .int 0]))] = X ++ va_pl (S.L ++ [a]) (wPF cyI cyZ cyO5a941 { S with L := S.L ++ [a], K := va_up S.K a 0, O_Cellar := { f_waters := va_up S.O_Cellar.f_waters a none, f_pump := va_up S.O_Cellar.f_pump a none, f_things := va_up S.O_Cellar.f_things a none, f_costs := va_up S.O_Cellar.f_costs a none, f_built := va_up S.O_Cellar.f_built a 0, f_flapSticks := va_up S.O_Cellar.f_flapSticks a 0, f_rain := va_up S.O_Cellar.f_rain a 0, f_ground := va_up S.O_Cellar.f_ground a 0, f_deep := va_up S.O_Cellar.f_deep a 0, f_minute := va_up S.O_Cellar.f_minute a 0, f_cameInAll := va_up S.O_Cellar.f_cameInAll a 0, f_ranOver := va_up S.O_Cellar.f_ranOver a 0, f_greatest := va_up S.O_Cellar.f_greatest a 0 } }) := by
  rw [List.append_assoc, va_pl_push ha]
  exact congrArg (fun l => X ++ l) (va_pl_congr (wNw_O_Cellar cyI cyZ cyO5a941 S a))
theorem wAt_O_Choice (cyI : ClassId) (cyZ : ClassId) (cyO5a941 : ClassId) (S : wPS) {a : Nat} (h : S.K a = 1) : wPF cyI cyZ cyO5a941 S a = .inr (1, [va_rf (S.O_Choice.f_limit a), va_rf (S.O_Choice.f_things a), va_rf (S.O_Choice.f_weights a), va_rf (S.O_Choice.f_worths a), va_rf (S.O_Choice.f_inTime a)]) := by simp [wPF, h]
theorem wGt_O_Choice (cyI : ClassId) (cyZ : ClassId) (cyO5a941 : ClassId) (X : va_W) (S : wPS) {a : Nat} (hL : a ∈ S.L) (h : S.K a = 1) : ∃ k : Nat, (X ++ va_pl S.L (wPF cyI cyZ cyO5a941 S))[k]? = some (a, wPF cyI cyZ cyO5a941 S a) ∧ (X ++ va_pl S.L (wPF cyI cyZ cyO5a941 S))[k]? = some (a, .inr (1, [va_rf (S.O_Choice.f_limit a), va_rf (S.O_Choice.f_things a), va_rf (S.O_Choice.f_weights a), va_rf (S.O_Choice.f_worths a), va_rf (S.O_Choice.f_inTime a)])) := by
  obtain ⟨k, hk⟩ := va_pl_get (X := X) (f := wPF cyI cyZ cyO5a941 S) hL
  exact ⟨k, hk, hk.trans (congrArg (fun e => some (a, e)) (wAt_O_Choice cyI cyZ cyO5a941 S h))⟩
theorem wSt_O_Choice_f_limit (cyI : ClassId) (cyZ : ClassId) (cyO5a941 : ClassId) (S : wPS) {a : Nat} (h : S.K a = 1) (v : Option Nat) (b : Nat) : va_up (wPF cyI cyZ cyO5a941 S) a (.inr (1, [va_rf v, va_rf (S.O_Choice.f_things a), va_rf (S.O_Choice.f_weights a), va_rf (S.O_Choice.f_worths a), va_rf (S.O_Choice.f_inTime a)])) b = wPF cyI cyZ cyO5a941 { S with O_Choice := { S.O_Choice with f_limit := va_up S.O_Choice.f_limit a v } } b := by by_cases hb : b = a <;> first | (simp only [wPF, va_up_ne _ _ hb]; done) | (simp only [wPF, va_up, if_neg hb]; done) | simp [wPF, va_re, va_up, va_rf, hb, h]
theorem wPu_O_Choice_f_limit (cyI : ClassId) (cyZ : ClassId) (cyO5a941 : ClassId) (X : va_W) (S : wPS) {A : Nat → Prop} {a k : Nat} (hD : va_D A (X ++ va_pl S.L (wPF cyI cyZ cyO5a941 S))) (hL : a ∈ S.L) (h : S.K a = 1) (hk : (X ++ va_pl S.L (wPF cyI cyZ cyO5a941 S))[k]? = some (a, wPF cyI cyZ cyO5a941 S a)) (v : Option Nat) : (X ++ va_pl S.L (wPF cyI cyZ cyO5a941 S)).set k (a, .inr (1, [va_rf v, va_rf (S.O_Choice.f_things a), va_rf (S.O_Choice.f_weights a), va_rf (S.O_Choice.f_worths a), va_rf (S.O_Choice.f_inTime a)])) = X ++ va_pl S.L (wPF cyI cyZ cyO5a941 { S with O_Choice := { S.O_Choice with f_limit := va_up S.O_Choice.f_limit a v } }) := by
  rw [va_pl_set hD hL hk]
  exact congrArg (fun l => X ++ l) (va_pl_congr (wSt_O_Choice_f_limit cyI cyZ cyO5a941 S h v))
theorem wSt_O_Choice_f_things (cyI : ClassId) (cyZ : ClassId) (cyO5a941 : ClassId) (S : wPS) {a : Nat} (h : S.K a = 1) (v : Option Nat) (b : Nat) : va_up (wPF cyI cyZ cyO5a941 S) a (.inr (1, [va_rf (S.O_Choice.f_limit a), va_rf v, va_rf (S.O_Choice.f_weights a), va_rf (S.O_Choice.f_worths a), va_rf (S.O_Choice.f_inTime a)])) b = wPF cyI cyZ cyO5a941 { S with O_Choice := { S.O_Choice with f_things := va_up S.O_Choice.f_things a v } } b := by by_cases hb : b = a <;> first | (simp only [wPF, va_up_ne _ _ hb]; done) | (simp only [wPF, va_up, if_neg hb]; done) | simp [wPF, va_re, va_up, va_rf, hb, h]
theorem wPu_O_Choice_f_things (cyI : ClassId) (cyZ : ClassId) (cyO5a941 : ClassId) (X : va_W) (S : wPS) {A : Nat → Prop} {a k : Nat} (hD : va_D A (X ++ va_pl S.L (wPF cyI cyZ cyO5a941 S))) (hL : a ∈ S.L) (h : S.K a = 1) (hk : (X ++ va_pl S.L (wPF cyI cyZ cyO5a941 S))[k]? = some (a, wPF cyI cyZ cyO5a941 S a)) (v : Option Nat) : (X ++ va_pl S.L (wPF cyI cyZ cyO5a941 S)).set k (a, .inr (1, [va_rf (S.O_Choice.f_limit a), va_rf v, va_rf (S.O_Choice.f_weights a), va_rf (S.O_Choice.f_worths a), va_rf (S.O_Choice.f_inTime a)])) = X ++ va_pl S.L (wPF cyI cyZ cyO5a941 { S with O_Choice := { S.O_Choice with f_things := va_up S.O_Choice.f_things a v } }) := by
  rw [va_pl_set hD hL hk]
  exact congrArg (fun l => X ++ l) (va_pl_congr (wSt_O_Choice_f_things cyI cyZ cyO5a941 S h v))
theorem wSt_O_Choice_f_weights (cyI : ClassId) (cyZ : ClassId) (cyO5a941 : ClassId) (S : wPS) {a : Nat} (h : S.K a = 1) (v : Option Nat) (b : Nat) : va_up (wPF cyI cyZ cyO5a941 S) a (.inr (1, [va_rf (S.O_Choice.f_limit a), va_rf (S.O_Choice.f_things a), va_rf v, va_rf (S.O_Choice.f_worths a), va_rf (S.O_Choice.f_inTime a)])) b = wPF cyI cyZ cyO5a941 { S with O_Choice := { S.O_Choice with f_weights := va_up S.O_Choice.f_weights a v } } b := by by_cases hb : b = a <;> first | (simp only [wPF, va_up_ne _ _ hb]; done) | (simp only [wPF, va_up, if_neg hb]; done) | simp [wPF, va_re, va_up, va_rf, hb, h]
theorem wPu_O_Choice_f_weights (cyI : ClassId) (cyZ : ClassId) (cyO5a941 : ClassId) (X : va_W) (S : wPS) {A : Nat → Prop} {a k : Nat} (hD : va_D A (X ++ va_pl S.L (wPF cyI cyZ cyO5a941 S))) (hL : a ∈ S.L) (h : S.K a = 1) (hk : (X ++ va_pl S.L (wPF cyI cyZ cyO5a941 S))[k]? = some (a, wPF cyI cyZ cyO5a941 S a)) (v : Option Nat) : (X ++ va_pl S.L (wPF cyI cyZ cyO5a941 S)).set k (a, .inr (1, [va_rf (S.O_Choice.f_limit a), va_rf (S.O_Choice.f_things a), va_rf v, va_rf (S.O_Choice.f_worths a), va_rf (S.O_Choice.f_inTime a)])) = X ++ va_pl S.L (wPF cyI cyZ cyO5a941 { S with O_Choice := { S.O_Choice with f_weights := va_up S.O_Choice.f_weights a v } }) := by
  rw [va_pl_set hD hL hk]
  exact congrArg (fun l => X ++ l) (va_pl_congr (wSt_O_Choice_f_weights cyI cyZ cyO5a941 S h v))
theorem wSt_O_Choice_f_worths (cyI : ClassId) (cyZ : ClassId) (cyO5a941 : ClassId) (S : wPS) {a : Nat} (h : S.K a = 1) (v : Option Nat) (b : Nat) : va_up (wPF cyI cyZ cyO5a941 S) a (.inr (1, [va_rf (S.O_Choice.f_limit a), va_rf (S.O_Choice.f_things a), va_rf (S.O_Choice.f_weights a), va_rf v, va_rf (S.O_Choice.f_inTime a)])) b = wPF cyI cyZ cyO5a941 { S with O_Choice := { S.O_Choice with f_worths := va_up S.O_Choice.f_worths a v } } b := by by_cases hb : b = a <;> first | (simp only [wPF, va_up_ne _ _ hb]; done) | (simp only [wPF, va_up, if_neg hb]; done) | simp [wPF, va_re, va_up, va_rf, hb, h]
theorem wPu_O_Choice_f_worths (cyI : ClassId) (cyZ : ClassId) (cyO5a941 : ClassId) (X : va_W) (S : wPS) {A : Nat → Prop} {a k : Nat} (hD : va_D A (X ++ va_pl S.L (wPF cyI cyZ cyO5a941 S))) (hL : a ∈ S.L) (h : S.K a = 1) (hk : (X ++ va_pl S.L (wPF cyI cyZ cyO5a941 S))[k]? = some (a, wPF cyI cyZ cyO5a941 S a)) (v : Option Nat) : (X ++ va_pl S.L (wPF cyI cyZ cyO5a941 S)).set k (a, .inr (1, [va_rf (S.O_Choice.f_limit a), va_rf (S.O_Choice.f_things a), va_rf (S.O_Choice.f_weights a), va_rf v, va_rf (S.O_Choice.f_inTime a)])) = X ++ va_pl S.L (wPF cyI cyZ cyO5a941 { S with O_Choice := { S.O_Choice with f_worths := va_up S.O_Choice.f_worths a v } }) := by
  rw [va_pl_set hD hL hk]
  exact congrArg (fun l => X ++ l) (va_pl_congr (wSt_O_Choice_f_worths cyI cyZ cyO5a941 S h v))
theorem wSt_O_Choice_f_inTime (cyI : ClassId) (cyZ : ClassId) (cyO5a941 : ClassId) (S : wPS) {a : Nat} (h : S.K a = 1) (v : Option Nat) (b : Nat) : va_up (wPF cyI cyZ cyO5a941 S) a (.inr (1, [va_rf (S.O_Choice.f_limit a), va_rf (S.O_Choice.f_things a), va_rf (S.O_Choice.f_weights a), va_rf (S.O_Choice.f_worths a), va_rf v])) b = wPF cyI cyZ cyO5a941 { S with O_Choice := { S.O_Choice with f_inTime := va_up S.O_Choice.f_inTime a v } } b := by by_cases hb : b = a <;> first | (simp only [wPF, va_up_ne _ _ hb]; done) | (simp only [wPF, va_up, if_neg hb]; done) | simp [wPF, va_re, va_up, va_rf, hb, h]
theorem wPu_O_Choice_f_inTime (cyI : ClassId) (cyZ : ClassId) (cyO5a941 : ClassId) (X : va_W) (S : wPS) {A : Nat → Prop} {a k : Nat} (hD : va_D A (X ++ va_pl S.L (wPF cyI cyZ cyO5a941 S))) (hL : a ∈ S.L) (h : S.K a = 1) (hk : (X ++ va_pl S.L (wPF cyI cyZ cyO5a941 S))[k]? = some (a, wPF cyI cyZ cyO5a941 S a)) (v : Option Nat) : (X ++ va_pl S.L (wPF cyI cyZ cyO5a941 S)).set k (a, .inr (1, [va_rf (S.O_Choice.f_limit a), va_rf (S.O_Choice.f_things a), va_rf (S.O_Choice.f_weights a), va_rf (S.O_Choice.f_worths a), va_rf v])) = X ++ va_pl S.L (wPF cyI cyZ cyO5a941 { S with O_Choice := { S.O_Choice with f_inTime := va_up S.O_Choice.f_inTime a v } }) := by
  rw [va_pl_set hD hL hk]
  exact congrArg (fun l => X ++ l) (va_pl_congr (wSt_O_Choice_f_inTime cyI cyZ cyO5a941 S h v))
theorem wNw_O_Choice (cyI : ClassId) (cyZ : ClassId) (cyO5a941 : ClassId) (S : wPS) (a b : Nat) : va_up (wPF cyI cyZ cyO5a941 S) a (.inr (1, [.null, .null, .null, .null, .null])) b = wPF cyI cyZ cyO5a941 { S with L := S.L ++ [a], K := va_up S.K a 1, O_Choice := { f_limit := va_up S.O_Choice.f_limit a none, f_things := va_up S.O_Choice.f_things a none, f_weights := va_up S.O_Choice.f_weights a none, f_worths := va_up S.O_Choice.f_worths a none, f_inTime := va_up S.O_Choice.f_inTime a none } } b := by by_cases hb : b = a <;> first | (simp only [wPF, va_up_ne _ _ hb]; done) | (simp only [wPF, va_up, if_neg hb]; done) | simp [wPF, va_re, va_up, va_rf, hb]
theorem wPn_O_Choice (cyI : ClassId) (cyZ : ClassId) (cyO5a941 : ClassId) (X : va_W) (S : wPS) {a : Nat} (ha : a ∉ S.L) : (X ++ va_pl S.L (wPF cyI cyZ cyO5a941 S)) ++ [(a, .inr (1, [.null, .null, .null, .null, .null]))] = X ++ va_pl (S.L ++ [a]) (wPF cyI cyZ cyO5a941 { S with L := S.L ++ [a], K := va_up S.K a 1, O_Choice := { f_limit := va_up S.O_Choice.f_limit a none, f_things := va_up S.O_Choice.f_things a none, f_weights := va_up S.O_Choice.f_weights a none, f_worths := va_up S.O_Choice.f_worths a none, f_inTime := va_up S.O_Choice.f_inTime a none } }) := by
  rw [List.append_assoc, va_pl_push ha]
  exact congrArg (fun l => X ++ l) (va_pl_congr (wNw_O_Choice cyI cyZ cyO5a941 S a))
theorem wAt_O_House (cyI : ClassId) (cyZ : ClassId) (cyO5a941 : ClassId) (S : wPS) {a : Nat} (h : S.K a = 2) : wPF cyI cyZ cyO5a941 S a = .inr (2, [va_rf (S.O_House.f_cellar a), va_rf (S.O_House.f_skies a), va_rf (S.O_House.f_spots a), .int (S.O_House.f_z a)]) := by simp [wPF, h]
theorem wGt_O_House (cyI : ClassId) (cyZ : ClassId) (cyO5a941 : ClassId) (X : va_W) (S : wPS) {a : Nat} (hL : a ∈ S.L) (h : S.K a = 2) : ∃ k : Nat, (X ++ va_pl S.L (wPF cyI cyZ cyO5a941 S))[k]? = some (a, wPF cyI cyZ cyO5a941 S a) ∧ (X ++ va_pl S.L (wPF cyI cyZ cyO5a941 S))[k]? = some (a, .inr (2, [va_rf (S.O_House.f_cellar a), va_rf (S.O_House.f_skies a), va_rf (S.O_House.f_spots a), .int (S.O_House.f_z a)])) := by
  obtain ⟨k, hk⟩ := va_pl_get (X := X) (f := wPF cyI cyZ cyO5a941 S) hL
  exact ⟨k, hk, hk.trans (congrArg (fun e => some (a, e)) (wAt_O_House cyI cyZ cyO5a941 S h))⟩
theorem wSt_O_House_f_cellar (cyI : ClassId) (cyZ : ClassId) (cyO5a941 : ClassId) (S : wPS) {a : Nat} (h : S.K a = 2) (v : Option Nat) (b : Nat) : va_up (wPF cyI cyZ cyO5a941 S) a (.inr (2, [va_rf v, va_rf (S.O_House.f_skies a), va_rf (S.O_House.f_spots a), .int (S.O_House.f_z a)])) b = wPF cyI cyZ cyO5a941 { S with O_House := { S.O_House with f_cellar := va_up S.O_House.f_cellar a v } } b := by by_cases hb : b = a <;> first | (simp only [wPF, va_up_ne _ _ hb]; done) | (simp only [wPF, va_up, if_neg hb]; done) | simp [wPF, va_re, va_up, va_rf, hb, h]
theorem wPu_O_House_f_cellar (cyI : ClassId) (cyZ : ClassId) (cyO5a941 : ClassId) (X : va_W) (S : wPS) {A : Nat → Prop} {a k : Nat} (hD : va_D A (X ++ va_pl S.L (wPF cyI cyZ cyO5a941 S))) (hL : a ∈ S.L) (h : S.K a = 2) (hk : (X ++ va_pl S.L (wPF cyI cyZ cyO5a941 S))[k]? = some (a, wPF cyI cyZ cyO5a941 S a)) (v : Option Nat) : (X ++ va_pl S.L (wPF cyI cyZ cyO5a941 S)).set k (a, .inr (2, [va_rf v, va_rf (S.O_House.f_skies a), va_rf (S.O_House.f_spots a), .int (S.O_House.f_z a)])) = X ++ va_pl S.L (wPF cyI cyZ cyO5a941 { S with O_House := { S.O_House with f_cellar := va_up S.O_House.f_cellar a v } }) := by
  rw [va_pl_set hD hL hk]
  exact congrArg (fun l => X ++ l) (va_pl_congr (wSt_O_House_f_cellar cyI cyZ cyO5a941 S h v))
theorem wSt_O_House_f_skies (cyI : ClassId) (cyZ : ClassId) (cyO5a941 : ClassId) (S : wPS) {a : Nat} (h : S.K a = 2) (v : Option Nat) (b : Nat) : va_up (wPF cyI cyZ cyO5a941 S) a (.inr (2, [va_rf (S.O_House.f_cellar a), va_rf v, va_rf (S.O_House.f_spots a), .int (S.O_House.f_z a)])) b = wPF cyI cyZ cyO5a941 { S with O_House := { S.O_House with f_skies := va_up S.O_House.f_skies a v } } b := by by_cases hb : b = a <;> first | (simp only [wPF, va_up_ne _ _ hb]; done) | (simp only [wPF, va_up, if_neg hb]; done) | simp [wPF, va_re, va_up, va_rf, hb, h]
theorem wPu_O_House_f_skies (cyI : ClassId) (cyZ : ClassId) (cyO5a941 : ClassId) (X : va_W) (S : wPS) {A : Nat → Prop} {a k : Nat} (hD : va_D A (X ++ va_pl S.L (wPF cyI cyZ cyO5a941 S))) (hL : a ∈ S.L) (h : S.K a = 2) (hk : (X ++ va_pl S.L (wPF cyI cyZ cyO5a941 S))[k]? = some (a, wPF cyI cyZ cyO5a941 S a)) (v : Option Nat) : (X ++ va_pl S.L (wPF cyI cyZ cyO5a941 S)).set k (a, .inr (2, [va_rf (S.O_House.f_cellar a), va_rf v, va_rf (S.O_House.f_spots a), .int (S.O_House.f_z a)])) = X ++ va_pl S.L (wPF cyI cyZ cyO5a941 { S with O_House := { S.O_House with f_skies := va_up S.O_House.f_skies a v } }) := by
  rw [va_pl_set hD hL hk]
  exact congrArg (fun l => X ++ l) (va_pl_congr (wSt_O_House_f_skies cyI cyZ cyO5a941 S h v))
theorem wSt_O_House_f_spots (cyI : ClassId) (cyZ : ClassId) (cyO5a941 : ClassId) (S : wPS) {a : Nat} (h : S.K a = 2) (v : Option Nat) (b : Nat) : va_up (wPF cyI cyZ cyO5a941 S) a (.inr (2, [va_rf (S.O_House.f_cellar a), va_rf (S.O_House.f_skies a), va_rf v, .int (S.O_House.f_z a)])) b = wPF cyI cyZ cyO5a941 { S with O_House := { S.O_House with f_spots := va_up S.O_House.f_spots a v } } b := by by_cases hb : b = a <;> first | (simp only [wPF, va_up_ne _ _ hb]; done) | (simp only [wPF, va_up, if_neg hb]; done) | simp [wPF, va_re, va_up, va_rf, hb, h]
theorem wPu_O_House_f_spots (cyI : ClassId) (cyZ : ClassId) (cyO5a941 : ClassId) (X : va_W) (S : wPS) {A : Nat → Prop} {a k : Nat} (hD : va_D A (X ++ va_pl S.L (wPF cyI cyZ cyO5a941 S))) (hL : a ∈ S.L) (h : S.K a = 2) (hk : (X ++ va_pl S.L (wPF cyI cyZ cyO5a941 S))[k]? = some (a, wPF cyI cyZ cyO5a941 S a)) (v : Option Nat) : (X ++ va_pl S.L (wPF cyI cyZ cyO5a941 S)).set k (a, .inr (2, [va_rf (S.O_House.f_cellar a), va_rf (S.O_House.f_skies a), va_rf v, .int (S.O_House.f_z a)])) = X ++ va_pl S.L (wPF cyI cyZ cyO5a941 { S with O_House := { S.O_House with f_spots := va_up S.O_House.f_spots a v } }) := by
  rw [va_pl_set hD hL hk]
  exact congrArg (fun l => X ++ l) (va_pl_congr (wSt_O_House_f_spots cyI cyZ cyO5a941 S h v))
theorem wSt_O_House_f_z (cyI : ClassId) (cyZ : ClassId) (cyO5a941 : ClassId) (S : wPS) {a : Nat} (h : S.K a = 2) (v : Int32) (b : Nat) : va_up (wPF cyI cyZ cyO5a941 S) a (.inr (2, [va_rf (S.O_House.f_cellar a), va_rf (S.O_House.f_skies a), va_rf (S.O_House.f_spots a), .int v])) b = wPF cyI cyZ cyO5a941 { S with O_House := { S.O_House with f_z := va_up S.O_House.f_z a v } } b := by by_cases hb : b = a <;> first | (simp only [wPF, va_up_ne _ _ hb]; done) | (simp only [wPF, va_up, if_neg hb]; done) | simp [wPF, va_re, va_up, va_rf, hb, h]
theorem wPu_O_House_f_z (cyI : ClassId) (cyZ : ClassId) (cyO5a941 : ClassId) (X : va_W) (S : wPS) {A : Nat → Prop} {a k : Nat} (hD : va_D A (X ++ va_pl S.L (wPF cyI cyZ cyO5a941 S))) (hL : a ∈ S.L) (h : S.K a = 2) (hk : (X ++ va_pl S.L (wPF cyI cyZ cyO5a941 S))[k]? = some (a, wPF cyI cyZ cyO5a941 S a)) (v : Int32) : (X ++ va_pl S.L (wPF cyI cyZ cyO5a941 S)).set k (a, .inr (2, [va_rf (S.O_House.f_cellar a), va_rf (S.O_House.f_skies a), va_rf (S.O_House.f_spots a), .int v])) = X ++ va_pl S.L (wPF cyI cyZ cyO5a941 { S with O_House := { S.O_House with f_z := va_up S.O_House.f_z a v } }) := by
  rw [va_pl_set hD hL hk]
  exact congrArg (fun l => X ++ l) (va_pl_congr (wSt_O_House_f_z cyI cyZ cyO5a941 S h v))
theorem wNw_O_House (cyI : ClassId) (cyZ : ClassId) (cyO5a941 : ClassId) (S : wPS) (a b : Nat) : va_up (wPF cyI cyZ cyO5a941 S) a (.inr (2, [.null, .null, .null, .int 0])) b = wPF cyI cyZ cyO5a941 { S with L := S.L ++ [a], K := va_up S.K a 2, O_House := { f_cellar := va_up S.O_House.f_cellar a none, f_skies := va_up S.O_House.f_skies a none, f_spots := va_up S.O_House.f_spots a none, f_z := va_up S.O_House.f_z a 0 } } b := by by_cases hb : b = a <;> first | (simp only [wPF, va_up_ne _ _ hb]; done) | (simp only [wPF, va_up, if_neg hb]; done) | simp [wPF, va_re, va_up, va_rf, hb]
theorem wPn_O_House (cyI : ClassId) (cyZ : ClassId) (cyO5a941 : ClassId) (X : va_W) (S : wPS) {a : Nat} (ha : a ∉ S.L) : (X ++ va_pl S.L (wPF cyI cyZ cyO5a941 S)) ++ [(a, .inr (2, [.null, .null, .null, .int 0]))] = X ++ va_pl (S.L ++ [a]) (wPF cyI cyZ cyO5a941 { S with L := S.L ++ [a], K := va_up S.K a 2, O_House := { f_cellar := va_up S.O_House.f_cellar a none, f_skies := va_up S.O_House.f_skies a none, f_spots := va_up S.O_House.f_spots a none, f_z := va_up S.O_House.f_z a 0 } }) := by
  rw [List.append_assoc, va_pl_push ha]
  exact congrArg (fun l => X ++ l) (va_pl_congr (wNw_O_House cyI cyZ cyO5a941 S a))
theorem wAt_O_Nights (cyI : ClassId) (cyZ : ClassId) (cyO5a941 : ClassId) (S : wPS) {a : Nat} (h : S.K a = 3) : wPF cyI cyZ cyO5a941 S a = .inr (3, [va_rf (S.O_Nights.f_real a), va_rf (S.O_Nights.f_night a), va_rf (S.O_Nights.f_inflow a)]) := by simp [wPF, h]
theorem wGt_O_Nights (cyI : ClassId) (cyZ : ClassId) (cyO5a941 : ClassId) (X : va_W) (S : wPS) {a : Nat} (hL : a ∈ S.L) (h : S.K a = 3) : ∃ k : Nat, (X ++ va_pl S.L (wPF cyI cyZ cyO5a941 S))[k]? = some (a, wPF cyI cyZ cyO5a941 S a) ∧ (X ++ va_pl S.L (wPF cyI cyZ cyO5a941 S))[k]? = some (a, .inr (3, [va_rf (S.O_Nights.f_real a), va_rf (S.O_Nights.f_night a), va_rf (S.O_Nights.f_inflow a)])) := by
  obtain ⟨k, hk⟩ := va_pl_get (X := X) (f := wPF cyI cyZ cyO5a941 S) hL
  exact ⟨k, hk, hk.trans (congrArg (fun e => some (a, e)) (wAt_O_Nights cyI cyZ cyO5a941 S h))⟩
theorem wSt_O_Nights_f_real (cyI : ClassId) (cyZ : ClassId) (cyO5a941 : ClassId) (S : wPS) {a : Nat} (h : S.K a = 3) (v : Option Nat) (b : Nat) : va_up (wPF cyI cyZ cyO5a941 S) a (.inr (3, [va_rf v, va_rf (S.O_Nights.f_night a), va_rf (S.O_Nights.f_inflow a)])) b = wPF cyI cyZ cyO5a941 { S with O_Nights := { S.O_Nights with f_real := va_up S.O_Nights.f_real a v } } b := by by_cases hb : b = a <;> first | (simp only [wPF, va_up_ne _ _ hb]; done) | (simp only [wPF, va_up, if_neg hb]; done) | simp [wPF, va_re, va_up, va_rf, hb, h]
theorem wPu_O_Nights_f_real (cyI : ClassId) (cyZ : ClassId) (cyO5a941 : ClassId) (X : va_W) (S : wPS) {A : Nat → Prop} {a k : Nat} (hD : va_D A (X ++ va_pl S.L (wPF cyI cyZ cyO5a941 S))) (hL : a ∈ S.L) (h : S.K a = 3) (hk : (X ++ va_pl S.L (wPF cyI cyZ cyO5a941 S))[k]? = some (a, wPF cyI cyZ cyO5a941 S a)) (v : Option Nat) : (X ++ va_pl S.L (wPF cyI cyZ cyO5a941 S)).set k (a, .inr (3, [va_rf v, va_rf (S.O_Nights.f_night a), va_rf (S.O_Nights.f_inflow a)])) = X ++ va_pl S.L (wPF cyI cyZ cyO5a941 { S with O_Nights := { S.O_Nights with f_real := va_up S.O_Nights.f_real a v } }) := by
  rw [va_pl_set hD hL hk]
  exact congrArg (fun l => X ++ l) (va_pl_congr (wSt_O_Nights_f_real cyI cyZ cyO5a941 S h v))
theorem wSt_O_Nights_f_night (cyI : ClassId) (cyZ : ClassId) (cyO5a941 : ClassId) (S : wPS) {a : Nat} (h : S.K a = 3) (v : Option Nat) (b : Nat) : va_up (wPF cyI cyZ cyO5a941 S) a (.inr (3, [va_rf (S.O_Nights.f_real a), va_rf v, va_rf (S.O_Nights.f_inflow a)])) b = wPF cyI cyZ cyO5a941 { S with O_Nights := { S.O_Nights with f_night := va_up S.O_Nights.f_night a v } } b := by by_cases hb : b = a <;> first | (simp only [wPF, va_up_ne _ _ hb]; done) | (simp only [wPF, va_up, if_neg hb]; done) | simp [wPF, va_re, va_up, va_rf, hb, h]
theorem wPu_O_Nights_f_night (cyI : ClassId) (cyZ : ClassId) (cyO5a941 : ClassId) (X : va_W) (S : wPS) {A : Nat → Prop} {a k : Nat} (hD : va_D A (X ++ va_pl S.L (wPF cyI cyZ cyO5a941 S))) (hL : a ∈ S.L) (h : S.K a = 3) (hk : (X ++ va_pl S.L (wPF cyI cyZ cyO5a941 S))[k]? = some (a, wPF cyI cyZ cyO5a941 S a)) (v : Option Nat) : (X ++ va_pl S.L (wPF cyI cyZ cyO5a941 S)).set k (a, .inr (3, [va_rf (S.O_Nights.f_real a), va_rf v, va_rf (S.O_Nights.f_inflow a)])) = X ++ va_pl S.L (wPF cyI cyZ cyO5a941 { S with O_Nights := { S.O_Nights with f_night := va_up S.O_Nights.f_night a v } }) := by
  rw [va_pl_set hD hL hk]
  exact congrArg (fun l => X ++ l) (va_pl_congr (wSt_O_Nights_f_night cyI cyZ cyO5a941 S h v))
theorem wSt_O_Nights_f_inflow (cyI : ClassId) (cyZ : ClassId) (cyO5a941 : ClassId) (S : wPS) {a : Nat} (h : S.K a = 3) (v : Option Nat) (b : Nat) : va_up (wPF cyI cyZ cyO5a941 S) a (.inr (3, [va_rf (S.O_Nights.f_real a), va_rf (S.O_Nights.f_night a), va_rf v])) b = wPF cyI cyZ cyO5a941 { S with O_Nights := { S.O_Nights with f_inflow := va_up S.O_Nights.f_inflow a v } } b := by by_cases hb : b = a <;> first | (simp only [wPF, va_up_ne _ _ hb]; done) | (simp only [wPF, va_up, if_neg hb]; done) | simp [wPF, va_re, va_up, va_rf, hb, h]
theorem wPu_O_Nights_f_inflow (cyI : ClassId) (cyZ : ClassId) (cyO5a941 : ClassId) (X : va_W) (S : wPS) {A : Nat → Prop} {a k : Nat} (hD : va_D A (X ++ va_pl S.L (wPF cyI cyZ cyO5a941 S))) (hL : a ∈ S.L) (h : S.K a = 3) (hk : (X ++ va_pl S.L (wPF cyI cyZ cyO5a941 S))[k]? = some (a, wPF cyI cyZ cyO5a941 S a)) (v : Option Nat) : (X ++ va_pl S.L (wPF cyI cyZ cyO5a941 S)).set k (a, .inr (3, [va_rf (S.O_Nights.f_real a), va_rf (S.O_Nights.f_night a), va_rf v])) = X ++ va_pl S.L (wPF cyI cyZ cyO5a941 { S with O_Nights := { S.O_Nights with f_inflow := va_up S.O_Nights.f_inflow a v } }) := by
  rw [va_pl_set hD hL hk]
  exact congrArg (fun l => X ++ l) (va_pl_congr (wSt_O_Nights_f_inflow cyI cyZ cyO5a941 S h v))
theorem wNw_O_Nights (cyI : ClassId) (cyZ : ClassId) (cyO5a941 : ClassId) (S : wPS) (a b : Nat) : va_up (wPF cyI cyZ cyO5a941 S) a (.inr (3, [.null, .null, .null])) b = wPF cyI cyZ cyO5a941 { S with L := S.L ++ [a], K := va_up S.K a 3, O_Nights := { f_real := va_up S.O_Nights.f_real a none, f_night := va_up S.O_Nights.f_night a none, f_inflow := va_up S.O_Nights.f_inflow a none } } b := by by_cases hb : b = a <;> first | (simp only [wPF, va_up_ne _ _ hb]; done) | (simp only [wPF, va_up, if_neg hb]; done) | simp [wPF, va_re, va_up, va_rf, hb]
theorem wPn_O_Nights (cyI : ClassId) (cyZ : ClassId) (cyO5a941 : ClassId) (X : va_W) (S : wPS) {a : Nat} (ha : a ∉ S.L) : (X ++ va_pl S.L (wPF cyI cyZ cyO5a941 S)) ++ [(a, .inr (3, [.null, .null, .null]))] = X ++ va_pl (S.L ++ [a]) (wPF cyI cyZ cyO5a941 { S with L := S.L ++ [a], K := va_up S.K a 3, O_Nights := { f_real := va_up S.O_Nights.f_real a none, f_night := va_up S.O_Nights.f_night a none, f_inflow := va_up S.O_Nights.f_inflow a none } }) := by
  rw [List.append_assoc, va_pl_push ha]
  exact congrArg (fun l => X ++ l) (va_pl_congr (wNw_O_Nights cyI cyZ cyO5a941 S a))
theorem wAt_O_Pump (cyI : ClassId) (cyZ : ClassId) (cyO5a941 : ClassId) (S : wPS) {a : Nat} (h : S.K a = 4) : wPF cyI cyZ cyO5a941 S a = .inr (4, [.int (S.O_Pump.f_on a), .int (S.O_Pump.f_off a), .int (S.O_Pump.f_rate a), .int (S.O_Pump.f_life a), .int (S.O_Pump.f_battery a), .int (S.O_Pump.f_hasCurrent a), .int (S.O_Pump.f_countsTwice a), .int (S.O_Pump.f_runs a), .int (S.O_Pump.f_starts a), .int (S.O_Pump.f_pumped a), va_rf (S.O_Pump.f_log a)]) := by simp [wPF, h]
theorem wGt_O_Pump (cyI : ClassId) (cyZ : ClassId) (cyO5a941 : ClassId) (X : va_W) (S : wPS) {a : Nat} (hL : a ∈ S.L) (h : S.K a = 4) : ∃ k : Nat, (X ++ va_pl S.L (wPF cyI cyZ cyO5a941 S))[k]? = some (a, wPF cyI cyZ cyO5a941 S a) ∧ (X ++ va_pl S.L (wPF cyI cyZ cyO5a941 S))[k]? = some (a, .inr (4, [.int (S.O_Pump.f_on a), .int (S.O_Pump.f_off a), .int (S.O_Pump.f_rate a), .int (S.O_Pump.f_life a), .int (S.O_Pump.f_battery a), .int (S.O_Pump.f_hasCurrent a), .int (S.O_Pump.f_countsTwice a), .int (S.O_Pump.f_runs a), .int (S.O_Pump.f_starts a), .int (S.O_Pump.f_pumped a), va_rf (S.O_Pump.f_log a)])) := by
  obtain ⟨k, hk⟩ := va_pl_get (X := X) (f := wPF cyI cyZ cyO5a941 S) hL
  exact ⟨k, hk, hk.trans (congrArg (fun e => some (a, e)) (wAt_O_Pump cyI cyZ cyO5a941 S h))⟩
theorem wSt_O_Pump_f_on (cyI : ClassId) (cyZ : ClassId) (cyO5a941 : ClassId) (S : wPS) {a : Nat} (h : S.K a = 4) (v : Int32) (b : Nat) : va_up (wPF cyI cyZ cyO5a941 S) a (.inr (4, [.int v, .int (S.O_Pump.f_off a), .int (S.O_Pump.f_rate a), .int (S.O_Pump.f_life a), .int (S.O_Pump.f_battery a), .int (S.O_Pump.f_hasCurrent a), .int (S.O_Pump.f_countsTwice a), .int (S.O_Pump.f_runs a), .int (S.O_Pump.f_starts a), .int (S.O_Pump.f_pumped a), va_rf (S.O_Pump.f_log a)])) b = wPF cyI cyZ cyO5a941 { S with O_Pump := { S.O_Pump with f_on := va_up S.O_Pump.f_on a v } } b := by by_cases hb : b = a <;> first | (simp only [wPF, va_up_ne _ _ hb]; done) | (simp only [wPF, va_up, if_neg hb]; done) | simp [wPF, va_re, va_up, va_rf, hb, h]
theorem wPu_O_Pump_f_on (cyI : ClassId) (cyZ : ClassId) (cyO5a941 : ClassId) (X : va_W) (S : wPS) {A : Nat → Prop} {a k : Nat} (hD : va_D A (X ++ va_pl S.L (wPF cyI cyZ cyO5a941 S))) (hL : a ∈ S.L) (h : S.K a = 4) (hk : (X ++ va_pl S.L (wPF cyI cyZ cyO5a941 S))[k]? = some (a, wPF cyI cyZ cyO5a941 S a)) (v : Int32) : (X ++ va_pl S.L (wPF cyI cyZ cyO5a941 S)).set k (a, .inr (4, [.int v, .int (S.O_Pump.f_off a), .int (S.O_Pump.f_rate a), .int (S.O_Pump.f_life a), .int (S.O_Pump.f_battery a), .int (S.O_Pump.f_hasCurrent a), .int (S.O_Pump.f_countsTwice a), .int (S.O_Pump.f_runs a), .int (S.O_Pump.f_starts a), .int (S.O_Pump.f_pumped a), va_rf (S.O_Pump.f_log a)])) = X ++ va_pl S.L (wPF cyI cyZ cyO5a941 { S with O_Pump := { S.O_Pump with f_on := va_up S.O_Pump.f_on a v } }) := by
  rw [va_pl_set hD hL hk]
  exact congrArg (fun l => X ++ l) (va_pl_congr (wSt_O_Pump_f_on cyI cyZ cyO5a941 S h v))
theorem wSt_O_Pump_f_off (cyI : ClassId) (cyZ : ClassId) (cyO5a941 : ClassId) (S : wPS) {a : Nat} (h : S.K a = 4) (v : Int32) (b : Nat) : va_up (wPF cyI cyZ cyO5a941 S) a (.inr (4, [.int (S.O_Pump.f_on a), .int v, .int (S.O_Pump.f_rate a), .int (S.O_Pump.f_life a), .int (S.O_Pump.f_battery a), .int (S.O_Pump.f_hasCurrent a), .int (S.O_Pump.f_countsTwice a), .int (S.O_Pump.f_runs a), .int (S.O_Pump.f_starts a), .int (S.O_Pump.f_pumped a), va_rf (S.O_Pump.f_log a)])) b = wPF cyI cyZ cyO5a941 { S with O_Pump := { S.O_Pump with f_off := va_up S.O_Pump.f_off a v } } b := by by_cases hb : b = a <;> first | (simp only [wPF, va_up_ne _ _ hb]; done) | (simp only [wPF, va_up, if_neg hb]; done) | simp [wPF, va_re, va_up, va_rf, hb, h]
theorem wPu_O_Pump_f_off (cyI : ClassId) (cyZ : ClassId) (cyO5a941 : ClassId) (X : va_W) (S : wPS) {A : Nat → Prop} {a k : Nat} (hD : va_D A (X ++ va_pl S.L (wPF cyI cyZ cyO5a941 S))) (hL : a ∈ S.L) (h : S.K a = 4) (hk : (X ++ va_pl S.L (wPF cyI cyZ cyO5a941 S))[k]? = some (a, wPF cyI cyZ cyO5a941 S a)) (v : Int32) : (X ++ va_pl S.L (wPF cyI cyZ cyO5a941 S)).set k (a, .inr (4, [.int (S.O_Pump.f_on a), .int v, .int (S.O_Pump.f_rate a), .int (S.O_Pump.f_life a), .int (S.O_Pump.f_battery a), .int (S.O_Pump.f_hasCurrent a), .int (S.O_Pump.f_countsTwice a), .int (S.O_Pump.f_runs a), .int (S.O_Pump.f_starts a), .int (S.O_Pump.f_pumped a), va_rf (S.O_Pump.f_log a)])) = X ++ va_pl S.L (wPF cyI cyZ cyO5a941 { S with O_Pump := { S.O_Pump with f_off := va_up S.O_Pump.f_off a v } }) := by
  rw [va_pl_set hD hL hk]
  exact congrArg (fun l => X ++ l) (va_pl_congr (wSt_O_Pump_f_off cyI cyZ cyO5a941 S h v))
theorem wSt_O_Pump_f_rate (cyI : ClassId) (cyZ : ClassId) (cyO5a941 : ClassId) (S : wPS) {a : Nat} (h : S.K a = 4) (v : Int32) (b : Nat) : va_up (wPF cyI cyZ cyO5a941 S) a (.inr (4, [.int (S.O_Pump.f_on a), .int (S.O_Pump.f_off a), .int v, .int (S.O_Pump.f_life a), .int (S.O_Pump.f_battery a), .int (S.O_Pump.f_hasCurrent a), .int (S.O_Pump.f_countsTwice a), .int (S.O_Pump.f_runs a), .int (S.O_Pump.f_starts a), .int (S.O_Pump.f_pumped a), va_rf (S.O_Pump.f_log a)])) b = wPF cyI cyZ cyO5a941 { S with O_Pump := { S.O_Pump with f_rate := va_up S.O_Pump.f_rate a v } } b := by by_cases hb : b = a <;> first | (simp only [wPF, va_up_ne _ _ hb]; done) | (simp only [wPF, va_up, if_neg hb]; done) | simp [wPF, va_re, va_up, va_rf, hb, h]
theorem wPu_O_Pump_f_rate (cyI : ClassId) (cyZ : ClassId) (cyO5a941 : ClassId) (X : va_W) (S : wPS) {A : Nat → Prop} {a k : Nat} (hD : va_D A (X ++ va_pl S.L (wPF cyI cyZ cyO5a941 S))) (hL : a ∈ S.L) (h : S.K a = 4) (hk : (X ++ va_pl S.L (wPF cyI cyZ cyO5a941 S))[k]? = some (a, wPF cyI cyZ cyO5a941 S a)) (v : Int32) : (X ++ va_pl S.L (wPF cyI cyZ cyO5a941 S)).set k (a, .inr (4, [.int (S.O_Pump.f_on a), .int (S.O_Pump.f_off a), .int v, .int (S.O_Pump.f_life a), .int (S.O_Pump.f_battery a), .int (S.O_Pump.f_hasCurrent a), .int (S.O_Pump.f_countsTwice a), .int (S.O_Pump.f_runs a), .int (S.O_Pump.f_starts a), .int (S.O_Pump.f_pumped a), va_rf (S.O_Pump.f_log a)])) = X ++ va_pl S.L (wPF cyI cyZ cyO5a941 { S with O_Pump := { S.O_Pump with f_rate := va_up S.O_Pump.f_rate a v } }) := by
  rw [va_pl_set hD hL hk]
  exact congrArg (fun l => X ++ l) (va_pl_congr (wSt_O_Pump_f_rate cyI cyZ cyO5a941 S h v))
theorem wSt_O_Pump_f_life (cyI : ClassId) (cyZ : ClassId) (cyO5a941 : ClassId) (S : wPS) {a : Nat} (h : S.K a = 4) (v : Int32) (b : Nat) : va_up (wPF cyI cyZ cyO5a941 S) a (.inr (4, [.int (S.O_Pump.f_on a), .int (S.O_Pump.f_off a), .int (S.O_Pump.f_rate a), .int v, .int (S.O_Pump.f_battery a), .int (S.O_Pump.f_hasCurrent a), .int (S.O_Pump.f_countsTwice a), .int (S.O_Pump.f_runs a), .int (S.O_Pump.f_starts a), .int (S.O_Pump.f_pumped a), va_rf (S.O_Pump.f_log a)])) b = wPF cyI cyZ cyO5a941 { S with O_Pump := { S.O_Pump with f_life := va_up S.O_Pump.f_life a v } } b := by by_cases hb : b = a <;> first | (simp only [wPF, va_up_ne _ _ hb]; done) | (simp only [wPF, va_up, if_neg hb]; done) | simp [wPF, va_re, va_up, va_rf, hb, h]
theorem wPu_O_Pump_f_life (cyI : ClassId) (cyZ : ClassId) (cyO5a941 : ClassId) (X : va_W) (S : wPS) {A : Nat → Prop} {a k : Nat} (hD : va_D A (X ++ va_pl S.L (wPF cyI cyZ cyO5a941 S))) (hL : a ∈ S.L) (h : S.K a = 4) (hk : (X ++ va_pl S.L (wPF cyI cyZ cyO5a941 S))[k]? = some (a, wPF cyI cyZ cyO5a941 S a)) (v : Int32) : (X ++ va_pl S.L (wPF cyI cyZ cyO5a941 S)).set k (a, .inr (4, [.int (S.O_Pump.f_on a), .int (S.O_Pump.f_off a), .int (S.O_Pump.f_rate a), .int v, .int (S.O_Pump.f_battery a), .int (S.O_Pump.f_hasCurrent a), .int (S.O_Pump.f_countsTwice a), .int (S.O_Pump.f_runs a), .int (S.O_Pump.f_starts a), .int (S.O_Pump.f_pumped a), va_rf (S.O_Pump.f_log a)])) = X ++ va_pl S.L (wPF cyI cyZ cyO5a941 { S with O_Pump := { S.O_Pump with f_life := va_up S.O_Pump.f_life a v } }) := by
  rw [va_pl_set hD hL hk]
  exact congrArg (fun l => X ++ l) (va_pl_congr (wSt_O_Pump_f_life cyI cyZ cyO5a941 S h v))
theorem wSt_O_Pump_f_battery (cyI : ClassId) (cyZ : ClassId) (cyO5a941 : ClassId) (S : wPS) {a : Nat} (h : S.K a = 4) (v : Int32) (b : Nat) : va_up (wPF cyI cyZ cyO5a941 S) a (.inr (4, [.int (S.O_Pump.f_on a), .int (S.O_Pump.f_off a), .int (S.O_Pump.f_rate a), .int (S.O_Pump.f_life a), .int v, .int (S.O_Pump.f_hasCurrent a), .int (S.O_Pump.f_countsTwice a), .int (S.O_Pump.f_runs a), .int (S.O_Pump.f_starts a), .int (S.O_Pump.f_pumped a), va_rf (S.O_Pump.f_log a)])) b = wPF cyI cyZ cyO5a941 { S with O_Pump := { S.O_Pump with f_battery := va_up S.O_Pump.f_battery a v } } b := by by_cases hb : b = a <;> first | (simp only [wPF, va_up_ne _ _ hb]; done) | (simp only [wPF, va_up, if_neg hb]; done) | simp [wPF, va_re, va_up, va_rf, hb, h]
theorem wPu_O_Pump_f_battery (cyI : ClassId) (cyZ : ClassId) (cyO5a941 : ClassId) (X : va_W) (S : wPS) {A : Nat → Prop} {a k : Nat} (hD : va_D A (X ++ va_pl S.L (wPF cyI cyZ cyO5a941 S))) (hL : a ∈ S.L) (h : S.K a = 4) (hk : (X ++ va_pl S.L (wPF cyI cyZ cyO5a941 S))[k]? = some (a, wPF cyI cyZ cyO5a941 S a)) (v : Int32) : (X ++ va_pl S.L (wPF cyI cyZ cyO5a941 S)).set k (a, .inr (4, [.int (S.O_Pump.f_on a), .int (S.O_Pump.f_off a), .int (S.O_Pump.f_rate a), .int (S.O_Pump.f_life a), .int v, .int (S.O_Pump.f_hasCurrent a), .int (S.O_Pump.f_countsTwice a), .int (S.O_Pump.f_runs a), .int (S.O_Pump.f_starts a), .int (S.O_Pump.f_pumped a), va_rf (S.O_Pump.f_log a)])) = X ++ va_pl S.L (wPF cyI cyZ cyO5a941 { S with O_Pump := { S.O_Pump with f_battery := va_up S.O_Pump.f_battery a v } }) := by
  rw [va_pl_set hD hL hk]
  exact congrArg (fun l => X ++ l) (va_pl_congr (wSt_O_Pump_f_battery cyI cyZ cyO5a941 S h v))
theorem wSt_O_Pump_f_hasCurrent (cyI : ClassId) (cyZ : ClassId) (cyO5a941 : ClassId) (S : wPS) {a : Nat} (h : S.K a = 4) (v : Int32) (b : Nat) : va_up (wPF cyI cyZ cyO5a941 S) a (.inr (4, [.int (S.O_Pump.f_on a), .int (S.O_Pump.f_off a), .int (S.O_Pump.f_rate a), .int (S.O_Pump.f_life a), .int (S.O_Pump.f_battery a), .int v, .int (S.O_Pump.f_countsTwice a), .int (S.O_Pump.f_runs a), .int (S.O_Pump.f_starts a), .int (S.O_Pump.f_pumped a), va_rf (S.O_Pump.f_log a)])) b = wPF cyI cyZ cyO5a941 { S with O_Pump := { S.O_Pump with f_hasCurrent := va_up S.O_Pump.f_hasCurrent a v } } b := by by_cases hb : b = a <;> first | (simp only [wPF, va_up_ne _ _ hb]; done) | (simp only [wPF, va_up, if_neg hb]; done) | simp [wPF, va_re, va_up, va_rf, hb, h]
theorem wPu_O_Pump_f_hasCurrent (cyI : ClassId) (cyZ : ClassId) (cyO5a941 : ClassId) (X : va_W) (S : wPS) {A : Nat → Prop} {a k : Nat} (hD : va_D A (X ++ va_pl S.L (wPF cyI cyZ cyO5a941 S))) (hL : a ∈ S.L) (h : S.K a = 4) (hk : (X ++ va_pl S.L (wPF cyI cyZ cyO5a941 S))[k]? = some (a, wPF cyI cyZ cyO5a941 S a)) (v : Int32) : (X ++ va_pl S.L (wPF cyI cyZ cyO5a941 S)).set k (a, .inr (4, [.int (S.O_Pump.f_on a), .int (S.O_Pump.f_off a), .int (S.O_Pump.f_rate a), .int (S.O_Pump.f_life a), .int (S.O_Pump.f_battery a), .int v, .int (S.O_Pump.f_countsTwice a), .int (S.O_Pump.f_runs a), .int (S.O_Pump.f_starts a), .int (S.O_Pump.f_pumped a), va_rf (S.O_Pump.f_log a)])) = X ++ va_pl S.L (wPF cyI cyZ cyO5a941 { S with O_Pump := { S.O_Pump with f_hasCurrent := va_up S.O_Pump.f_hasCurrent a v } }) := by
  rw [va_pl_set hD hL hk]
  exact congrArg (fun l => X ++ l) (va_pl_congr (wSt_O_Pump_f_hasCurrent cyI cyZ cyO5a941 S h v))
theorem wSt_O_Pump_f_countsTwice (cyI : ClassId) (cyZ : ClassId) (cyO5a941 : ClassId) (S : wPS) {a : Nat} (h : S.K a = 4) (v : Int32) (b : Nat) : va_up (wPF cyI cyZ cyO5a941 S) a (.inr (4, [.int (S.O_Pump.f_on a), .int (S.O_Pump.f_off a), .int (S.O_Pump.f_rate a), .int (S.O_Pump.f_life a), .int (S.O_Pump.f_battery a), .int (S.O_Pump.f_hasCurrent a), .int v, .int (S.O_Pump.f_runs a), .int (S.O_Pump.f_starts a), .int (S.O_Pump.f_pumped a), va_rf (S.O_Pump.f_log a)])) b = wPF cyI cyZ cyO5a941 { S with O_Pump := { S.O_Pump with f_countsTwice := va_up S.O_Pump.f_countsTwice a v } } b := by by_cases hb : b = a <;> first | (simp only [wPF, va_up_ne _ _ hb]; done) | (simp only [wPF, va_up, if_neg hb]; done) | simp [wPF, va_re, va_up, va_rf, hb, h]
theorem wPu_O_Pump_f_countsTwice (cyI : ClassId) (cyZ : ClassId) (cyO5a941 : ClassId) (X : va_W) (S : wPS) {A : Nat → Prop} {a k : Nat} (hD : va_D A (X ++ va_pl S.L (wPF cyI cyZ cyO5a941 S))) (hL : a ∈ S.L) (h : S.K a = 4) (hk : (X ++ va_pl S.L (wPF cyI cyZ cyO5a941 S))[k]? = some (a, wPF cyI cyZ cyO5a941 S a)) (v : Int32) : (X ++ va_pl S.L (wPF cyI cyZ cyO5a941 S)).set k (a, .inr (4, [.int (S.O_Pump.f_on a), .int (S.O_Pump.f_off a), .int (S.O_Pump.f_rate a), .int (S.O_Pump.f_life a), .int (S.O_Pump.f_battery a), .int (S.O_Pump.f_hasCurrent a), .int v, .int (S.O_Pump.f_runs a), .int (S.O_Pump.f_starts a), .int (S.O_Pump.f_pumped a), va_rf (S.O_Pump.f_log a)])) = X ++ va_pl S.L (wPF cyI cyZ cyO5a941 { S with O_Pump := { S.O_Pump with f_countsTwice := va_up S.O_Pump.f_countsTwice a v } }) := by
  rw [va_pl_set hD hL hk]
  exact congrArg (fun l => X ++ l) (va_pl_congr (wSt_O_Pump_f_countsTwice cyI cyZ cyO5a941 S h v))
theorem wSt_O_Pump_f_runs (cyI : ClassId) (cyZ : ClassId) (cyO5a941 : ClassId) (S : wPS) {a : Nat} (h : S.K a = 4) (v : Int32) (b : Nat) : va_up (wPF cyI cyZ cyO5a941 S) a (.inr (4, [.int (S.O_Pump.f_on a), .int (S.O_Pump.f_off a), .int (S.O_Pump.f_rate a), .int (S.O_Pump.f_life a), .int (S.O_Pump.f_battery a), .int (S.O_Pump.f_hasCurrent a), .int (S.O_Pump.f_countsTwice a), .int v, .int (S.O_Pump.f_starts a), .int (S.O_Pump.f_pumped a), va_rf (S.O_Pump.f_log a)])) b = wPF cyI cyZ cyO5a941 { S with O_Pump := { S.O_Pump with f_runs := va_up S.O_Pump.f_runs a v } } b := by by_cases hb : b = a <;> first | (simp only [wPF, va_up_ne _ _ hb]; done) | (simp only [wPF, va_up, if_neg hb]; done) | simp [wPF, va_re, va_up, va_rf, hb, h]
theorem wPu_O_Pump_f_runs (cyI : ClassId) (cyZ : ClassId) (cyO5a941 : ClassId) (X : va_W) (S : wPS) {A : Nat → Prop} {a k : Nat} (hD : va_D A (X ++ va_pl S.L (wPF cyI cyZ cyO5a941 S))) (hL : a ∈ S.L) (h : S.K a = 4) (hk : (X ++ va_pl S.L (wPF cyI cyZ cyO5a941 S))[k]? = some (a, wPF cyI cyZ cyO5a941 S a)) (v : Int32) : (X ++ va_pl S.L (wPF cyI cyZ cyO5a941 S)).set k (a, .inr (4, [.int (S.O_Pump.f_on a), .int (S.O_Pump.f_off a), .int (S.O_Pump.f_rate a), .int (S.O_Pump.f_life a), .int (S.O_Pump.f_battery a), .int (S.O_Pump.f_hasCurrent a), .int (S.O_Pump.f_countsTwice a), .int v, .int (S.O_Pump.f_starts a), .int (S.O_Pump.f_pumped a), va_rf (S.O_Pump.f_log a)])) = X ++ va_pl S.L (wPF cyI cyZ cyO5a941 { S with O_Pump := { S.O_Pump with f_runs := va_up S.O_Pump.f_runs a v } }) := by
  rw [va_pl_set hD hL hk]
  exact congrArg (fun l => X ++ l) (va_pl_congr (wSt_O_Pump_f_runs cyI cyZ cyO5a941 S h v))
theorem wSt_O_Pump_f_starts (cyI : ClassId) (cyZ : ClassId) (cyO5a941 : ClassId) (S : wPS) {a : Nat} (h : S.K a = 4) (v : Int32) (b : Nat) : va_up (wPF cyI cyZ cyO5a941 S) a (.inr (4, [.int (S.O_Pump.f_on a), .int (S.O_Pump.f_off a), .int (S.O_Pump.f_rate a), .int (S.O_Pump.f_life a), .int (S.O_Pump.f_battery a), .int (S.O_Pump.f_hasCurrent a), .int (S.O_Pump.f_countsTwice a), .int (S.O_Pump.f_runs a), .int v, .int (S.O_Pump.f_pumped a), va_rf (S.O_Pump.f_log a)])) b = wPF cyI cyZ cyO5a941 { S with O_Pump := { S.O_Pump with f_starts := va_up S.O_Pump.f_starts a v } } b := by by_cases hb : b = a <;> first | (simp only [wPF, va_up_ne _ _ hb]; done) | (simp only [wPF, va_up, if_neg hb]; done) | simp [wPF, va_re, va_up, va_rf, hb, h]
theorem wPu_O_Pump_f_starts (cyI : ClassId) (cyZ : ClassId) (cyO5a941 : ClassId) (X : va_W) (S : wPS) {A : Nat → Prop} {a k : Nat} (hD : va_D A (X ++ va_pl S.L (wPF cyI cyZ cyO5a941 S))) (hL : a ∈ S.L) (h : S.K a = 4) (hk : (X ++ va_pl S.L (wPF cyI cyZ cyO5a941 S))[k]? = some (a, wPF cyI cyZ cyO5a941 S a)) (v : Int32) : (X ++ va_pl S.L (wPF cyI cyZ cyO5a941 S)).set k (a, .inr (4, [.int (S.O_Pump.f_on a), .int (S.O_Pump.f_off a), .int (S.O_Pump.f_rate a), .int (S.O_Pump.f_life a), .int (S.O_Pump.f_battery a), .int (S.O_Pump.f_hasCurrent a), .int (S.O_Pump.f_countsTwice a), .int (S.O_Pump.f_runs a), .int v, .int (S.O_Pump.f_pumped a), va_rf (S.O_Pump.f_log a)])) = X ++ va_pl S.L (wPF cyI cyZ cyO5a941 { S with O_Pump := { S.O_Pump with f_starts := va_up S.O_Pump.f_starts a v } }) := by
  rw [va_pl_set hD hL hk]
  exact congrArg (fun l => X ++ l) (va_pl_congr (wSt_O_Pump_f_starts cyI cyZ cyO5a941 S h v))
theorem wSt_O_Pump_f_pumped (cyI : ClassId) (cyZ : ClassId) (cyO5a941 : ClassId) (S : wPS) {a : Nat} (h : S.K a = 4) (v : Int32) (b : Nat) : va_up (wPF cyI cyZ cyO5a941 S) a (.inr (4, [.int (S.O_Pump.f_on a), .int (S.O_Pump.f_off a), .int (S.O_Pump.f_rate a), .int (S.O_Pump.f_life a), .int (S.O_Pump.f_battery a), .int (S.O_Pump.f_hasCurrent a), .int (S.O_Pump.f_countsTwice a), .int (S.O_Pump.f_runs a), .int (S.O_Pump.f_starts a), .int v, va_rf (S.O_Pump.f_log a)])) b = wPF cyI cyZ cyO5a941 { S with O_Pump := { S.O_Pump with f_pumped := va_up S.O_Pump.f_pumped a v } } b := by by_cases hb : b = a <;> first | (simp only [wPF, va_up_ne _ _ hb]; done) | (simp only [wPF, va_up, if_neg hb]; done) | simp [wPF, va_re, va_up, va_rf, hb, h]
theorem wPu_O_Pump_f_pumped (cyI : ClassId) (cyZ : ClassId) (cyO5a941 : ClassId) (X : va_W) (S : wPS) {A : Nat → Prop} {a k : Nat} (hD : va_D A (X ++ va_pl S.L (wPF cyI cyZ cyO5a941 S))) (hL : a ∈ S.L) (h : S.K a = 4) (hk : (X ++ va_pl S.L (wPF cyI cyZ cyO5a941 S))[k]? = some (a, wPF cyI cyZ cyO5a941 S a)) (v : Int32) : (X ++ va_pl S.L (wPF cyI cyZ cyO5a941 S)).set k (a, .inr (4, [.int (S.O_Pump.f_on a), .int (S.O_Pump.f_off a), .int (S.O_Pump.f_rate a), .int (S.O_Pump.f_life a), .int (S.O_Pump.f_battery a), .int (S.O_Pump.f_hasCurrent a), .int (S.O_Pump.f_countsTwice a), .int (S.O_Pump.f_runs a), .int (S.O_Pump.f_starts a), .int v, va_rf (S.O_Pump.f_log a)])) = X ++ va_pl S.L (wPF cyI cyZ cyO5a941 { S with O_Pump := { S.O_Pump with f_pumped := va_up S.O_Pump.f_pumped a v } }) := by
  rw [va_pl_set hD hL hk]
  exact congrArg (fun l => X ++ l) (va_pl_congr (wSt_O_Pump_f_pumped cyI cyZ cyO5a941 S h v))
theorem wSt_O_Pump_f_log (cyI : ClassId) (cyZ : ClassId) (cyO5a941 : ClassId) (S : wPS) {a : Nat} (h : S.K a = 4) (v : Option Nat) (b : Nat) : va_up (wPF cyI cyZ cyO5a941 S) a (.inr (4, [.int (S.O_Pump.f_on a), .int (S.O_Pump.f_off a), .int (S.O_Pump.f_rate a), .int (S.O_Pump.f_life a), .int (S.O_Pump.f_battery a), .int (S.O_Pump.f_hasCurrent a), .int (S.O_Pump.f_countsTwice a), .int (S.O_Pump.f_runs a), .int (S.O_Pump.f_starts a), .int (S.O_Pump.f_pumped a), va_rf v])) b = wPF cyI cyZ cyO5a941 { S with O_Pump := { S.O_Pump with f_log := va_up S.O_Pump.f_log a v } } b := by by_cases hb : b = a <;> first | (simp only [wPF, va_up_ne _ _ hb]; done) | (simp only [wPF, va_up, if_neg hb]; done) | simp [wPF, va_re, va_up, va_rf, hb, h]
theorem wPu_O_Pump_f_log (cyI : ClassId) (cyZ : ClassId) (cyO5a941 : ClassId) (X : va_W) (S : wPS) {A : Nat → Prop} {a k : Nat} (hD : va_D A (X ++ va_pl S.L (wPF cyI cyZ cyO5a941 S))) (hL : a ∈ S.L) (h : S.K a = 4) (hk : (X ++ va_pl S.L (wPF cyI cyZ cyO5a941 S))[k]? = some (a, wPF cyI cyZ cyO5a941 S a)) (v : Option Nat) : (X ++ va_pl S.L (wPF cyI cyZ cyO5a941 S)).set k (a, .inr (4, [.int (S.O_Pump.f_on a), .int (S.O_Pump.f_off a), .int (S.O_Pump.f_rate a), .int (S.O_Pump.f_life a), .int (S.O_Pump.f_battery a), .int (S.O_Pump.f_hasCurrent a), .int (S.O_Pump.f_countsTwice a), .int (S.O_Pump.f_runs a), .int (S.O_Pump.f_starts a), .int (S.O_Pump.f_pumped a), va_rf v])) = X ++ va_pl S.L (wPF cyI cyZ cyO5a941 { S with O_Pump := { S.O_Pump with f_log := va_up S.O_Pump.f_log a v } }) := by
  rw [va_pl_set hD hL hk]
  exact congrArg (fun l => X ++ l) (va_pl_congr (wSt_O_Pump_f_log cyI cyZ cyO5a941 S h v))
theorem wNw_O_Pump (cyI : ClassId) (cyZ : ClassId) (cyO5a941 : ClassId) (S : wPS) (a b : Nat) : va_up (wPF cyI cyZ cyO5a941 S) a (.inr (4, [.int 0, .int 0, .int 0, .int 0, .int 0, .int 0, .int 0, .int 0, .int 0, .int 0, .null])) b = wPF cyI cyZ cyO5a941 { S with L := S.L ++ [a], K := va_up S.K a 4, O_Pump := { f_on := va_up S.O_Pump.f_on a 0, f_off := va_up S.O_Pump.f_off a 0, f_rate := va_up S.O_Pump.f_rate a 0, f_life := va_up S.O_Pump.f_life a 0, f_battery := va_up S.O_Pump.f_battery a 0, f_hasCurrent := va_up S.O_Pump.f_hasCurrent a 0, f_countsTwice := va_up S.O_Pump.f_countsTwice a 0, f_runs := va_up S.O_Pump.f_runs a 0, f_starts := va_up S.O_Pump.f_starts a 0, f_pumped := va_up S.O_Pump.f_pumped a 0, f_log := va_up S.O_Pump.f_log a none } } b := by by_cases hb : b = a <;> first | (simp only [wPF, va_up_ne _ _ hb]; done) | (simp only [wPF, va_up, if_neg hb]; done) | simp [wPF, va_re, va_up, va_rf, hb]
theorem wPn_O_Pump (cyI : ClassId) (cyZ : ClassId) (cyO5a941 : ClassId) (X : va_W) (S : wPS) {a : Nat} (ha : a ∉ S.L) : (X ++ va_pl S.L (wPF cyI cyZ cyO5a941 S)) ++ [(a, .inr (4, [.int 0, .int 0, .int 0, .int 0, .int 0, .int 0, .int 0, .int 0, .int 0, .int 0, .null]))] = X ++ va_pl (S.L ++ [a]) (wPF cyI cyZ cyO5a941 { S with L := S.L ++ [a], K := va_up S.K a 4, O_Pump := { f_on := va_up S.O_Pump.f_on a 0, f_off := va_up S.O_Pump.f_off a 0, f_rate := va_up S.O_Pump.f_rate a 0, f_life := va_up S.O_Pump.f_life a 0, f_battery := va_up S.O_Pump.f_battery a 0, f_hasCurrent := va_up S.O_Pump.f_hasCurrent a 0, f_countsTwice := va_up S.O_Pump.f_countsTwice a 0, f_runs := va_up S.O_Pump.f_runs a 0, f_starts := va_up S.O_Pump.f_starts a 0, f_pumped := va_up S.O_Pump.f_pumped a 0, f_log := va_up S.O_Pump.f_log a none } }) := by
  rw [List.append_assoc, va_pl_push ha]
  exact congrArg (fun l => X ++ l) (va_pl_congr (wNw_O_Pump cyI cyZ cyO5a941 S a))
theorem wAt_O_Reader (cyI : ClassId) (cyZ : ClassId) (cyO5a941 : ClassId) (S : wPS) {a : Nat} (h : S.K a = 5) : wPF cyI cyZ cyO5a941 S a = .inr (5, [va_rf (S.O_Reader.f_tape a), .int (S.O_Reader.f_token a), .int (S.O_Reader.f_begin a), .int (S.O_Reader.f_end a), .int (S.O_Reader.f_value a)]) := by simp [wPF, h]
theorem wGt_O_Reader (cyI : ClassId) (cyZ : ClassId) (cyO5a941 : ClassId) (X : va_W) (S : wPS) {a : Nat} (hL : a ∈ S.L) (h : S.K a = 5) : ∃ k : Nat, (X ++ va_pl S.L (wPF cyI cyZ cyO5a941 S))[k]? = some (a, wPF cyI cyZ cyO5a941 S a) ∧ (X ++ va_pl S.L (wPF cyI cyZ cyO5a941 S))[k]? = some (a, .inr (5, [va_rf (S.O_Reader.f_tape a), .int (S.O_Reader.f_token a), .int (S.O_Reader.f_begin a), .int (S.O_Reader.f_end a), .int (S.O_Reader.f_value a)])) := by
  obtain ⟨k, hk⟩ := va_pl_get (X := X) (f := wPF cyI cyZ cyO5a941 S) hL
  exact ⟨k, hk, hk.trans (congrArg (fun e => some (a, e)) (wAt_O_Reader cyI cyZ cyO5a941 S h))⟩
theorem wSt_O_Reader_f_tape (cyI : ClassId) (cyZ : ClassId) (cyO5a941 : ClassId) (S : wPS) {a : Nat} (h : S.K a = 5) (v : Option Nat) (b : Nat) : va_up (wPF cyI cyZ cyO5a941 S) a (.inr (5, [va_rf v, .int (S.O_Reader.f_token a), .int (S.O_Reader.f_begin a), .int (S.O_Reader.f_end a), .int (S.O_Reader.f_value a)])) b = wPF cyI cyZ cyO5a941 { S with O_Reader := { S.O_Reader with f_tape := va_up S.O_Reader.f_tape a v } } b := by by_cases hb : b = a <;> first | (simp only [wPF, va_up_ne _ _ hb]; done) | (simp only [wPF, va_up, if_neg hb]; done) | simp [wPF, va_re, va_up, va_rf, hb, h]
theorem wPu_O_Reader_f_tape (cyI : ClassId) (cyZ : ClassId) (cyO5a941 : ClassId) (X : va_W) (S : wPS) {A : Nat → Prop} {a k : Nat} (hD : va_D A (X ++ va_pl S.L (wPF cyI cyZ cyO5a941 S))) (hL : a ∈ S.L) (h : S.K a = 5) (hk : (X ++ va_pl S.L (wPF cyI cyZ cyO5a941 S))[k]? = some (a, wPF cyI cyZ cyO5a941 S a)) (v : Option Nat) : (X ++ va_pl S.L (wPF cyI cyZ cyO5a941 S)).set k (a, .inr (5, [va_rf v, .int (S.O_Reader.f_token a), .int (S.O_Reader.f_begin a), .int (S.O_Reader.f_end a), .int (S.O_Reader.f_value a)])) = X ++ va_pl S.L (wPF cyI cyZ cyO5a941 { S with O_Reader := { S.O_Reader with f_tape := va_up S.O_Reader.f_tape a v } }) := by
  rw [va_pl_set hD hL hk]
  exact congrArg (fun l => X ++ l) (va_pl_congr (wSt_O_Reader_f_tape cyI cyZ cyO5a941 S h v))
theorem wSt_O_Reader_f_token (cyI : ClassId) (cyZ : ClassId) (cyO5a941 : ClassId) (S : wPS) {a : Nat} (h : S.K a = 5) (v : Int32) (b : Nat) : va_up (wPF cyI cyZ cyO5a941 S) a (.inr (5, [va_rf (S.O_Reader.f_tape a), .int v, .int (S.O_Reader.f_begin a), .int (S.O_Reader.f_end a), .int (S.O_Reader.f_value a)])) b = wPF cyI cyZ cyO5a941 { S with O_Reader := { S.O_Reader with f_token := va_up S.O_Reader.f_token a v } } b := by by_cases hb : b = a <;> first | (simp only [wPF, va_up_ne _ _ hb]; done) | (simp only [wPF, va_up, if_neg hb]; done) | simp [wPF, va_re, va_up, va_rf, hb, h]
theorem wPu_O_Reader_f_token (cyI : ClassId) (cyZ : ClassId) (cyO5a941 : ClassId) (X : va_W) (S : wPS) {A : Nat → Prop} {a k : Nat} (hD : va_D A (X ++ va_pl S.L (wPF cyI cyZ cyO5a941 S))) (hL : a ∈ S.L) (h : S.K a = 5) (hk : (X ++ va_pl S.L (wPF cyI cyZ cyO5a941 S))[k]? = some (a, wPF cyI cyZ cyO5a941 S a)) (v : Int32) : (X ++ va_pl S.L (wPF cyI cyZ cyO5a941 S)).set k (a, .inr (5, [va_rf (S.O_Reader.f_tape a), .int v, .int (S.O_Reader.f_begin a), .int (S.O_Reader.f_end a), .int (S.O_Reader.f_value a)])) = X ++ va_pl S.L (wPF cyI cyZ cyO5a941 { S with O_Reader := { S.O_Reader with f_token := va_up S.O_Reader.f_token a v } }) := by
  rw [va_pl_set hD hL hk]
  exact congrArg (fun l => X ++ l) (va_pl_congr (wSt_O_Reader_f_token cyI cyZ cyO5a941 S h v))
theorem wSt_O_Reader_f_begin (cyI : ClassId) (cyZ : ClassId) (cyO5a941 : ClassId) (S : wPS) {a : Nat} (h : S.K a = 5) (v : Int32) (b : Nat) : va_up (wPF cyI cyZ cyO5a941 S) a (.inr (5, [va_rf (S.O_Reader.f_tape a), .int (S.O_Reader.f_token a), .int v, .int (S.O_Reader.f_end a), .int (S.O_Reader.f_value a)])) b = wPF cyI cyZ cyO5a941 { S with O_Reader := { S.O_Reader with f_begin := va_up S.O_Reader.f_begin a v } } b := by by_cases hb : b = a <;> first | (simp only [wPF, va_up_ne _ _ hb]; done) | (simp only [wPF, va_up, if_neg hb]; done) | simp [wPF, va_re, va_up, va_rf, hb, h]
theorem wPu_O_Reader_f_begin (cyI : ClassId) (cyZ : ClassId) (cyO5a941 : ClassId) (X : va_W) (S : wPS) {A : Nat → Prop} {a k : Nat} (hD : va_D A (X ++ va_pl S.L (wPF cyI cyZ cyO5a941 S))) (hL : a ∈ S.L) (h : S.K a = 5) (hk : (X ++ va_pl S.L (wPF cyI cyZ cyO5a941 S))[k]? = some (a, wPF cyI cyZ cyO5a941 S a)) (v : Int32) : (X ++ va_pl S.L (wPF cyI cyZ cyO5a941 S)).set k (a, .inr (5, [va_rf (S.O_Reader.f_tape a), .int (S.O_Reader.f_token a), .int v, .int (S.O_Reader.f_end a), .int (S.O_Reader.f_value a)])) = X ++ va_pl S.L (wPF cyI cyZ cyO5a941 { S with O_Reader := { S.O_Reader with f_begin := va_up S.O_Reader.f_begin a v } }) := by
  rw [va_pl_set hD hL hk]
  exact congrArg (fun l => X ++ l) (va_pl_congr (wSt_O_Reader_f_begin cyI cyZ cyO5a941 S h v))
theorem wSt_O_Reader_f_end (cyI : ClassId) (cyZ : ClassId) (cyO5a941 : ClassId) (S : wPS) {a : Nat} (h : S.K a = 5) (v : Int32) (b : Nat) : va_up (wPF cyI cyZ cyO5a941 S) a (.inr (5, [va_rf (S.O_Reader.f_tape a), .int (S.O_Reader.f_token a), .int (S.O_Reader.f_begin a), .int v, .int (S.O_Reader.f_value a)])) b = wPF cyI cyZ cyO5a941 { S with O_Reader := { S.O_Reader with f_end := va_up S.O_Reader.f_end a v } } b := by by_cases hb : b = a <;> first | (simp only [wPF, va_up_ne _ _ hb]; done) | (simp only [wPF, va_up, if_neg hb]; done) | simp [wPF, va_re, va_up, va_rf, hb, h]
theorem wPu_O_Reader_f_end (cyI : ClassId) (cyZ : ClassId) (cyO5a941 : ClassId) (X : va_W) (S : wPS) {A : Nat → Prop} {a k : Nat} (hD : va_D A (X ++ va_pl S.L (wPF cyI cyZ cyO5a941 S))) (hL : a ∈ S.L) (h : S.K a = 5) (hk : (X ++ va_pl S.L (wPF cyI cyZ cyO5a941 S))[k]? = some (a, wPF cyI cyZ cyO5a941 S a)) (v : Int32) : (X ++ va_pl S.L (wPF cyI cyZ cyO5a941 S)).set k (a, .inr (5, [va_rf (S.O_Reader.f_tape a), .int (S.O_Reader.f_token a), .int (S.O_Reader.f_begin a), .int v, .int (S.O_Reader.f_value a)])) = X ++ va_pl S.L (wPF cyI cyZ cyO5a941 { S with O_Reader := { S.O_Reader with f_end := va_up S.O_Reader.f_end a v } }) := by
  rw [va_pl_set hD hL hk]
  exact congrArg (fun l => X ++ l) (va_pl_congr (wSt_O_Reader_f_end cyI cyZ cyO5a941 S h v))
theorem wSt_O_Reader_f_value (cyI : ClassId) (cyZ : ClassId) (cyO5a941 : ClassId) (S : wPS) {a : Nat} (h : S.K a = 5) (v : Int32) (b : Nat) : va_up (wPF cyI cyZ cyO5a941 S) a (.inr (5, [va_rf (S.O_Reader.f_tape a), .int (S.O_Reader.f_token a), .int (S.O_Reader.f_begin a), .int (S.O_Reader.f_end a), .int v])) b = wPF cyI cyZ cyO5a941 { S with O_Reader := { S.O_Reader with f_value := va_up S.O_Reader.f_value a v } } b := by by_cases hb : b = a <;> first | (simp only [wPF, va_up_ne _ _ hb]; done) | (simp only [wPF, va_up, if_neg hb]; done) | simp [wPF, va_re, va_up, va_rf, hb, h]
theorem wPu_O_Reader_f_value (cyI : ClassId) (cyZ : ClassId) (cyO5a941 : ClassId) (X : va_W) (S : wPS) {A : Nat → Prop} {a k : Nat} (hD : va_D A (X ++ va_pl S.L (wPF cyI cyZ cyO5a941 S))) (hL : a ∈ S.L) (h : S.K a = 5) (hk : (X ++ va_pl S.L (wPF cyI cyZ cyO5a941 S))[k]? = some (a, wPF cyI cyZ cyO5a941 S a)) (v : Int32) : (X ++ va_pl S.L (wPF cyI cyZ cyO5a941 S)).set k (a, .inr (5, [va_rf (S.O_Reader.f_tape a), .int (S.O_Reader.f_token a), .int (S.O_Reader.f_begin a), .int (S.O_Reader.f_end a), .int v])) = X ++ va_pl S.L (wPF cyI cyZ cyO5a941 { S with O_Reader := { S.O_Reader with f_value := va_up S.O_Reader.f_value a v } }) := by
  rw [va_pl_set hD hL hk]
  exact congrArg (fun l => X ++ l) (va_pl_congr (wSt_O_Reader_f_value cyI cyZ cyO5a941 S h v))
theorem wNw_O_Reader (cyI : ClassId) (cyZ : ClassId) (cyO5a941 : ClassId) (S : wPS) (a b : Nat) : va_up (wPF cyI cyZ cyO5a941 S) a (.inr (5, [.null, .int 0, .int 0, .int 0, .int 0])) b = wPF cyI cyZ cyO5a941 { S with L := S.L ++ [a], K := va_up S.K a 5, O_Reader := { f_tape := va_up S.O_Reader.f_tape a none, f_token := va_up S.O_Reader.f_token a 0, f_begin := va_up S.O_Reader.f_begin a 0, f_end := va_up S.O_Reader.f_end a 0, f_value := va_up S.O_Reader.f_value a 0 } } b := by by_cases hb : b = a <;> first | (simp only [wPF, va_up_ne _ _ hb]; done) | (simp only [wPF, va_up, if_neg hb]; done) | simp [wPF, va_re, va_up, va_rf, hb]
theorem wPn_O_Reader (cyI : ClassId) (cyZ : ClassId) (cyO5a941 : ClassId) (X : va_W) (S : wPS) {a : Nat} (ha : a ∉ S.L) : (X ++ va_pl S.L (wPF cyI cyZ cyO5a941 S)) ++ [(a, .inr (5, [.null, .int 0, .int 0, .int 0, .int 0]))] = X ++ va_pl (S.L ++ [a]) (wPF cyI cyZ cyO5a941 { S with L := S.L ++ [a], K := va_up S.K a 5, O_Reader := { f_tape := va_up S.O_Reader.f_tape a none, f_token := va_up S.O_Reader.f_token a 0, f_begin := va_up S.O_Reader.f_begin a 0, f_end := va_up S.O_Reader.f_end a 0, f_value := va_up S.O_Reader.f_value a 0 } }) := by
  rw [List.append_assoc, va_pl_push ha]
  exact congrArg (fun l => X ++ l) (va_pl_congr (wNw_O_Reader cyI cyZ cyO5a941 S a))
theorem wAt_O_Sheet (cyI : ClassId) (cyZ : ClassId) (cyO5a941 : ClassId) (S : wPS) {a : Nat} (h : S.K a = 6) : wPF cyI cyZ cyO5a941 S a = .inr (6, [.int (S.O_Sheet.f_bits a), .int (S.O_Sheet.f_size a), va_rf (S.O_Sheet.f_numbers a)]) := by simp [wPF, h]
theorem wGt_O_Sheet (cyI : ClassId) (cyZ : ClassId) (cyO5a941 : ClassId) (X : va_W) (S : wPS) {a : Nat} (hL : a ∈ S.L) (h : S.K a = 6) : ∃ k : Nat, (X ++ va_pl S.L (wPF cyI cyZ cyO5a941 S))[k]? = some (a, wPF cyI cyZ cyO5a941 S a) ∧ (X ++ va_pl S.L (wPF cyI cyZ cyO5a941 S))[k]? = some (a, .inr (6, [.int (S.O_Sheet.f_bits a), .int (S.O_Sheet.f_size a), va_rf (S.O_Sheet.f_numbers a)])) := by
  obtain ⟨k, hk⟩ := va_pl_get (X := X) (f := wPF cyI cyZ cyO5a941 S) hL
  exact ⟨k, hk, hk.trans (congrArg (fun e => some (a, e)) (wAt_O_Sheet cyI cyZ cyO5a941 S h))⟩
theorem wSt_O_Sheet_f_bits (cyI : ClassId) (cyZ : ClassId) (cyO5a941 : ClassId) (S : wPS) {a : Nat} (h : S.K a = 6) (v : Int32) (b : Nat) : va_up (wPF cyI cyZ cyO5a941 S) a (.inr (6, [.int v, .int (S.O_Sheet.f_size a), va_rf (S.O_Sheet.f_numbers a)])) b = wPF cyI cyZ cyO5a941 { S with O_Sheet := { S.O_Sheet with f_bits := va_up S.O_Sheet.f_bits a v } } b := by by_cases hb : b = a <;> first | (simp only [wPF, va_up_ne _ _ hb]; done) | (simp only [wPF, va_up, if_neg hb]; done) | simp [wPF, va_re, va_up, va_rf, hb, h]
theorem wPu_O_Sheet_f_bits (cyI : ClassId) (cyZ : ClassId) (cyO5a941 : ClassId) (X : va_W) (S : wPS) {A : Nat → Prop} {a k : Nat} (hD : va_D A (X ++ va_pl S.L (wPF cyI cyZ cyO5a941 S))) (hL : a ∈ S.L) (h : S.K a = 6) (hk : (X ++ va_pl S.L (wPF cyI cyZ cyO5a941 S))[k]? = some (a, wPF cyI cyZ cyO5a941 S a)) (v : Int32) : (X ++ va_pl S.L (wPF cyI cyZ cyO5a941 S)).set k (a, .inr (6, [.int v, .int (S.O_Sheet.f_size a), va_rf (S.O_Sheet.f_numbers a)])) = X ++ va_pl S.L (wPF cyI cyZ cyO5a941 { S with O_Sheet := { S.O_Sheet with f_bits := va_up S.O_Sheet.f_bits a v } }) := by
  rw [va_pl_set hD hL hk]
  exact congrArg (fun l => X ++ l) (va_pl_congr (wSt_O_Sheet_f_bits cyI cyZ cyO5a941 S h v))
theorem wSt_O_Sheet_f_size (cyI : ClassId) (cyZ : ClassId) (cyO5a941 : ClassId) (S : wPS) {a : Nat} (h : S.K a = 6) (v : Int32) (b : Nat) : va_up (wPF cyI cyZ cyO5a941 S) a (.inr (6, [.int (S.O_Sheet.f_bits a), .int v, va_rf (S.O_Sheet.f_numbers a)])) b = wPF cyI cyZ cyO5a941 { S with O_Sheet := { S.O_Sheet with f_size := va_up S.O_Sheet.f_size a v } } b := by by_cases hb : b = a <;> first | (simp only [wPF, va_up_ne _ _ hb]; done) | (simp only [wPF, va_up, if_neg hb]; done) | simp [wPF, va_re, va_up, va_rf, hb, h]
theorem wPu_O_Sheet_f_size (cyI : ClassId) (cyZ : ClassId) (cyO5a941 : ClassId) (X : va_W) (S : wPS) {A : Nat → Prop} {a k : Nat} (hD : va_D A (X ++ va_pl S.L (wPF cyI cyZ cyO5a941 S))) (hL : a ∈ S.L) (h : S.K a = 6) (hk : (X ++ va_pl S.L (wPF cyI cyZ cyO5a941 S))[k]? = some (a, wPF cyI cyZ cyO5a941 S a)) (v : Int32) : (X ++ va_pl S.L (wPF cyI cyZ cyO5a941 S)).set k (a, .inr (6, [.int (S.O_Sheet.f_bits a), .int v, va_rf (S.O_Sheet.f_numbers a)])) = X ++ va_pl S.L (wPF cyI cyZ cyO5a941 { S with O_Sheet := { S.O_Sheet with f_size := va_up S.O_Sheet.f_size a v } }) := by
  rw [va_pl_set hD hL hk]
  exact congrArg (fun l => X ++ l) (va_pl_congr (wSt_O_Sheet_f_size cyI cyZ cyO5a941 S h v))
theorem wSt_O_Sheet_f_numbers (cyI : ClassId) (cyZ : ClassId) (cyO5a941 : ClassId) (S : wPS) {a : Nat} (h : S.K a = 6) (v : Option Nat) (b : Nat) : va_up (wPF cyI cyZ cyO5a941 S) a (.inr (6, [.int (S.O_Sheet.f_bits a), .int (S.O_Sheet.f_size a), va_rf v])) b = wPF cyI cyZ cyO5a941 { S with O_Sheet := { S.O_Sheet with f_numbers := va_up S.O_Sheet.f_numbers a v } } b := by by_cases hb : b = a <;> first | (simp only [wPF, va_up_ne _ _ hb]; done) | (simp only [wPF, va_up, if_neg hb]; done) | simp [wPF, va_re, va_up, va_rf, hb, h]
theorem wPu_O_Sheet_f_numbers (cyI : ClassId) (cyZ : ClassId) (cyO5a941 : ClassId) (X : va_W) (S : wPS) {A : Nat → Prop} {a k : Nat} (hD : va_D A (X ++ va_pl S.L (wPF cyI cyZ cyO5a941 S))) (hL : a ∈ S.L) (h : S.K a = 6) (hk : (X ++ va_pl S.L (wPF cyI cyZ cyO5a941 S))[k]? = some (a, wPF cyI cyZ cyO5a941 S a)) (v : Option Nat) : (X ++ va_pl S.L (wPF cyI cyZ cyO5a941 S)).set k (a, .inr (6, [.int (S.O_Sheet.f_bits a), .int (S.O_Sheet.f_size a), va_rf v])) = X ++ va_pl S.L (wPF cyI cyZ cyO5a941 { S with O_Sheet := { S.O_Sheet with f_numbers := va_up S.O_Sheet.f_numbers a v } }) := by
  rw [va_pl_set hD hL hk]
  exact congrArg (fun l => X ++ l) (va_pl_congr (wSt_O_Sheet_f_numbers cyI cyZ cyO5a941 S h v))
theorem wNw_O_Sheet (cyI : ClassId) (cyZ : ClassId) (cyO5a941 : ClassId) (S : wPS) (a b : Nat) : va_up (wPF cyI cyZ cyO5a941 S) a (.inr (6, [.int 0, .int 0, .null])) b = wPF cyI cyZ cyO5a941 { S with L := S.L ++ [a], K := va_up S.K a 6, O_Sheet := { f_bits := va_up S.O_Sheet.f_bits a 0, f_size := va_up S.O_Sheet.f_size a 0, f_numbers := va_up S.O_Sheet.f_numbers a none } } b := by by_cases hb : b = a <;> first | (simp only [wPF, va_up_ne _ _ hb]; done) | (simp only [wPF, va_up, if_neg hb]; done) | simp [wPF, va_re, va_up, va_rf, hb]
theorem wPn_O_Sheet (cyI : ClassId) (cyZ : ClassId) (cyO5a941 : ClassId) (X : va_W) (S : wPS) {a : Nat} (ha : a ∉ S.L) : (X ++ va_pl S.L (wPF cyI cyZ cyO5a941 S)) ++ [(a, .inr (6, [.int 0, .int 0, .null]))] = X ++ va_pl (S.L ++ [a]) (wPF cyI cyZ cyO5a941 { S with L := S.L ++ [a], K := va_up S.K a 6, O_Sheet := { f_bits := va_up S.O_Sheet.f_bits a 0, f_size := va_up S.O_Sheet.f_size a 0, f_numbers := va_up S.O_Sheet.f_numbers a none } }) := by
  rw [List.append_assoc, va_pl_push ha]
  exact congrArg (fun l => X ++ l) (va_pl_congr (wNw_O_Sheet cyI cyZ cyO5a941 S a))
theorem wAt_O_Skies (cyI : ClassId) (cyZ : ClassId) (cyO5a941 : ClassId) (S : wPS) {a : Nat} (h : S.K a = 7) : wPF cyI cyZ cyO5a941 S a = .inr (7, [.int (S.O_Skies.f_count a), va_rf (S.O_Skies.f_length a), va_rf (S.O_Skies.f_deeds a), va_rf (S.O_Skies.f_values a)]) := by simp [wPF, h]
theorem wGt_O_Skies (cyI : ClassId) (cyZ : ClassId) (cyO5a941 : ClassId) (X : va_W) (S : wPS) {a : Nat} (hL : a ∈ S.L) (h : S.K a = 7) : ∃ k : Nat, (X ++ va_pl S.L (wPF cyI cyZ cyO5a941 S))[k]? = some (a, wPF cyI cyZ cyO5a941 S a) ∧ (X ++ va_pl S.L (wPF cyI cyZ cyO5a941 S))[k]? = some (a, .inr (7, [.int (S.O_Skies.f_count a), va_rf (S.O_Skies.f_length a), va_rf (S.O_Skies.f_deeds a), va_rf (S.O_Skies.f_values a)])) := by
  obtain ⟨k, hk⟩ := va_pl_get (X := X) (f := wPF cyI cyZ cyO5a941 S) hL
  exact ⟨k, hk, hk.trans (congrArg (fun e => some (a, e)) (wAt_O_Skies cyI cyZ cyO5a941 S h))⟩
theorem wSt_O_Skies_f_count (cyI : ClassId) (cyZ : ClassId) (cyO5a941 : ClassId) (S : wPS) {a : Nat} (h : S.K a = 7) (v : Int32) (b : Nat) : va_up (wPF cyI cyZ cyO5a941 S) a (.inr (7, [.int v, va_rf (S.O_Skies.f_length a), va_rf (S.O_Skies.f_deeds a), va_rf (S.O_Skies.f_values a)])) b = wPF cyI cyZ cyO5a941 { S with O_Skies := { S.O_Skies with f_count := va_up S.O_Skies.f_count a v } } b := by by_cases hb : b = a <;> first | (simp only [wPF, va_up_ne _ _ hb]; done) | (simp only [wPF, va_up, if_neg hb]; done) | simp [wPF, va_re, va_up, va_rf, hb, h]
theorem wPu_O_Skies_f_count (cyI : ClassId) (cyZ : ClassId) (cyO5a941 : ClassId) (X : va_W) (S : wPS) {A : Nat → Prop} {a k : Nat} (hD : va_D A (X ++ va_pl S.L (wPF cyI cyZ cyO5a941 S))) (hL : a ∈ S.L) (h : S.K a = 7) (hk : (X ++ va_pl S.L (wPF cyI cyZ cyO5a941 S))[k]? = some (a, wPF cyI cyZ cyO5a941 S a)) (v : Int32) : (X ++ va_pl S.L (wPF cyI cyZ cyO5a941 S)).set k (a, .inr (7, [.int v, va_rf (S.O_Skies.f_length a), va_rf (S.O_Skies.f_deeds a), va_rf (S.O_Skies.f_values a)])) = X ++ va_pl S.L (wPF cyI cyZ cyO5a941 { S with O_Skies := { S.O_Skies with f_count := va_up S.O_Skies.f_count a v } }) := by
  rw [va_pl_set hD hL hk]
  exact congrArg (fun l => X ++ l) (va_pl_congr (wSt_O_Skies_f_count cyI cyZ cyO5a941 S h v))
theorem wSt_O_Skies_f_length (cyI : ClassId) (cyZ : ClassId) (cyO5a941 : ClassId) (S : wPS) {a : Nat} (h : S.K a = 7) (v : Option Nat) (b : Nat) : va_up (wPF cyI cyZ cyO5a941 S) a (.inr (7, [.int (S.O_Skies.f_count a), va_rf v, va_rf (S.O_Skies.f_deeds a), va_rf (S.O_Skies.f_values a)])) b = wPF cyI cyZ cyO5a941 { S with O_Skies := { S.O_Skies with f_length := va_up S.O_Skies.f_length a v } } b := by by_cases hb : b = a <;> first | (simp only [wPF, va_up_ne _ _ hb]; done) | (simp only [wPF, va_up, if_neg hb]; done) | simp [wPF, va_re, va_up, va_rf, hb, h]
theorem wPu_O_Skies_f_length (cyI : ClassId) (cyZ : ClassId) (cyO5a941 : ClassId) (X : va_W) (S : wPS) {A : Nat → Prop} {a k : Nat} (hD : va_D A (X ++ va_pl S.L (wPF cyI cyZ cyO5a941 S))) (hL : a ∈ S.L) (h : S.K a = 7) (hk : (X ++ va_pl S.L (wPF cyI cyZ cyO5a941 S))[k]? = some (a, wPF cyI cyZ cyO5a941 S a)) (v : Option Nat) : (X ++ va_pl S.L (wPF cyI cyZ cyO5a941 S)).set k (a, .inr (7, [.int (S.O_Skies.f_count a), va_rf v, va_rf (S.O_Skies.f_deeds a), va_rf (S.O_Skies.f_values a)])) = X ++ va_pl S.L (wPF cyI cyZ cyO5a941 { S with O_Skies := { S.O_Skies with f_length := va_up S.O_Skies.f_length a v } }) := by
  rw [va_pl_set hD hL hk]
  exact congrArg (fun l => X ++ l) (va_pl_congr (wSt_O_Skies_f_length cyI cyZ cyO5a941 S h v))
theorem wSt_O_Skies_f_deeds (cyI : ClassId) (cyZ : ClassId) (cyO5a941 : ClassId) (S : wPS) {a : Nat} (h : S.K a = 7) (v : Option Nat) (b : Nat) : va_up (wPF cyI cyZ cyO5a941 S) a (.inr (7, [.int (S.O_Skies.f_count a), va_rf (S.O_Skies.f_length a), va_rf v, va_rf (S.O_Skies.f_values a)])) b = wPF cyI cyZ cyO5a941 { S with O_Skies := { S.O_Skies with f_deeds := va_up S.O_Skies.f_deeds a v } } b := by by_cases hb : b = a <;> first | (simp only [wPF, va_up_ne _ _ hb]; done) | (simp only [wPF, va_up, if_neg hb]; done) | simp [wPF, va_re, va_up, va_rf, hb, h]
theorem wPu_O_Skies_f_deeds (cyI : ClassId) (cyZ : ClassId) (cyO5a941 : ClassId) (X : va_W) (S : wPS) {A : Nat → Prop} {a k : Nat} (hD : va_D A (X ++ va_pl S.L (wPF cyI cyZ cyO5a941 S))) (hL : a ∈ S.L) (h : S.K a = 7) (hk : (X ++ va_pl S.L (wPF cyI cyZ cyO5a941 S))[k]? = some (a, wPF cyI cyZ cyO5a941 S a)) (v : Option Nat) : (X ++ va_pl S.L (wPF cyI cyZ cyO5a941 S)).set k (a, .inr (7, [.int (S.O_Skies.f_count a), va_rf (S.O_Skies.f_length a), va_rf v, va_rf (S.O_Skies.f_values a)])) = X ++ va_pl S.L (wPF cyI cyZ cyO5a941 { S with O_Skies := { S.O_Skies with f_deeds := va_up S.O_Skies.f_deeds a v } }) := by
  rw [va_pl_set hD hL hk]
  exact congrArg (fun l => X ++ l) (va_pl_congr (wSt_O_Skies_f_deeds cyI cyZ cyO5a941 S h v))
theorem wSt_O_Skies_f_values (cyI : ClassId) (cyZ : ClassId) (cyO5a941 : ClassId) (S : wPS) {a : Nat} (h : S.K a = 7) (v : Option Nat) (b : Nat) : va_up (wPF cyI cyZ cyO5a941 S) a (.inr (7, [.int (S.O_Skies.f_count a), va_rf (S.O_Skies.f_length a), va_rf (S.O_Skies.f_deeds a), va_rf v])) b = wPF cyI cyZ cyO5a941 { S with O_Skies := { S.O_Skies with f_values := va_up S.O_Skies.f_values a v } } b := by by_cases hb : b = a <;> first | (simp only [wPF, va_up_ne _ _ hb]; done) | (simp only [wPF, va_up, if_neg hb]; done) | simp [wPF, va_re, va_up, va_rf, hb, h]
theorem wPu_O_Skies_f_values (cyI : ClassId) (cyZ : ClassId) (cyO5a941 : ClassId) (X : va_W) (S : wPS) {A : Nat → Prop} {a k : Nat} (hD : va_D A (X ++ va_pl S.L (wPF cyI cyZ cyO5a941 S))) (hL : a ∈ S.L) (h : S.K a = 7) (hk : (X ++ va_pl S.L (wPF cyI cyZ cyO5a941 S))[k]? = some (a, wPF cyI cyZ cyO5a941 S a)) (v : Option Nat) : (X ++ va_pl S.L (wPF cyI cyZ cyO5a941 S)).set k (a, .inr (7, [.int (S.O_Skies.f_count a), va_rf (S.O_Skies.f_length a), va_rf (S.O_Skies.f_deeds a), va_rf v])) = X ++ va_pl S.L (wPF cyI cyZ cyO5a941 { S with O_Skies := { S.O_Skies with f_values := va_up S.O_Skies.f_values a v } }) := by
  rw [va_pl_set hD hL hk]
  exact congrArg (fun l => X ++ l) (va_pl_congr (wSt_O_Skies_f_values cyI cyZ cyO5a941 S h v))
theorem wNw_O_Skies (cyI : ClassId) (cyZ : ClassId) (cyO5a941 : ClassId) (S : wPS) (a b : Nat) : va_up (wPF cyI cyZ cyO5a941 S) a (.inr (7, [.int 0, .null, .null, .null])) b = wPF cyI cyZ cyO5a941 { S with L := S.L ++ [a], K := va_up S.K a 7, O_Skies := { f_count := va_up S.O_Skies.f_count a 0, f_length := va_up S.O_Skies.f_length a none, f_deeds := va_up S.O_Skies.f_deeds a none, f_values := va_up S.O_Skies.f_values a none } } b := by by_cases hb : b = a <;> first | (simp only [wPF, va_up_ne _ _ hb]; done) | (simp only [wPF, va_up, if_neg hb]; done) | simp [wPF, va_re, va_up, va_rf, hb]
theorem wPn_O_Skies (cyI : ClassId) (cyZ : ClassId) (cyO5a941 : ClassId) (X : va_W) (S : wPS) {a : Nat} (ha : a ∉ S.L) : (X ++ va_pl S.L (wPF cyI cyZ cyO5a941 S)) ++ [(a, .inr (7, [.int 0, .null, .null, .null]))] = X ++ va_pl (S.L ++ [a]) (wPF cyI cyZ cyO5a941 { S with L := S.L ++ [a], K := va_up S.K a 7, O_Skies := { f_count := va_up S.O_Skies.f_count a 0, f_length := va_up S.O_Skies.f_length a none, f_deeds := va_up S.O_Skies.f_deeds a none, f_values := va_up S.O_Skies.f_values a none } }) := by
  rw [List.append_assoc, va_pl_push ha]
  exact congrArg (fun l => X ++ l) (va_pl_congr (wNw_O_Skies cyI cyZ cyO5a941 S a))
theorem wAt_O_Tape (cyI : ClassId) (cyZ : ClassId) (cyO5a941 : ClassId) (S : wPS) {a : Nat} (h : S.K a = 8) : wPF cyI cyZ cyO5a941 S a = .inr (8, [va_rf (S.O_Tape.f_bytes a), .int (S.O_Tape.f_size a)]) := by simp [wPF, h]
theorem wGt_O_Tape (cyI : ClassId) (cyZ : ClassId) (cyO5a941 : ClassId) (X : va_W) (S : wPS) {a : Nat} (hL : a ∈ S.L) (h : S.K a = 8) : ∃ k : Nat, (X ++ va_pl S.L (wPF cyI cyZ cyO5a941 S))[k]? = some (a, wPF cyI cyZ cyO5a941 S a) ∧ (X ++ va_pl S.L (wPF cyI cyZ cyO5a941 S))[k]? = some (a, .inr (8, [va_rf (S.O_Tape.f_bytes a), .int (S.O_Tape.f_size a)])) := by
  obtain ⟨k, hk⟩ := va_pl_get (X := X) (f := wPF cyI cyZ cyO5a941 S) hL
  exact ⟨k, hk, hk.trans (congrArg (fun e => some (a, e)) (wAt_O_Tape cyI cyZ cyO5a941 S h))⟩
theorem wSt_O_Tape_f_bytes (cyI : ClassId) (cyZ : ClassId) (cyO5a941 : ClassId) (S : wPS) {a : Nat} (h : S.K a = 8) (v : Option Nat) (b : Nat) : va_up (wPF cyI cyZ cyO5a941 S) a (.inr (8, [va_rf v, .int (S.O_Tape.f_size a)])) b = wPF cyI cyZ cyO5a941 { S with O_Tape := { S.O_Tape with f_bytes := va_up S.O_Tape.f_bytes a v } } b := by by_cases hb : b = a <;> first | (simp only [wPF, va_up_ne _ _ hb]; done) | (simp only [wPF, va_up, if_neg hb]; done) | simp [wPF, va_re, va_up, va_rf, hb, h]
theorem wPu_O_Tape_f_bytes (cyI : ClassId) (cyZ : ClassId) (cyO5a941 : ClassId) (X : va_W) (S : wPS) {A : Nat → Prop} {a k : Nat} (hD : va_D A (X ++ va_pl S.L (wPF cyI cyZ cyO5a941 S))) (hL : a ∈ S.L) (h : S.K a = 8) (hk : (X ++ va_pl S.L (wPF cyI cyZ cyO5a941 S))[k]? = some (a, wPF cyI cyZ cyO5a941 S a)) (v : Option Nat) : (X ++ va_pl S.L (wPF cyI cyZ cyO5a941 S)).set k (a, .inr (8, [va_rf v, .int (S.O_Tape.f_size a)])) = X ++ va_pl S.L (wPF cyI cyZ cyO5a941 { S with O_Tape := { S.O_Tape with f_bytes := va_up S.O_Tape.f_bytes a v } }) := by
  rw [va_pl_set hD hL hk]
  exact congrArg (fun l => X ++ l) (va_pl_congr (wSt_O_Tape_f_bytes cyI cyZ cyO5a941 S h v))
theorem wSt_O_Tape_f_size (cyI : ClassId) (cyZ : ClassId) (cyO5a941 : ClassId) (S : wPS) {a : Nat} (h : S.K a = 8) (v : Int32) (b : Nat) : va_up (wPF cyI cyZ cyO5a941 S) a (.inr (8, [va_rf (S.O_Tape.f_bytes a), .int v])) b = wPF cyI cyZ cyO5a941 { S with O_Tape := { S.O_Tape with f_size := va_up S.O_Tape.f_size a v } } b := by by_cases hb : b = a <;> first | (simp only [wPF, va_up_ne _ _ hb]; done) | (simp only [wPF, va_up, if_neg hb]; done) | simp [wPF, va_re, va_up, va_rf, hb, h]
theorem wPu_O_Tape_f_size (cyI : ClassId) (cyZ : ClassId) (cyO5a941 : ClassId) (X : va_W) (S : wPS) {A : Nat → Prop} {a k : Nat} (hD : va_D A (X ++ va_pl S.L (wPF cyI cyZ cyO5a941 S))) (hL : a ∈ S.L) (h : S.K a = 8) (hk : (X ++ va_pl S.L (wPF cyI cyZ cyO5a941 S))[k]? = some (a, wPF cyI cyZ cyO5a941 S a)) (v : Int32) : (X ++ va_pl S.L (wPF cyI cyZ cyO5a941 S)).set k (a, .inr (8, [va_rf (S.O_Tape.f_bytes a), .int v])) = X ++ va_pl S.L (wPF cyI cyZ cyO5a941 { S with O_Tape := { S.O_Tape with f_size := va_up S.O_Tape.f_size a v } }) := by
  rw [va_pl_set hD hL hk]
  exact congrArg (fun l => X ++ l) (va_pl_congr (wSt_O_Tape_f_size cyI cyZ cyO5a941 S h v))
theorem wNw_O_Tape (cyI : ClassId) (cyZ : ClassId) (cyO5a941 : ClassId) (S : wPS) (a b : Nat) : va_up (wPF cyI cyZ cyO5a941 S) a (.inr (8, [.null, .int 0])) b = wPF cyI cyZ cyO5a941 { S with L := S.L ++ [a], K := va_up S.K a 8, O_Tape := { f_bytes := va_up S.O_Tape.f_bytes a none, f_size := va_up S.O_Tape.f_size a 0 } } b := by by_cases hb : b = a <;> first | (simp only [wPF, va_up_ne _ _ hb]; done) | (simp only [wPF, va_up, if_neg hb]; done) | simp [wPF, va_re, va_up, va_rf, hb]
theorem wPn_O_Tape (cyI : ClassId) (cyZ : ClassId) (cyO5a941 : ClassId) (X : va_W) (S : wPS) {a : Nat} (ha : a ∉ S.L) : (X ++ va_pl S.L (wPF cyI cyZ cyO5a941 S)) ++ [(a, .inr (8, [.null, .int 0]))] = X ++ va_pl (S.L ++ [a]) (wPF cyI cyZ cyO5a941 { S with L := S.L ++ [a], K := va_up S.K a 8, O_Tape := { f_bytes := va_up S.O_Tape.f_bytes a none, f_size := va_up S.O_Tape.f_size a 0 } }) := by
  rw [List.append_assoc, va_pl_push ha]
  exact congrArg (fun l => X ++ l) (va_pl_congr (wNw_O_Tape cyI cyZ cyO5a941 S a))
theorem wAt_O_Things (cyI : ClassId) (cyZ : ClassId) (cyO5a941 : ClassId) (S : wPS) {a : Nat} (h : S.K a = 9) : wPF cyI cyZ cyO5a941 S a = .inr (9, [.int (S.O_Things.f_count a), va_rf (S.O_Things.f_worth a), va_rf (S.O_Things.f_weight a), va_rf (S.O_Things.f_height a), .int (S.O_Things.f_lifted a), .int (S.O_Things.f_harmed a)]) := by simp [wPF, h]
theorem wGt_O_Things (cyI : ClassId) (cyZ : ClassId) (cyO5a941 : ClassId) (X : va_W) (S : wPS) {a : Nat} (hL : a ∈ S.L) (h : S.K a = 9) : ∃ k : Nat, (X ++ va_pl S.L (wPF cyI cyZ cyO5a941 S))[k]? = some (a, wPF cyI cyZ cyO5a941 S a) ∧ (X ++ va_pl S.L (wPF cyI cyZ cyO5a941 S))[k]? = some (a, .inr (9, [.int (S.O_Things.f_count a), va_rf (S.O_Things.f_worth a), va_rf (S.O_Things.f_weight a), va_rf (S.O_Things.f_height a), .int (S.O_Things.f_lifted a), .int (S.O_Things.f_harmed a)])) := by
  obtain ⟨k, hk⟩ := va_pl_get (X := X) (f := wPF cyI cyZ cyO5a941 S) hL
  exact ⟨k, hk, hk.trans (congrArg (fun e => some (a, e)) (wAt_O_Things cyI cyZ cyO5a941 S h))⟩
theorem wSt_O_Things_f_count (cyI : ClassId) (cyZ : ClassId) (cyO5a941 : ClassId) (S : wPS) {a : Nat} (h : S.K a = 9) (v : Int32) (b : Nat) : va_up (wPF cyI cyZ cyO5a941 S) a (.inr (9, [.int v, va_rf (S.O_Things.f_worth a), va_rf (S.O_Things.f_weight a), va_rf (S.O_Things.f_height a), .int (S.O_Things.f_lifted a), .int (S.O_Things.f_harmed a)])) b = wPF cyI cyZ cyO5a941 { S with O_Things := { S.O_Things with f_count := va_up S.O_Things.f_count a v } } b := by by_cases hb : b = a <;> first | (simp only [wPF, va_up_ne _ _ hb]; done) | (simp only [wPF, va_up, if_neg hb]; done) | simp [wPF, va_re, va_up, va_rf, hb, h]
theorem wPu_O_Things_f_count (cyI : ClassId) (cyZ : ClassId) (cyO5a941 : ClassId) (X : va_W) (S : wPS) {A : Nat → Prop} {a k : Nat} (hD : va_D A (X ++ va_pl S.L (wPF cyI cyZ cyO5a941 S))) (hL : a ∈ S.L) (h : S.K a = 9) (hk : (X ++ va_pl S.L (wPF cyI cyZ cyO5a941 S))[k]? = some (a, wPF cyI cyZ cyO5a941 S a)) (v : Int32) : (X ++ va_pl S.L (wPF cyI cyZ cyO5a941 S)).set k (a, .inr (9, [.int v, va_rf (S.O_Things.f_worth a), va_rf (S.O_Things.f_weight a), va_rf (S.O_Things.f_height a), .int (S.O_Things.f_lifted a), .int (S.O_Things.f_harmed a)])) = X ++ va_pl S.L (wPF cyI cyZ cyO5a941 { S with O_Things := { S.O_Things with f_count := va_up S.O_Things.f_count a v } }) := by
  rw [va_pl_set hD hL hk]
  exact congrArg (fun l => X ++ l) (va_pl_congr (wSt_O_Things_f_count cyI cyZ cyO5a941 S h v))
theorem wSt_O_Things_f_worth (cyI : ClassId) (cyZ : ClassId) (cyO5a941 : ClassId) (S : wPS) {a : Nat} (h : S.K a = 9) (v : Option Nat) (b : Nat) : va_up (wPF cyI cyZ cyO5a941 S) a (.inr (9, [.int (S.O_Things.f_count a), va_rf v, va_rf (S.O_Things.f_weight a), va_rf (S.O_Things.f_height a), .int (S.O_Things.f_lifted a), .int (S.O_Things.f_harmed a)])) b = wPF cyI cyZ cyO5a941 { S with O_Things := { S.O_Things with f_worth := va_up S.O_Things.f_worth a v } } b := by by_cases hb : b = a <;> first | (simp only [wPF, va_up_ne _ _ hb]; done) | (simp only [wPF, va_up, if_neg hb]; done) | simp [wPF, va_re, va_up, va_rf, hb, h]
theorem wPu_O_Things_f_worth (cyI : ClassId) (cyZ : ClassId) (cyO5a941 : ClassId) (X : va_W) (S : wPS) {A : Nat → Prop} {a k : Nat} (hD : va_D A (X ++ va_pl S.L (wPF cyI cyZ cyO5a941 S))) (hL : a ∈ S.L) (h : S.K a = 9) (hk : (X ++ va_pl S.L (wPF cyI cyZ cyO5a941 S))[k]? = some (a, wPF cyI cyZ cyO5a941 S a)) (v : Option Nat) : (X ++ va_pl S.L (wPF cyI cyZ cyO5a941 S)).set k (a, .inr (9, [.int (S.O_Things.f_count a), va_rf v, va_rf (S.O_Things.f_weight a), va_rf (S.O_Things.f_height a), .int (S.O_Things.f_lifted a), .int (S.O_Things.f_harmed a)])) = X ++ va_pl S.L (wPF cyI cyZ cyO5a941 { S with O_Things := { S.O_Things with f_worth := va_up S.O_Things.f_worth a v } }) := by
  rw [va_pl_set hD hL hk]
  exact congrArg (fun l => X ++ l) (va_pl_congr (wSt_O_Things_f_worth cyI cyZ cyO5a941 S h v))
theorem wSt_O_Things_f_weight (cyI : ClassId) (cyZ : ClassId) (cyO5a941 : ClassId) (S : wPS) {a : Nat} (h : S.K a = 9) (v : Option Nat) (b : Nat) : va_up (wPF cyI cyZ cyO5a941 S) a (.inr (9, [.int (S.O_Things.f_count a), va_rf (S.O_Things.f_worth a), va_rf v, va_rf (S.O_Things.f_height a), .int (S.O_Things.f_lifted a), .int (S.O_Things.f_harmed a)])) b = wPF cyI cyZ cyO5a941 { S with O_Things := { S.O_Things with f_weight := va_up S.O_Things.f_weight a v } } b := by by_cases hb : b = a <;> first | (simp only [wPF, va_up_ne _ _ hb]; done) | (simp only [wPF, va_up, if_neg hb]; done) | simp [wPF, va_re, va_up, va_rf, hb, h]
theorem wPu_O_Things_f_weight (cyI : ClassId) (cyZ : ClassId) (cyO5a941 : ClassId) (X : va_W) (S : wPS) {A : Nat → Prop} {a k : Nat} (hD : va_D A (X ++ va_pl S.L (wPF cyI cyZ cyO5a941 S))) (hL : a ∈ S.L) (h : S.K a = 9) (hk : (X ++ va_pl S.L (wPF cyI cyZ cyO5a941 S))[k]? = some (a, wPF cyI cyZ cyO5a941 S a)) (v : Option Nat) : (X ++ va_pl S.L (wPF cyI cyZ cyO5a941 S)).set k (a, .inr (9, [.int (S.O_Things.f_count a), va_rf (S.O_Things.f_worth a), va_rf v, va_rf (S.O_Things.f_height a), .int (S.O_Things.f_lifted a), .int (S.O_Things.f_harmed a)])) = X ++ va_pl S.L (wPF cyI cyZ cyO5a941 { S with O_Things := { S.O_Things with f_weight := va_up S.O_Things.f_weight a v } }) := by
  rw [va_pl_set hD hL hk]
  exact congrArg (fun l => X ++ l) (va_pl_congr (wSt_O_Things_f_weight cyI cyZ cyO5a941 S h v))
theorem wSt_O_Things_f_height (cyI : ClassId) (cyZ : ClassId) (cyO5a941 : ClassId) (S : wPS) {a : Nat} (h : S.K a = 9) (v : Option Nat) (b : Nat) : va_up (wPF cyI cyZ cyO5a941 S) a (.inr (9, [.int (S.O_Things.f_count a), va_rf (S.O_Things.f_worth a), va_rf (S.O_Things.f_weight a), va_rf v, .int (S.O_Things.f_lifted a), .int (S.O_Things.f_harmed a)])) b = wPF cyI cyZ cyO5a941 { S with O_Things := { S.O_Things with f_height := va_up S.O_Things.f_height a v } } b := by by_cases hb : b = a <;> first | (simp only [wPF, va_up_ne _ _ hb]; done) | (simp only [wPF, va_up, if_neg hb]; done) | simp [wPF, va_re, va_up, va_rf, hb, h]
theorem wPu_O_Things_f_height (cyI : ClassId) (cyZ : ClassId) (cyO5a941 : ClassId) (X : va_W) (S : wPS) {A : Nat → Prop} {a k : Nat} (hD : va_D A (X ++ va_pl S.L (wPF cyI cyZ cyO5a941 S))) (hL : a ∈ S.L) (h : S.K a = 9) (hk : (X ++ va_pl S.L (wPF cyI cyZ cyO5a941 S))[k]? = some (a, wPF cyI cyZ cyO5a941 S a)) (v : Option Nat) : (X ++ va_pl S.L (wPF cyI cyZ cyO5a941 S)).set k (a, .inr (9, [.int (S.O_Things.f_count a), va_rf (S.O_Things.f_worth a), va_rf (S.O_Things.f_weight a), va_rf v, .int (S.O_Things.f_lifted a), .int (S.O_Things.f_harmed a)])) = X ++ va_pl S.L (wPF cyI cyZ cyO5a941 { S with O_Things := { S.O_Things with f_height := va_up S.O_Things.f_height a v } }) := by
  rw [va_pl_set hD hL hk]
  exact congrArg (fun l => X ++ l) (va_pl_congr (wSt_O_Things_f_height cyI cyZ cyO5a941 S h v))
theorem wSt_O_Things_f_lifted (cyI : ClassId) (cyZ : ClassId) (cyO5a941 : ClassId) (S : wPS) {a : Nat} (h : S.K a = 9) (v : Int32) (b : Nat) : va_up (wPF cyI cyZ cyO5a941 S) a (.inr (9, [.int (S.O_Things.f_count a), va_rf (S.O_Things.f_worth a), va_rf (S.O_Things.f_weight a), va_rf (S.O_Things.f_height a), .int v, .int (S.O_Things.f_harmed a)])) b = wPF cyI cyZ cyO5a941 { S with O_Things := { S.O_Things with f_lifted := va_up S.O_Things.f_lifted a v } } b := by by_cases hb : b = a <;> first | (simp only [wPF, va_up_ne _ _ hb]; done) | (simp only [wPF, va_up, if_neg hb]; done) | simp [wPF, va_re, va_up, va_rf, hb, h]
theorem wPu_O_Things_f_lifted (cyI : ClassId) (cyZ : ClassId) (cyO5a941 : ClassId) (X : va_W) (S : wPS) {A : Nat → Prop} {a k : Nat} (hD : va_D A (X ++ va_pl S.L (wPF cyI cyZ cyO5a941 S))) (hL : a ∈ S.L) (h : S.K a = 9) (hk : (X ++ va_pl S.L (wPF cyI cyZ cyO5a941 S))[k]? = some (a, wPF cyI cyZ cyO5a941 S a)) (v : Int32) : (X ++ va_pl S.L (wPF cyI cyZ cyO5a941 S)).set k (a, .inr (9, [.int (S.O_Things.f_count a), va_rf (S.O_Things.f_worth a), va_rf (S.O_Things.f_weight a), va_rf (S.O_Things.f_height a), .int v, .int (S.O_Things.f_harmed a)])) = X ++ va_pl S.L (wPF cyI cyZ cyO5a941 { S with O_Things := { S.O_Things with f_lifted := va_up S.O_Things.f_lifted a v } }) := by
  rw [va_pl_set hD hL hk]
  exact congrArg (fun l => X ++ l) (va_pl_congr (wSt_O_Things_f_lifted cyI cyZ cyO5a941 S h v))
theorem wSt_O_Things_f_harmed (cyI : ClassId) (cyZ : ClassId) (cyO5a941 : ClassId) (S : wPS) {a : Nat} (h : S.K a = 9) (v : Int32) (b : Nat) : va_up (wPF cyI cyZ cyO5a941 S) a (.inr (9, [.int (S.O_Things.f_count a), va_rf (S.O_Things.f_worth a), va_rf (S.O_Things.f_weight a), va_rf (S.O_Things.f_height a), .int (S.O_Things.f_lifted a), .int v])) b = wPF cyI cyZ cyO5a941 { S with O_Things := { S.O_Things with f_harmed := va_up S.O_Things.f_harmed a v } } b := by by_cases hb : b = a <;> first | (simp only [wPF, va_up_ne _ _ hb]; done) | (simp only [wPF, va_up, if_neg hb]; done) | simp [wPF, va_re, va_up, va_rf, hb, h]
theorem wPu_O_Things_f_harmed (cyI : ClassId) (cyZ : ClassId) (cyO5a941 : ClassId) (X : va_W) (S : wPS) {A : Nat → Prop} {a k : Nat} (hD : va_D A (X ++ va_pl S.L (wPF cyI cyZ cyO5a941 S))) (hL : a ∈ S.L) (h : S.K a = 9) (hk : (X ++ va_pl S.L (wPF cyI cyZ cyO5a941 S))[k]? = some (a, wPF cyI cyZ cyO5a941 S a)) (v : Int32) : (X ++ va_pl S.L (wPF cyI cyZ cyO5a941 S)).set k (a, .inr (9, [.int (S.O_Things.f_count a), va_rf (S.O_Things.f_worth a), va_rf (S.O_Things.f_weight a), va_rf (S.O_Things.f_height a), .int (S.O_Things.f_lifted a), .int v])) = X ++ va_pl S.L (wPF cyI cyZ cyO5a941 { S with O_Things := { S.O_Things with f_harmed := va_up S.O_Things.f_harmed a v } }) := by
  rw [va_pl_set hD hL hk]
  exact congrArg (fun l => X ++ l) (va_pl_congr (wSt_O_Things_f_harmed cyI cyZ cyO5a941 S h v))
theorem wNw_O_Things (cyI : ClassId) (cyZ : ClassId) (cyO5a941 : ClassId) (S : wPS) (a b : Nat) : va_up (wPF cyI cyZ cyO5a941 S) a (.inr (9, [.int 0, .null, .null, .null, .int 0, .int 0])) b = wPF cyI cyZ cyO5a941 { S with L := S.L ++ [a], K := va_up S.K a 9, O_Things := { f_count := va_up S.O_Things.f_count a 0, f_worth := va_up S.O_Things.f_worth a none, f_weight := va_up S.O_Things.f_weight a none, f_height := va_up S.O_Things.f_height a none, f_lifted := va_up S.O_Things.f_lifted a 0, f_harmed := va_up S.O_Things.f_harmed a 0 } } b := by by_cases hb : b = a <;> first | (simp only [wPF, va_up_ne _ _ hb]; done) | (simp only [wPF, va_up, if_neg hb]; done) | simp [wPF, va_re, va_up, va_rf, hb]
theorem wPn_O_Things (cyI : ClassId) (cyZ : ClassId) (cyO5a941 : ClassId) (X : va_W) (S : wPS) {a : Nat} (ha : a ∉ S.L) : (X ++ va_pl S.L (wPF cyI cyZ cyO5a941 S)) ++ [(a, .inr (9, [.int 0, .null, .null, .null, .int 0, .int 0]))] = X ++ va_pl (S.L ++ [a]) (wPF cyI cyZ cyO5a941 { S with L := S.L ++ [a], K := va_up S.K a 9, O_Things := { f_count := va_up S.O_Things.f_count a 0, f_worth := va_up S.O_Things.f_worth a none, f_weight := va_up S.O_Things.f_weight a none, f_height := va_up S.O_Things.f_height a none, f_lifted := va_up S.O_Things.f_lifted a 0, f_harmed := va_up S.O_Things.f_harmed a 0 } }) := by
  rw [List.append_assoc, va_pl_push ha]
  exact congrArg (fun l => X ++ l) (va_pl_congr (wNw_O_Things cyI cyZ cyO5a941 S a))
theorem wAt_O_Waters (cyI : ClassId) (cyZ : ClassId) (cyO5a941 : ClassId) (S : wPS) {a : Nat} (h : S.K a = 10) : wPF cyI cyZ cyO5a941 S a = .inr (10, [.int (S.O_Waters.f_count a), va_rf (S.O_Waters.f_kind a), va_rf (S.O_Waters.f_flow a), va_rf (S.O_Waters.f_mark a), va_rf (S.O_Waters.f_brought a)]) := by simp [wPF, h]
theorem wGt_O_Waters (cyI : ClassId) (cyZ : ClassId) (cyO5a941 : ClassId) (X : va_W) (S : wPS) {a : Nat} (hL : a ∈ S.L) (h : S.K a = 10) : ∃ k : Nat, (X ++ va_pl S.L (wPF cyI cyZ cyO5a941 S))[k]? = some (a, wPF cyI cyZ cyO5a941 S a) ∧ (X ++ va_pl S.L (wPF cyI cyZ cyO5a941 S))[k]? = some (a, .inr (10, [.int (S.O_Waters.f_count a), va_rf (S.O_Waters.f_kind a), va_rf (S.O_Waters.f_flow a), va_rf (S.O_Waters.f_mark a), va_rf (S.O_Waters.f_brought a)])) := by
  obtain ⟨k, hk⟩ := va_pl_get (X := X) (f := wPF cyI cyZ cyO5a941 S) hL
  exact ⟨k, hk, hk.trans (congrArg (fun e => some (a, e)) (wAt_O_Waters cyI cyZ cyO5a941 S h))⟩
theorem wSt_O_Waters_f_count (cyI : ClassId) (cyZ : ClassId) (cyO5a941 : ClassId) (S : wPS) {a : Nat} (h : S.K a = 10) (v : Int32) (b : Nat) : va_up (wPF cyI cyZ cyO5a941 S) a (.inr (10, [.int v, va_rf (S.O_Waters.f_kind a), va_rf (S.O_Waters.f_flow a), va_rf (S.O_Waters.f_mark a), va_rf (S.O_Waters.f_brought a)])) b = wPF cyI cyZ cyO5a941 { S with O_Waters := { S.O_Waters with f_count := va_up S.O_Waters.f_count a v } } b := by by_cases hb : b = a <;> first | (simp only [wPF, va_up_ne _ _ hb]; done) | (simp only [wPF, va_up, if_neg hb]; done) | simp [wPF, va_re, va_up, va_rf, hb, h]
theorem wPu_O_Waters_f_count (cyI : ClassId) (cyZ : ClassId) (cyO5a941 : ClassId) (X : va_W) (S : wPS) {A : Nat → Prop} {a k : Nat} (hD : va_D A (X ++ va_pl S.L (wPF cyI cyZ cyO5a941 S))) (hL : a ∈ S.L) (h : S.K a = 10) (hk : (X ++ va_pl S.L (wPF cyI cyZ cyO5a941 S))[k]? = some (a, wPF cyI cyZ cyO5a941 S a)) (v : Int32) : (X ++ va_pl S.L (wPF cyI cyZ cyO5a941 S)).set k (a, .inr (10, [.int v, va_rf (S.O_Waters.f_kind a), va_rf (S.O_Waters.f_flow a), va_rf (S.O_Waters.f_mark a), va_rf (S.O_Waters.f_brought a)])) = X ++ va_pl S.L (wPF cyI cyZ cyO5a941 { S with O_Waters := { S.O_Waters with f_count := va_up S.O_Waters.f_count a v } }) := by
  rw [va_pl_set hD hL hk]
  exact congrArg (fun l => X ++ l) (va_pl_congr (wSt_O_Waters_f_count cyI cyZ cyO5a941 S h v))
theorem wSt_O_Waters_f_kind (cyI : ClassId) (cyZ : ClassId) (cyO5a941 : ClassId) (S : wPS) {a : Nat} (h : S.K a = 10) (v : Option Nat) (b : Nat) : va_up (wPF cyI cyZ cyO5a941 S) a (.inr (10, [.int (S.O_Waters.f_count a), va_rf v, va_rf (S.O_Waters.f_flow a), va_rf (S.O_Waters.f_mark a), va_rf (S.O_Waters.f_brought a)])) b = wPF cyI cyZ cyO5a941 { S with O_Waters := { S.O_Waters with f_kind := va_up S.O_Waters.f_kind a v } } b := by by_cases hb : b = a <;> first | (simp only [wPF, va_up_ne _ _ hb]; done) | (simp only [wPF, va_up, if_neg hb]; done) | simp [wPF, va_re, va_up, va_rf, hb, h]
theorem wPu_O_Waters_f_kind (cyI : ClassId) (cyZ : ClassId) (cyO5a941 : ClassId) (X : va_W) (S : wPS) {A : Nat → Prop} {a k : Nat} (hD : va_D A (X ++ va_pl S.L (wPF cyI cyZ cyO5a941 S))) (hL : a ∈ S.L) (h : S.K a = 10) (hk : (X ++ va_pl S.L (wPF cyI cyZ cyO5a941 S))[k]? = some (a, wPF cyI cyZ cyO5a941 S a)) (v : Option Nat) : (X ++ va_pl S.L (wPF cyI cyZ cyO5a941 S)).set k (a, .inr (10, [.int (S.O_Waters.f_count a), va_rf v, va_rf (S.O_Waters.f_flow a), va_rf (S.O_Waters.f_mark a), va_rf (S.O_Waters.f_brought a)])) = X ++ va_pl S.L (wPF cyI cyZ cyO5a941 { S with O_Waters := { S.O_Waters with f_kind := va_up S.O_Waters.f_kind a v } }) := by
  rw [va_pl_set hD hL hk]
  exact congrArg (fun l => X ++ l) (va_pl_congr (wSt_O_Waters_f_kind cyI cyZ cyO5a941 S h v))
theorem wSt_O_Waters_f_flow (cyI : ClassId) (cyZ : ClassId) (cyO5a941 : ClassId) (S : wPS) {a : Nat} (h : S.K a = 10) (v : Option Nat) (b : Nat) : va_up (wPF cyI cyZ cyO5a941 S) a (.inr (10, [.int (S.O_Waters.f_count a), va_rf (S.O_Waters.f_kind a), va_rf v, va_rf (S.O_Waters.f_mark a), va_rf (S.O_Waters.f_brought a)])) b = wPF cyI cyZ cyO5a941 { S with O_Waters := { S.O_Waters with f_flow := va_up S.O_Waters.f_flow a v } } b := by by_cases hb : b = a <;> first | (simp only [wPF, va_up_ne _ _ hb]; done) | (simp only [wPF, va_up, if_neg hb]; done) | simp [wPF, va_re, va_up, va_rf, hb, h]
theorem wPu_O_Waters_f_flow (cyI : ClassId) (cyZ : ClassId) (cyO5a941 : ClassId) (X : va_W) (S : wPS) {A : Nat → Prop} {a k : Nat} (hD : va_D A (X ++ va_pl S.L (wPF cyI cyZ cyO5a941 S))) (hL : a ∈ S.L) (h : S.K a = 10) (hk : (X ++ va_pl S.L (wPF cyI cyZ cyO5a941 S))[k]? = some (a, wPF cyI cyZ cyO5a941 S a)) (v : Option Nat) : (X ++ va_pl S.L (wPF cyI cyZ cyO5a941 S)).set k (a, .inr (10, [.int (S.O_Waters.f_count a), va_rf (S.O_Waters.f_kind a), va_rf v, va_rf (S.O_Waters.f_mark a), va_rf (S.O_Waters.f_brought a)])) = X ++ va_pl S.L (wPF cyI cyZ cyO5a941 { S with O_Waters := { S.O_Waters with f_flow := va_up S.O_Waters.f_flow a v } }) := by
  rw [va_pl_set hD hL hk]
  exact congrArg (fun l => X ++ l) (va_pl_congr (wSt_O_Waters_f_flow cyI cyZ cyO5a941 S h v))
theorem wSt_O_Waters_f_mark (cyI : ClassId) (cyZ : ClassId) (cyO5a941 : ClassId) (S : wPS) {a : Nat} (h : S.K a = 10) (v : Option Nat) (b : Nat) : va_up (wPF cyI cyZ cyO5a941 S) a (.inr (10, [.int (S.O_Waters.f_count a), va_rf (S.O_Waters.f_kind a), va_rf (S.O_Waters.f_flow a), va_rf v, va_rf (S.O_Waters.f_brought a)])) b = wPF cyI cyZ cyO5a941 { S with O_Waters := { S.O_Waters with f_mark := va_up S.O_Waters.f_mark a v } } b := by by_cases hb : b = a <;> first | (simp only [wPF, va_up_ne _ _ hb]; done) | (simp only [wPF, va_up, if_neg hb]; done) | simp [wPF, va_re, va_up, va_rf, hb, h]
theorem wPu_O_Waters_f_mark (cyI : ClassId) (cyZ : ClassId) (cyO5a941 : ClassId) (X : va_W) (S : wPS) {A : Nat → Prop} {a k : Nat} (hD : va_D A (X ++ va_pl S.L (wPF cyI cyZ cyO5a941 S))) (hL : a ∈ S.L) (h : S.K a = 10) (hk : (X ++ va_pl S.L (wPF cyI cyZ cyO5a941 S))[k]? = some (a, wPF cyI cyZ cyO5a941 S a)) (v : Option Nat) : (X ++ va_pl S.L (wPF cyI cyZ cyO5a941 S)).set k (a, .inr (10, [.int (S.O_Waters.f_count a), va_rf (S.O_Waters.f_kind a), va_rf (S.O_Waters.f_flow a), va_rf v, va_rf (S.O_Waters.f_brought a)])) = X ++ va_pl S.L (wPF cyI cyZ cyO5a941 { S with O_Waters := { S.O_Waters with f_mark := va_up S.O_Waters.f_mark a v } }) := by
  rw [va_pl_set hD hL hk]
  exact congrArg (fun l => X ++ l) (va_pl_congr (wSt_O_Waters_f_mark cyI cyZ cyO5a941 S h v))
theorem wSt_O_Waters_f_brought (cyI : ClassId) (cyZ : ClassId) (cyO5a941 : ClassId) (S : wPS) {a : Nat} (h : S.K a = 10) (v : Option Nat) (b : Nat) : va_up (wPF cyI cyZ cyO5a941 S) a (.inr (10, [.int (S.O_Waters.f_count a), va_rf (S.O_Waters.f_kind a), va_rf (S.O_Waters.f_flow a), va_rf (S.O_Waters.f_mark a), va_rf v])) b = wPF cyI cyZ cyO5a941 { S with O_Waters := { S.O_Waters with f_brought := va_up S.O_Waters.f_brought a v } } b := by by_cases hb : b = a <;> first | (simp only [wPF, va_up_ne _ _ hb]; done) | (simp only [wPF, va_up, if_neg hb]; done) | simp [wPF, va_re, va_up, va_rf, hb, h]
theorem wPu_O_Waters_f_brought (cyI : ClassId) (cyZ : ClassId) (cyO5a941 : ClassId) (X : va_W) (S : wPS) {A : Nat → Prop} {a k : Nat} (hD : va_D A (X ++ va_pl S.L (wPF cyI cyZ cyO5a941 S))) (hL : a ∈ S.L) (h : S.K a = 10) (hk : (X ++ va_pl S.L (wPF cyI cyZ cyO5a941 S))[k]? = some (a, wPF cyI cyZ cyO5a941 S a)) (v : Option Nat) : (X ++ va_pl S.L (wPF cyI cyZ cyO5a941 S)).set k (a, .inr (10, [.int (S.O_Waters.f_count a), va_rf (S.O_Waters.f_kind a), va_rf (S.O_Waters.f_flow a), va_rf (S.O_Waters.f_mark a), va_rf v])) = X ++ va_pl S.L (wPF cyI cyZ cyO5a941 { S with O_Waters := { S.O_Waters with f_brought := va_up S.O_Waters.f_brought a v } }) := by
  rw [va_pl_set hD hL hk]
  exact congrArg (fun l => X ++ l) (va_pl_congr (wSt_O_Waters_f_brought cyI cyZ cyO5a941 S h v))
theorem wNw_O_Waters (cyI : ClassId) (cyZ : ClassId) (cyO5a941 : ClassId) (S : wPS) (a b : Nat) : va_up (wPF cyI cyZ cyO5a941 S) a (.inr (10, [.int 0, .null, .null, .null, .null])) b = wPF cyI cyZ cyO5a941 { S with L := S.L ++ [a], K := va_up S.K a 10, O_Waters := { f_count := va_up S.O_Waters.f_count a 0, f_kind := va_up S.O_Waters.f_kind a none, f_flow := va_up S.O_Waters.f_flow a none, f_mark := va_up S.O_Waters.f_mark a none, f_brought := va_up S.O_Waters.f_brought a none } } b := by by_cases hb : b = a <;> first | (simp only [wPF, va_up_ne _ _ hb]; done) | (simp only [wPF, va_up, if_neg hb]; done) | simp [wPF, va_re, va_up, va_rf, hb]
theorem wPn_O_Waters (cyI : ClassId) (cyZ : ClassId) (cyO5a941 : ClassId) (X : va_W) (S : wPS) {a : Nat} (ha : a ∉ S.L) : (X ++ va_pl S.L (wPF cyI cyZ cyO5a941 S)) ++ [(a, .inr (10, [.int 0, .null, .null, .null, .null]))] = X ++ va_pl (S.L ++ [a]) (wPF cyI cyZ cyO5a941 { S with L := S.L ++ [a], K := va_up S.K a 10, O_Waters := { f_count := va_up S.O_Waters.f_count a 0, f_kind := va_up S.O_Waters.f_kind a none, f_flow := va_up S.O_Waters.f_flow a none, f_mark := va_up S.O_Waters.f_mark a none, f_brought := va_up S.O_Waters.f_brought a none } }) := by
  rw [List.append_assoc, va_pl_push ha]
  exact congrArg (fun l => X ++ l) (va_pl_congr (wNw_O_Waters cyI cyZ cyO5a941 S a))
theorem wAt_O_CellarPump (cyI : ClassId) (cyZ : ClassId) (cyO5a941 : ClassId) (S : wPS) {a : Nat} (h : S.K a = 11) : wPF cyI cyZ cyO5a941 S a = .inr (11, [va_rf (S.O_CellarPump.f_found a), va_rf (S.O_CellarPump.f_house a), va_rf (S.O_CellarPump.f_kept a), .int (S.O_CellarPump.f_isKept a), va_rf (S.O_CellarPump.f_tape a), va_rf (S.O_CellarPump.f_reader a), va_rf (S.O_CellarPump.f_sheets a), va_rf (S.O_CellarPump.f_nights a), va_rf (S.O_CellarPump.f_choice a)]) := by simp [wPF, h]
theorem wGt_O_CellarPump (cyI : ClassId) (cyZ : ClassId) (cyO5a941 : ClassId) (X : va_W) (S : wPS) {a : Nat} (hL : a ∈ S.L) (h : S.K a = 11) : ∃ k : Nat, (X ++ va_pl S.L (wPF cyI cyZ cyO5a941 S))[k]? = some (a, wPF cyI cyZ cyO5a941 S a) ∧ (X ++ va_pl S.L (wPF cyI cyZ cyO5a941 S))[k]? = some (a, .inr (11, [va_rf (S.O_CellarPump.f_found a), va_rf (S.O_CellarPump.f_house a), va_rf (S.O_CellarPump.f_kept a), .int (S.O_CellarPump.f_isKept a), va_rf (S.O_CellarPump.f_tape a), va_rf (S.O_CellarPump.f_reader a), va_rf (S.O_CellarPump.f_sheets a), va_rf (S.O_CellarPump.f_nights a), va_rf (S.O_CellarPump.f_choice a)])) := by
  obtain ⟨k, hk⟩ := va_pl_get (X := X) (f := wPF cyI cyZ cyO5a941 S) hL
  exact ⟨k, hk, hk.trans (congrArg (fun e => some (a, e)) (wAt_O_CellarPump cyI cyZ cyO5a941 S h))⟩
theorem wSt_O_CellarPump_f_found (cyI : ClassId) (cyZ : ClassId) (cyO5a941 : ClassId) (S : wPS) {a : Nat} (h : S.K a = 11) (v : Option Nat) (b : Nat) : va_up (wPF cyI cyZ cyO5a941 S) a (.inr (11, [va_rf v, va_rf (S.O_CellarPump.f_house a), va_rf (S.O_CellarPump.f_kept a), .int (S.O_CellarPump.f_isKept a), va_rf (S.O_CellarPump.f_tape a), va_rf (S.O_CellarPump.f_reader a), va_rf (S.O_CellarPump.f_sheets a), va_rf (S.O_CellarPump.f_nights a), va_rf (S.O_CellarPump.f_choice a)])) b = wPF cyI cyZ cyO5a941 { S with O_CellarPump := { S.O_CellarPump with f_found := va_up S.O_CellarPump.f_found a v } } b := by by_cases hb : b = a <;> first | (simp only [wPF, va_up_ne _ _ hb]; done) | (simp only [wPF, va_up, if_neg hb]; done) | simp [wPF, va_re, va_up, va_rf, hb, h]
theorem wPu_O_CellarPump_f_found (cyI : ClassId) (cyZ : ClassId) (cyO5a941 : ClassId) (X : va_W) (S : wPS) {A : Nat → Prop} {a k : Nat} (hD : va_D A (X ++ va_pl S.L (wPF cyI cyZ cyO5a941 S))) (hL : a ∈ S.L) (h : S.K a = 11) (hk : (X ++ va_pl S.L (wPF cyI cyZ cyO5a941 S))[k]? = some (a, wPF cyI cyZ cyO5a941 S a)) (v : Option Nat) : (X ++ va_pl S.L (wPF cyI cyZ cyO5a941 S)).set k (a, .inr (11, [va_rf v, va_rf (S.O_CellarPump.f_house a), va_rf (S.O_CellarPump.f_kept a), .int (S.O_CellarPump.f_isKept a), va_rf (S.O_CellarPump.f_tape a), va_rf (S.O_CellarPump.f_reader a), va_rf (S.O_CellarPump.f_sheets a), va_rf (S.O_CellarPump.f_nights a), va_rf (S.O_CellarPump.f_choice a)])) = X ++ va_pl S.L (wPF cyI cyZ cyO5a941 { S with O_CellarPump := { S.O_CellarPump with f_found := va_up S.O_CellarPump.f_found a v } }) := by
  rw [va_pl_set hD hL hk]
  exact congrArg (fun l => X ++ l) (va_pl_congr (wSt_O_CellarPump_f_found cyI cyZ cyO5a941 S h v))
theorem wSt_O_CellarPump_f_house (cyI : ClassId) (cyZ : ClassId) (cyO5a941 : ClassId) (S : wPS) {a : Nat} (h : S.K a = 11) (v : Option Nat) (b : Nat) : va_up (wPF cyI cyZ cyO5a941 S) a (.inr (11, [va_rf (S.O_CellarPump.f_found a), va_rf v, va_rf (S.O_CellarPump.f_kept a), .int (S.O_CellarPump.f_isKept a), va_rf (S.O_CellarPump.f_tape a), va_rf (S.O_CellarPump.f_reader a), va_rf (S.O_CellarPump.f_sheets a), va_rf (S.O_CellarPump.f_nights a), va_rf (S.O_CellarPump.f_choice a)])) b = wPF cyI cyZ cyO5a941 { S with O_CellarPump := { S.O_CellarPump with f_house := va_up S.O_CellarPump.f_house a v } } b := by by_cases hb : b = a <;> first | (simp only [wPF, va_up_ne _ _ hb]; done) | (simp only [wPF, va_up, if_neg hb]; done) | simp [wPF, va_re, va_up, va_rf, hb, h]
theorem wPu_O_CellarPump_f_house (cyI : ClassId) (cyZ : ClassId) (cyO5a941 : ClassId) (X : va_W) (S : wPS) {A : Nat → Prop} {a k : Nat} (hD : va_D A (X ++ va_pl S.L (wPF cyI cyZ cyO5a941 S))) (hL : a ∈ S.L) (h : S.K a = 11) (hk : (X ++ va_pl S.L (wPF cyI cyZ cyO5a941 S))[k]? = some (a, wPF cyI cyZ cyO5a941 S a)) (v : Option Nat) : (X ++ va_pl S.L (wPF cyI cyZ cyO5a941 S)).set k (a, .inr (11, [va_rf (S.O_CellarPump.f_found a), va_rf v, va_rf (S.O_CellarPump.f_kept a), .int (S.O_CellarPump.f_isKept a), va_rf (S.O_CellarPump.f_tape a), va_rf (S.O_CellarPump.f_reader a), va_rf (S.O_CellarPump.f_sheets a), va_rf (S.O_CellarPump.f_nights a), va_rf (S.O_CellarPump.f_choice a)])) = X ++ va_pl S.L (wPF cyI cyZ cyO5a941 { S with O_CellarPump := { S.O_CellarPump with f_house := va_up S.O_CellarPump.f_house a v } }) := by
  rw [va_pl_set hD hL hk]
  exact congrArg (fun l => X ++ l) (va_pl_congr (wSt_O_CellarPump_f_house cyI cyZ cyO5a941 S h v))
theorem wSt_O_CellarPump_f_kept (cyI : ClassId) (cyZ : ClassId) (cyO5a941 : ClassId) (S : wPS) {a : Nat} (h : S.K a = 11) (v : Option Nat) (b : Nat) : va_up (wPF cyI cyZ cyO5a941 S) a (.inr (11, [va_rf (S.O_CellarPump.f_found a), va_rf (S.O_CellarPump.f_house a), va_rf v, .int (S.O_CellarPump.f_isKept a), va_rf (S.O_CellarPump.f_tape a), va_rf (S.O_CellarPump.f_reader a), va_rf (S.O_CellarPump.f_sheets a), va_rf (S.O_CellarPump.f_nights a), va_rf (S.O_CellarPump.f_choice a)])) b = wPF cyI cyZ cyO5a941 { S with O_CellarPump := { S.O_CellarPump with f_kept := va_up S.O_CellarPump.f_kept a v } } b := by by_cases hb : b = a <;> first | (simp only [wPF, va_up_ne _ _ hb]; done) | (simp only [wPF, va_up, if_neg hb]; done) | simp [wPF, va_re, va_up, va_rf, hb, h]
theorem wPu_O_CellarPump_f_kept (cyI : ClassId) (cyZ : ClassId) (cyO5a941 : ClassId) (X : va_W) (S : wPS) {A : Nat → Prop} {a k : Nat} (hD : va_D A (X ++ va_pl S.L (wPF cyI cyZ cyO5a941 S))) (hL : a ∈ S.L) (h : S.K a = 11) (hk : (X ++ va_pl S.L (wPF cyI cyZ cyO5a941 S))[k]? = some (a, wPF cyI cyZ cyO5a941 S a)) (v : Option Nat) : (X ++ va_pl S.L (wPF cyI cyZ cyO5a941 S)).set k (a, .inr (11, [va_rf (S.O_CellarPump.f_found a), va_rf (S.O_CellarPump.f_house a), va_rf v, .int (S.O_CellarPump.f_isKept a), va_rf (S.O_CellarPump.f_tape a), va_rf (S.O_CellarPump.f_reader a), va_rf (S.O_CellarPump.f_sheets a), va_rf (S.O_CellarPump.f_nights a), va_rf (S.O_CellarPump.f_choice a)])) = X ++ va_pl S.L (wPF cyI cyZ cyO5a941 { S with O_CellarPump := { S.O_CellarPump with f_kept := va_up S.O_CellarPump.f_kept a v } }) := by
  rw [va_pl_set hD hL hk]
  exact congrArg (fun l => X ++ l) (va_pl_congr (wSt_O_CellarPump_f_kept cyI cyZ cyO5a941 S h v))
theorem wSt_O_CellarPump_f_isKept (cyI : ClassId) (cyZ : ClassId) (cyO5a941 : ClassId) (S : wPS) {a : Nat} (h : S.K a = 11) (v : Int32) (b : Nat) : va_up (wPF cyI cyZ cyO5a941 S) a (.inr (11, [va_rf (S.O_CellarPump.f_found a), va_rf (S.O_CellarPump.f_house a), va_rf (S.O_CellarPump.f_kept a), .int v, va_rf (S.O_CellarPump.f_tape a), va_rf (S.O_CellarPump.f_reader a), va_rf (S.O_CellarPump.f_sheets a), va_rf (S.O_CellarPump.f_nights a), va_rf (S.O_CellarPump.f_choice a)])) b = wPF cyI cyZ cyO5a941 { S with O_CellarPump := { S.O_CellarPump with f_isKept := va_up S.O_CellarPump.f_isKept a v } } b := by by_cases hb : b = a <;> first | (simp only [wPF, va_up_ne _ _ hb]; done) | (simp only [wPF, va_up, if_neg hb]; done) | simp [wPF, va_re, va_up, va_rf, hb, h]
theorem wPu_O_CellarPump_f_isKept (cyI : ClassId) (cyZ : ClassId) (cyO5a941 : ClassId) (X : va_W) (S : wPS) {A : Nat → Prop} {a k : Nat} (hD : va_D A (X ++ va_pl S.L (wPF cyI cyZ cyO5a941 S))) (hL : a ∈ S.L) (h : S.K a = 11) (hk : (X ++ va_pl S.L (wPF cyI cyZ cyO5a941 S))[k]? = some (a, wPF cyI cyZ cyO5a941 S a)) (v : Int32) : (X ++ va_pl S.L (wPF cyI cyZ cyO5a941 S)).set k (a, .inr (11, [va_rf (S.O_CellarPump.f_found a), va_rf (S.O_CellarPump.f_house a), va_rf (S.O_CellarPump.f_kept a), .int v, va_rf (S.O_CellarPump.f_tape a), va_rf (S.O_CellarPump.f_reader a), va_rf (S.O_CellarPump.f_sheets a), va_rf (S.O_CellarPump.f_nights a), va_rf (S.O_CellarPump.f_choice a)])) = X ++ va_pl S.L (wPF cyI cyZ cyO5a941 { S with O_CellarPump := { S.O_CellarPump with f_isKept := va_up S.O_CellarPump.f_isKept a v } }) := by
  rw [va_pl_set hD hL hk]
  exact congrArg (fun l => X ++ l) (va_pl_congr (wSt_O_CellarPump_f_isKept cyI cyZ cyO5a941 S h v))
theorem wSt_O_CellarPump_f_tape (cyI : ClassId) (cyZ : ClassId) (cyO5a941 : ClassId) (S : wPS) {a : Nat} (h : S.K a = 11) (v : Option Nat) (b : Nat) : va_up (wPF cyI cyZ cyO5a941 S) a (.inr (11, [va_rf (S.O_CellarPump.f_found a), va_rf (S.O_CellarPump.f_house a), va_rf (S.O_CellarPump.f_kept a), .int (S.O_CellarPump.f_isKept a), va_rf v, va_rf (S.O_CellarPump.f_reader a), va_rf (S.O_CellarPump.f_sheets a), va_rf (S.O_CellarPump.f_nights a), va_rf (S.O_CellarPump.f_choice a)])) b = wPF cyI cyZ cyO5a941 { S with O_CellarPump := { S.O_CellarPump with f_tape := va_up S.O_CellarPump.f_tape a v } } b := by by_cases hb : b = a <;> first | (simp only [wPF, va_up_ne _ _ hb]; done) | (simp only [wPF, va_up, if_neg hb]; done) | simp [wPF, va_re, va_up, va_rf, hb, h]
theorem wPu_O_CellarPump_f_tape (cyI : ClassId) (cyZ : ClassId) (cyO5a941 : ClassId) (X : va_W) (S : wPS) {A : Nat → Prop} {a k : Nat} (hD : va_D A (X ++ va_pl S.L (wPF cyI cyZ cyO5a941 S))) (hL : a ∈ S.L) (h : S.K a = 11) (hk : (X ++ va_pl S.L (wPF cyI cyZ cyO5a941 S))[k]? = some (a, wPF cyI cyZ cyO5a941 S a)) (v : Option Nat) : (X ++ va_pl S.L (wPF cyI cyZ cyO5a941 S)).set k (a, .inr (11, [va_rf (S.O_CellarPump.f_found a), va_rf (S.O_CellarPump.f_house a), va_rf (S.O_CellarPump.f_kept a), .int (S.O_CellarPump.f_isKept a), va_rf v, va_rf (S.O_CellarPump.f_reader a), va_rf (S.O_CellarPump.f_sheets a), va_rf (S.O_CellarPump.f_nights a), va_rf (S.O_CellarPump.f_choice a)])) = X ++ va_pl S.L (wPF cyI cyZ cyO5a941 { S with O_CellarPump := { S.O_CellarPump with f_tape := va_up S.O_CellarPump.f_tape a v } }) := by
  rw [va_pl_set hD hL hk]
  exact congrArg (fun l => X ++ l) (va_pl_congr (wSt_O_CellarPump_f_tape cyI cyZ cyO5a941 S h v))
theorem wSt_O_CellarPump_f_reader (cyI : ClassId) (cyZ : ClassId) (cyO5a941 : ClassId) (S : wPS) {a : Nat} (h : S.K a = 11) (v : Option Nat) (b : Nat) : va_up (wPF cyI cyZ cyO5a941 S) a (.inr (11, [va_rf (S.O_CellarPump.f_found a), va_rf (S.O_CellarPump.f_house a), va_rf (S.O_CellarPump.f_kept a), .int (S.O_CellarPump.f_isKept a), va_rf (S.O_CellarPump.f_tape a), va_rf v, va_rf (S.O_CellarPump.f_sheets a), va_rf (S.O_CellarPump.f_nights a), va_rf (S.O_CellarPump.f_choice a)])) b = wPF cyI cyZ cyO5a941 { S with O_CellarPump := { S.O_CellarPump with f_reader := va_up S.O_CellarPump.f_reader a v } } b := by by_cases hb : b = a <;> first | (simp only [wPF, va_up_ne _ _ hb]; done) | (simp only [wPF, va_up, if_neg hb]; done) | simp [wPF, va_re, va_up, va_rf, hb, h]
theorem wPu_O_CellarPump_f_reader (cyI : ClassId) (cyZ : ClassId) (cyO5a941 : ClassId) (X : va_W) (S : wPS) {A : Nat → Prop} {a k : Nat} (hD : va_D A (X ++ va_pl S.L (wPF cyI cyZ cyO5a941 S))) (hL : a ∈ S.L) (h : S.K a = 11) (hk : (X ++ va_pl S.L (wPF cyI cyZ cyO5a941 S))[k]? = some (a, wPF cyI cyZ cyO5a941 S a)) (v : Option Nat) : (X ++ va_pl S.L (wPF cyI cyZ cyO5a941 S)).set k (a, .inr (11, [va_rf (S.O_CellarPump.f_found a), va_rf (S.O_CellarPump.f_house a), va_rf (S.O_CellarPump.f_kept a), .int (S.O_CellarPump.f_isKept a), va_rf (S.O_CellarPump.f_tape a), va_rf v, va_rf (S.O_CellarPump.f_sheets a), va_rf (S.O_CellarPump.f_nights a), va_rf (S.O_CellarPump.f_choice a)])) = X ++ va_pl S.L (wPF cyI cyZ cyO5a941 { S with O_CellarPump := { S.O_CellarPump with f_reader := va_up S.O_CellarPump.f_reader a v } }) := by
  rw [va_pl_set hD hL hk]
  exact congrArg (fun l => X ++ l) (va_pl_congr (wSt_O_CellarPump_f_reader cyI cyZ cyO5a941 S h v))
theorem wSt_O_CellarPump_f_sheets (cyI : ClassId) (cyZ : ClassId) (cyO5a941 : ClassId) (S : wPS) {a : Nat} (h : S.K a = 11) (v : Option Nat) (b : Nat) : va_up (wPF cyI cyZ cyO5a941 S) a (.inr (11, [va_rf (S.O_CellarPump.f_found a), va_rf (S.O_CellarPump.f_house a), va_rf (S.O_CellarPump.f_kept a), .int (S.O_CellarPump.f_isKept a), va_rf (S.O_CellarPump.f_tape a), va_rf (S.O_CellarPump.f_reader a), va_rf v, va_rf (S.O_CellarPump.f_nights a), va_rf (S.O_CellarPump.f_choice a)])) b = wPF cyI cyZ cyO5a941 { S with O_CellarPump := { S.O_CellarPump with f_sheets := va_up S.O_CellarPump.f_sheets a v } } b := by by_cases hb : b = a <;> first | (simp only [wPF, va_up_ne _ _ hb]; done) | (simp only [wPF, va_up, if_neg hb]; done) | simp [wPF, va_re, va_up, va_rf, hb, h]
theorem wPu_O_CellarPump_f_sheets (cyI : ClassId) (cyZ : ClassId) (cyO5a941 : ClassId) (X : va_W) (S : wPS) {A : Nat → Prop} {a k : Nat} (hD : va_D A (X ++ va_pl S.L (wPF cyI cyZ cyO5a941 S))) (hL : a ∈ S.L) (h : S.K a = 11) (hk : (X ++ va_pl S.L (wPF cyI cyZ cyO5a941 S))[k]? = some (a, wPF cyI cyZ cyO5a941 S a)) (v : Option Nat) : (X ++ va_pl S.L (wPF cyI cyZ cyO5a941 S)).set k (a, .inr (11, [va_rf (S.O_CellarPump.f_found a), va_rf (S.O_CellarPump.f_house a), va_rf (S.O_CellarPump.f_kept a), .int (S.O_CellarPump.f_isKept a), va_rf (S.O_CellarPump.f_tape a), va_rf (S.O_CellarPump.f_reader a), va_rf v, va_rf (S.O_CellarPump.f_nights a), va_rf (S.O_CellarPump.f_choice a)])) = X ++ va_pl S.L (wPF cyI cyZ cyO5a941 { S with O_CellarPump := { S.O_CellarPump with f_sheets := va_up S.O_CellarPump.f_sheets a v } }) := by
  rw [va_pl_set hD hL hk]
  exact congrArg (fun l => X ++ l) (va_pl_congr (wSt_O_CellarPump_f_sheets cyI cyZ cyO5a941 S h v))
theorem wSt_O_CellarPump_f_nights (cyI : ClassId) (cyZ : ClassId) (cyO5a941 : ClassId) (S : wPS) {a : Nat} (h : S.K a = 11) (v : Option Nat) (b : Nat) : va_up (wPF cyI cyZ cyO5a941 S) a (.inr (11, [va_rf (S.O_CellarPump.f_found a), va_rf (S.O_CellarPump.f_house a), va_rf (S.O_CellarPump.f_kept a), .int (S.O_CellarPump.f_isKept a), va_rf (S.O_CellarPump.f_tape a), va_rf (S.O_CellarPump.f_reader a), va_rf (S.O_CellarPump.f_sheets a), va_rf v, va_rf (S.O_CellarPump.f_choice a)])) b = wPF cyI cyZ cyO5a941 { S with O_CellarPump := { S.O_CellarPump with f_nights := va_up S.O_CellarPump.f_nights a v } } b := by by_cases hb : b = a <;> first | (simp only [wPF, va_up_ne _ _ hb]; done) | (simp only [wPF, va_up, if_neg hb]; done) | simp [wPF, va_re, va_up, va_rf, hb, h]
theorem wPu_O_CellarPump_f_nights (cyI : ClassId) (cyZ : ClassId) (cyO5a941 : ClassId) (X : va_W) (S : wPS) {A : Nat → Prop} {a k : Nat} (hD : va_D A (X ++ va_pl S.L (wPF cyI cyZ cyO5a941 S))) (hL : a ∈ S.L) (h : S.K a = 11) (hk : (X ++ va_pl S.L (wPF cyI cyZ cyO5a941 S))[k]? = some (a, wPF cyI cyZ cyO5a941 S a)) (v : Option Nat) : (X ++ va_pl S.L (wPF cyI cyZ cyO5a941 S)).set k (a, .inr (11, [va_rf (S.O_CellarPump.f_found a), va_rf (S.O_CellarPump.f_house a), va_rf (S.O_CellarPump.f_kept a), .int (S.O_CellarPump.f_isKept a), va_rf (S.O_CellarPump.f_tape a), va_rf (S.O_CellarPump.f_reader a), va_rf (S.O_CellarPump.f_sheets a), va_rf v, va_rf (S.O_CellarPump.f_choice a)])) = X ++ va_pl S.L (wPF cyI cyZ cyO5a941 { S with O_CellarPump := { S.O_CellarPump with f_nights := va_up S.O_CellarPump.f_nights a v } }) := by
  rw [va_pl_set hD hL hk]
  exact congrArg (fun l => X ++ l) (va_pl_congr (wSt_O_CellarPump_f_nights cyI cyZ cyO5a941 S h v))
theorem wSt_O_CellarPump_f_choice (cyI : ClassId) (cyZ : ClassId) (cyO5a941 : ClassId) (S : wPS) {a : Nat} (h : S.K a = 11) (v : Option Nat) (b : Nat) : va_up (wPF cyI cyZ cyO5a941 S) a (.inr (11, [va_rf (S.O_CellarPump.f_found a), va_rf (S.O_CellarPump.f_house a), va_rf (S.O_CellarPump.f_kept a), .int (S.O_CellarPump.f_isKept a), va_rf (S.O_CellarPump.f_tape a), va_rf (S.O_CellarPump.f_reader a), va_rf (S.O_CellarPump.f_sheets a), va_rf (S.O_CellarPump.f_nights a), va_rf v])) b = wPF cyI cyZ cyO5a941 { S with O_CellarPump := { S.O_CellarPump with f_choice := va_up S.O_CellarPump.f_choice a v } } b := by by_cases hb : b = a <;> first | (simp only [wPF, va_up_ne _ _ hb]; done) | (simp only [wPF, va_up, if_neg hb]; done) | simp [wPF, va_re, va_up, va_rf, hb, h]
theorem wPu_O_CellarPump_f_choice (cyI : ClassId) (cyZ : ClassId) (cyO5a941 : ClassId) (X : va_W) (S : wPS) {A : Nat → Prop} {a k : Nat} (hD : va_D A (X ++ va_pl S.L (wPF cyI cyZ cyO5a941 S))) (hL : a ∈ S.L) (h : S.K a = 11) (hk : (X ++ va_pl S.L (wPF cyI cyZ cyO5a941 S))[k]? = some (a, wPF cyI cyZ cyO5a941 S a)) (v : Option Nat) : (X ++ va_pl S.L (wPF cyI cyZ cyO5a941 S)).set k (a, .inr (11, [va_rf (S.O_CellarPump.f_found a), va_rf (S.O_CellarPump.f_house a), va_rf (S.O_CellarPump.f_kept a), .int (S.O_CellarPump.f_isKept a), va_rf (S.O_CellarPump.f_tape a), va_rf (S.O_CellarPump.f_reader a), va_rf (S.O_CellarPump.f_sheets a), va_rf (S.O_CellarPump.f_nights a), va_rf v])) = X ++ va_pl S.L (wPF cyI cyZ cyO5a941 { S with O_CellarPump := { S.O_CellarPump with f_choice := va_up S.O_CellarPump.f_choice a v } }) := by
  rw [va_pl_set hD hL hk]
  exact congrArg (fun l => X ++ l) (va_pl_congr (wSt_O_CellarPump_f_choice cyI cyZ cyO5a941 S h v))
theorem wNw_O_CellarPump (cyI : ClassId) (cyZ : ClassId) (cyO5a941 : ClassId) (S : wPS) (a b : Nat) : va_up (wPF cyI cyZ cyO5a941 S) a (.inr (11, [.null, .null, .null, .int 0, .null, .null, .null, .null, .null])) b = wPF cyI cyZ cyO5a941 { S with L := S.L ++ [a], K := va_up S.K a 11, O_CellarPump := { f_found := va_up S.O_CellarPump.f_found a none, f_house := va_up S.O_CellarPump.f_house a none, f_kept := va_up S.O_CellarPump.f_kept a none, f_isKept := va_up S.O_CellarPump.f_isKept a 0, f_tape := va_up S.O_CellarPump.f_tape a none, f_reader := va_up S.O_CellarPump.f_reader a none, f_sheets := va_up S.O_CellarPump.f_sheets a none, f_nights := va_up S.O_CellarPump.f_nights a none, f_choice := va_up S.O_CellarPump.f_choice a none } } b := by by_cases hb : b = a <;> first | (simp only [wPF, va_up_ne _ _ hb]; done) | (simp only [wPF, va_up, if_neg hb]; done) | simp [wPF, va_re, va_up, va_rf, hb]
theorem wPn_O_CellarPump (cyI : ClassId) (cyZ : ClassId) (cyO5a941 : ClassId) (X : va_W) (S : wPS) {a : Nat} (ha : a ∉ S.L) : (X ++ va_pl S.L (wPF cyI cyZ cyO5a941 S)) ++ [(a, .inr (11, [.null, .null, .null, .int 0, .null, .null, .null, .null, .null]))] = X ++ va_pl (S.L ++ [a]) (wPF cyI cyZ cyO5a941 { S with L := S.L ++ [a], K := va_up S.K a 11, O_CellarPump := { f_found := va_up S.O_CellarPump.f_found a none, f_house := va_up S.O_CellarPump.f_house a none, f_kept := va_up S.O_CellarPump.f_kept a none, f_isKept := va_up S.O_CellarPump.f_isKept a 0, f_tape := va_up S.O_CellarPump.f_tape a none, f_reader := va_up S.O_CellarPump.f_reader a none, f_sheets := va_up S.O_CellarPump.f_sheets a none, f_nights := va_up S.O_CellarPump.f_nights a none, f_choice := va_up S.O_CellarPump.f_choice a none } }) := by
  rw [List.append_assoc, va_pl_push ha]
  exact congrArg (fun l => X ++ l) (va_pl_congr (wNw_O_CellarPump cyI cyZ cyO5a941 S a))
theorem wAt_O_CellarPumpModel (cyI : ClassId) (cyZ : ClassId) (cyO5a941 : ClassId) (S : wPS) {a : Nat} (h : S.K a = 12) : wPF cyI cyZ cyO5a941 S a = .inr (12, [va_rf (S.O_CellarPumpModel.f_s a), va_rf (S.O_CellarPumpModel.f_kept a), va_rf (S.O_CellarPumpModel.f_aside a), .int (S.O_CellarPumpModel.f_isKept a), va_rf (S.O_CellarPumpModel.f_findings a), .int (S.O_CellarPumpModel.f_greatest a), va_rf (S.O_CellarPumpModel.f_tape a), .int (S.O_CellarPumpModel.f_taped a), .int (S.O_CellarPumpModel.f_at a), .int (S.O_CellarPumpModel.f_token a), .int (S.O_CellarPumpModel.f_tokenAt a), .int (S.O_CellarPumpModel.f_value a), va_rf (S.O_CellarPumpModel.f_deed a), .int (S.O_CellarPumpModel.f_deeds a), va_rf (S.O_CellarPumpModel.f_due a), va_rf (S.O_CellarPumpModel.f_bits a), va_rf (S.O_CellarPumpModel.f_sizes a), va_rf (S.O_CellarPumpModel.f_number a), va_rf (S.O_CellarPumpModel.f_carried a)]) := by simp [wPF, h]
theorem wGt_O_CellarPumpModel (cyI : ClassId) (cyZ : ClassId) (cyO5a941 : ClassId) (X : va_W) (S : wPS) {a : Nat} (hL : a ∈ S.L) (h : S.K a = 12) : ∃ k : Nat, (X ++ va_pl S.L (wPF cyI cyZ cyO5a941 S))[k]? = some (a, wPF cyI cyZ cyO5a941 S a) ∧ (X ++ va_pl S.L (wPF cyI cyZ cyO5a941 S))[k]? = some (a, .inr (12, [va_rf (S.O_CellarPumpModel.f_s a), va_rf (S.O_CellarPumpModel.f_kept a), va_rf (S.O_CellarPumpModel.f_aside a), .int (S.O_CellarPumpModel.f_isKept a), va_rf (S.O_CellarPumpModel.f_findings a), .int (S.O_CellarPumpModel.f_greatest a), va_rf (S.O_CellarPumpModel.f_tape a), .int (S.O_CellarPumpModel.f_taped a), .int (S.O_CellarPumpModel.f_at a), .int (S.O_CellarPumpModel.f_token a), .int (S.O_CellarPumpModel.f_tokenAt a), .int (S.O_CellarPumpModel.f_value a), va_rf (S.O_CellarPumpModel.f_deed a), .int (S.O_CellarPumpModel.f_deeds a), va_rf (S.O_CellarPumpModel.f_due a), va_rf (S.O_CellarPumpModel.f_bits a), va_rf (S.O_CellarPumpModel.f_sizes a), va_rf (S.O_CellarPumpModel.f_number a), va_rf (S.O_CellarPumpModel.f_carried a)])) := by
  obtain ⟨k, hk⟩ := va_pl_get (X := X) (f := wPF cyI cyZ cyO5a941 S) hL
  exact ⟨k, hk, hk.trans (congrArg (fun e => some (a, e)) (wAt_O_CellarPumpModel cyI cyZ cyO5a941 S h))⟩
theorem wSt_O_CellarPumpModel_f_s (cyI : ClassId) (cyZ : ClassId) (cyO5a941 : ClassId) (S : wPS) {a : Nat} (h : S.K a = 12) (v : Option Nat) (b : Nat) : va_up (wPF cyI cyZ cyO5a941 S) a (.inr (12, [va_rf v, va_rf (S.O_CellarPumpModel.f_kept a), va_rf (S.O_CellarPumpModel.f_aside a), .int (S.O_CellarPumpModel.f_isKept a), va_rf (S.O_CellarPumpModel.f_findings a), .int (S.O_CellarPumpModel.f_greatest a), va_rf (S.O_CellarPumpModel.f_tape a), .int (S.O_CellarPumpModel.f_taped a), .int (S.O_CellarPumpModel.f_at a), .int (S.O_CellarPumpModel.f_token a), .int (S.O_CellarPumpModel.f_tokenAt a), .int (S.O_CellarPumpModel.f_value a), va_rf (S.O_CellarPumpModel.f_deed a), .int (S.O_CellarPumpModel.f_deeds a), va_rf (S.O_CellarPumpModel.f_due a), va_rf (S.O_CellarPumpModel.f_bits a), va_rf (S.O_CellarPumpModel.f_sizes a), va_rf (S.O_CellarPumpModel.f_number a), va_rf (S.O_CellarPumpModel.f_carried a)])) b = wPF cyI cyZ cyO5a941 { S with O_CellarPumpModel := { S.O_CellarPumpModel with f_s := va_up S.O_CellarPumpModel.f_s a v } } b := by by_cases hb : b = a <;> first | (simp only [wPF, va_up_ne _ _ hb]; done) | (simp only [wPF, va_up, if_neg hb]; done) | simp [wPF, va_re, va_up, va_rf, hb, h]
theorem wPu_O_CellarPumpModel_f_s (cyI : ClassId) (cyZ : ClassId) (cyO5a941 : ClassId) (X : va_W) (S : wPS) {A : Nat → Prop} {a k : Nat} (hD : va_D A (X ++ va_pl S.L (wPF cyI cyZ cyO5a941 S))) (hL : a ∈ S.L) (h : S.K a = 12) (hk : (X ++ va_pl S.L (wPF cyI cyZ cyO5a941 S))[k]? = some (a, wPF cyI cyZ cyO5a941 S a)) (v : Option Nat) : (X ++ va_pl S.L (wPF cyI cyZ cyO5a941 S)).set k (a, .inr (12, [va_rf v, va_rf (S.O_CellarPumpModel.f_kept a), va_rf (S.O_CellarPumpModel.f_aside a), .int (S.O_CellarPumpModel.f_isKept a), va_rf (S.O_CellarPumpModel.f_findings a), .int (S.O_CellarPumpModel.f_greatest a), va_rf (S.O_CellarPumpModel.f_tape a), .int (S.O_CellarPumpModel.f_taped a), .int (S.O_CellarPumpModel.f_at a), .int (S.O_CellarPumpModel.f_token a), .int (S.O_CellarPumpModel.f_tokenAt a), .int (S.O_CellarPumpModel.f_value a), va_rf (S.O_CellarPumpModel.f_deed a), .int (S.O_CellarPumpModel.f_deeds a), va_rf (S.O_CellarPumpModel.f_due a), va_rf (S.O_CellarPumpModel.f_bits a), va_rf (S.O_CellarPumpModel.f_sizes a), va_rf (S.O_CellarPumpModel.f_number a), va_rf (S.O_CellarPumpModel.f_carried a)])) = X ++ va_pl S.L (wPF cyI cyZ cyO5a941 { S with O_CellarPumpModel := { S.O_CellarPumpModel with f_s := va_up S.O_CellarPumpModel.f_s a v } }) := by
  rw [va_pl_set hD hL hk]
  exact congrArg (fun l => X ++ l) (va_pl_congr (wSt_O_CellarPumpModel_f_s cyI cyZ cyO5a941 S h v))
theorem wSt_O_CellarPumpModel_f_kept (cyI : ClassId) (cyZ : ClassId) (cyO5a941 : ClassId) (S : wPS) {a : Nat} (h : S.K a = 12) (v : Option Nat) (b : Nat) : va_up (wPF cyI cyZ cyO5a941 S) a (.inr (12, [va_rf (S.O_CellarPumpModel.f_s a), va_rf v, va_rf (S.O_CellarPumpModel.f_aside a), .int (S.O_CellarPumpModel.f_isKept a), va_rf (S.O_CellarPumpModel.f_findings a), .int (S.O_CellarPumpModel.f_greatest a), va_rf (S.O_CellarPumpModel.f_tape a), .int (S.O_CellarPumpModel.f_taped a), .int (S.O_CellarPumpModel.f_at a), .int (S.O_CellarPumpModel.f_token a), .int (S.O_CellarPumpModel.f_tokenAt a), .int (S.O_CellarPumpModel.f_value a), va_rf (S.O_CellarPumpModel.f_deed a), .int (S.O_CellarPumpModel.f_deeds a), va_rf (S.O_CellarPumpModel.f_due a), va_rf (S.O_CellarPumpModel.f_bits a), va_rf (S.O_CellarPumpModel.f_sizes a), va_rf (S.O_CellarPumpModel.f_number a), va_rf (S.O_CellarPumpModel.f_carried a)])) b = wPF cyI cyZ cyO5a941 { S with O_CellarPumpModel := { S.O_CellarPumpModel with f_kept := va_up S.O_CellarPumpModel.f_kept a v } } b := by by_cases hb : b = a <;> first | (simp only [wPF, va_up_ne _ _ hb]; done) | (simp only [wPF, va_up, if_neg hb]; done) | simp [wPF, va_re, va_up, va_rf, hb, h]
theorem wPu_O_CellarPumpModel_f_kept (cyI : ClassId) (cyZ : ClassId) (cyO5a941 : ClassId) (X : va_W) (S : wPS) {A : Nat → Prop} {a k : Nat} (hD : va_D A (X ++ va_pl S.L (wPF cyI cyZ cyO5a941 S))) (hL : a ∈ S.L) (h : S.K a = 12) (hk : (X ++ va_pl S.L (wPF cyI cyZ cyO5a941 S))[k]? = some (a, wPF cyI cyZ cyO5a941 S a)) (v : Option Nat) : (X ++ va_pl S.L (wPF cyI cyZ cyO5a941 S)).set k (a, .inr (12, [va_rf (S.O_CellarPumpModel.f_s a), va_rf v, va_rf (S.O_CellarPumpModel.f_aside a), .int (S.O_CellarPumpModel.f_isKept a), va_rf (S.O_CellarPumpModel.f_findings a), .int (S.O_CellarPumpModel.f_greatest a), va_rf (S.O_CellarPumpModel.f_tape a), .int (S.O_CellarPumpModel.f_taped a), .int (S.O_CellarPumpModel.f_at a), .int (S.O_CellarPumpModel.f_token a), .int (S.O_CellarPumpModel.f_tokenAt a), .int (S.O_CellarPumpModel.f_value a), va_rf (S.O_CellarPumpModel.f_deed a), .int (S.O_CellarPumpModel.f_deeds a), va_rf (S.O_CellarPumpModel.f_due a), va_rf (S.O_CellarPumpModel.f_bits a), va_rf (S.O_CellarPumpModel.f_sizes a), va_rf (S.O_CellarPumpModel.f_number a), va_rf (S.O_CellarPumpModel.f_carried a)])) = X ++ va_pl S.L (wPF cyI cyZ cyO5a941 { S with O_CellarPumpModel := { S.O_CellarPumpModel with f_kept := va_up S.O_CellarPumpModel.f_kept a v } }) := by
  rw [va_pl_set hD hL hk]
  exact congrArg (fun l => X ++ l) (va_pl_congr (wSt_O_CellarPumpModel_f_kept cyI cyZ cyO5a941 S h v))
theorem wSt_O_CellarPumpModel_f_aside (cyI : ClassId) (cyZ : ClassId) (cyO5a941 : ClassId) (S : wPS) {a : Nat} (h : S.K a = 12) (v : Option Nat) (b : Nat) : va_up (wPF cyI cyZ cyO5a941 S) a (.inr (12, [va_rf (S.O_CellarPumpModel.f_s a), va_rf (S.O_CellarPumpModel.f_kept a), va_rf v, .int (S.O_CellarPumpModel.f_isKept a), va_rf (S.O_CellarPumpModel.f_findings a), .int (S.O_CellarPumpModel.f_greatest a), va_rf (S.O_CellarPumpModel.f_tape a), .int (S.O_CellarPumpModel.f_taped a), .int (S.O_CellarPumpModel.f_at a), .int (S.O_CellarPumpModel.f_token a), .int (S.O_CellarPumpModel.f_tokenAt a), .int (S.O_CellarPumpModel.f_value a), va_rf (S.O_CellarPumpModel.f_deed a), .int (S.O_CellarPumpModel.f_deeds a), va_rf (S.O_CellarPumpModel.f_due a), va_rf (S.O_CellarPumpModel.f_bits a), va_rf (S.O_CellarPumpModel.f_sizes a), va_rf (S.O_CellarPumpModel.f_number a), va_rf (S.O_CellarPumpModel.f_carried a)])) b = wPF cyI cyZ cyO5a941 { S with O_CellarPumpModel := { S.O_CellarPumpModel with f_aside := va_up S.O_CellarPumpModel.f_aside a v } } b := by by_cases hb : b = a <;> first | (simp only [wPF, va_up_ne _ _ hb]; done) | (simp only [wPF, va_up, if_neg hb]; done) | simp [wPF, va_re, va_up, va_rf, hb, h]
theorem wPu_O_CellarPumpModel_f_aside (cyI : ClassId) (cyZ : ClassId) (cyO5a941 : ClassId) (X : va_W) (S : wPS) {A : Nat → Prop} {a k : Nat} (hD : va_D A (X ++ va_pl S.L (wPF cyI cyZ cyO5a941 S))) (hL : a ∈ S.L) (h : S.K a = 12) (hk : (X ++ va_pl S.L (wPF cyI cyZ cyO5a941 S))[k]? = some (a, wPF cyI cyZ cyO5a941 S a)) (v : Option Nat) : (X ++ va_pl S.L (wPF cyI cyZ cyO5a941 S)).set k (a, .inr (12, [va_rf (S.O_CellarPumpModel.f_s a), va_rf (S.O_CellarPumpModel.f_kept a), va_rf v, .int (S.O_CellarPumpModel.f_isKept a), va_rf (S.O_CellarPumpModel.f_findings a), .int (S.O_CellarPumpModel.f_greatest a), va_rf (S.O_CellarPumpModel.f_tape a), .int (S.O_CellarPumpModel.f_taped a), .int (S.O_CellarPumpModel.f_at a), .int (S.O_CellarPumpModel.f_token a), .int (S.O_CellarPumpModel.f_tokenAt a), .int (S.O_CellarPumpModel.f_value a), va_rf (S.O_CellarPumpModel.f_deed a), .int (S.O_CellarPumpModel.f_deeds a), va_rf (S.O_CellarPumpModel.f_due a), va_rf (S.O_CellarPumpModel.f_bits a), va_rf (S.O_CellarPumpModel.f_sizes a), va_rf (S.O_CellarPumpModel.f_number a), va_rf (S.O_CellarPumpModel.f_carried a)])) = X ++ va_pl S.L (wPF cyI cyZ cyO5a941 { S with O_CellarPumpModel := { S.O_CellarPumpModel with f_aside := va_up S.O_CellarPumpModel.f_aside a v } }) := by
  rw [va_pl_set hD hL hk]
  exact congrArg (fun l => X ++ l) (va_pl_congr (wSt_O_CellarPumpModel_f_aside cyI cyZ cyO5a941 S h v))
theorem wSt_O_CellarPumpModel_f_isKept (cyI : ClassId) (cyZ : ClassId) (cyO5a941 : ClassId) (S : wPS) {a : Nat} (h : S.K a = 12) (v : Int32) (b : Nat) : va_up (wPF cyI cyZ cyO5a941 S) a (.inr (12, [va_rf (S.O_CellarPumpModel.f_s a), va_rf (S.O_CellarPumpModel.f_kept a), va_rf (S.O_CellarPumpModel.f_aside a), .int v, va_rf (S.O_CellarPumpModel.f_findings a), .int (S.O_CellarPumpModel.f_greatest a), va_rf (S.O_CellarPumpModel.f_tape a), .int (S.O_CellarPumpModel.f_taped a), .int (S.O_CellarPumpModel.f_at a), .int (S.O_CellarPumpModel.f_token a), .int (S.O_CellarPumpModel.f_tokenAt a), .int (S.O_CellarPumpModel.f_value a), va_rf (S.O_CellarPumpModel.f_deed a), .int (S.O_CellarPumpModel.f_deeds a), va_rf (S.O_CellarPumpModel.f_due a), va_rf (S.O_CellarPumpModel.f_bits a), va_rf (S.O_CellarPumpModel.f_sizes a), va_rf (S.O_CellarPumpModel.f_number a), va_rf (S.O_CellarPumpModel.f_carried a)])) b = wPF cyI cyZ cyO5a941 { S with O_CellarPumpModel := { S.O_CellarPumpModel with f_isKept := va_up S.O_CellarPumpModel.f_isKept a v } } b := by by_cases hb : b = a <;> first | (simp only [wPF, va_up_ne _ _ hb]; done) | (simp only [wPF, va_up, if_neg hb]; done) | simp [wPF, va_re, va_up, va_rf, hb, h]
theorem wPu_O_CellarPumpModel_f_isKept (cyI : ClassId) (cyZ : ClassId) (cyO5a941 : ClassId) (X : va_W) (S : wPS) {A : Nat → Prop} {a k : Nat} (hD : va_D A (X ++ va_pl S.L (wPF cyI cyZ cyO5a941 S))) (hL : a ∈ S.L) (h : S.K a = 12) (hk : (X ++ va_pl S.L (wPF cyI cyZ cyO5a941 S))[k]? = some (a, wPF cyI cyZ cyO5a941 S a)) (v : Int32) : (X ++ va_pl S.L (wPF cyI cyZ cyO5a941 S)).set k (a, .inr (12, [va_rf (S.O_CellarPumpModel.f_s a), va_rf (S.O_CellarPumpModel.f_kept a), va_rf (S.O_CellarPumpModel.f_aside a), .int v, va_rf (S.O_CellarPumpModel.f_findings a), .int (S.O_CellarPumpModel.f_greatest a), va_rf (S.O_CellarPumpModel.f_tape a), .int (S.O_CellarPumpModel.f_taped a), .int (S.O_CellarPumpModel.f_at a), .int (S.O_CellarPumpModel.f_token a), .int (S.O_CellarPumpModel.f_tokenAt a), .int (S.O_CellarPumpModel.f_value a), va_rf (S.O_CellarPumpModel.f_deed a), .int (S.O_CellarPumpModel.f_deeds a), va_rf (S.O_CellarPumpModel.f_due a), va_rf (S.O_CellarPumpModel.f_bits a), va_rf (S.O_CellarPumpModel.f_sizes a), va_rf (S.O_CellarPumpModel.f_number a), va_rf (S.O_CellarPumpModel.f_carried a)])) = X ++ va_pl S.L (wPF cyI cyZ cyO5a941 { S with O_CellarPumpModel := { S.O_CellarPumpModel with f_isKept := va_up S.O_CellarPumpModel.f_isKept a v } }) := by
  rw [va_pl_set hD hL hk]
  exact congrArg (fun l => X ++ l) (va_pl_congr (wSt_O_CellarPumpModel_f_isKept cyI cyZ cyO5a941 S h v))
theorem wSt_O_CellarPumpModel_f_findings (cyI : ClassId) (cyZ : ClassId) (cyO5a941 : ClassId) (S : wPS) {a : Nat} (h : S.K a = 12) (v : Option Nat) (b : Nat) : va_up (wPF cyI cyZ cyO5a941 S) a (.inr (12, [va_rf (S.O_CellarPumpModel.f_s a), va_rf (S.O_CellarPumpModel.f_kept a), va_rf (S.O_CellarPumpModel.f_aside a), .int (S.O_CellarPumpModel.f_isKept a), va_rf v, .int (S.O_CellarPumpModel.f_greatest a), va_rf (S.O_CellarPumpModel.f_tape a), .int (S.O_CellarPumpModel.f_taped a), .int (S.O_CellarPumpModel.f_at a), .int (S.O_CellarPumpModel.f_token a), .int (S.O_CellarPumpModel.f_tokenAt a), .int (S.O_CellarPumpModel.f_value a), va_rf (S.O_CellarPumpModel.f_deed a), .int (S.O_CellarPumpModel.f_deeds a), va_rf (S.O_CellarPumpModel.f_due a), va_rf (S.O_CellarPumpModel.f_bits a), va_rf (S.O_CellarPumpModel.f_sizes a), va_rf (S.O_CellarPumpModel.f_number a), va_rf (S.O_CellarPumpModel.f_carried a)])) b = wPF cyI cyZ cyO5a941 { S with O_CellarPumpModel := { S.O_CellarPumpModel with f_findings := va_up S.O_CellarPumpModel.f_findings a v } } b := by by_cases hb : b = a <;> first | (simp only [wPF, va_up_ne _ _ hb]; done) | (simp only [wPF, va_up, if_neg hb]; done) | simp [wPF, va_re, va_up, va_rf, hb, h]
theorem wPu_O_CellarPumpModel_f_findings (cyI : ClassId) (cyZ : ClassId) (cyO5a941 : ClassId) (X : va_W) (S : wPS) {A : Nat → Prop} {a k : Nat} (hD : va_D A (X ++ va_pl S.L (wPF cyI cyZ cyO5a941 S))) (hL : a ∈ S.L) (h : S.K a = 12) (hk : (X ++ va_pl S.L (wPF cyI cyZ cyO5a941 S))[k]? = some (a, wPF cyI cyZ cyO5a941 S a)) (v : Option Nat) : (X ++ va_pl S.L (wPF cyI cyZ cyO5a941 S)).set k (a, .inr (12, [va_rf (S.O_CellarPumpModel.f_s a), va_rf (S.O_CellarPumpModel.f_kept a), va_rf (S.O_CellarPumpModel.f_aside a), .int (S.O_CellarPumpModel.f_isKept a), va_rf v, .int (S.O_CellarPumpModel.f_greatest a), va_rf (S.O_CellarPumpModel.f_tape a), .int (S.O_CellarPumpModel.f_taped a), .int (S.O_CellarPumpModel.f_at a), .int (S.O_CellarPumpModel.f_token a), .int (S.O_CellarPumpModel.f_tokenAt a), .int (S.O_CellarPumpModel.f_value a), va_rf (S.O_CellarPumpModel.f_deed a), .int (S.O_CellarPumpModel.f_deeds a), va_rf (S.O_CellarPumpModel.f_due a), va_rf (S.O_CellarPumpModel.f_bits a), va_rf (S.O_CellarPumpModel.f_sizes a), va_rf (S.O_CellarPumpModel.f_number a), va_rf (S.O_CellarPumpModel.f_carried a)])) = X ++ va_pl S.L (wPF cyI cyZ cyO5a941 { S with O_CellarPumpModel := { S.O_CellarPumpModel with f_findings := va_up S.O_CellarPumpModel.f_findings a v } }) := by
  rw [va_pl_set hD hL hk]
  exact congrArg (fun l => X ++ l) (va_pl_congr (wSt_O_CellarPumpModel_f_findings cyI cyZ cyO5a941 S h v))
theorem wSt_O_CellarPumpModel_f_greatest (cyI : ClassId) (cyZ : ClassId) (cyO5a941 : ClassId) (S : wPS) {a : Nat} (h : S.K a = 12) (v : Int32) (b : Nat) : va_up (wPF cyI cyZ cyO5a941 S) a (.inr (12, [va_rf (S.O_CellarPumpModel.f_s a), va_rf (S.O_CellarPumpModel.f_kept a), va_rf (S.O_CellarPumpModel.f_aside a), .int (S.O_CellarPumpModel.f_isKept a), va_rf (S.O_CellarPumpModel.f_findings a), .int v, va_rf (S.O_CellarPumpModel.f_tape a), .int (S.O_CellarPumpModel.f_taped a), .int (S.O_CellarPumpModel.f_at a), .int (S.O_CellarPumpModel.f_token a), .int (S.O_CellarPumpModel.f_tokenAt a), .int (S.O_CellarPumpModel.f_value a), va_rf (S.O_CellarPumpModel.f_deed a), .int (S.O_CellarPumpModel.f_deeds a), va_rf (S.O_CellarPumpModel.f_due a), va_rf (S.O_CellarPumpModel.f_bits a), va_rf (S.O_CellarPumpModel.f_sizes a), va_rf (S.O_CellarPumpModel.f_number a), va_rf (S.O_CellarPumpModel.f_carried a)])) b = wPF cyI cyZ cyO5a941 { S with O_CellarPumpModel := { S.O_CellarPumpModel with f_greatest := va_up S.O_CellarPumpModel.f_greatest a v } } b := by by_cases hb : b = a <;> first | (simp only [wPF, va_up_ne _ _ hb]; done) | (simp only [wPF, va_up, if_neg hb]; done) | simp [wPF, va_re, va_up, va_rf, hb, h]
theorem wPu_O_CellarPumpModel_f_greatest (cyI : ClassId) (cyZ : ClassId) (cyO5a941 : ClassId) (X : va_W) (S : wPS) {A : Nat → Prop} {a k : Nat} (hD : va_D A (X ++ va_pl S.L (wPF cyI cyZ cyO5a941 S))) (hL : a ∈ S.L) (h : S.K a = 12) (hk : (X ++ va_pl S.L (wPF cyI cyZ cyO5a941 S))[k]? = some (a, wPF cyI cyZ cyO5a941 S a)) (v : Int32) : (X ++ va_pl S.L (wPF cyI cyZ cyO5a941 S)).set k (a, .inr (12, [va_rf (S.O_CellarPumpModel.f_s a), va_rf (S.O_CellarPumpModel.f_kept a), va_rf (S.O_CellarPumpModel.f_aside a), .int (S.O_CellarPumpModel.f_isKept a), va_rf (S.O_CellarPumpModel.f_findings a), .int v, va_rf (S.O_CellarPumpModel.f_tape a), .int (S.O_CellarPumpModel.f_taped a), .int (S.O_CellarPumpModel.f_at a), .int (S.O_CellarPumpModel.f_token a), .int (S.O_CellarPumpModel.f_tokenAt a), .int (S.O_CellarPumpModel.f_value a), va_rf (S.O_CellarPumpModel.f_deed a), .int (S.O_CellarPumpModel.f_deeds a), va_rf (S.O_CellarPumpModel.f_due a), va_rf (S.O_CellarPumpModel.f_bits a), va_rf (S.O_CellarPumpModel.f_sizes a), va_rf (S.O_CellarPumpModel.f_number a), va_rf (S.O_CellarPumpModel.f_carried a)])) = X ++ va_pl S.L (wPF cyI cyZ cyO5a941 { S with O_CellarPumpModel := { S.O_CellarPumpModel with f_greatest := va_up S.O_CellarPumpModel.f_greatest a v } }) := by
  rw [va_pl_set hD hL hk]
  exact congrArg (fun l => X ++ l) (va_pl_congr (wSt_O_CellarPumpModel_f_greatest cyI cyZ cyO5a941 S h v))
theorem wSt_O_CellarPumpModel_f_tape (cyI : ClassId) (cyZ : ClassId) (cyO5a941 : ClassId) (S : wPS) {a : Nat} (h : S.K a = 12) (v : Option Nat) (b : Nat) : va_up (wPF cyI cyZ cyO5a941 S) a (.inr (12, [va_rf (S.O_CellarPumpModel.f_s a), va_rf (S.O_CellarPumpModel.f_kept a), va_rf (S.O_CellarPumpModel.f_aside a), .int (S.O_CellarPumpModel.f_isKept a), va_rf (S.O_CellarPumpModel.f_findings a), .int (S.O_CellarPumpModel.f_greatest a), va_rf v, .int (S.O_CellarPumpModel.f_taped a), .int (S.O_CellarPumpModel.f_at a), .int (S.O_CellarPumpModel.f_token a), .int (S.O_CellarPumpModel.f_tokenAt a), .int (S.O_CellarPumpModel.f_value a), va_rf (S.O_CellarPumpModel.f_deed a), .int (S.O_CellarPumpModel.f_deeds a), va_rf (S.O_CellarPumpModel.f_due a), va_rf (S.O_CellarPumpModel.f_bits a), va_rf (S.O_CellarPumpModel.f_sizes a), va_rf (S.O_CellarPumpModel.f_number a), va_rf (S.O_CellarPumpModel.f_carried a)])) b = wPF cyI cyZ cyO5a941 { S with O_CellarPumpModel := { S.O_CellarPumpModel with f_tape := va_up S.O_CellarPumpModel.f_tape a v } } b := by by_cases hb : b = a <;> first | (simp only [wPF, va_up_ne _ _ hb]; done) | (simp only [wPF, va_up, if_neg hb]; done) | simp [wPF, va_re, va_up, va_rf, hb, h]
theorem wPu_O_CellarPumpModel_f_tape (cyI : ClassId) (cyZ : ClassId) (cyO5a941 : ClassId) (X : va_W) (S : wPS) {A : Nat → Prop} {a k : Nat} (hD : va_D A (X ++ va_pl S.L (wPF cyI cyZ cyO5a941 S))) (hL : a ∈ S.L) (h : S.K a = 12) (hk : (X ++ va_pl S.L (wPF cyI cyZ cyO5a941 S))[k]? = some (a, wPF cyI cyZ cyO5a941 S a)) (v : Option Nat) : (X ++ va_pl S.L (wPF cyI cyZ cyO5a941 S)).set k (a, .inr (12, [va_rf (S.O_CellarPumpModel.f_s a), va_rf (S.O_CellarPumpModel.f_kept a), va_rf (S.O_CellarPumpModel.f_aside a), .int (S.O_CellarPumpModel.f_isKept a), va_rf (S.O_CellarPumpModel.f_findings a), .int (S.O_CellarPumpModel.f_greatest a), va_rf v, .int (S.O_CellarPumpModel.f_taped a), .int (S.O_CellarPumpModel.f_at a), .int (S.O_CellarPumpModel.f_token a), .int (S.O_CellarPumpModel.f_tokenAt a), .int (S.O_CellarPumpModel.f_value a), va_rf (S.O_CellarPumpModel.f_deed a), .int (S.O_CellarPumpModel.f_deeds a), va_rf (S.O_CellarPumpModel.f_due a), va_rf (S.O_CellarPumpModel.f_bits a), va_rf (S.O_CellarPumpModel.f_sizes a), va_rf (S.O_CellarPumpModel.f_number a), va_rf (S.O_CellarPumpModel.f_carried a)])) = X ++ va_pl S.L (wPF cyI cyZ cyO5a941 { S with O_CellarPumpModel := { S.O_CellarPumpModel with f_tape := va_up S.O_CellarPumpModel.f_tape a v } }) := by
  rw [va_pl_set hD hL hk]
  exact congrArg (fun l => X ++ l) (va_pl_congr (wSt_O_CellarPumpModel_f_tape cyI cyZ cyO5a941 S h v))
theorem wSt_O_CellarPumpModel_f_taped (cyI : ClassId) (cyZ : ClassId) (cyO5a941 : ClassId) (S : wPS) {a : Nat} (h : S.K a = 12) (v : Int32) (b : Nat) : va_up (wPF cyI cyZ cyO5a941 S) a (.inr (12, [va_rf (S.O_CellarPumpModel.f_s a), va_rf (S.O_CellarPumpModel.f_kept a), va_rf (S.O_CellarPumpModel.f_aside a), .int (S.O_CellarPumpModel.f_isKept a), va_rf (S.O_CellarPumpModel.f_findings a), .int (S.O_CellarPumpModel.f_greatest a), va_rf (S.O_CellarPumpModel.f_tape a), .int v, .int (S.O_CellarPumpModel.f_at a), .int (S.O_CellarPumpModel.f_token a), .int (S.O_CellarPumpModel.f_tokenAt a), .int (S.O_CellarPumpModel.f_value a), va_rf (S.O_CellarPumpModel.f_deed a), .int (S.O_CellarPumpModel.f_deeds a), va_rf (S.O_CellarPumpModel.f_due a), va_rf (S.O_CellarPumpModel.f_bits a), va_rf (S.O_CellarPumpModel.f_sizes a), va_rf (S.O_CellarPumpModel.f_number a), va_rf (S.O_CellarPumpModel.f_carried a)])) b = wPF cyI cyZ cyO5a941 { S with O_CellarPumpModel := { S.O_CellarPumpModel with f_taped := va_up S.O_CellarPumpModel.f_taped a v } } b := by by_cases hb : b = a <;> first | (simp only [wPF, va_up_ne _ _ hb]; done) | (simp only [wPF, va_up, if_neg hb]; done) | simp [wPF, va_re, va_up, va_rf, hb, h]
theorem wPu_O_CellarPumpModel_f_taped (cyI : ClassId) (cyZ : ClassId) (cyO5a941 : ClassId) (X : va_W) (S : wPS) {A : Nat → Prop} {a k : Nat} (hD : va_D A (X ++ va_pl S.L (wPF cyI cyZ cyO5a941 S))) (hL : a ∈ S.L) (h : S.K a = 12) (hk : (X ++ va_pl S.L (wPF cyI cyZ cyO5a941 S))[k]? = some (a, wPF cyI cyZ cyO5a941 S a)) (v : Int32) : (X ++ va_pl S.L (wPF cyI cyZ cyO5a941 S)).set k (a, .inr (12, [va_rf (S.O_CellarPumpModel.f_s a), va_rf (S.O_CellarPumpModel.f_kept a), va_rf (S.O_CellarPumpModel.f_aside a), .int (S.O_CellarPumpModel.f_isKept a), va_rf (S.O_CellarPumpModel.f_findings a), .int (S.O_CellarPumpModel.f_greatest a), va_rf (S.O_CellarPumpModel.f_tape a), .int v, .int (S.O_CellarPumpModel.f_at a), .int (S.O_CellarPumpModel.f_token a), .int (S.O_CellarPumpModel.f_tokenAt a), .int (S.O_CellarPumpModel.f_value a), va_rf (S.O_CellarPumpModel.f_deed a), .int (S.O_CellarPumpModel.f_deeds a), va_rf (S.O_CellarPumpModel.f_due a), va_rf (S.O_CellarPumpModel.f_bits a), va_rf (S.O_CellarPumpModel.f_sizes a), va_rf (S.O_CellarPumpModel.f_number a), va_rf (S.O_CellarPumpModel.f_carried a)])) = X ++ va_pl S.L (wPF cyI cyZ cyO5a941 { S with O_CellarPumpModel := { S.O_CellarPumpModel with f_taped := va_up S.O_CellarPumpModel.f_taped a v } }) := by
  rw [va_pl_set hD hL hk]
  exact congrArg (fun l => X ++ l) (va_pl_congr (wSt_O_CellarPumpModel_f_taped cyI cyZ cyO5a941 S h v))
theorem wSt_O_CellarPumpModel_f_at (cyI : ClassId) (cyZ : ClassId) (cyO5a941 : ClassId) (S : wPS) {a : Nat} (h : S.K a = 12) (v : Int32) (b : Nat) : va_up (wPF cyI cyZ cyO5a941 S) a (.inr (12, [va_rf (S.O_CellarPumpModel.f_s a), va_rf (S.O_CellarPumpModel.f_kept a), va_rf (S.O_CellarPumpModel.f_aside a), .int (S.O_CellarPumpModel.f_isKept a), va_rf (S.O_CellarPumpModel.f_findings a), .int (S.O_CellarPumpModel.f_greatest a), va_rf (S.O_CellarPumpModel.f_tape a), .int (S.O_CellarPumpModel.f_taped a), .int v, .int (S.O_CellarPumpModel.f_token a), .int (S.O_CellarPumpModel.f_tokenAt a), .int (S.O_CellarPumpModel.f_value a), va_rf (S.O_CellarPumpModel.f_deed a), .int (S.O_CellarPumpModel.f_deeds a), va_rf (S.O_CellarPumpModel.f_due a), va_rf (S.O_CellarPumpModel.f_bits a), va_rf (S.O_CellarPumpModel.f_sizes a), va_rf (S.O_CellarPumpModel.f_number a), va_rf (S.O_CellarPumpModel.f_carried a)])) b = wPF cyI cyZ cyO5a941 { S with O_CellarPumpModel := { S.O_CellarPumpModel with f_at := va_up S.O_CellarPumpModel.f_at a v } } b := by by_cases hb : b = a <;> first | (simp only [wPF, va_up_ne _ _ hb]; done) | (simp only [wPF, va_up, if_neg hb]; done) | simp [wPF, va_re, va_up, va_rf, hb, h]
theorem wPu_O_CellarPumpModel_f_at (cyI : ClassId) (cyZ : ClassId) (cyO5a941 : ClassId) (X : va_W) (S : wPS) {A : Nat → Prop} {a k : Nat} (hD : va_D A (X ++ va_pl S.L (wPF cyI cyZ cyO5a941 S))) (hL : a ∈ S.L) (h : S.K a = 12) (hk : (X ++ va_pl S.L (wPF cyI cyZ cyO5a941 S))[k]? = some (a, wPF cyI cyZ cyO5a941 S a)) (v : Int32) : (X ++ va_pl S.L (wPF cyI cyZ cyO5a941 S)).set k (a, .inr (12, [va_rf (S.O_CellarPumpModel.f_s a), va_rf (S.O_CellarPumpModel.f_kept a), va_rf (S.O_CellarPumpModel.f_aside a), .int (S.O_CellarPumpModel.f_isKept a), va_rf (S.O_CellarPumpModel.f_findings a), .int (S.O_CellarPumpModel.f_greatest a), va_rf (S.O_CellarPumpModel.f_tape a), .int (S.O_CellarPumpModel.f_taped a), .int v, .int (S.O_CellarPumpModel.f_token a), .int (S.O_CellarPumpModel.f_tokenAt a), .int (S.O_CellarPumpModel.f_value a), va_rf (S.O_CellarPumpModel.f_deed a), .int (S.O_CellarPumpModel.f_deeds a), va_rf (S.O_CellarPumpModel.f_due a), va_rf (S.O_CellarPumpModel.f_bits a), va_rf (S.O_CellarPumpModel.f_sizes a), va_rf (S.O_CellarPumpModel.f_number a), va_rf (S.O_CellarPumpModel.f_carried a)])) = X ++ va_pl S.L (wPF cyI cyZ cyO5a941 { S with O_CellarPumpModel := { S.O_CellarPumpModel with f_at := va_up S.O_CellarPumpModel.f_at a v } }) := by
  rw [va_pl_set hD hL hk]
  exact congrArg (fun l => X ++ l) (va_pl_congr (wSt_O_CellarPumpModel_f_at cyI cyZ cyO5a941 S h v))
theorem wSt_O_CellarPumpModel_f_token (cyI : ClassId) (cyZ : ClassId) (cyO5a941 : ClassId) (S : wPS) {a : Nat} (h : S.K a = 12) (v : Int32) (b : Nat) : va_up (wPF cyI cyZ cyO5a941 S) a (.inr (12, [va_rf (S.O_CellarPumpModel.f_s a), va_rf (S.O_CellarPumpModel.f_kept a), va_rf (S.O_CellarPumpModel.f_aside a), .int (S.O_CellarPumpModel.f_isKept a), va_rf (S.O_CellarPumpModel.f_findings a), .int (S.O_CellarPumpModel.f_greatest a), va_rf (S.O_CellarPumpModel.f_tape a), .int (S.O_CellarPumpModel.f_taped a), .int (S.O_CellarPumpModel.f_at a), .int v, .int (S.O_CellarPumpModel.f_tokenAt a), .int (S.O_CellarPumpModel.f_value a), va_rf (S.O_CellarPumpModel.f_deed a), .int (S.O_CellarPumpModel.f_deeds a), va_rf (S.O_CellarPumpModel.f_due a), va_rf (S.O_CellarPumpModel.f_bits a), va_rf (S.O_CellarPumpModel.f_sizes a), va_rf (S.O_CellarPumpModel.f_number a), va_rf (S.O_CellarPumpModel.f_carried a)])) b = wPF cyI cyZ cyO5a941 { S with O_CellarPumpModel := { S.O_CellarPumpModel with f_token := va_up S.O_CellarPumpModel.f_token a v } } b := by by_cases hb : b = a <;> first | (simp only [wPF, va_up_ne _ _ hb]; done) | (simp only [wPF, va_up, if_neg hb]; done) | simp [wPF, va_re, va_up, va_rf, hb, h]
theorem wPu_O_CellarPumpModel_f_token (cyI : ClassId) (cyZ : ClassId) (cyO5a941 : ClassId) (X : va_W) (S : wPS) {A : Nat → Prop} {a k : Nat} (hD : va_D A (X ++ va_pl S.L (wPF cyI cyZ cyO5a941 S))) (hL : a ∈ S.L) (h : S.K a = 12) (hk : (X ++ va_pl S.L (wPF cyI cyZ cyO5a941 S))[k]? = some (a, wPF cyI cyZ cyO5a941 S a)) (v : Int32) : (X ++ va_pl S.L (wPF cyI cyZ cyO5a941 S)).set k (a, .inr (12, [va_rf (S.O_CellarPumpModel.f_s a), va_rf (S.O_CellarPumpModel.f_kept a), va_rf (S.O_CellarPumpModel.f_aside a), .int (S.O_CellarPumpModel.f_isKept a), va_rf (S.O_CellarPumpModel.f_findings a), .int (S.O_CellarPumpModel.f_greatest a), va_rf (S.O_CellarPumpModel.f_tape a), .int (S.O_CellarPumpModel.f_taped a), .int (S.O_CellarPumpModel.f_at a), .int v, .int (S.O_CellarPumpModel.f_tokenAt a), .int (S.O_CellarPumpModel.f_value a), va_rf (S.O_CellarPumpModel.f_deed a), .int (S.O_CellarPumpModel.f_deeds a), va_rf (S.O_CellarPumpModel.f_due a), va_rf (S.O_CellarPumpModel.f_bits a), va_rf (S.O_CellarPumpModel.f_sizes a), va_rf (S.O_CellarPumpModel.f_number a), va_rf (S.O_CellarPumpModel.f_carried a)])) = X ++ va_pl S.L (wPF cyI cyZ cyO5a941 { S with O_CellarPumpModel := { S.O_CellarPumpModel with f_token := va_up S.O_CellarPumpModel.f_token a v } }) := by
  rw [va_pl_set hD hL hk]
  exact congrArg (fun l => X ++ l) (va_pl_congr (wSt_O_CellarPumpModel_f_token cyI cyZ cyO5a941 S h v))
theorem wSt_O_CellarPumpModel_f_tokenAt (cyI : ClassId) (cyZ : ClassId) (cyO5a941 : ClassId) (S : wPS) {a : Nat} (h : S.K a = 12) (v : Int32) (b : Nat) : va_up (wPF cyI cyZ cyO5a941 S) a (.inr (12, [va_rf (S.O_CellarPumpModel.f_s a), va_rf (S.O_CellarPumpModel.f_kept a), va_rf (S.O_CellarPumpModel.f_aside a), .int (S.O_CellarPumpModel.f_isKept a), va_rf (S.O_CellarPumpModel.f_findings a), .int (S.O_CellarPumpModel.f_greatest a), va_rf (S.O_CellarPumpModel.f_tape a), .int (S.O_CellarPumpModel.f_taped a), .int (S.O_CellarPumpModel.f_at a), .int (S.O_CellarPumpModel.f_token a), .int v, .int (S.O_CellarPumpModel.f_value a), va_rf (S.O_CellarPumpModel.f_deed a), .int (S.O_CellarPumpModel.f_deeds a), va_rf (S.O_CellarPumpModel.f_due a), va_rf (S.O_CellarPumpModel.f_bits a), va_rf (S.O_CellarPumpModel.f_sizes a), va_rf (S.O_CellarPumpModel.f_number a), va_rf (S.O_CellarPumpModel.f_carried a)])) b = wPF cyI cyZ cyO5a941 { S with O_CellarPumpModel := { S.O_CellarPumpModel with f_tokenAt := va_up S.O_CellarPumpModel.f_tokenAt a v } } b := by by_cases hb : b = a <;> first | (simp only [wPF, va_up_ne _ _ hb]; done) | (simp only [wPF, va_up, if_neg hb]; done) | simp [wPF, va_re, va_up, va_rf, hb, h]
theorem wPu_O_CellarPumpModel_f_tokenAt (cyI : ClassId) (cyZ : ClassId) (cyO5a941 : ClassId) (X : va_W) (S : wPS) {A : Nat → Prop} {a k : Nat} (hD : va_D A (X ++ va_pl S.L (wPF cyI cyZ cyO5a941 S))) (hL : a ∈ S.L) (h : S.K a = 12) (hk : (X ++ va_pl S.L (wPF cyI cyZ cyO5a941 S))[k]? = some (a, wPF cyI cyZ cyO5a941 S a)) (v : Int32) : (X ++ va_pl S.L (wPF cyI cyZ cyO5a941 S)).set k (a, .inr (12, [va_rf (S.O_CellarPumpModel.f_s a), va_rf (S.O_CellarPumpModel.f_kept a), va_rf (S.O_CellarPumpModel.f_aside a), .int (S.O_CellarPumpModel.f_isKept a), va_rf (S.O_CellarPumpModel.f_findings a), .int (S.O_CellarPumpModel.f_greatest a), va_rf (S.O_CellarPumpModel.f_tape a), .int (S.O_CellarPumpModel.f_taped a), .int (S.O_CellarPumpModel.f_at a), .int (S.O_CellarPumpModel.f_token a), .int v, .int (S.O_CellarPumpModel.f_value a), va_rf (S.O_CellarPumpModel.f_deed a), .int (S.O_CellarPumpModel.f_deeds a), va_rf (S.O_CellarPumpModel.f_due a), va_rf (S.O_CellarPumpModel.f_bits a), va_rf (S.O_CellarPumpModel.f_sizes a), va_rf (S.O_CellarPumpModel.f_number a), va_rf (S.O_CellarPumpModel.f_carried a)])) = X ++ va_pl S.L (wPF cyI cyZ cyO5a941 { S with O_CellarPumpModel := { S.O_CellarPumpModel with f_tokenAt := va_up S.O_CellarPumpModel.f_tokenAt a v } }) := by
  rw [va_pl_set hD hL hk]
  exact congrArg (fun l => X ++ l) (va_pl_congr (wSt_O_CellarPumpModel_f_tokenAt cyI cyZ cyO5a941 S h v))
theorem wSt_O_CellarPumpModel_f_value (cyI : ClassId) (cyZ : ClassId) (cyO5a941 : ClassId) (S : wPS) {a : Nat} (h : S.K a = 12) (v : Int32) (b : Nat) : va_up (wPF cyI cyZ cyO5a941 S) a (.inr (12, [va_rf (S.O_CellarPumpModel.f_s a), va_rf (S.O_CellarPumpModel.f_kept a), va_rf (S.O_CellarPumpModel.f_aside a), .int (S.O_CellarPumpModel.f_isKept a), va_rf (S.O_CellarPumpModel.f_findings a), .int (S.O_CellarPumpModel.f_greatest a), va_rf (S.O_CellarPumpModel.f_tape a), .int (S.O_CellarPumpModel.f_taped a), .int (S.O_CellarPumpModel.f_at a), .int (S.O_CellarPumpModel.f_token a), .int (S.O_CellarPumpModel.f_tokenAt a), .int v, va_rf (S.O_CellarPumpModel.f_deed a), .int (S.O_CellarPumpModel.f_deeds a), va_rf (S.O_CellarPumpModel.f_due a), va_rf (S.O_CellarPumpModel.f_bits a), va_rf (S.O_CellarPumpModel.f_sizes a), va_rf (S.O_CellarPumpModel.f_number a), va_rf (S.O_CellarPumpModel.f_carried a)])) b = wPF cyI cyZ cyO5a941 { S with O_CellarPumpModel := { S.O_CellarPumpModel with f_value := va_up S.O_CellarPumpModel.f_value a v } } b := by by_cases hb : b = a <;> first | (simp only [wPF, va_up_ne _ _ hb]; done) | (simp only [wPF, va_up, if_neg hb]; done) | simp [wPF, va_re, va_up, va_rf, hb, h]
theorem wPu_O_CellarPumpModel_f_value (cyI : ClassId) (cyZ : ClassId) (cyO5a941 : ClassId) (X : va_W) (S : wPS) {A : Nat → Prop} {a k : Nat} (hD : va_D A (X ++ va_pl S.L (wPF cyI cyZ cyO5a941 S))) (hL : a ∈ S.L) (h : S.K a = 12) (hk : (X ++ va_pl S.L (wPF cyI cyZ cyO5a941 S))[k]? = some (a, wPF cyI cyZ cyO5a941 S a)) (v : Int32) : (X ++ va_pl S.L (wPF cyI cyZ cyO5a941 S)).set k (a, .inr (12, [va_rf (S.O_CellarPumpModel.f_s a), va_rf (S.O_CellarPumpModel.f_kept a), va_rf (S.O_CellarPumpModel.f_aside a), .int (S.O_CellarPumpModel.f_isKept a), va_rf (S.O_CellarPumpModel.f_findings a), .int (S.O_CellarPumpModel.f_greatest a), va_rf (S.O_CellarPumpModel.f_tape a), .int (S.O_CellarPumpModel.f_taped a), .int (S.O_CellarPumpModel.f_at a), .int (S.O_CellarPumpModel.f_token a), .int (S.O_CellarPumpModel.f_tokenAt a), .int v, va_rf (S.O_CellarPumpModel.f_deed a), .int (S.O_CellarPumpModel.f_deeds a), va_rf (S.O_CellarPumpModel.f_due a), va_rf (S.O_CellarPumpModel.f_bits a), va_rf (S.O_CellarPumpModel.f_sizes a), va_rf (S.O_CellarPumpModel.f_number a), va_rf (S.O_CellarPumpModel.f_carried a)])) = X ++ va_pl S.L (wPF cyI cyZ cyO5a941 { S with O_CellarPumpModel := { S.O_CellarPumpModel with f_value := va_up S.O_CellarPumpModel.f_value a v } }) := by
  rw [va_pl_set hD hL hk]
  exact congrArg (fun l => X ++ l) (va_pl_congr (wSt_O_CellarPumpModel_f_value cyI cyZ cyO5a941 S h v))
theorem wSt_O_CellarPumpModel_f_deed (cyI : ClassId) (cyZ : ClassId) (cyO5a941 : ClassId) (S : wPS) {a : Nat} (h : S.K a = 12) (v : Option Nat) (b : Nat) : va_up (wPF cyI cyZ cyO5a941 S) a (.inr (12, [va_rf (S.O_CellarPumpModel.f_s a), va_rf (S.O_CellarPumpModel.f_kept a), va_rf (S.O_CellarPumpModel.f_aside a), .int (S.O_CellarPumpModel.f_isKept a), va_rf (S.O_CellarPumpModel.f_findings a), .int (S.O_CellarPumpModel.f_greatest a), va_rf (S.O_CellarPumpModel.f_tape a), .int (S.O_CellarPumpModel.f_taped a), .int (S.O_CellarPumpModel.f_at a), .int (S.O_CellarPumpModel.f_token a), .int (S.O_CellarPumpModel.f_tokenAt a), .int (S.O_CellarPumpModel.f_value a), va_rf v, .int (S.O_CellarPumpModel.f_deeds a), va_rf (S.O_CellarPumpModel.f_due a), va_rf (S.O_CellarPumpModel.f_bits a), va_rf (S.O_CellarPumpModel.f_sizes a), va_rf (S.O_CellarPumpModel.f_number a), va_rf (S.O_CellarPumpModel.f_carried a)])) b = wPF cyI cyZ cyO5a941 { S with O_CellarPumpModel := { S.O_CellarPumpModel with f_deed := va_up S.O_CellarPumpModel.f_deed a v } } b := by by_cases hb : b = a <;> first | (simp only [wPF, va_up_ne _ _ hb]; done) | (simp only [wPF, va_up, if_neg hb]; done) | simp [wPF, va_re, va_up, va_rf, hb, h]
theorem wPu_O_CellarPumpModel_f_deed (cyI : ClassId) (cyZ : ClassId) (cyO5a941 : ClassId) (X : va_W) (S : wPS) {A : Nat → Prop} {a k : Nat} (hD : va_D A (X ++ va_pl S.L (wPF cyI cyZ cyO5a941 S))) (hL : a ∈ S.L) (h : S.K a = 12) (hk : (X ++ va_pl S.L (wPF cyI cyZ cyO5a941 S))[k]? = some (a, wPF cyI cyZ cyO5a941 S a)) (v : Option Nat) : (X ++ va_pl S.L (wPF cyI cyZ cyO5a941 S)).set k (a, .inr (12, [va_rf (S.O_CellarPumpModel.f_s a), va_rf (S.O_CellarPumpModel.f_kept a), va_rf (S.O_CellarPumpModel.f_aside a), .int (S.O_CellarPumpModel.f_isKept a), va_rf (S.O_CellarPumpModel.f_findings a), .int (S.O_CellarPumpModel.f_greatest a), va_rf (S.O_CellarPumpModel.f_tape a), .int (S.O_CellarPumpModel.f_taped a), .int (S.O_CellarPumpModel.f_at a), .int (S.O_CellarPumpModel.f_token a), .int (S.O_CellarPumpModel.f_tokenAt a), .int (S.O_CellarPumpModel.f_value a), va_rf v, .int (S.O_CellarPumpModel.f_deeds a), va_rf (S.O_CellarPumpModel.f_due a), va_rf (S.O_CellarPumpModel.f_bits a), va_rf (S.O_CellarPumpModel.f_sizes a), va_rf (S.O_CellarPumpModel.f_number a), va_rf (S.O_CellarPumpModel.f_carried a)])) = X ++ va_pl S.L (wPF cyI cyZ cyO5a941 { S with O_CellarPumpModel := { S.O_CellarPumpModel with f_deed := va_up S.O_CellarPumpModel.f_deed a v } }) := by
  rw [va_pl_set hD hL hk]
  exact congrArg (fun l => X ++ l) (va_pl_congr (wSt_O_CellarPumpModel_f_deed cyI cyZ cyO5a941 S h v))
theorem wSt_O_CellarPumpModel_f_deeds (cyI : ClassId) (cyZ : ClassId) (cyO5a941 : ClassId) (S : wPS) {a : Nat} (h : S.K a = 12) (v : Int32) (b : Nat) : va_up (wPF cyI cyZ cyO5a941 S) a (.inr (12, [va_rf (S.O_CellarPumpModel.f_s a), va_rf (S.O_CellarPumpModel.f_kept a), va_rf (S.O_CellarPumpModel.f_aside a), .int (S.O_CellarPumpModel.f_isKept a), va_rf (S.O_CellarPumpModel.f_findings a), .int (S.O_CellarPumpModel.f_greatest a), va_rf (S.O_CellarPumpModel.f_tape a), .int (S.O_CellarPumpModel.f_taped a), .int (S.O_CellarPumpModel.f_at a), .int (S.O_CellarPumpModel.f_token a), .int (S.O_CellarPumpModel.f_tokenAt a), .int (S.O_CellarPumpModel.f_value a), va_rf (S.O_CellarPumpModel.f_deed a), .int v, va_rf (S.O_CellarPumpModel.f_due a), va_rf (S.O_CellarPumpModel.f_bits a), va_rf (S.O_CellarPumpModel.f_sizes a), va_rf (S.O_CellarPumpModel.f_number a), va_rf (S.O_CellarPumpModel.f_carried a)])) b = wPF cyI cyZ cyO5a941 { S with O_CellarPumpModel := { S.O_CellarPumpModel with f_deeds := va_up S.O_CellarPumpModel.f_deeds a v } } b := by by_cases hb : b = a <;> first | (simp only [wPF, va_up_ne _ _ hb]; done) | (simp only [wPF, va_up, if_neg hb]; done) | simp [wPF, va_re, va_up, va_rf, hb, h]
theorem wPu_O_CellarPumpModel_f_deeds (cyI : ClassId) (cyZ : ClassId) (cyO5a941 : ClassId) (X : va_W) (S : wPS) {A : Nat → Prop} {a k : Nat} (hD : va_D A (X ++ va_pl S.L (wPF cyI cyZ cyO5a941 S))) (hL : a ∈ S.L) (h : S.K a = 12) (hk : (X ++ va_pl S.L (wPF cyI cyZ cyO5a941 S))[k]? = some (a, wPF cyI cyZ cyO5a941 S a)) (v : Int32) : (X ++ va_pl S.L (wPF cyI cyZ cyO5a941 S)).set k (a, .inr (12, [va_rf (S.O_CellarPumpModel.f_s a), va_rf (S.O_CellarPumpModel.f_kept a), va_rf (S.O_CellarPumpModel.f_aside a), .int (S.O_CellarPumpModel.f_isKept a), va_rf (S.O_CellarPumpModel.f_findings a), .int (S.O_CellarPumpModel.f_greatest a), va_rf (S.O_CellarPumpModel.f_tape a), .int (S.O_CellarPumpModel.f_taped a), .int (S.O_CellarPumpModel.f_at a), .int (S.O_CellarPumpModel.f_token a), .int (S.O_CellarPumpModel.f_tokenAt a), .int (S.O_CellarPumpModel.f_value a), va_rf (S.O_CellarPumpModel.f_deed a), .int v, va_rf (S.O_CellarPumpModel.f_due a), va_rf (S.O_CellarPumpModel.f_bits a), va_rf (S.O_CellarPumpModel.f_sizes a), va_rf (S.O_CellarPumpModel.f_number a), va_rf (S.O_CellarPumpModel.f_carried a)])) = X ++ va_pl S.L (wPF cyI cyZ cyO5a941 { S with O_CellarPumpModel := { S.O_CellarPumpModel with f_deeds := va_up S.O_CellarPumpModel.f_deeds a v } }) := by
  rw [va_pl_set hD hL hk]
  exact congrArg (fun l => X ++ l) (va_pl_congr (wSt_O_CellarPumpModel_f_deeds cyI cyZ cyO5a941 S h v))
theorem wSt_O_CellarPumpModel_f_due (cyI : ClassId) (cyZ : ClassId) (cyO5a941 : ClassId) (S : wPS) {a : Nat} (h : S.K a = 12) (v : Option Nat) (b : Nat) : va_up (wPF cyI cyZ cyO5a941 S) a (.inr (12, [va_rf (S.O_CellarPumpModel.f_s a), va_rf (S.O_CellarPumpModel.f_kept a), va_rf (S.O_CellarPumpModel.f_aside a), .int (S.O_CellarPumpModel.f_isKept a), va_rf (S.O_CellarPumpModel.f_findings a), .int (S.O_CellarPumpModel.f_greatest a), va_rf (S.O_CellarPumpModel.f_tape a), .int (S.O_CellarPumpModel.f_taped a), .int (S.O_CellarPumpModel.f_at a), .int (S.O_CellarPumpModel.f_token a), .int (S.O_CellarPumpModel.f_tokenAt a), .int (S.O_CellarPumpModel.f_value a), va_rf (S.O_CellarPumpModel.f_deed a), .int (S.O_CellarPumpModel.f_deeds a), va_rf v, va_rf (S.O_CellarPumpModel.f_bits a), va_rf (S.O_CellarPumpModel.f_sizes a), va_rf (S.O_CellarPumpModel.f_number a), va_rf (S.O_CellarPumpModel.f_carried a)])) b = wPF cyI cyZ cyO5a941 { S with O_CellarPumpModel := { S.O_CellarPumpModel with f_due := va_up S.O_CellarPumpModel.f_due a v } } b := by by_cases hb : b = a <;> first | (simp only [wPF, va_up_ne _ _ hb]; done) | (simp only [wPF, va_up, if_neg hb]; done) | simp [wPF, va_re, va_up, va_rf, hb, h]
theorem wPu_O_CellarPumpModel_f_due (cyI : ClassId) (cyZ : ClassId) (cyO5a941 : ClassId) (X : va_W) (S : wPS) {A : Nat → Prop} {a k : Nat} (hD : va_D A (X ++ va_pl S.L (wPF cyI cyZ cyO5a941 S))) (hL : a ∈ S.L) (h : S.K a = 12) (hk : (X ++ va_pl S.L (wPF cyI cyZ cyO5a941 S))[k]? = some (a, wPF cyI cyZ cyO5a941 S a)) (v : Option Nat) : (X ++ va_pl S.L (wPF cyI cyZ cyO5a941 S)).set k (a, .inr (12, [va_rf (S.O_CellarPumpModel.f_s a), va_rf (S.O_CellarPumpModel.f_kept a), va_rf (S.O_CellarPumpModel.f_aside a), .int (S.O_CellarPumpModel.f_isKept a), va_rf (S.O_CellarPumpModel.f_findings a), .int (S.O_CellarPumpModel.f_greatest a), va_rf (S.O_CellarPumpModel.f_tape a), .int (S.O_CellarPumpModel.f_taped a), .int (S.O_CellarPumpModel.f_at a), .int (S.O_CellarPumpModel.f_token a), .int (S.O_CellarPumpModel.f_tokenAt a), .int (S.O_CellarPumpModel.f_value a), va_rf (S.O_CellarPumpModel.f_deed a), .int (S.O_CellarPumpModel.f_deeds a), va_rf v, va_rf (S.O_CellarPumpModel.f_bits a), va_rf (S.O_CellarPumpModel.f_sizes a), va_rf (S.O_CellarPumpModel.f_number a), va_rf (S.O_CellarPumpModel.f_carried a)])) = X ++ va_pl S.L (wPF cyI cyZ cyO5a941 { S with O_CellarPumpModel := { S.O_CellarPumpModel with f_due := va_up S.O_CellarPumpModel.f_due a v } }) := by
  rw [va_pl_set hD hL hk]
  exact congrArg (fun l => X ++ l) (va_pl_congr (wSt_O_CellarPumpModel_f_due cyI cyZ cyO5a941 S h v))
theorem wSt_O_CellarPumpModel_f_bits (cyI : ClassId) (cyZ : ClassId) (cyO5a941 : ClassId) (S : wPS) {a : Nat} (h : S.K a = 12) (v : Option Nat) (b : Nat) : va_up (wPF cyI cyZ cyO5a941 S) a (.inr (12, [va_rf (S.O_CellarPumpModel.f_s a), va_rf (S.O_CellarPumpModel.f_kept a), va_rf (S.O_CellarPumpModel.f_aside a), .int (S.O_CellarPumpModel.f_isKept a), va_rf (S.O_CellarPumpModel.f_findings a), .int (S.O_CellarPumpModel.f_greatest a), va_rf (S.O_CellarPumpModel.f_tape a), .int (S.O_CellarPumpModel.f_taped a), .int (S.O_CellarPumpModel.f_at a), .int (S.O_CellarPumpModel.f_token a), .int (S.O_CellarPumpModel.f_tokenAt a), .int (S.O_CellarPumpModel.f_value a), va_rf (S.O_CellarPumpModel.f_deed a), .int (S.O_CellarPumpModel.f_deeds a), va_rf (S.O_CellarPumpModel.f_due a), va_rf v, va_rf (S.O_CellarPumpModel.f_sizes a), va_rf (S.O_CellarPumpModel.f_number a), va_rf (S.O_CellarPumpModel.f_carried a)])) b = wPF cyI cyZ cyO5a941 { S with O_CellarPumpModel := { S.O_CellarPumpModel with f_bits := va_up S.O_CellarPumpModel.f_bits a v } } b := by by_cases hb : b = a <;> first | (simp only [wPF, va_up_ne _ _ hb]; done) | (simp only [wPF, va_up, if_neg hb]; done) | simp [wPF, va_re, va_up, va_rf, hb, h]
theorem wPu_O_CellarPumpModel_f_bits (cyI : ClassId) (cyZ : ClassId) (cyO5a941 : ClassId) (X : va_W) (S : wPS) {A : Nat → Prop} {a k : Nat} (hD : va_D A (X ++ va_pl S.L (wPF cyI cyZ cyO5a941 S))) (hL : a ∈ S.L) (h : S.K a = 12) (hk : (X ++ va_pl S.L (wPF cyI cyZ cyO5a941 S))[k]? = some (a, wPF cyI cyZ cyO5a941 S a)) (v : Option Nat) : (X ++ va_pl S.L (wPF cyI cyZ cyO5a941 S)).set k (a, .inr (12, [va_rf (S.O_CellarPumpModel.f_s a), va_rf (S.O_CellarPumpModel.f_kept a), va_rf (S.O_CellarPumpModel.f_aside a), .int (S.O_CellarPumpModel.f_isKept a), va_rf (S.O_CellarPumpModel.f_findings a), .int (S.O_CellarPumpModel.f_greatest a), va_rf (S.O_CellarPumpModel.f_tape a), .int (S.O_CellarPumpModel.f_taped a), .int (S.O_CellarPumpModel.f_at a), .int (S.O_CellarPumpModel.f_token a), .int (S.O_CellarPumpModel.f_tokenAt a), .int (S.O_CellarPumpModel.f_value a), va_rf (S.O_CellarPumpModel.f_deed a), .int (S.O_CellarPumpModel.f_deeds a), va_rf (S.O_CellarPumpModel.f_due a), va_rf v, va_rf (S.O_CellarPumpModel.f_sizes a), va_rf (S.O_CellarPumpModel.f_number a), va_rf (S.O_CellarPumpModel.f_carried a)])) = X ++ va_pl S.L (wPF cyI cyZ cyO5a941 { S with O_CellarPumpModel := { S.O_CellarPumpModel with f_bits := va_up S.O_CellarPumpModel.f_bits a v } }) := by
  rw [va_pl_set hD hL hk]
  exact congrArg (fun l => X ++ l) (va_pl_congr (wSt_O_CellarPumpModel_f_bits cyI cyZ cyO5a941 S h v))
theorem wSt_O_CellarPumpModel_f_sizes (cyI : ClassId) (cyZ : ClassId) (cyO5a941 : ClassId) (S : wPS) {a : Nat} (h : S.K a = 12) (v : Option Nat) (b : Nat) : va_up (wPF cyI cyZ cyO5a941 S) a (.inr (12, [va_rf (S.O_CellarPumpModel.f_s a), va_rf (S.O_CellarPumpModel.f_kept a), va_rf (S.O_CellarPumpModel.f_aside a), .int (S.O_CellarPumpModel.f_isKept a), va_rf (S.O_CellarPumpModel.f_findings a), .int (S.O_CellarPumpModel.f_greatest a), va_rf (S.O_CellarPumpModel.f_tape a), .int (S.O_CellarPumpModel.f_taped a), .int (S.O_CellarPumpModel.f_at a), .int (S.O_CellarPumpModel.f_token a), .int (S.O_CellarPumpModel.f_tokenAt a), .int (S.O_CellarPumpModel.f_value a), va_rf (S.O_CellarPumpModel.f_deed a), .int (S.O_CellarPumpModel.f_deeds a), va_rf (S.O_CellarPumpModel.f_due a), va_rf (S.O_CellarPumpModel.f_bits a), va_rf v, va_rf (S.O_CellarPumpModel.f_number a), va_rf (S.O_CellarPumpModel.f_carried a)])) b = wPF cyI cyZ cyO5a941 { S with O_CellarPumpModel := { S.O_CellarPumpModel with f_sizes := va_up S.O_CellarPumpModel.f_sizes a v } } b := by by_cases hb : b = a <;> first | (simp only [wPF, va_up_ne _ _ hb]; done) | (simp only [wPF, va_up, if_neg hb]; done) | simp [wPF, va_re, va_up, va_rf, hb, h]
theorem wPu_O_CellarPumpModel_f_sizes (cyI : ClassId) (cyZ : ClassId) (cyO5a941 : ClassId) (X : va_W) (S : wPS) {A : Nat → Prop} {a k : Nat} (hD : va_D A (X ++ va_pl S.L (wPF cyI cyZ cyO5a941 S))) (hL : a ∈ S.L) (h : S.K a = 12) (hk : (X ++ va_pl S.L (wPF cyI cyZ cyO5a941 S))[k]? = some (a, wPF cyI cyZ cyO5a941 S a)) (v : Option Nat) : (X ++ va_pl S.L (wPF cyI cyZ cyO5a941 S)).set k (a, .inr (12, [va_rf (S.O_CellarPumpModel.f_s a), va_rf (S.O_CellarPumpModel.f_kept a), va_rf (S.O_CellarPumpModel.f_aside a), .int (S.O_CellarPumpModel.f_isKept a), va_rf (S.O_CellarPumpModel.f_findings a), .int (S.O_CellarPumpModel.f_greatest a), va_rf (S.O_CellarPumpModel.f_tape a), .int (S.O_CellarPumpModel.f_taped a), .int (S.O_CellarPumpModel.f_at a), .int (S.O_CellarPumpModel.f_token a), .int (S.O_CellarPumpModel.f_tokenAt a), .int (S.O_CellarPumpModel.f_value a), va_rf (S.O_CellarPumpModel.f_deed a), .int (S.O_CellarPumpModel.f_deeds a), va_rf (S.O_CellarPumpModel.f_due a), va_rf (S.O_CellarPumpModel.f_bits a), va_rf v, va_rf (S.O_CellarPumpModel.f_number a), va_rf (S.O_CellarPumpModel.f_carried a)])) = X ++ va_pl S.L (wPF cyI cyZ cyO5a941 { S with O_CellarPumpModel := { S.O_CellarPumpModel with f_sizes := va_up S.O_CellarPumpModel.f_sizes a v } }) := by
  rw [va_pl_set hD hL hk]
  exact congrArg (fun l => X ++ l) (va_pl_congr (wSt_O_CellarPumpModel_f_sizes cyI cyZ cyO5a941 S h v))
theorem wSt_O_CellarPumpModel_f_number (cyI : ClassId) (cyZ : ClassId) (cyO5a941 : ClassId) (S : wPS) {a : Nat} (h : S.K a = 12) (v : Option Nat) (b : Nat) : va_up (wPF cyI cyZ cyO5a941 S) a (.inr (12, [va_rf (S.O_CellarPumpModel.f_s a), va_rf (S.O_CellarPumpModel.f_kept a), va_rf (S.O_CellarPumpModel.f_aside a), .int (S.O_CellarPumpModel.f_isKept a), va_rf (S.O_CellarPumpModel.f_findings a), .int (S.O_CellarPumpModel.f_greatest a), va_rf (S.O_CellarPumpModel.f_tape a), .int (S.O_CellarPumpModel.f_taped a), .int (S.O_CellarPumpModel.f_at a), .int (S.O_CellarPumpModel.f_token a), .int (S.O_CellarPumpModel.f_tokenAt a), .int (S.O_CellarPumpModel.f_value a), va_rf (S.O_CellarPumpModel.f_deed a), .int (S.O_CellarPumpModel.f_deeds a), va_rf (S.O_CellarPumpModel.f_due a), va_rf (S.O_CellarPumpModel.f_bits a), va_rf (S.O_CellarPumpModel.f_sizes a), va_rf v, va_rf (S.O_CellarPumpModel.f_carried a)])) b = wPF cyI cyZ cyO5a941 { S with O_CellarPumpModel := { S.O_CellarPumpModel with f_number := va_up S.O_CellarPumpModel.f_number a v } } b := by by_cases hb : b = a <;> first | (simp only [wPF, va_up_ne _ _ hb]; done) | (simp only [wPF, va_up, if_neg hb]; done) | simp [wPF, va_re, va_up, va_rf, hb, h]
theorem wPu_O_CellarPumpModel_f_number (cyI : ClassId) (cyZ : ClassId) (cyO5a941 : ClassId) (X : va_W) (S : wPS) {A : Nat → Prop} {a k : Nat} (hD : va_D A (X ++ va_pl S.L (wPF cyI cyZ cyO5a941 S))) (hL : a ∈ S.L) (h : S.K a = 12) (hk : (X ++ va_pl S.L (wPF cyI cyZ cyO5a941 S))[k]? = some (a, wPF cyI cyZ cyO5a941 S a)) (v : Option Nat) : (X ++ va_pl S.L (wPF cyI cyZ cyO5a941 S)).set k (a, .inr (12, [va_rf (S.O_CellarPumpModel.f_s a), va_rf (S.O_CellarPumpModel.f_kept a), va_rf (S.O_CellarPumpModel.f_aside a), .int (S.O_CellarPumpModel.f_isKept a), va_rf (S.O_CellarPumpModel.f_findings a), .int (S.O_CellarPumpModel.f_greatest a), va_rf (S.O_CellarPumpModel.f_tape a), .int (S.O_CellarPumpModel.f_taped a), .int (S.O_CellarPumpModel.f_at a), .int (S.O_CellarPumpModel.f_token a), .int (S.O_CellarPumpModel.f_tokenAt a), .int (S.O_CellarPumpModel.f_value a), va_rf (S.O_CellarPumpModel.f_deed a), .int (S.O_CellarPumpModel.f_deeds a), va_rf (S.O_CellarPumpModel.f_due a), va_rf (S.O_CellarPumpModel.f_bits a), va_rf (S.O_CellarPumpModel.f_sizes a), va_rf v, va_rf (S.O_CellarPumpModel.f_carried a)])) = X ++ va_pl S.L (wPF cyI cyZ cyO5a941 { S with O_CellarPumpModel := { S.O_CellarPumpModel with f_number := va_up S.O_CellarPumpModel.f_number a v } }) := by
  rw [va_pl_set hD hL hk]
  exact congrArg (fun l => X ++ l) (va_pl_congr (wSt_O_CellarPumpModel_f_number cyI cyZ cyO5a941 S h v))
theorem wSt_O_CellarPumpModel_f_carried (cyI : ClassId) (cyZ : ClassId) (cyO5a941 : ClassId) (S : wPS) {a : Nat} (h : S.K a = 12) (v : Option Nat) (b : Nat) : va_up (wPF cyI cyZ cyO5a941 S) a (.inr (12, [va_rf (S.O_CellarPumpModel.f_s a), va_rf (S.O_CellarPumpModel.f_kept a), va_rf (S.O_CellarPumpModel.f_aside a), .int (S.O_CellarPumpModel.f_isKept a), va_rf (S.O_CellarPumpModel.f_findings a), .int (S.O_CellarPumpModel.f_greatest a), va_rf (S.O_CellarPumpModel.f_tape a), .int (S.O_CellarPumpModel.f_taped a), .int (S.O_CellarPumpModel.f_at a), .int (S.O_CellarPumpModel.f_token a), .int (S.O_CellarPumpModel.f_tokenAt a), .int (S.O_CellarPumpModel.f_value a), va_rf (S.O_CellarPumpModel.f_deed a), .int (S.O_CellarPumpModel.f_deeds a), va_rf (S.O_CellarPumpModel.f_due a), va_rf (S.O_CellarPumpModel.f_bits a), va_rf (S.O_CellarPumpModel.f_sizes a), va_rf (S.O_CellarPumpModel.f_number a), va_rf v])) b = wPF cyI cyZ cyO5a941 { S with O_CellarPumpModel := { S.O_CellarPumpModel with f_carried := va_up S.O_CellarPumpModel.f_carried a v } } b := by by_cases hb : b = a <;> first | (simp only [wPF, va_up_ne _ _ hb]; done) | (simp only [wPF, va_up, if_neg hb]; done) | simp [wPF, va_re, va_up, va_rf, hb, h]
theorem wPu_O_CellarPumpModel_f_carried (cyI : ClassId) (cyZ : ClassId) (cyO5a941 : ClassId) (X : va_W) (S : wPS) {A : Nat → Prop} {a k : Nat} (hD : va_D A (X ++ va_pl S.L (wPF cyI cyZ cyO5a941 S))) (hL : a ∈ S.L) (h : S.K a = 12) (hk : (X ++ va_pl S.L (wPF cyI cyZ cyO5a941 S))[k]? = some (a, wPF cyI cyZ cyO5a941 S a)) (v : Option Nat) : (X ++ va_pl S.L (wPF cyI cyZ cyO5a941 S)).set k (a, .inr (12, [va_rf (S.O_CellarPumpModel.f_s a), va_rf (S.O_CellarPumpModel.f_kept a), va_rf (S.O_CellarPumpModel.f_aside a), .int (S.O_CellarPumpModel.f_isKept a), va_rf (S.O_CellarPumpModel.f_findings a), .int (S.O_CellarPumpModel.f_greatest a), va_rf (S.O_CellarPumpModel.f_tape a), .int (S.O_CellarPumpModel.f_taped a), .int (S.O_CellarPumpModel.f_at a), .int (S.O_CellarPumpModel.f_token a), .int (S.O_CellarPumpModel.f_tokenAt a), .int (S.O_CellarPumpModel.f_value a), va_rf (S.O_CellarPumpModel.f_deed a), .int (S.O_CellarPumpModel.f_deeds a), va_rf (S.O_CellarPumpModel.f_due a), va_rf (S.O_CellarPumpModel.f_bits a), va_rf (S.O_CellarPumpModel.f_sizes a), va_rf (S.O_CellarPumpModel.f_number a), va_rf v])) = X ++ va_pl S.L (wPF cyI cyZ cyO5a941 { S with O_CellarPumpModel := { S.O_CellarPumpModel with f_carried := va_up S.O_CellarPumpModel.f_carried a v } }) := by
  rw [va_pl_set hD hL hk]
  exact congrArg (fun l => X ++ l) (va_pl_congr (wSt_O_CellarPumpModel_f_carried cyI cyZ cyO5a941 S h v))
theorem wNw_O_CellarPumpModel (cyI : ClassId) (cyZ : ClassId) (cyO5a941 : ClassId) (S : wPS) (a b : Nat) : va_up (wPF cyI cyZ cyO5a941 S) a (.inr (12, [.null, .null, .null, .int 0, .null, .int 0, .null, .int 0, .int 0, .int 0, .int 0, .int 0, .null, .int 0, .null, .null, .null, .null, .null])) b = wPF cyI cyZ cyO5a941 { S with L := S.L ++ [a], K := va_up S.K a 12, O_CellarPumpModel := { f_s := va_up S.O_CellarPumpModel.f_s a none, f_kept := va_up S.O_CellarPumpModel.f_kept a none, f_aside := va_up S.O_CellarPumpModel.f_aside a none, f_isKept := va_up S.O_CellarPumpModel.f_isKept a 0, f_findings := va_up S.O_CellarPumpModel.f_findings a none, f_greatest := va_up S.O_CellarPumpModel.f_greatest a 0, f_tape := va_up S.O_CellarPumpModel.f_tape a none, f_taped := va_up S.O_CellarPumpModel.f_taped a 0, f_at := va_up S.O_CellarPumpModel.f_at a 0, f_token := va_up S.O_CellarPumpModel.f_token a 0, f_tokenAt := va_up S.O_CellarPumpModel.f_tokenAt a 0, f_value := va_up S.O_CellarPumpModel.f_value a 0, f_deed := va_up S.O_CellarPumpModel.f_deed a none, f_deeds := va_up S.O_CellarPumpModel.f_deeds a 0, f_due := va_up S.O_CellarPumpModel.f_due a none, f_bits := va_up S.O_CellarPumpModel.f_bits a none, f_sizes := va_up S.O_CellarPumpModel.f_sizes a none, f_number := va_up S.O_CellarPumpModel.f_number a none, f_carried := va_up S.O_CellarPumpModel.f_carried a none } } b := by by_cases hb : b = a <;> first | (simp only [wPF, va_up_ne _ _ hb]; done) | (simp only [wPF, va_up, if_neg hb]; done) | simp [wPF, va_re, va_up, va_rf, hb]
theorem wPn_O_CellarPumpModel (cyI : ClassId) (cyZ : ClassId) (cyO5a941 : ClassId) (X : va_W) (S : wPS) {a : Nat} (ha : a ∉ S.L) : (X ++ va_pl S.L (wPF cyI cyZ cyO5a941 S)) ++ [(a, .inr (12, [.null, .null, .null, .int 0, .null, .int 0, .null, .int 0, .int 0, .int 0, .int 0, .int 0, .null, .int 0, .null, .null, .null, .null, .null]))] = X ++ va_pl (S.L ++ [a]) (wPF cyI cyZ cyO5a941 { S with L := S.L ++ [a], K := va_up S.K a 12, O_CellarPumpModel := { f_s := va_up S.O_CellarPumpModel.f_s a none, f_kept := va_up S.O_CellarPumpModel.f_kept a none, f_aside := va_up S.O_CellarPumpModel.f_aside a none, f_isKept := va_up S.O_CellarPumpModel.f_isKept a 0, f_findings := va_up S.O_CellarPumpModel.f_findings a none, f_greatest := va_up S.O_CellarPumpModel.f_greatest a 0, f_tape := va_up S.O_CellarPumpModel.f_tape a none, f_taped := va_up S.O_CellarPumpModel.f_taped a 0, f_at := va_up S.O_CellarPumpModel.f_at a 0, f_token := va_up S.O_CellarPumpModel.f_token a 0, f_tokenAt := va_up S.O_CellarPumpModel.f_tokenAt a 0, f_value := va_up S.O_CellarPumpModel.f_value a 0, f_deed := va_up S.O_CellarPumpModel.f_deed a none, f_deeds := va_up S.O_CellarPumpModel.f_deeds a 0, f_due := va_up S.O_CellarPumpModel.f_due a none, f_bits := va_up S.O_CellarPumpModel.f_bits a none, f_sizes := va_up S.O_CellarPumpModel.f_sizes a none, f_number := va_up S.O_CellarPumpModel.f_number a none, f_carried := va_up S.O_CellarPumpModel.f_carried a none } }) := by
  rw [List.append_assoc, va_pl_push ha]
  exact congrArg (fun l => X ++ l) (va_pl_congr (wNw_O_CellarPumpModel cyI cyZ cyO5a941 S a))
theorem wAt_R_I (cyI : ClassId) (cyZ : ClassId) (cyO5a941 : ClassId) (S : wPS) {a : Nat} (h : S.K a = 13) : wPF cyI cyZ cyO5a941 S a = .inl (cyI, S.R_I.len a, .inl (S.R_I.row a)) := by simp [wPF, h]
theorem wGt_R_I (cyI : ClassId) (cyZ : ClassId) (cyO5a941 : ClassId) (X : va_W) (S : wPS) {a : Nat} (hL : a ∈ S.L) (h : S.K a = 13) : ∃ k : Nat, (X ++ va_pl S.L (wPF cyI cyZ cyO5a941 S))[k]? = some (a, wPF cyI cyZ cyO5a941 S a) ∧ (X ++ va_pl S.L (wPF cyI cyZ cyO5a941 S))[k]? = some (a, .inl (cyI, S.R_I.len a, .inl (S.R_I.row a))) := by
  obtain ⟨k, hk⟩ := va_pl_get (X := X) (f := wPF cyI cyZ cyO5a941 S) hL
  exact ⟨k, hk, hk.trans (congrArg (fun e => some (a, e)) (wAt_R_I cyI cyZ cyO5a941 S h))⟩
theorem wSt_R_I_row (cyI : ClassId) (cyZ : ClassId) (cyO5a941 : ClassId) (S : wPS) {a : Nat} (h : S.K a = 13) (v : Nat → Int32) (b : Nat) : va_up (wPF cyI cyZ cyO5a941 S) a (.inl (cyI, S.R_I.len a, .inl v)) b = wPF cyI cyZ cyO5a941 { S with R_I := { S.R_I with row := va_up S.R_I.row a v } } b := by by_cases hb : b = a <;> first | (simp only [wPF, va_up_ne _ _ hb]; done) | (simp only [wPF, va_up, if_neg hb]; done) | simp [wPF, va_re, va_up, va_rf, hb, h]
theorem wPu_R_I_row (cyI : ClassId) (cyZ : ClassId) (cyO5a941 : ClassId) (X : va_W) (S : wPS) {A : Nat → Prop} {a k : Nat} (hD : va_D A (X ++ va_pl S.L (wPF cyI cyZ cyO5a941 S))) (hL : a ∈ S.L) (h : S.K a = 13) (hk : (X ++ va_pl S.L (wPF cyI cyZ cyO5a941 S))[k]? = some (a, wPF cyI cyZ cyO5a941 S a)) (v : Nat → Int32) : (X ++ va_pl S.L (wPF cyI cyZ cyO5a941 S)).set k (a, .inl (cyI, S.R_I.len a, .inl v)) = X ++ va_pl S.L (wPF cyI cyZ cyO5a941 { S with R_I := { S.R_I with row := va_up S.R_I.row a v } }) := by
  rw [va_pl_set hD hL hk]
  exact congrArg (fun l => X ++ l) (va_pl_congr (wSt_R_I_row cyI cyZ cyO5a941 S h v))
theorem wNw_R_I (cyI : ClassId) (cyZ : ClassId) (cyO5a941 : ClassId) (S : wPS) (a : Nat) (z : Nat) (f : Nat → Int32) (b : Nat) : va_up (wPF cyI cyZ cyO5a941 S) a (.inl (cyI, z, .inl f)) b = wPF cyI cyZ cyO5a941 { S with L := S.L ++ [a], K := va_up S.K a 13, R_I := { len := va_up S.R_I.len a z, row := va_up S.R_I.row a f } } b := by by_cases hb : b = a <;> first | (simp only [wPF, va_up_ne _ _ hb]; done) | (simp only [wPF, va_up, if_neg hb]; done) | simp [wPF, va_re, va_up, va_rf, hb]
theorem wAt_R_Z (cyI : ClassId) (cyZ : ClassId) (cyO5a941 : ClassId) (S : wPS) {a : Nat} (h : S.K a = 14) : wPF cyI cyZ cyO5a941 S a = .inl (cyZ, S.R_Z.len a, .inl (S.R_Z.row a)) := by simp [wPF, h]
theorem wGt_R_Z (cyI : ClassId) (cyZ : ClassId) (cyO5a941 : ClassId) (X : va_W) (S : wPS) {a : Nat} (hL : a ∈ S.L) (h : S.K a = 14) : ∃ k : Nat, (X ++ va_pl S.L (wPF cyI cyZ cyO5a941 S))[k]? = some (a, wPF cyI cyZ cyO5a941 S a) ∧ (X ++ va_pl S.L (wPF cyI cyZ cyO5a941 S))[k]? = some (a, .inl (cyZ, S.R_Z.len a, .inl (S.R_Z.row a))) := by
  obtain ⟨k, hk⟩ := va_pl_get (X := X) (f := wPF cyI cyZ cyO5a941 S) hL
  exact ⟨k, hk, hk.trans (congrArg (fun e => some (a, e)) (wAt_R_Z cyI cyZ cyO5a941 S h))⟩
theorem wSt_R_Z_row (cyI : ClassId) (cyZ : ClassId) (cyO5a941 : ClassId) (S : wPS) {a : Nat} (h : S.K a = 14) (v : Nat → Int32) (b : Nat) : va_up (wPF cyI cyZ cyO5a941 S) a (.inl (cyZ, S.R_Z.len a, .inl v)) b = wPF cyI cyZ cyO5a941 { S with R_Z := { S.R_Z with row := va_up S.R_Z.row a v } } b := by by_cases hb : b = a <;> first | (simp only [wPF, va_up_ne _ _ hb]; done) | (simp only [wPF, va_up, if_neg hb]; done) | simp [wPF, va_re, va_up, va_rf, hb, h]
theorem wPu_R_Z_row (cyI : ClassId) (cyZ : ClassId) (cyO5a941 : ClassId) (X : va_W) (S : wPS) {A : Nat → Prop} {a k : Nat} (hD : va_D A (X ++ va_pl S.L (wPF cyI cyZ cyO5a941 S))) (hL : a ∈ S.L) (h : S.K a = 14) (hk : (X ++ va_pl S.L (wPF cyI cyZ cyO5a941 S))[k]? = some (a, wPF cyI cyZ cyO5a941 S a)) (v : Nat → Int32) : (X ++ va_pl S.L (wPF cyI cyZ cyO5a941 S)).set k (a, .inl (cyZ, S.R_Z.len a, .inl v)) = X ++ va_pl S.L (wPF cyI cyZ cyO5a941 { S with R_Z := { S.R_Z with row := va_up S.R_Z.row a v } }) := by
  rw [va_pl_set hD hL hk]
  exact congrArg (fun l => X ++ l) (va_pl_congr (wSt_R_Z_row cyI cyZ cyO5a941 S h v))
theorem wNw_R_Z (cyI : ClassId) (cyZ : ClassId) (cyO5a941 : ClassId) (S : wPS) (a : Nat) (z : Nat) (f : Nat → Int32) (b : Nat) : va_up (wPF cyI cyZ cyO5a941 S) a (.inl (cyZ, z, .inl f)) b = wPF cyI cyZ cyO5a941 { S with L := S.L ++ [a], K := va_up S.K a 14, R_Z := { len := va_up S.R_Z.len a z, row := va_up S.R_Z.row a f } } b := by by_cases hb : b = a <;> first | (simp only [wPF, va_up_ne _ _ hb]; done) | (simp only [wPF, va_up, if_neg hb]; done) | simp [wPF, va_re, va_up, va_rf, hb]
theorem wAt_R_Sheet (cyI : ClassId) (cyZ : ClassId) (cyO5a941 : ClassId) (S : wPS) {a : Nat} (h : S.K a = 15) : wPF cyI cyZ cyO5a941 S a = .inl (cyO5a941, S.R_Sheet.len a, .inr (.inr (.inr (.inr (S.R_Sheet.row a))))) := by simp [wPF, h]
theorem wGt_R_Sheet (cyI : ClassId) (cyZ : ClassId) (cyO5a941 : ClassId) (X : va_W) (S : wPS) {a : Nat} (hL : a ∈ S.L) (h : S.K a = 15) : ∃ k : Nat, (X ++ va_pl S.L (wPF cyI cyZ cyO5a941 S))[k]? = some (a, wPF cyI cyZ cyO5a941 S a) ∧ (X ++ va_pl S.L (wPF cyI cyZ cyO5a941 S))[k]? = some (a, .inl (cyO5a941, S.R_Sheet.len a, .inr (.inr (.inr (.inr (S.R_Sheet.row a)))))) := by
  obtain ⟨k, hk⟩ := va_pl_get (X := X) (f := wPF cyI cyZ cyO5a941 S) hL
  exact ⟨k, hk, hk.trans (congrArg (fun e => some (a, e)) (wAt_R_Sheet cyI cyZ cyO5a941 S h))⟩
theorem wSt_R_Sheet_row (cyI : ClassId) (cyZ : ClassId) (cyO5a941 : ClassId) (S : wPS) {a : Nat} (h : S.K a = 15) (v : Nat → Option Nat) (b : Nat) : va_up (wPF cyI cyZ cyO5a941 S) a (.inl (cyO5a941, S.R_Sheet.len a, .inr (.inr (.inr (.inr v))))) b = wPF cyI cyZ cyO5a941 { S with R_Sheet := { S.R_Sheet with row := va_up S.R_Sheet.row a v } } b := by by_cases hb : b = a <;> first | (simp only [wPF, va_up_ne _ _ hb]; done) | (simp only [wPF, va_up, if_neg hb]; done) | simp [wPF, va_re, va_up, va_rf, hb, h]
theorem wPu_R_Sheet_row (cyI : ClassId) (cyZ : ClassId) (cyO5a941 : ClassId) (X : va_W) (S : wPS) {A : Nat → Prop} {a k : Nat} (hD : va_D A (X ++ va_pl S.L (wPF cyI cyZ cyO5a941 S))) (hL : a ∈ S.L) (h : S.K a = 15) (hk : (X ++ va_pl S.L (wPF cyI cyZ cyO5a941 S))[k]? = some (a, wPF cyI cyZ cyO5a941 S a)) (v : Nat → Option Nat) : (X ++ va_pl S.L (wPF cyI cyZ cyO5a941 S)).set k (a, .inl (cyO5a941, S.R_Sheet.len a, .inr (.inr (.inr (.inr v))))) = X ++ va_pl S.L (wPF cyI cyZ cyO5a941 { S with R_Sheet := { S.R_Sheet with row := va_up S.R_Sheet.row a v } }) := by
  rw [va_pl_set hD hL hk]
  exact congrArg (fun l => X ++ l) (va_pl_congr (wSt_R_Sheet_row cyI cyZ cyO5a941 S h v))
theorem wNw_R_Sheet (cyI : ClassId) (cyZ : ClassId) (cyO5a941 : ClassId) (S : wPS) (a : Nat) (z : Nat) (f : Nat → Option Nat) (b : Nat) : va_up (wPF cyI cyZ cyO5a941 S) a (.inl (cyO5a941, z, .inr (.inr (.inr (.inr f))))) b = wPF cyI cyZ cyO5a941 { S with L := S.L ++ [a], K := va_up S.K a 15, R_Sheet := { len := va_up S.R_Sheet.len a z, row := va_up S.R_Sheet.row a f } } b := by by_cases hb : b = a <;> first | (simp only [wPF, va_up_ne _ _ hb]; done) | (simp only [wPF, va_up, if_neg hb]; done) | simp [wPF, va_re, va_up, va_rf, hb]
/-! ===== END printed: names ===== -/

