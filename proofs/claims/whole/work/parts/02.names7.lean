theorem dX12_harmWith_6 : decode cX12_harmWith 6 = .ok (.iload_n 3, 1) := by decide +kernel
theorem dX12_harmWith_7 : decode cX12_harmWith 7 = .ok (.iconst 4, 1) := by decide +kernel
theorem dX12_harmWith_8 : decode cX12_harmWith 8 = .ok (.if_icmp .ge 23, 3) := by decide +kernel
theorem dX12_harmWith_11 : decode cX12_harmWith 11 = .ok (.iload_n 1, 1) := by decide +kernel
theorem dX12_harmWith_12 : decode cX12_harmWith 12 = .ok (.iload_n 3, 1) := by decide +kernel
theorem dX12_harmWith_13 : decode cX12_harmWith 13 = .ok (.ishr, 1) := by decide +kernel
theorem dX12_harmWith_14 : decode cX12_harmWith 14 = .ok (.iconst 1, 1) := by decide +kernel
theorem dX12_harmWith_15 : decode cX12_harmWith 15 = .ok (.iand, 1) := by decide +kernel
theorem dX12_harmWith_16 : decode cX12_harmWith 16 = .ok (.iconst 1, 1) := by decide +kernel
theorem dX12_harmWith_17 : decode cX12_harmWith 17 = .ok (.if_icmp .ne 8, 3) := by decide +kernel
theorem dX12_harmWith_20 : decode cX12_harmWith 20 = .ok (.aload_n 0, 1) := by decide +kernel
theorem dX12_harmWith_21 : decode cX12_harmWith 21 = .ok (.iload_n 3, 1) := by decide +kernel
theorem dX12_harmWith_22 : decode cX12_harmWith 22 = .ok (.invokevirtual 213, 3) := by decide +kernel
theorem dX12_harmWith_25 : decode cX12_harmWith 25 = .ok (.iinc 3 1, 3) := by decide +kernel
theorem dX12_harmWith_28 : decode cX12_harmWith 28 = .ok (.goto (-22), 3) := by decide +kernel
theorem dX12_harmWith_31 : decode cX12_harmWith 31 = .ok (.aload_n 0, 1) := by decide +kernel
theorem dX12_harmWith_32 : decode cX12_harmWith 32 = .ok (.iload_n 2, 1) := by decide +kernel
theorem dX12_harmWith_33 : decode cX12_harmWith 33 = .ok (.invokevirtual 190, 3) := by decide +kernel
theorem dX12_harmWith_36 : decode cX12_harmWith 36 = .ok (.aload_n 0, 1) := by decide +kernel
theorem dX12_harmWith_37 : decode cX12_harmWith 37 = .ok (.iconst 3, 1) := by decide +kernel
theorem dX12_harmWith_38 : decode cX12_harmWith 38 = .ok (.iconst 0, 1) := by decide +kernel
theorem dX12_harmWith_39 : decode cX12_harmWith 39 = .ok (.invokevirtual 202, 3) := by decide +kernel
theorem dX12_harmWith_42 : decode cX12_harmWith 42 = .ok (.ireturn, 1) := by decide +kernel
set_option maxRecDepth 20000 in
theorem ggX12_worth_X12_isSky : GoodIn wsX12_worth wsX12_isSky := goodIn_r _ [6, 1, 7, 8, 5, 9, 93, 94, 95, 96, 97, 98, 99, 100, 101, 102, 103, 104, 105, 106, 107, 108, 109, 110, 111] (by decide +kernel) (by decide +kernel)
set_option maxRecDepth 20000 in
theorem gX12_worth_X12_isSky : GoodIn wsX12_worth (wsV RX12 187 RX12 yX12_isSky wsX12_isSky) := goodIn_app (goodIn_of _ (by decide +kernel)) ggX12_worth_X12_isSky
set_option maxRecDepth 20000 in
theorem ggX12_worth_X12_in : GoodIn wsX12_worth wsX12_in := goodIn_r _ [9] (by decide +kernel) (by decide +kernel)
set_option maxRecDepth 20000 in
theorem gX12_worth_X12_in : GoodIn wsX12_worth (va_wsS RX12 48 yX12_in wsX12_in) := goodIn_app (goodIn_of _ (by decide +kernel)) ggX12_worth_X12_in
set_option maxRecDepth 20000 in
theorem ggX12_worth_X12_finding : GoodIn wsX12_worth wsX12_finding := goodIn_r _ [13, 14, 15, 93, 94, 95, 96, 97, 98, 99, 100, 101, 102, 103, 104, 105, 106, 107, 108, 109, 110, 111] (by decide +kernel) (by decide +kernel)
set_option maxRecDepth 20000 in
theorem gX12_worth_X12_finding : GoodIn wsX12_worth (wsV RX12 52 RX12 yX12_finding wsX12_finding) := goodIn_app (goodIn_of _ (by decide +kernel)) ggX12_worth_X12_finding
set_option maxRecDepth 20000 in
theorem ggX12_worth_X12_harmWith : GoodIn wsX12_worth wsX12_harmWith := goodIn_r _ [19, 20, 21, 22, 5, 23, 1, 24, 25, 26, 27, 28, 29, 30, 31, 32, 33, 34, 35, 36, 37, 38, 39, 40, 41, 42, 43, 44, 45, 46, 47, 48, 49, 50, 51, 52, 53, 54, 55, 56, 57, 58, 59, 60, 61, 62, 63, 64, 65, 66, 67, 68, 69, 70, 71, 72, 73, 74, 75, 76, 77, 78, 79, 80, 81, 82, 83, 84, 85, 86, 87, 88, 93, 94, 95, 96, 97, 98, 99, 100, 101, 102, 103, 104, 105, 106, 107, 108, 109, 110, 111] (by decide +kernel) (by decide +kernel)
set_option maxRecDepth 20000 in
theorem gX12_worth_X12_harmWith : GoodIn wsX12_worth (wsV RX12 216 RX12 yX12_harmWith wsX12_harmWith) := goodIn_app (goodIn_of _ (by decide +kernel)) ggX12_worth_X12_harmWith
set_option maxRecDepth 20000 in
theorem ggX12_worth_X12_costOf : GoodIn wsX12_worth wsX12_costOf := goodIn_r _ [92, 1, 93, 94, 95, 96, 97, 98, 99, 100, 101, 102, 103, 104, 105, 106, 107, 108, 109, 110, 111] (by decide +kernel) (by decide +kernel)
set_option maxRecDepth 20000 in
theorem gX12_worth_X12_costOf : GoodIn wsX12_worth (wsV RX12 219 RX12 yX12_costOf wsX12_costOf) := goodIn_app (goodIn_of _ (by decide +kernel)) ggX12_worth_X12_costOf
theorem dX12_worth_0 : decode cX12_worth 0 = .ok (.aload_n 0, 1) := by decide +kernel
theorem dX12_worth_1 : decode cX12_worth 1 = .ok (.iload_n 1, 1) := by decide +kernel
theorem dX12_worth_2 : decode cX12_worth 2 = .ok (.invokevirtual 187, 3) := by decide +kernel
theorem dX12_worth_5 : decode cX12_worth 5 = .ok (.ifCond .eq 23, 3) := by decide +kernel
theorem dX12_worth_8 : decode cX12_worth 8 = .ok (.iload_n 2, 1) := by decide +kernel
theorem dX12_worth_9 : decode cX12_worth 9 = .ok (.iconst 0, 1) := by decide +kernel
theorem dX12_worth_10 : decode cX12_worth 10 = .ok (.sipush 9999, 3) := by decide +kernel
theorem dX12_worth_13 : decode cX12_worth 13 = .ok (.invokestatic 48, 3) := by decide +kernel
theorem dX12_worth_16 : decode cX12_worth 16 = .ok (.ifCond .eq 12, 3) := by decide +kernel
theorem dX12_worth_19 : decode cX12_worth 19 = .ok (.iload_n 3, 1) := by decide +kernel
theorem dX12_worth_20 : decode cX12_worth 20 = .ok (.iconst 0, 1) := by decide +kernel
theorem dX12_worth_21 : decode cX12_worth 21 = .ok (.iconst 1, 1) := by decide +kernel
theorem dX12_worth_22 : decode cX12_worth 22 = .ok (.invokestatic 48, 3) := by decide +kernel
theorem dX12_worth_25 : decode cX12_worth 25 = .ok (.ifCond .ne 9, 3) := by decide +kernel
theorem dX12_worth_28 : decode cX12_worth 28 = .ok (.aload_n 0, 1) := by decide +kernel
theorem dX12_worth_29 : decode cX12_worth 29 = .ok (.iconst 0, 1) := by decide +kernel
theorem dX12_worth_30 : decode cX12_worth 30 = .ok (.invokevirtual 52, 3) := by decide +kernel
theorem dX12_worth_33 : decode cX12_worth 33 = .ok (.ireturn, 1) := by decide +kernel
theorem dX12_worth_34 : decode cX12_worth 34 = .ok (.iconst 0, 1) := by decide +kernel
theorem dX12_worth_35 : decode cX12_worth 35 = .ok (.istore 4, 2) := by decide +kernel
theorem dX12_worth_37 : decode cX12_worth 37 = .ok (.aload_n 0, 1) := by decide +kernel
theorem dX12_worth_38 : decode cX12_worth 38 = .ok (.iconst 0, 1) := by decide +kernel
theorem dX12_worth_39 : decode cX12_worth 39 = .ok (.iload_n 1, 1) := by decide +kernel
theorem dX12_worth_40 : decode cX12_worth 40 = .ok (.invokevirtual 216, 3) := by decide +kernel
theorem dX12_worth_43 : decode cX12_worth 43 = .ok (.istore 5, 2) := by decide +kernel
theorem dX12_worth_45 : decode cX12_worth 45 = .ok (.iconst 1, 1) := by decide +kernel
theorem dX12_worth_46 : decode cX12_worth 46 = .ok (.istore 6, 2) := by decide +kernel
theorem dX12_worth_48 : decode cX12_worth 48 = .ok (.iload 6, 2) := by decide +kernel
theorem dX12_worth_50 : decode cX12_worth 50 = .ok (.bipush 16, 2) := by decide +kernel
theorem dX12_worth_52 : decode cX12_worth 52 = .ok (.if_icmp .ge 81, 3) := by decide +kernel
theorem dX12_worth_55 : decode cX12_worth 55 = .ok (.iload 6, 2) := by decide +kernel
theorem dX12_worth_57 : decode cX12_worth 57 = .ok (.aload_n 0, 1) := by decide +kernel
theorem dX12_worth_58 : decode cX12_worth 58 = .ok (.getfield 7, 3) := by decide +kernel
theorem dX12_worth_61 : decode cX12_worth 61 = .ok (.bipush 19, 2) := by decide +kernel
theorem dX12_worth_63 : decode cX12_worth 63 = .ok (.iaload, 1) := by decide +kernel
theorem dX12_worth_64 : decode cX12_worth 64 = .ok (.iand, 1) := by decide +kernel
theorem dX12_worth_65 : decode cX12_worth 65 = .ok (.ifCond .ne 62, 3) := by decide +kernel
theorem dX12_worth_68 : decode cX12_worth 68 = .ok (.aload_n 0, 1) := by decide +kernel
theorem dX12_worth_69 : decode cX12_worth 69 = .ok (.iload 6, 2) := by decide +kernel
theorem dX12_worth_71 : decode cX12_worth 71 = .ok (.invokevirtual 219, 3) := by decide +kernel
theorem dX12_worth_74 : decode cX12_worth 74 = .ok (.iload_n 2, 1) := by decide +kernel
theorem dX12_worth_75 : decode cX12_worth 75 = .ok (.if_icmp .le 6, 3) := by decide +kernel
theorem dX12_worth_78 : decode cX12_worth 78 = .ok (.goto 49, 3) := by decide +kernel
theorem dX12_worth_81 : decode cX12_worth 81 = .ok (.aload_n 0, 1) := by decide +kernel
theorem dX12_worth_82 : decode cX12_worth 82 = .ok (.iload 6, 2) := by decide +kernel
theorem dX12_worth_84 : decode cX12_worth 84 = .ok (.iload_n 1, 1) := by decide +kernel
theorem dX12_worth_85 : decode cX12_worth 85 = .ok (.invokevirtual 216, 3) := by decide +kernel
theorem dX12_worth_88 : decode cX12_worth 88 = .ok (.istore 7, 2) := by decide +kernel
theorem dX12_worth_90 : decode cX12_worth 90 = .ok (.iload 7, 2) := by decide +kernel
theorem dX12_worth_92 : decode cX12_worth 92 = .ok (.iload 5, 2) := by decide +kernel
theorem dX12_worth_94 : decode cX12_worth 94 = .ok (.if_icmp .lt 25, 3) := by decide +kernel
theorem dX12_worth_97 : decode cX12_worth 97 = .ok (.iload 7, 2) := by decide +kernel
theorem dX12_worth_99 : decode cX12_worth 99 = .ok (.iload 5, 2) := by decide +kernel
theorem dX12_worth_101 : decode cX12_worth 101 = .ok (.if_icmp .ne 26, 3) := by decide +kernel
theorem dX12_worth_104 : decode cX12_worth 104 = .ok (.aload_n 0, 1) := by decide +kernel
theorem dX12_worth_105 : decode cX12_worth 105 = .ok (.iload 6, 2) := by decide +kernel
theorem dX12_worth_107 : decode cX12_worth 107 = .ok (.invokevirtual 219, 3) := by decide +kernel
theorem dX12_worth_110 : decode cX12_worth 110 = .ok (.aload_n 0, 1) := by decide +kernel
theorem dX12_worth_111 : decode cX12_worth 111 = .ok (.iload 4, 2) := by decide +kernel
theorem dX12_worth_113 : decode cX12_worth 113 = .ok (.invokevirtual 219, 3) := by decide +kernel
theorem dX12_worth_116 : decode cX12_worth 116 = .ok (.if_icmp .ge 11, 3) := by decide +kernel
theorem dX12_worth_119 : decode cX12_worth 119 = .ok (.iload 6, 2) := by decide +kernel
theorem dX12_worth_121 : decode cX12_worth 121 = .ok (.istore 4, 2) := by decide +kernel
theorem dX12_worth_123 : decode cX12_worth 123 = .ok (.iload 7, 2) := by decide +kernel
theorem dX12_worth_125 : decode cX12_worth 125 = .ok (.istore 5, 2) := by decide +kernel
theorem dX12_worth_127 : decode cX12_worth 127 = .ok (.iinc 6 1, 3) := by decide +kernel
theorem dX12_worth_130 : decode cX12_worth 130 = .ok (.goto (-82), 3) := by decide +kernel
theorem dX12_worth_133 : decode cX12_worth 133 = .ok (.iload_n 3, 1) := by decide +kernel
theorem dX12_worth_134 : decode cX12_worth 134 = .ok (.ifCond .ne 8, 3) := by decide +kernel
theorem dX12_worth_137 : decode cX12_worth 137 = .ok (.iload 4, 2) := by decide +kernel
theorem dX12_worth_139 : decode cX12_worth 139 = .ok (.goto 5, 3) := by decide +kernel
theorem dX12_worth_142 : decode cX12_worth 142 = .ok (.iload 5, 2) := by decide +kernel
theorem dX12_worth_144 : decode cX12_worth 144 = .ok (.ireturn, 1) := by decide +kernel
set_option maxRecDepth 20000 in
theorem ggX12_findDue_X12_begin : GoodIn wsX12_findDue wsX12_begin := goodIn_r _ [7, 2, 8, 9, 10, 6, 11, 52, 53, 54, 55, 56, 57, 58, 59, 60, 61, 62, 63, 64, 65, 66, 67, 68, 69, 70] (by decide +kernel) (by decide +kernel)
set_option maxRecDepth 20000 in
theorem gX12_findDue_X12_begin : GoodIn wsX12_findDue (wsV RX12 199 RX12 yX12_begin wsX12_begin) := goodIn_app (goodIn_of _ (by decide +kernel)) ggX12_findDue_X12_begin
set_option maxRecDepth 20000 in
theorem ggX12_findDue_X12_goes : GoodIn wsX12_findDue wsX12_goes := goodIn_r _ [15, 2, 16, 17, 18, 6, 19, 20, 21, 22, 23, 24, 25, 26, 27, 28, 29, 30, 31, 32, 33, 34, 35, 36, 37, 38, 39, 40, 41, 42, 43, 44, 45, 46, 47, 52, 53, 54, 55, 56, 57, 58, 59, 60, 61, 62, 63, 64, 65, 66, 67, 68, 69, 70] (by decide +kernel) (by decide +kernel)
set_option maxRecDepth 20000 in
theorem gX12_findDue_X12_goes : GoodIn wsX12_findDue (wsV RX12 92 RX12 yX12_goes wsX12_goes) := goodIn_app (goodIn_of _ (by decide +kernel)) ggX12_findDue_X12_goes
set_option maxRecDepth 20000 in
theorem ggX12_findDue_X12_thingIts : GoodIn wsX12_findDue wsX12_thingIts := goodIn_r _ [47, 2, 52, 53, 54, 55, 56, 57, 58, 59, 60, 61, 62, 63, 64, 65, 66, 67, 68, 69, 70] (by decide +kernel) (by decide +kernel)
set_option maxRecDepth 20000 in
theorem gX12_findDue_X12_thingIts : GoodIn wsX12_findDue (wsV RX12 89 RX12 yX12_thingIts wsX12_thingIts) := goodIn_app (goodIn_of _ (by decide +kernel)) ggX12_findDue_X12_thingIts
set_option maxRecDepth 20000 in
theorem ggX12_findDue_X12_layBack : GoodIn wsX12_findDue wsX12_layBack := goodIn_r _ [51, 8, 2, 9, 10, 6, 11, 52, 53, 54, 55, 56, 57, 58, 59, 60, 61, 62, 63, 64, 65, 66, 67, 68, 69, 70] (by decide +kernel) (by decide +kernel)
set_option maxRecDepth 20000 in
theorem gX12_findDue_X12_layBack : GoodIn wsX12_findDue (wsV RX12 196 RX12 yX12_layBack wsX12_layBack) := goodIn_app (goodIn_of _ (by decide +kernel)) ggX12_findDue_X12_layBack
theorem dX12_findDue_0 : decode cX12_findDue 0 = .ok (.aload_n 0, 1) := by decide +kernel
theorem dX12_findDue_1 : decode cX12_findDue 1 = .ok (.invokevirtual 199, 3) := by decide +kernel
theorem dX12_findDue_4 : decode cX12_findDue 4 = .ok (.iconst 0, 1) := by decide +kernel
theorem dX12_findDue_5 : decode cX12_findDue 5 = .ok (.istore_n 1, 1) := by decide +kernel
theorem dX12_findDue_6 : decode cX12_findDue 6 = .ok (.iload_n 1, 1) := by decide +kernel
theorem dX12_findDue_7 : decode cX12_findDue 7 = .ok (.bipush 10, 2) := by decide +kernel
theorem dX12_findDue_9 : decode cX12_findDue 9 = .ok (.if_icmp .ge 18, 3) := by decide +kernel
theorem dX12_findDue_12 : decode cX12_findDue 12 = .ok (.aload_n 0, 1) := by decide +kernel
theorem dX12_findDue_13 : decode cX12_findDue 13 = .ok (.getfield 28, 3) := by decide +kernel
theorem dX12_findDue_16 : decode cX12_findDue 16 = .ok (.iload_n 1, 1) := by decide +kernel
theorem dX12_findDue_17 : decode cX12_findDue 17 = .ok (.sipush 9999, 3) := by decide +kernel
theorem dX12_findDue_20 : decode cX12_findDue 20 = .ok (.iastore, 1) := by decide +kernel
theorem dX12_findDue_21 : decode cX12_findDue 21 = .ok (.iinc 1 1, 3) := by decide +kernel
theorem dX12_findDue_24 : decode cX12_findDue 24 = .ok (.goto (-18), 3) := by decide +kernel
theorem dX12_findDue_27 : decode cX12_findDue 27 = .ok (.iconst 1, 1) := by decide +kernel
theorem dX12_findDue_28 : decode cX12_findDue 28 = .ok (.istore_n 1, 1) := by decide +kernel
theorem dX12_findDue_29 : decode cX12_findDue 29 = .ok (.iload_n 1, 1) := by decide +kernel
theorem dX12_findDue_30 : decode cX12_findDue 30 = .ok (.sipush 400, 3) := by decide +kernel
theorem dX12_findDue_33 : decode cX12_findDue 33 = .ok (.if_icmp .gt 75, 3) := by decide +kernel
theorem dX12_findDue_36 : decode cX12_findDue 36 = .ok (.aload_n 0, 1) := by decide +kernel
theorem dX12_findDue_37 : decode cX12_findDue 37 = .ok (.invokevirtual 92, 3) := by decide +kernel
theorem dX12_findDue_40 : decode cX12_findDue 40 = .ok (.iconst 0, 1) := by decide +kernel
theorem dX12_findDue_41 : decode cX12_findDue 41 = .ok (.istore_n 2, 1) := by decide +kernel
theorem dX12_findDue_42 : decode cX12_findDue 42 = .ok (.iload_n 2, 1) := by decide +kernel
theorem dX12_findDue_43 : decode cX12_findDue 43 = .ok (.aload_n 0, 1) := by decide +kernel
theorem dX12_findDue_44 : decode cX12_findDue 44 = .ok (.getfield 7, 3) := by decide +kernel
theorem dX12_findDue_47 : decode cX12_findDue 47 = .ok (.bipush 17, 2) := by decide +kernel
theorem dX12_findDue_49 : decode cX12_findDue 49 = .ok (.iaload, 1) := by decide +kernel
theorem dX12_findDue_50 : decode cX12_findDue 50 = .ok (.if_icmp .ge 52, 3) := by decide +kernel
theorem dX12_findDue_53 : decode cX12_findDue 53 = .ok (.aload_n 0, 1) := by decide +kernel
theorem dX12_findDue_54 : decode cX12_findDue 54 = .ok (.getfield 28, 3) := by decide +kernel
theorem dX12_findDue_57 : decode cX12_findDue 57 = .ok (.iload_n 2, 1) := by decide +kernel
theorem dX12_findDue_58 : decode cX12_findDue 58 = .ok (.aload_n 0, 1) := by decide +kernel
theorem dX12_findDue_59 : decode cX12_findDue 59 = .ok (.getfield 7, 3) := by decide +kernel
theorem dX12_findDue_62 : decode cX12_findDue 62 = .ok (.iconst 2, 1) := by decide +kernel
theorem dX12_findDue_63 : decode cX12_findDue 63 = .ok (.iaload, 1) := by decide +kernel
theorem dX12_findDue_64 : decode cX12_findDue 64 = .ok (.aload_n 0, 1) := by decide +kernel
theorem dX12_findDue_65 : decode cX12_findDue 65 = .ok (.iload_n 2, 1) := by decide +kernel
theorem dX12_findDue_66 : decode cX12_findDue 66 = .ok (.iconst 2, 1) := by decide +kernel
theorem dX12_findDue_67 : decode cX12_findDue 67 = .ok (.invokevirtual 89, 3) := by decide +kernel
theorem dX12_findDue_70 : decode cX12_findDue 70 = .ok (.if_icmp .le 19, 3) := by decide +kernel
theorem dX12_findDue_73 : decode cX12_findDue 73 = .ok (.aload_n 0, 1) := by decide +kernel
theorem dX12_findDue_74 : decode cX12_findDue 74 = .ok (.getfield 28, 3) := by decide +kernel
theorem dX12_findDue_77 : decode cX12_findDue 77 = .ok (.iload_n 2, 1) := by decide +kernel
theorem dX12_findDue_78 : decode cX12_findDue 78 = .ok (.iaload, 1) := by decide +kernel
theorem dX12_findDue_79 : decode cX12_findDue 79 = .ok (.iload_n 1, 1) := by decide +kernel
theorem dX12_findDue_80 : decode cX12_findDue 80 = .ok (.if_icmp .lt 9, 3) := by decide +kernel
theorem dX12_findDue_83 : decode cX12_findDue 83 = .ok (.iload_n 1, 1) := by decide +kernel
theorem dX12_findDue_84 : decode cX12_findDue 84 = .ok (.iconst 1, 1) := by decide +kernel
theorem dX12_findDue_85 : decode cX12_findDue 85 = .ok (.isub, 1) := by decide +kernel
theorem dX12_findDue_86 : decode cX12_findDue 86 = .ok (.goto 9, 3) := by decide +kernel
theorem dX12_findDue_89 : decode cX12_findDue 89 = .ok (.aload_n 0, 1) := by decide +kernel
theorem dX12_findDue_90 : decode cX12_findDue 90 = .ok (.getfield 28, 3) := by decide +kernel
theorem dX12_findDue_93 : decode cX12_findDue 93 = .ok (.iload_n 2, 1) := by decide +kernel
theorem dX12_findDue_94 : decode cX12_findDue 94 = .ok (.iaload, 1) := by decide +kernel
theorem dX12_findDue_95 : decode cX12_findDue 95 = .ok (.iastore, 1) := by decide +kernel
theorem dX12_findDue_96 : decode cX12_findDue 96 = .ok (.iinc 2 1, 3) := by decide +kernel
theorem dX12_findDue_99 : decode cX12_findDue 99 = .ok (.goto (-57), 3) := by decide +kernel
theorem dX12_findDue_102 : decode cX12_findDue 102 = .ok (.iinc 1 1, 3) := by decide +kernel
theorem dX12_findDue_105 : decode cX12_findDue 105 = .ok (.goto (-76), 3) := by decide +kernel
theorem dX12_findDue_108 : decode cX12_findDue 108 = .ok (.aload_n 0, 1) := by decide +kernel
theorem dX12_findDue_109 : decode cX12_findDue 109 = .ok (.invokevirtual 196, 3) := by decide +kernel
theorem dX12_findDue_112 : decode cX12_findDue 112 = .ok (.return_, 1) := by decide +kernel
set_option maxRecDepth 20000 in
theorem ggX12_canAll_X12_thingIts : GoodIn wsX12_canAll wsX12_thingIts := goodIn_r _ [6, 7, 8, 9, 10, 11, 12, 13, 14, 15, 16, 17, 18, 19, 20, 21, 22, 23, 24, 25, 26] (by decide +kernel) (by decide +kernel)
set_option maxRecDepth 20000 in
theorem gX12_canAll_X12_thingIts : GoodIn wsX12_canAll (wsV RX12 89 RX12 yX12_thingIts wsX12_thingIts) := goodIn_app (goodIn_of _ (by decide +kernel)) ggX12_canAll_X12_thingIts
theorem dX12_canAll_0 : decode cX12_canAll 0 = .ok (.iload_n 2, 1) := by decide +kernel
theorem dX12_canAll_1 : decode cX12_canAll 1 = .ok (.istore_n 3, 1) := by decide +kernel
theorem dX12_canAll_2 : decode cX12_canAll 2 = .ok (.iload_n 1, 1) := by decide +kernel
theorem dX12_canAll_3 : decode cX12_canAll 3 = .ok (.istore 4, 2) := by decide +kernel
theorem dX12_canAll_5 : decode cX12_canAll 5 = .ok (.iload 4, 2) := by decide +kernel
theorem dX12_canAll_7 : decode cX12_canAll 7 = .ok (.ifCond .eq 101, 3) := by decide +kernel
theorem dX12_canAll_10 : decode cX12_canAll 10 = .ok (.iconst (-1), 1) := by decide +kernel
theorem dX12_canAll_11 : decode cX12_canAll 11 = .ok (.istore 5, 2) := by decide +kernel
theorem dX12_canAll_13 : decode cX12_canAll 13 = .ok (.iconst 0, 1) := by decide +kernel
theorem dX12_canAll_14 : decode cX12_canAll 14 = .ok (.istore 6, 2) := by decide +kernel
theorem dX12_canAll_16 : decode cX12_canAll 16 = .ok (.iload 6, 2) := by decide +kernel
theorem dX12_canAll_18 : decode cX12_canAll 18 = .ok (.bipush 10, 2) := by decide +kernel
theorem dX12_canAll_20 : decode cX12_canAll 20 = .ok (.if_icmp .ge 51, 3) := by decide +kernel
theorem dX12_canAll_23 : decode cX12_canAll 23 = .ok (.iload 4, 2) := by decide +kernel
theorem dX12_canAll_25 : decode cX12_canAll 25 = .ok (.iload 6, 2) := by decide +kernel
theorem dX12_canAll_27 : decode cX12_canAll 27 = .ok (.ishr, 1) := by decide +kernel
theorem dX12_canAll_28 : decode cX12_canAll 28 = .ok (.iconst 1, 1) := by decide +kernel
theorem dX12_canAll_29 : decode cX12_canAll 29 = .ok (.iand, 1) := by decide +kernel
theorem dX12_canAll_30 : decode cX12_canAll 30 = .ok (.iconst 1, 1) := by decide +kernel
theorem dX12_canAll_31 : decode cX12_canAll 31 = .ok (.if_icmp .ne 30, 3) := by decide +kernel
theorem dX12_canAll_34 : decode cX12_canAll 34 = .ok (.iload 5, 2) := by decide +kernel
theorem dX12_canAll_36 : decode cX12_canAll 36 = .ok (.ifCond .lt 20, 3) := by decide +kernel
theorem dX12_canAll_39 : decode cX12_canAll 39 = .ok (.aload_n 0, 1) := by decide +kernel
theorem dX12_canAll_40 : decode cX12_canAll 40 = .ok (.getfield 28, 3) := by decide +kernel
theorem dX12_canAll_43 : decode cX12_canAll 43 = .ok (.iload 6, 2) := by decide +kernel
theorem dX12_canAll_45 : decode cX12_canAll 45 = .ok (.iaload, 1) := by decide +kernel
theorem dX12_canAll_46 : decode cX12_canAll 46 = .ok (.aload_n 0, 1) := by decide +kernel
theorem dX12_canAll_47 : decode cX12_canAll 47 = .ok (.getfield 28, 3) := by decide +kernel
theorem dX12_canAll_50 : decode cX12_canAll 50 = .ok (.iload 5, 2) := by decide +kernel
theorem dX12_canAll_52 : decode cX12_canAll 52 = .ok (.iaload, 1) := by decide +kernel
theorem dX12_canAll_53 : decode cX12_canAll 53 = .ok (.if_icmp .ge 8, 3) := by decide +kernel
theorem dX12_canAll_56 : decode cX12_canAll 56 = .ok (.iload 6, 2) := by decide +kernel
theorem dX12_canAll_58 : decode cX12_canAll 58 = .ok (.goto 5, 3) := by decide +kernel
theorem dX12_canAll_61 : decode cX12_canAll 61 = .ok (.iload 5, 2) := by decide +kernel
theorem dX12_canAll_63 : decode cX12_canAll 63 = .ok (.istore 5, 2) := by decide +kernel
theorem dX12_canAll_65 : decode cX12_canAll 65 = .ok (.iinc 6 1, 3) := by decide +kernel
theorem dX12_canAll_68 : decode cX12_canAll 68 = .ok (.goto (-52), 3) := by decide +kernel
theorem dX12_canAll_71 : decode cX12_canAll 71 = .ok (.iload_n 3, 1) := by decide +kernel
theorem dX12_canAll_72 : decode cX12_canAll 72 = .ok (.aload_n 0, 1) := by decide +kernel
theorem dX12_canAll_73 : decode cX12_canAll 73 = .ok (.iload 5, 2) := by decide +kernel
theorem dX12_canAll_75 : decode cX12_canAll 75 = .ok (.iconst 1, 1) := by decide +kernel
theorem dX12_canAll_76 : decode cX12_canAll 76 = .ok (.invokevirtual 89, 3) := by decide +kernel
theorem dX12_canAll_79 : decode cX12_canAll 79 = .ok (.iadd, 1) := by decide +kernel
theorem dX12_canAll_80 : decode cX12_canAll 80 = .ok (.istore_n 3, 1) := by decide +kernel
theorem dX12_canAll_81 : decode cX12_canAll 81 = .ok (.iload_n 3, 1) := by decide +kernel
theorem dX12_canAll_82 : decode cX12_canAll 82 = .ok (.aload_n 0, 1) := by decide +kernel
theorem dX12_canAll_83 : decode cX12_canAll 83 = .ok (.getfield 28, 3) := by decide +kernel
theorem dX12_canAll_86 : decode cX12_canAll 86 = .ok (.iload 5, 2) := by decide +kernel
theorem dX12_canAll_88 : decode cX12_canAll 88 = .ok (.iaload, 1) := by decide +kernel
theorem dX12_canAll_89 : decode cX12_canAll 89 = .ok (.if_icmp .le 5, 3) := by decide +kernel
theorem dX12_canAll_92 : decode cX12_canAll 92 = .ok (.iconst 0, 1) := by decide +kernel
theorem dX12_canAll_93 : decode cX12_canAll 93 = .ok (.ireturn, 1) := by decide +kernel
theorem dX12_canAll_94 : decode cX12_canAll 94 = .ok (.iload 4, 2) := by decide +kernel
theorem dX12_canAll_96 : decode cX12_canAll 96 = .ok (.iconst 1, 1) := by decide +kernel
theorem dX12_canAll_97 : decode cX12_canAll 97 = .ok (.iload 5, 2) := by decide +kernel
theorem dX12_canAll_99 : decode cX12_canAll 99 = .ok (.ishl, 1) := by decide +kernel
theorem dX12_canAll_100 : decode cX12_canAll 100 = .ok (.iconst (-1), 1) := by decide +kernel
theorem dX12_canAll_101 : decode cX12_canAll 101 = .ok (.ixor, 1) := by decide +kernel
theorem dX12_canAll_102 : decode cX12_canAll 102 = .ok (.iand, 1) := by decide +kernel
theorem dX12_canAll_103 : decode cX12_canAll 103 = .ok (.istore 4, 2) := by decide +kernel
theorem dX12_canAll_105 : decode cX12_canAll 105 = .ok (.goto (-100), 3) := by decide +kernel
theorem dX12_canAll_108 : decode cX12_canAll 108 = .ok (.iconst 1, 1) := by decide +kernel
theorem dX12_canAll_109 : decode cX12_canAll 109 = .ok (.ireturn, 1) := by decide +kernel
set_option maxRecDepth 20000 in
theorem ggX12_worthOf_X12_thingIts : GoodIn wsX12_worthOf wsX12_thingIts := goodIn_r _ [5, 6, 7, 8, 9, 10, 11, 12, 13, 14, 15, 16, 17, 18, 19, 20, 21, 22, 23, 24, 25] (by decide +kernel) (by decide +kernel)
set_option maxRecDepth 20000 in
theorem gX12_worthOf_X12_thingIts : GoodIn wsX12_worthOf (wsV RX12 89 RX12 yX12_thingIts wsX12_thingIts) := goodIn_app (goodIn_of _ (by decide +kernel)) ggX12_worthOf_X12_thingIts
theorem dX12_worthOf_0 : decode cX12_worthOf 0 = .ok (.iconst 0, 1) := by decide +kernel
theorem dX12_worthOf_1 : decode cX12_worthOf 1 = .ok (.istore_n 2, 1) := by decide +kernel
theorem dX12_worthOf_2 : decode cX12_worthOf 2 = .ok (.iconst 0, 1) := by decide +kernel
theorem dX12_worthOf_3 : decode cX12_worthOf 3 = .ok (.istore_n 3, 1) := by decide +kernel
theorem dX12_worthOf_4 : decode cX12_worthOf 4 = .ok (.iload_n 3, 1) := by decide +kernel
theorem dX12_worthOf_5 : decode cX12_worthOf 5 = .ok (.bipush 10, 2) := by decide +kernel
theorem dX12_worthOf_7 : decode cX12_worthOf 7 = .ok (.if_icmp .ge 31, 3) := by decide +kernel
theorem dX12_worthOf_10 : decode cX12_worthOf 10 = .ok (.iload_n 2, 1) := by decide +kernel
theorem dX12_worthOf_11 : decode cX12_worthOf 11 = .ok (.iload_n 1, 1) := by decide +kernel
theorem dX12_worthOf_12 : decode cX12_worthOf 12 = .ok (.iload_n 3, 1) := by decide +kernel
theorem dX12_worthOf_13 : decode cX12_worthOf 13 = .ok (.ishr, 1) := by decide +kernel
theorem dX12_worthOf_14 : decode cX12_worthOf 14 = .ok (.iconst 1, 1) := by decide +kernel
theorem dX12_worthOf_15 : decode cX12_worthOf 15 = .ok (.iand, 1) := by decide +kernel
theorem dX12_worthOf_16 : decode cX12_worthOf 16 = .ok (.iconst 1, 1) := by decide +kernel
theorem dX12_worthOf_17 : decode cX12_worthOf 17 = .ok (.if_icmp .ne 12, 3) := by decide +kernel
theorem dX12_worthOf_20 : decode cX12_worthOf 20 = .ok (.aload_n 0, 1) := by decide +kernel
theorem dX12_worthOf_21 : decode cX12_worthOf 21 = .ok (.iload_n 3, 1) := by decide +kernel
theorem dX12_worthOf_22 : decode cX12_worthOf 22 = .ok (.iconst 0, 1) := by decide +kernel
theorem dX12_worthOf_23 : decode cX12_worthOf 23 = .ok (.invokevirtual 89, 3) := by decide +kernel
theorem dX12_worthOf_26 : decode cX12_worthOf 26 = .ok (.goto 4, 3) := by decide +kernel
theorem dX12_worthOf_29 : decode cX12_worthOf 29 = .ok (.iconst 0, 1) := by decide +kernel
theorem dX12_worthOf_30 : decode cX12_worthOf 30 = .ok (.iadd, 1) := by decide +kernel
theorem dX12_worthOf_31 : decode cX12_worthOf 31 = .ok (.istore_n 2, 1) := by decide +kernel
theorem dX12_worthOf_32 : decode cX12_worthOf 32 = .ok (.iinc 3 1, 3) := by decide +kernel
theorem dX12_worthOf_35 : decode cX12_worthOf 35 = .ok (.goto (-31), 3) := by decide +kernel
theorem dX12_worthOf_38 : decode cX12_worthOf 38 = .ok (.iload_n 2, 1) := by decide +kernel
theorem dX12_worthOf_39 : decode cX12_worthOf 39 = .ok (.ireturn, 1) := by decide +kernel
set_option maxRecDepth 20000 in
theorem ggX12_rescue_X12_in : GoodIn wsX12_rescue wsX12_in := goodIn_r _ [6] (by decide +kernel) (by decide +kernel)
set_option maxRecDepth 20000 in
theorem gX12_rescue_X12_in : GoodIn wsX12_rescue (va_wsS RX12 48 yX12_in wsX12_in) := goodIn_app (goodIn_of _ (by decide +kernel)) ggX12_rescue_X12_in
set_option maxRecDepth 20000 in
theorem ggX12_rescue_X12_finding : GoodIn wsX12_rescue wsX12_finding := goodIn_r _ [10, 11, 12, 73, 74, 75, 76, 77, 78, 79, 80, 81, 82, 83, 84, 85, 86, 87, 88, 89, 90, 91] (by decide +kernel) (by decide +kernel)
set_option maxRecDepth 20000 in
theorem gX12_rescue_X12_finding : GoodIn wsX12_rescue (wsV RX12 52 RX12 yX12_finding wsX12_finding) := goodIn_app (goodIn_of _ (by decide +kernel)) ggX12_rescue_X12_finding
set_option maxRecDepth 20000 in
theorem ggX12_rescue_X12_findDue : GoodIn wsX12_rescue wsX12_findDue := goodIn_r _ [16, 2, 1, 17, 18, 19, 5, 20, 21, 22, 23, 24, 25, 26, 27, 28, 29, 30, 31, 32, 33, 34, 35, 36, 37, 38, 39, 40, 41, 42, 43, 44, 45, 46, 47, 48, 49, 50, 51, 52, 53, 54, 55, 56, 57, 58, 59, 60, 61, 62, 63, 64, 73, 74, 75, 76, 77, 78, 79, 80, 81, 82, 83, 84, 85, 86, 87, 88, 89, 90, 91] (by decide +kernel) (by decide +kernel)
set_option maxRecDepth 20000 in
theorem gX12_rescue_X12_findDue : GoodIn wsX12_rescue (wsV RX12 222 RX12 yX12_findDue wsX12_findDue) := goodIn_app (goodIn_of _ (by decide +kernel)) ggX12_rescue_X12_findDue
set_option maxRecDepth 20000 in
theorem ggX12_rescue_X12_thingIts : GoodIn wsX12_rescue wsX12_thingIts := goodIn_r _ [60, 1, 73, 74, 75, 76, 77, 78, 79, 80, 81, 82, 83, 84, 85, 86, 87, 88, 89, 90, 91] (by decide +kernel) (by decide +kernel)
set_option maxRecDepth 20000 in
theorem gX12_rescue_X12_thingIts : GoodIn wsX12_rescue (wsV RX12 89 RX12 yX12_thingIts wsX12_thingIts) := goodIn_app (goodIn_of _ (by decide +kernel)) ggX12_rescue_X12_thingIts
set_option maxRecDepth 20000 in
theorem ggX12_rescue_X12_worthOf : GoodIn wsX12_rescue wsX12_worthOf := goodIn_r _ [68, 57, 58, 59, 5, 60, 1, 73, 74, 75, 76, 77, 78, 79, 80, 81, 82, 83, 84, 85, 86, 87, 88, 89, 90, 91] (by decide +kernel) (by decide +kernel)
set_option maxRecDepth 20000 in
theorem gX12_rescue_X12_worthOf : GoodIn wsX12_rescue (wsV RX12 225 RX12 yX12_worthOf wsX12_worthOf) := goodIn_app (goodIn_of _ (by decide +kernel)) ggX12_rescue_X12_worthOf
set_option maxRecDepth 20000 in
theorem ggX12_rescue_X12_canAll : GoodIn wsX12_rescue wsX12_canAll := goodIn_r _ [72, 2, 57, 58, 59, 5, 60, 1, 73, 74, 75, 76, 77, 78, 79, 80, 81, 82, 83, 84, 85, 86, 87, 88, 89, 90, 91] (by decide +kernel) (by decide +kernel)
set_option maxRecDepth 20000 in
theorem gX12_rescue_X12_canAll : GoodIn wsX12_rescue (wsV RX12 228 RX12 yX12_canAll wsX12_canAll) := goodIn_app (goodIn_of _ (by decide +kernel)) ggX12_rescue_X12_canAll
theorem dX12_rescue_0 : decode cX12_rescue 0 = .ok (.iload_n 1, 1) := by decide +kernel
theorem dX12_rescue_1 : decode cX12_rescue 1 = .ok (.iconst 0, 1) := by decide +kernel
theorem dX12_rescue_2 : decode cX12_rescue 2 = .ok (.iconst 2, 1) := by decide +kernel
theorem dX12_rescue_3 : decode cX12_rescue 3 = .ok (.invokestatic 48, 3) := by decide +kernel
theorem dX12_rescue_6 : decode cX12_rescue 6 = .ok (.ifCond .ne 9, 3) := by decide +kernel
theorem dX12_rescue_9 : decode cX12_rescue 9 = .ok (.aload_n 0, 1) := by decide +kernel
theorem dX12_rescue_10 : decode cX12_rescue 10 = .ok (.iconst 0, 1) := by decide +kernel
theorem dX12_rescue_11 : decode cX12_rescue 11 = .ok (.invokevirtual 52, 3) := by decide +kernel
theorem dX12_rescue_14 : decode cX12_rescue 14 = .ok (.ireturn, 1) := by decide +kernel
theorem dX12_rescue_15 : decode cX12_rescue 15 = .ok (.aload_n 0, 1) := by decide +kernel
theorem dX12_rescue_16 : decode cX12_rescue 16 = .ok (.invokevirtual 222, 3) := by decide +kernel
theorem dX12_rescue_19 : decode cX12_rescue 19 = .ok (.iconst 0, 1) := by decide +kernel
theorem dX12_rescue_20 : decode cX12_rescue 20 = .ok (.istore_n 2, 1) := by decide +kernel
theorem dX12_rescue_21 : decode cX12_rescue 21 = .ok (.iconst 0, 1) := by decide +kernel
theorem dX12_rescue_22 : decode cX12_rescue 22 = .ok (.istore_n 3, 1) := by decide +kernel
theorem dX12_rescue_23 : decode cX12_rescue 23 = .ok (.iload_n 3, 1) := by decide +kernel
theorem dX12_rescue_24 : decode cX12_rescue 24 = .ok (.aload_n 0, 1) := by decide +kernel
theorem dX12_rescue_25 : decode cX12_rescue 25 = .ok (.getfield 7, 3) := by decide +kernel
theorem dX12_rescue_28 : decode cX12_rescue 28 = .ok (.bipush 17, 2) := by decide +kernel
theorem dX12_rescue_30 : decode cX12_rescue 30 = .ok (.iaload, 1) := by decide +kernel
theorem dX12_rescue_31 : decode cX12_rescue 31 = .ok (.if_icmp .ge 35, 3) := by decide +kernel
theorem dX12_rescue_34 : decode cX12_rescue 34 = .ok (.iload_n 2, 1) := by decide +kernel
theorem dX12_rescue_35 : decode cX12_rescue 35 = .ok (.aload_n 0, 1) := by decide +kernel
theorem dX12_rescue_36 : decode cX12_rescue 36 = .ok (.iload_n 3, 1) := by decide +kernel
theorem dX12_rescue_37 : decode cX12_rescue 37 = .ok (.iconst 3, 1) := by decide +kernel
theorem dX12_rescue_38 : decode cX12_rescue 38 = .ok (.invokevirtual 89, 3) := by decide +kernel
theorem dX12_rescue_41 : decode cX12_rescue 41 = .ok (.aload_n 0, 1) := by decide +kernel
theorem dX12_rescue_42 : decode cX12_rescue 42 = .ok (.iload_n 3, 1) := by decide +kernel
theorem dX12_rescue_43 : decode cX12_rescue 43 = .ok (.iconst 4, 1) := by decide +kernel
theorem dX12_rescue_44 : decode cX12_rescue 44 = .ok (.invokevirtual 89, 3) := by decide +kernel
theorem dX12_rescue_47 : decode cX12_rescue 47 = .ok (.iadd, 1) := by decide +kernel
theorem dX12_rescue_48 : decode cX12_rescue 48 = .ok (.ifCond .ne 9, 3) := by decide +kernel
theorem dX12_rescue_51 : decode cX12_rescue 51 = .ok (.iconst 1, 1) := by decide +kernel
theorem dX12_rescue_52 : decode cX12_rescue 52 = .ok (.iload_n 3, 1) := by decide +kernel
theorem dX12_rescue_53 : decode cX12_rescue 53 = .ok (.ishl, 1) := by decide +kernel
theorem dX12_rescue_54 : decode cX12_rescue 54 = .ok (.goto 4, 3) := by decide +kernel
theorem dX12_rescue_57 : decode cX12_rescue 57 = .ok (.iconst 0, 1) := by decide +kernel
theorem dX12_rescue_58 : decode cX12_rescue 58 = .ok (.ior, 1) := by decide +kernel
theorem dX12_rescue_59 : decode cX12_rescue 59 = .ok (.istore_n 2, 1) := by decide +kernel
theorem dX12_rescue_60 : decode cX12_rescue 60 = .ok (.iinc 3 1, 3) := by decide +kernel
theorem dX12_rescue_63 : decode cX12_rescue 63 = .ok (.goto (-40), 3) := by decide +kernel
theorem dX12_rescue_66 : decode cX12_rescue 66 = .ok (.iconst 0, 1) := by decide +kernel
theorem dX12_rescue_67 : decode cX12_rescue 67 = .ok (.istore_n 3, 1) := by decide +kernel
theorem dX12_rescue_68 : decode cX12_rescue 68 = .ok (.iconst 1, 1) := by decide +kernel
theorem dX12_rescue_69 : decode cX12_rescue 69 = .ok (.istore 4, 2) := by decide +kernel
theorem dX12_rescue_71 : decode cX12_rescue 71 = .ok (.iload 4, 2) := by decide +kernel
theorem dX12_rescue_73 : decode cX12_rescue 73 = .ok (.iconst 1, 1) := by decide +kernel
theorem dX12_rescue_74 : decode cX12_rescue 74 = .ok (.aload_n 0, 1) := by decide +kernel
theorem dX12_rescue_75 : decode cX12_rescue 75 = .ok (.getfield 7, 3) := by decide +kernel
theorem dX12_rescue_78 : decode cX12_rescue 78 = .ok (.bipush 17, 2) := by decide +kernel
theorem dX12_rescue_80 : decode cX12_rescue 80 = .ok (.iaload, 1) := by decide +kernel
theorem dX12_rescue_81 : decode cX12_rescue 81 = .ok (.ishl, 1) := by decide +kernel
theorem dX12_rescue_82 : decode cX12_rescue 82 = .ok (.if_icmp .ge 49, 3) := by decide +kernel
theorem dX12_rescue_85 : decode cX12_rescue 85 = .ok (.iload 4, 2) := by decide +kernel
theorem dX12_rescue_87 : decode cX12_rescue 87 = .ok (.iload_n 2, 1) := by decide +kernel
theorem dX12_rescue_88 : decode cX12_rescue 88 = .ok (.iconst (-1), 1) := by decide +kernel
theorem dX12_rescue_89 : decode cX12_rescue 89 = .ok (.ixor, 1) := by decide +kernel
theorem dX12_rescue_90 : decode cX12_rescue 90 = .ok (.iand, 1) := by decide +kernel
theorem dX12_rescue_91 : decode cX12_rescue 91 = .ok (.ifCond .ne 32, 3) := by decide +kernel
theorem dX12_rescue_94 : decode cX12_rescue 94 = .ok (.aload_n 0, 1) := by decide +kernel
theorem dX12_rescue_95 : decode cX12_rescue 95 = .ok (.iload 4, 2) := by decide +kernel
theorem dX12_rescue_97 : decode cX12_rescue 97 = .ok (.invokevirtual 225, 3) := by decide +kernel
theorem dX12_rescue_100 : decode cX12_rescue 100 = .ok (.aload_n 0, 1) := by decide +kernel
theorem dX12_rescue_101 : decode cX12_rescue 101 = .ok (.iload_n 3, 1) := by decide +kernel
theorem dX12_rescue_102 : decode cX12_rescue 102 = .ok (.invokevirtual 225, 3) := by decide +kernel
theorem dX12_rescue_105 : decode cX12_rescue 105 = .ok (.if_icmp .le 18, 3) := by decide +kernel
theorem dX12_rescue_108 : decode cX12_rescue 108 = .ok (.aload_n 0, 1) := by decide +kernel
theorem dX12_rescue_109 : decode cX12_rescue 109 = .ok (.iload 4, 2) := by decide +kernel
theorem dX12_rescue_111 : decode cX12_rescue 111 = .ok (.iconst 0, 1) := by decide +kernel
theorem dX12_rescue_112 : decode cX12_rescue 112 = .ok (.invokevirtual 228, 3) := by decide +kernel
theorem dX12_rescue_115 : decode cX12_rescue 115 = .ok (.ifCond .eq 8, 3) := by decide +kernel
theorem dX12_rescue_118 : decode cX12_rescue 118 = .ok (.iload 4, 2) := by decide +kernel
theorem dX12_rescue_120 : decode cX12_rescue 120 = .ok (.goto 4, 3) := by decide +kernel
theorem dX12_rescue_123 : decode cX12_rescue 123 = .ok (.iload_n 3, 1) := by decide +kernel
theorem dX12_rescue_124 : decode cX12_rescue 124 = .ok (.istore_n 3, 1) := by decide +kernel
theorem dX12_rescue_125 : decode cX12_rescue 125 = .ok (.iinc 4 1, 3) := by decide +kernel
theorem dX12_rescue_128 : decode cX12_rescue 128 = .ok (.goto (-57), 3) := by decide +kernel
theorem dX12_rescue_131 : decode cX12_rescue 131 = .ok (.iconst (-1), 1) := by decide +kernel
theorem dX12_rescue_132 : decode cX12_rescue 132 = .ok (.istore 4, 2) := by decide +kernel
theorem dX12_rescue_134 : decode cX12_rescue 134 = .ok (.iconst 0, 1) := by decide +kernel
theorem dX12_rescue_135 : decode cX12_rescue 135 = .ok (.istore 5, 2) := by decide +kernel
theorem dX12_rescue_137 : decode cX12_rescue 137 = .ok (.iload 5, 2) := by decide +kernel
theorem dX12_rescue_139 : decode cX12_rescue 139 = .ok (.aload_n 0, 1) := by decide +kernel
theorem dX12_rescue_140 : decode cX12_rescue 140 = .ok (.getfield 7, 3) := by decide +kernel
theorem dX12_rescue_143 : decode cX12_rescue 143 = .ok (.bipush 17, 2) := by decide +kernel
theorem dX12_rescue_145 : decode cX12_rescue 145 = .ok (.iaload, 1) := by decide +kernel
theorem dX12_rescue_146 : decode cX12_rescue 146 = .ok (.if_icmp .ge 70, 3) := by decide +kernel
theorem dX12_rescue_149 : decode cX12_rescue 149 = .ok (.iload 4, 2) := by decide +kernel
theorem dX12_rescue_151 : decode cX12_rescue 151 = .ok (.ifCond .ge 65, 3) := by decide +kernel
theorem dX12_rescue_154 : decode cX12_rescue 154 = .ok (.aload_n 0, 1) := by decide +kernel
theorem dX12_rescue_155 : decode cX12_rescue 155 = .ok (.iload 5, 2) := by decide +kernel
theorem dX12_rescue_157 : decode cX12_rescue 157 = .ok (.iconst 1, 1) := by decide +kernel
theorem dX12_rescue_158 : decode cX12_rescue 158 = .ok (.invokevirtual 89, 3) := by decide +kernel
theorem dX12_rescue_161 : decode cX12_rescue 161 = .ok (.istore 6, 2) := by decide +kernel
theorem dX12_rescue_163 : decode cX12_rescue 163 = .ok (.iload_n 3, 1) := by decide +kernel
theorem dX12_rescue_164 : decode cX12_rescue 164 = .ok (.iload 5, 2) := by decide +kernel
theorem dX12_rescue_166 : decode cX12_rescue 166 = .ok (.ishr, 1) := by decide +kernel
theorem dX12_rescue_167 : decode cX12_rescue 167 = .ok (.iconst 1, 1) := by decide +kernel
theorem dX12_rescue_168 : decode cX12_rescue 168 = .ok (.iand, 1) := by decide +kernel
theorem dX12_rescue_169 : decode cX12_rescue 169 = .ok (.iconst 1, 1) := by decide +kernel
theorem dX12_rescue_170 : decode cX12_rescue 170 = .ok (.if_icmp .ne 37, 3) := by decide +kernel
theorem dX12_rescue_173 : decode cX12_rescue 173 = .ok (.iload 6, 2) := by decide +kernel
theorem dX12_rescue_175 : decode cX12_rescue 175 = .ok (.aload_n 0, 1) := by decide +kernel
theorem dX12_rescue_176 : decode cX12_rescue 176 = .ok (.getfield 28, 3) := by decide +kernel
theorem dX12_rescue_179 : decode cX12_rescue 179 = .ok (.iload 5, 2) := by decide +kernel
theorem dX12_rescue_181 : decode cX12_rescue 181 = .ok (.iaload, 1) := by decide +kernel
theorem dX12_rescue_182 : decode cX12_rescue 182 = .ok (.if_icmp .gt 25, 3) := by decide +kernel
theorem dX12_rescue_185 : decode cX12_rescue 185 = .ok (.aload_n 0, 1) := by decide +kernel
theorem dX12_rescue_186 : decode cX12_rescue 186 = .ok (.iload_n 3, 1) := by decide +kernel
theorem dX12_rescue_187 : decode cX12_rescue 187 = .ok (.iconst 1, 1) := by decide +kernel
theorem dX12_rescue_188 : decode cX12_rescue 188 = .ok (.iload 5, 2) := by decide +kernel
theorem dX12_rescue_190 : decode cX12_rescue 190 = .ok (.ishl, 1) := by decide +kernel
theorem dX12_rescue_191 : decode cX12_rescue 191 = .ok (.iconst (-1), 1) := by decide +kernel
theorem dX12_rescue_192 : decode cX12_rescue 192 = .ok (.ixor, 1) := by decide +kernel
theorem dX12_rescue_193 : decode cX12_rescue 193 = .ok (.iand, 1) := by decide +kernel
theorem dX12_rescue_194 : decode cX12_rescue 194 = .ok (.iload 6, 2) := by decide +kernel
theorem dX12_rescue_196 : decode cX12_rescue 196 = .ok (.invokevirtual 228, 3) := by decide +kernel
theorem dX12_rescue_199 : decode cX12_rescue 199 = .ok (.ifCond .eq 8, 3) := by decide +kernel
theorem dX12_rescue_202 : decode cX12_rescue 202 = .ok (.iload 5, 2) := by decide +kernel
theorem dX12_rescue_204 : decode cX12_rescue 204 = .ok (.goto 4, 3) := by decide +kernel
theorem dX12_rescue_207 : decode cX12_rescue 207 = .ok (.iconst (-1), 1) := by decide +kernel
theorem dX12_rescue_208 : decode cX12_rescue 208 = .ok (.istore 4, 2) := by decide +kernel
theorem dX12_rescue_210 : decode cX12_rescue 210 = .ok (.iinc 5 1, 3) := by decide +kernel
theorem dX12_rescue_213 : decode cX12_rescue 213 = .ok (.goto (-76), 3) := by decide +kernel
theorem dX12_rescue_216 : decode cX12_rescue 216 = .ok (.iload_n 1, 1) := by decide +kernel
theorem dX12_rescue_217 : decode cX12_rescue 217 = .ok (.ifCond .ne 7, 3) := by decide +kernel
theorem dX12_rescue_220 : decode cX12_rescue 220 = .ok (.iload_n 3, 1) := by decide +kernel
theorem dX12_rescue_221 : decode cX12_rescue 221 = .ok (.goto 18, 3) := by decide +kernel
theorem dX12_rescue_224 : decode cX12_rescue 224 = .ok (.iload_n 1, 1) := by decide +kernel
theorem dX12_rescue_225 : decode cX12_rescue 225 = .ok (.iconst 1, 1) := by decide +kernel
theorem dX12_rescue_226 : decode cX12_rescue 226 = .ok (.if_icmp .ne 11, 3) := by decide +kernel
theorem dX12_rescue_229 : decode cX12_rescue 229 = .ok (.aload_n 0, 1) := by decide +kernel
theorem dX12_rescue_230 : decode cX12_rescue 230 = .ok (.iload_n 3, 1) := by decide +kernel
theorem dX12_rescue_231 : decode cX12_rescue 231 = .ok (.invokevirtual 225, 3) := by decide +kernel
theorem dX12_rescue_234 : decode cX12_rescue 234 = .ok (.goto 5, 3) := by decide +kernel
theorem dX12_rescue_237 : decode cX12_rescue 237 = .ok (.iload 4, 2) := by decide +kernel
theorem dX12_rescue_239 : decode cX12_rescue 239 = .ok (.ireturn, 1) := by decide +kernel
set_option maxRecDepth 20000 in
theorem ggX12_weightOf_X12_thingIts : GoodIn wsX12_weightOf wsX12_thingIts := goodIn_r _ [5, 6, 7, 8, 9, 10, 11, 12, 13, 14, 15, 16, 17, 18, 19, 20, 21, 22, 23, 24, 25] (by decide +kernel) (by decide +kernel)
set_option maxRecDepth 20000 in
theorem gX12_weightOf_X12_thingIts : GoodIn wsX12_weightOf (wsV RX12 89 RX12 yX12_thingIts wsX12_thingIts) := goodIn_app (goodIn_of _ (by decide +kernel)) ggX12_weightOf_X12_thingIts
theorem dX12_weightOf_0 : decode cX12_weightOf 0 = .ok (.iconst 0, 1) := by decide +kernel
theorem dX12_weightOf_1 : decode cX12_weightOf 1 = .ok (.istore_n 2, 1) := by decide +kernel
theorem dX12_weightOf_2 : decode cX12_weightOf 2 = .ok (.iconst 0, 1) := by decide +kernel
theorem dX12_weightOf_3 : decode cX12_weightOf 3 = .ok (.istore_n 3, 1) := by decide +kernel
theorem dX12_weightOf_4 : decode cX12_weightOf 4 = .ok (.iload_n 3, 1) := by decide +kernel
theorem dX12_weightOf_5 : decode cX12_weightOf 5 = .ok (.bipush 10, 2) := by decide +kernel
theorem dX12_weightOf_7 : decode cX12_weightOf 7 = .ok (.if_icmp .ge 31, 3) := by decide +kernel
theorem dX12_weightOf_10 : decode cX12_weightOf 10 = .ok (.iload_n 2, 1) := by decide +kernel
theorem dX12_weightOf_11 : decode cX12_weightOf 11 = .ok (.iload_n 1, 1) := by decide +kernel
theorem dX12_weightOf_12 : decode cX12_weightOf 12 = .ok (.iload_n 3, 1) := by decide +kernel
theorem dX12_weightOf_13 : decode cX12_weightOf 13 = .ok (.ishr, 1) := by decide +kernel
theorem dX12_weightOf_14 : decode cX12_weightOf 14 = .ok (.iconst 1, 1) := by decide +kernel
theorem dX12_weightOf_15 : decode cX12_weightOf 15 = .ok (.iand, 1) := by decide +kernel
theorem dX12_weightOf_16 : decode cX12_weightOf 16 = .ok (.iconst 1, 1) := by decide +kernel
theorem dX12_weightOf_17 : decode cX12_weightOf 17 = .ok (.if_icmp .ne 12, 3) := by decide +kernel
theorem dX12_weightOf_20 : decode cX12_weightOf 20 = .ok (.aload_n 0, 1) := by decide +kernel
theorem dX12_weightOf_21 : decode cX12_weightOf 21 = .ok (.iload_n 3, 1) := by decide +kernel
theorem dX12_weightOf_22 : decode cX12_weightOf 22 = .ok (.iconst 1, 1) := by decide +kernel
theorem dX12_weightOf_23 : decode cX12_weightOf 23 = .ok (.invokevirtual 89, 3) := by decide +kernel
theorem dX12_weightOf_26 : decode cX12_weightOf 26 = .ok (.goto 4, 3) := by decide +kernel
theorem dX12_weightOf_29 : decode cX12_weightOf 29 = .ok (.iconst 0, 1) := by decide +kernel
theorem dX12_weightOf_30 : decode cX12_weightOf 30 = .ok (.iadd, 1) := by decide +kernel
theorem dX12_weightOf_31 : decode cX12_weightOf 31 = .ok (.istore_n 2, 1) := by decide +kernel
theorem dX12_weightOf_32 : decode cX12_weightOf 32 = .ok (.iinc 3 1, 3) := by decide +kernel
theorem dX12_weightOf_35 : decode cX12_weightOf 35 = .ok (.goto (-31), 3) := by decide +kernel
theorem dX12_weightOf_38 : decode cX12_weightOf 38 = .ok (.iload_n 2, 1) := by decide +kernel
theorem dX12_weightOf_39 : decode cX12_weightOf 39 = .ok (.ireturn, 1) := by decide +kernel
set_option maxRecDepth 20000 in
theorem ggX12_shelf_X12_in : GoodIn wsX12_shelf wsX12_in := goodIn_r _ [5] (by decide +kernel) (by decide +kernel)
set_option maxRecDepth 20000 in
theorem gX12_shelf_X12_in : GoodIn wsX12_shelf (va_wsS RX12 48 yX12_in wsX12_in) := goodIn_app (goodIn_of _ (by decide +kernel)) ggX12_shelf_X12_in
set_option maxRecDepth 20000 in
theorem ggX12_shelf_X12_finding : GoodIn wsX12_shelf wsX12_finding := goodIn_r _ [9, 10, 11, 24, 25, 26, 27, 28, 29, 30, 31, 32, 33, 34, 35, 36, 37, 38, 39, 40, 41, 42] (by decide +kernel) (by decide +kernel)
set_option maxRecDepth 20000 in
theorem gX12_shelf_X12_finding : GoodIn wsX12_shelf (wsV RX12 52 RX12 yX12_finding wsX12_finding) := goodIn_app (goodIn_of _ (by decide +kernel)) ggX12_shelf_X12_finding
set_option maxRecDepth 20000 in
theorem ggX12_shelf_X12_weightOf : GoodIn wsX12_shelf wsX12_weightOf := goodIn_r _ [15, 16, 17, 18, 4, 19, 1, 24, 25, 26, 27, 28, 29, 30, 31, 32, 33, 34, 35, 36, 37, 38, 39, 40, 41, 42] (by decide +kernel) (by decide +kernel)
set_option maxRecDepth 20000 in
theorem gX12_shelf_X12_weightOf : GoodIn wsX12_shelf (wsV RX12 231 RX12 yX12_weightOf wsX12_weightOf) := goodIn_app (goodIn_of _ (by decide +kernel)) ggX12_shelf_X12_weightOf
set_option maxRecDepth 20000 in
theorem ggX12_shelf_X12_worthOf : GoodIn wsX12_shelf wsX12_worthOf := goodIn_r _ [23, 16, 17, 18, 4, 19, 1, 24, 25, 26, 27, 28, 29, 30, 31, 32, 33, 34, 35, 36, 37, 38, 39, 40, 41, 42] (by decide +kernel) (by decide +kernel)
set_option maxRecDepth 20000 in
theorem gX12_shelf_X12_worthOf : GoodIn wsX12_shelf (wsV RX12 225 RX12 yX12_worthOf wsX12_worthOf) := goodIn_app (goodIn_of _ (by decide +kernel)) ggX12_shelf_X12_worthOf
theorem dX12_shelf_0 : decode cX12_shelf 0 = .ok (.iload_n 1, 1) := by decide +kernel
theorem dX12_shelf_1 : decode cX12_shelf 1 = .ok (.iconst 0, 1) := by decide +kernel
theorem dX12_shelf_2 : decode cX12_shelf 2 = .ok (.sipush 600, 3) := by decide +kernel
theorem dX12_shelf_5 : decode cX12_shelf 5 = .ok (.invokestatic 48, 3) := by decide +kernel
theorem dX12_shelf_8 : decode cX12_shelf 8 = .ok (.ifCond .eq 12, 3) := by decide +kernel
theorem dX12_shelf_11 : decode cX12_shelf 11 = .ok (.iload_n 2, 1) := by decide +kernel
theorem dX12_shelf_12 : decode cX12_shelf 12 = .ok (.iconst 0, 1) := by decide +kernel
theorem dX12_shelf_13 : decode cX12_shelf 13 = .ok (.iconst 1, 1) := by decide +kernel
theorem dX12_shelf_14 : decode cX12_shelf 14 = .ok (.invokestatic 48, 3) := by decide +kernel
theorem dX12_shelf_17 : decode cX12_shelf 17 = .ok (.ifCond .ne 9, 3) := by decide +kernel
theorem dX12_shelf_20 : decode cX12_shelf 20 = .ok (.aload_n 0, 1) := by decide +kernel
theorem dX12_shelf_21 : decode cX12_shelf 21 = .ok (.iconst 0, 1) := by decide +kernel
theorem dX12_shelf_22 : decode cX12_shelf 22 = .ok (.invokevirtual 52, 3) := by decide +kernel
theorem dX12_shelf_25 : decode cX12_shelf 25 = .ok (.ireturn, 1) := by decide +kernel
theorem dX12_shelf_26 : decode cX12_shelf 26 = .ok (.iconst 0, 1) := by decide +kernel
theorem dX12_shelf_27 : decode cX12_shelf 27 = .ok (.istore_n 3, 1) := by decide +kernel
theorem dX12_shelf_28 : decode cX12_shelf 28 = .ok (.iconst 1, 1) := by decide +kernel
theorem dX12_shelf_29 : decode cX12_shelf 29 = .ok (.istore 4, 2) := by decide +kernel
theorem dX12_shelf_31 : decode cX12_shelf 31 = .ok (.iload 4, 2) := by decide +kernel
theorem dX12_shelf_33 : decode cX12_shelf 33 = .ok (.iconst 1, 1) := by decide +kernel
theorem dX12_shelf_34 : decode cX12_shelf 34 = .ok (.aload_n 0, 1) := by decide +kernel
theorem dX12_shelf_35 : decode cX12_shelf 35 = .ok (.getfield 7, 3) := by decide +kernel
theorem dX12_shelf_38 : decode cX12_shelf 38 = .ok (.bipush 17, 2) := by decide +kernel
theorem dX12_shelf_40 : decode cX12_shelf 40 = .ok (.iaload, 1) := by decide +kernel
theorem dX12_shelf_41 : decode cX12_shelf 41 = .ok (.ishl, 1) := by decide +kernel
theorem dX12_shelf_42 : decode cX12_shelf 42 = .ok (.if_icmp .ge 40, 3) := by decide +kernel
theorem dX12_shelf_45 : decode cX12_shelf 45 = .ok (.aload_n 0, 1) := by decide +kernel
theorem dX12_shelf_46 : decode cX12_shelf 46 = .ok (.iload 4, 2) := by decide +kernel
theorem dX12_shelf_48 : decode cX12_shelf 48 = .ok (.invokevirtual 231, 3) := by decide +kernel
theorem dX12_shelf_51 : decode cX12_shelf 51 = .ok (.iload_n 1, 1) := by decide +kernel
theorem dX12_shelf_52 : decode cX12_shelf 52 = .ok (.if_icmp .gt 22, 3) := by decide +kernel
theorem dX12_shelf_55 : decode cX12_shelf 55 = .ok (.aload_n 0, 1) := by decide +kernel
theorem dX12_shelf_56 : decode cX12_shelf 56 = .ok (.iload 4, 2) := by decide +kernel
theorem dX12_shelf_58 : decode cX12_shelf 58 = .ok (.invokevirtual 225, 3) := by decide +kernel
theorem dX12_shelf_61 : decode cX12_shelf 61 = .ok (.aload_n 0, 1) := by decide +kernel
theorem dX12_shelf_62 : decode cX12_shelf 62 = .ok (.iload_n 3, 1) := by decide +kernel
theorem dX12_shelf_63 : decode cX12_shelf 63 = .ok (.invokevirtual 225, 3) := by decide +kernel
theorem dX12_shelf_66 : decode cX12_shelf 66 = .ok (.if_icmp .le 8, 3) := by decide +kernel
theorem dX12_shelf_69 : decode cX12_shelf 69 = .ok (.iload 4, 2) := by decide +kernel
theorem dX12_shelf_71 : decode cX12_shelf 71 = .ok (.goto 4, 3) := by decide +kernel
theorem dX12_shelf_74 : decode cX12_shelf 74 = .ok (.iload_n 3, 1) := by decide +kernel
theorem dX12_shelf_75 : decode cX12_shelf 75 = .ok (.istore_n 3, 1) := by decide +kernel
theorem dX12_shelf_76 : decode cX12_shelf 76 = .ok (.iinc 4 1, 3) := by decide +kernel
theorem dX12_shelf_79 : decode cX12_shelf 79 = .ok (.goto (-48), 3) := by decide +kernel
theorem dX12_shelf_82 : decode cX12_shelf 82 = .ok (.iload_n 2, 1) := by decide +kernel
theorem dX12_shelf_83 : decode cX12_shelf 83 = .ok (.ifCond .ne 7, 3) := by decide +kernel
theorem dX12_shelf_86 : decode cX12_shelf 86 = .ok (.iload_n 3, 1) := by decide +kernel
theorem dX12_shelf_87 : decode cX12_shelf 87 = .ok (.goto 8, 3) := by decide +kernel
theorem dX12_shelf_90 : decode cX12_shelf 90 = .ok (.aload_n 0, 1) := by decide +kernel
theorem dX12_shelf_91 : decode cX12_shelf 91 = .ok (.iload_n 3, 1) := by decide +kernel
theorem dX12_shelf_92 : decode cX12_shelf 92 = .ok (.invokevirtual 225, 3) := by decide +kernel
theorem dX12_shelf_95 : decode cX12_shelf 95 = .ok (.ireturn, 1) := by decide +kernel
theorem dX12_draw_0 : decode cX12_draw 0 = .ok (.aload_n 0, 1) := by decide +kernel
theorem dX12_draw_1 : decode cX12_draw 1 = .ok (.getfield 7, 3) := by decide +kernel
theorem dX12_draw_4 : decode cX12_draw 4 = .ok (.bipush 20, 2) := by decide +kernel
theorem dX12_draw_6 : decode cX12_draw 6 = .ok (.aload_n 0, 1) := by decide +kernel
theorem dX12_draw_7 : decode cX12_draw 7 = .ok (.getfield 7, 3) := by decide +kernel
theorem dX12_draw_10 : decode cX12_draw 10 = .ok (.bipush 20, 2) := by decide +kernel
theorem dX12_draw_12 : decode cX12_draw 12 = .ok (.iaload, 1) := by decide +kernel
theorem dX12_draw_13 : decode cX12_draw 13 = .ok (.ldc 234, 2) := by decide +kernel
theorem dX12_draw_15 : decode cX12_draw 15 = .ok (.imul, 1) := by decide +kernel
theorem dX12_draw_16 : decode cX12_draw 16 = .ok (.sipush 12345, 3) := by decide +kernel
theorem dX12_draw_19 : decode cX12_draw 19 = .ok (.iadd, 1) := by decide +kernel
theorem dX12_draw_20 : decode cX12_draw 20 = .ok (.iastore, 1) := by decide +kernel
theorem dX12_draw_21 : decode cX12_draw 21 = .ok (.aload_n 0, 1) := by decide +kernel
theorem dX12_draw_22 : decode cX12_draw 22 = .ok (.getfield 7, 3) := by decide +kernel
theorem dX12_draw_25 : decode cX12_draw 25 = .ok (.bipush 20, 2) := by decide +kernel
theorem dX12_draw_27 : decode cX12_draw 27 = .ok (.iaload, 1) := by decide +kernel
theorem dX12_draw_28 : decode cX12_draw 28 = .ok (.bipush 8, 2) := by decide +kernel
theorem dX12_draw_30 : decode cX12_draw 30 = .ok (.iushr, 1) := by decide +kernel
theorem dX12_draw_31 : decode cX12_draw 31 = .ok (.ireturn, 1) := by decide +kernel
set_option maxRecDepth 20000 in
theorem ggX12_odds_X12_in : GoodIn wsX12_odds wsX12_in := goodIn_r _ [6] (by decide +kernel) (by decide +kernel)
set_option maxRecDepth 20000 in
theorem gX12_odds_X12_in : GoodIn wsX12_odds (va_wsS RX12 48 yX12_in wsX12_in) := goodIn_app (goodIn_of _ (by decide +kernel)) ggX12_odds_X12_in
set_option maxRecDepth 20000 in
theorem ggX12_odds_X12_finding : GoodIn wsX12_odds wsX12_finding := goodIn_r _ [10, 11, 12, 70, 71, 72, 73, 74, 75, 76, 77, 78, 79, 80, 81, 82, 83, 84, 85, 86, 87, 88] (by decide +kernel) (by decide +kernel)
set_option maxRecDepth 20000 in
theorem gX12_odds_X12_finding : GoodIn wsX12_odds (wsV RX12 52 RX12 yX12_finding wsX12_finding) := goodIn_app (goodIn_of _ (by decide +kernel)) ggX12_odds_X12_finding
set_option maxRecDepth 20000 in
theorem ggX12_odds_X12_draw : GoodIn wsX12_odds wsX12_draw := goodIn_r _ [16, 2, 17, 70, 71, 72, 73, 74, 75, 76, 77, 78, 79, 80, 81, 82, 83, 84, 85, 86, 87, 88] (by decide +kernel) (by decide +kernel)
set_option maxRecDepth 20000 in
theorem gX12_odds_X12_draw : GoodIn wsX12_odds (wsV RX12 235 RX12 yX12_draw wsX12_draw) := goodIn_app (goodIn_of _ (by decide +kernel)) ggX12_odds_X12_draw
set_option maxRecDepth 20000 in
theorem ggX12_odds_X12_begin : GoodIn wsX12_odds wsX12_begin := goodIn_r _ [21, 2, 22, 23, 24, 5, 25, 70, 71, 72, 73, 74, 75, 76, 77, 78, 79, 80, 81, 82, 83, 84, 85, 86, 87, 88] (by decide +kernel) (by decide +kernel)
set_option maxRecDepth 20000 in
theorem gX12_odds_X12_begin : GoodIn wsX12_odds (wsV RX12 199 RX12 yX12_begin wsX12_begin) := goodIn_app (goodIn_of _ (by decide +kernel)) ggX12_odds_X12_begin
set_option maxRecDepth 20000 in
theorem ggX12_odds_X12_goesOn : GoodIn wsX12_odds wsX12_goesOn := goodIn_r _ [29, 2, 1, 30, 31, 32, 5, 33, 34, 35, 36, 37, 38, 39, 40, 41, 42, 43, 44, 45, 46, 47, 48, 49, 50, 51, 52, 53, 54, 55, 56, 57, 58, 59, 60, 61, 62, 63, 64, 65, 70, 71, 72, 73, 74, 75, 76, 77, 78, 79, 80, 81, 82, 83, 84, 85, 86, 87, 88] (by decide +kernel) (by decide +kernel)
set_option maxRecDepth 20000 in
theorem gX12_odds_X12_goesOn : GoodIn wsX12_odds (wsV RX12 99 RX12 yX12_goesOn wsX12_goesOn) := goodIn_app (goodIn_of _ (by decide +kernel)) ggX12_odds_X12_goesOn
set_option maxRecDepth 20000 in
theorem ggX12_odds_X12_layBack : GoodIn wsX12_odds wsX12_layBack := goodIn_r _ [69, 22, 2, 23, 24, 5, 25, 70, 71, 72, 73, 74, 75, 76, 77, 78, 79, 80, 81, 82, 83, 84, 85, 86, 87, 88] (by decide +kernel) (by decide +kernel)
set_option maxRecDepth 20000 in
theorem gX12_odds_X12_layBack : GoodIn wsX12_odds (wsV RX12 196 RX12 yX12_layBack wsX12_layBack) := goodIn_app (goodIn_of _ (by decide +kernel)) ggX12_odds_X12_layBack
theorem dX12_odds_0 : decode cX12_odds 0 = .ok (.iload_n 1, 1) := by decide +kernel
theorem dX12_odds_1 : decode cX12_odds 1 = .ok (.iconst 1, 1) := by decide +kernel
theorem dX12_odds_2 : decode cX12_odds 2 = .ok (.bipush 20, 2) := by decide +kernel
theorem dX12_odds_4 : decode cX12_odds 4 = .ok (.invokestatic 48, 3) := by decide +kernel
theorem dX12_odds_7 : decode cX12_odds 7 = .ok (.ifCond .eq 25, 3) := by decide +kernel
theorem dX12_odds_10 : decode cX12_odds 10 = .ok (.iload_n 2, 1) := by decide +kernel
theorem dX12_odds_11 : decode cX12_odds 11 = .ok (.iconst 1, 1) := by decide +kernel
theorem dX12_odds_12 : decode cX12_odds 12 = .ok (.sipush 200, 3) := by decide +kernel
theorem dX12_odds_15 : decode cX12_odds 15 = .ok (.invokestatic 48, 3) := by decide +kernel
theorem dX12_odds_18 : decode cX12_odds 18 = .ok (.ifCond .eq 14, 3) := by decide +kernel
theorem dX12_odds_21 : decode cX12_odds 21 = .ok (.iload_n 3, 1) := by decide +kernel
theorem dX12_odds_22 : decode cX12_odds 22 = .ok (.iconst 0, 1) := by decide +kernel
theorem dX12_odds_23 : decode cX12_odds 23 = .ok (.sipush 9999, 3) := by decide +kernel
theorem dX12_odds_26 : decode cX12_odds 26 = .ok (.invokestatic 48, 3) := by decide +kernel
theorem dX12_odds_29 : decode cX12_odds 29 = .ok (.ifCond .ne 9, 3) := by decide +kernel
theorem dX12_odds_32 : decode cX12_odds 32 = .ok (.aload_n 0, 1) := by decide +kernel
theorem dX12_odds_33 : decode cX12_odds 33 = .ok (.iconst 0, 1) := by decide +kernel
theorem dX12_odds_34 : decode cX12_odds 34 = .ok (.invokevirtual 52, 3) := by decide +kernel
theorem dX12_odds_37 : decode cX12_odds 37 = .ok (.ireturn, 1) := by decide +kernel
theorem dX12_odds_38 : decode cX12_odds 38 = .ok (.iconst 0, 1) := by decide +kernel
theorem dX12_odds_39 : decode cX12_odds 39 = .ok (.istore 4, 2) := by decide +kernel
theorem dX12_odds_41 : decode cX12_odds 41 = .ok (.iconst 0, 1) := by decide +kernel
theorem dX12_odds_42 : decode cX12_odds 42 = .ok (.istore 5, 2) := by decide +kernel
theorem dX12_odds_44 : decode cX12_odds 44 = .ok (.iload 5, 2) := by decide +kernel
theorem dX12_odds_46 : decode cX12_odds 46 = .ok (.iload_n 1, 1) := by decide +kernel
theorem dX12_odds_47 : decode cX12_odds 47 = .ok (.if_icmp .ge 101, 3) := by decide +kernel
theorem dX12_odds_50 : decode cX12_odds 50 = .ok (.aload_n 0, 1) := by decide +kernel
theorem dX12_odds_51 : decode cX12_odds 51 = .ok (.invokevirtual 235, 3) := by decide +kernel
theorem dX12_odds_54 : decode cX12_odds 54 = .ok (.bipush 40, 2) := by decide +kernel
theorem dX12_odds_56 : decode cX12_odds 56 = .ok (.irem, 1) := by decide +kernel
theorem dX12_odds_57 : decode cX12_odds 57 = .ok (.istore 6, 2) := by decide +kernel
theorem dX12_odds_59 : decode cX12_odds 59 = .ok (.aload_n 0, 1) := by decide +kernel
theorem dX12_odds_60 : decode cX12_odds 60 = .ok (.invokevirtual 235, 3) := by decide +kernel
theorem dX12_odds_63 : decode cX12_odds 63 = .ok (.iconst 4, 1) := by decide +kernel
theorem dX12_odds_64 : decode cX12_odds 64 = .ok (.irem, 1) := by decide +kernel
theorem dX12_odds_65 : decode cX12_odds 65 = .ok (.ifCond .ne 7, 3) := by decide +kernel
theorem dX12_odds_68 : decode cX12_odds 68 = .ok (.iconst 1, 1) := by decide +kernel
theorem dX12_odds_69 : decode cX12_odds 69 = .ok (.goto 4, 3) := by decide +kernel
theorem dX12_odds_72 : decode cX12_odds 72 = .ok (.iconst 0, 1) := by decide +kernel
theorem dX12_odds_73 : decode cX12_odds 73 = .ok (.istore 7, 2) := by decide +kernel
theorem dX12_odds_75 : decode cX12_odds 75 = .ok (.aload_n 0, 1) := by decide +kernel
theorem dX12_odds_76 : decode cX12_odds 76 = .ok (.invokevirtual 199, 3) := by decide +kernel
theorem dX12_odds_79 : decode cX12_odds 79 = .ok (.aload_n 0, 1) := by decide +kernel
theorem dX12_odds_80 : decode cX12_odds 80 = .ok (.iconst 0, 1) := by decide +kernel
theorem dX12_odds_81 : decode cX12_odds 81 = .ok (.putfield 95, 3) := by decide +kernel
theorem dX12_odds_84 : decode cX12_odds 84 = .ok (.aload_n 0, 1) := by decide +kernel
theorem dX12_odds_85 : decode cX12_odds 85 = .ok (.getfield 7, 3) := by decide +kernel
theorem dX12_odds_88 : decode cX12_odds 88 = .ok (.iconst 0, 1) := by decide +kernel
theorem dX12_odds_89 : decode cX12_odds 89 = .ok (.iload 6, 2) := by decide +kernel
theorem dX12_odds_91 : decode cX12_odds 91 = .ok (.iastore, 1) := by decide +kernel
theorem dX12_odds_92 : decode cX12_odds 92 = .ok (.aload_n 0, 1) := by decide +kernel
theorem dX12_odds_93 : decode cX12_odds 93 = .ok (.getfield 7, 3) := by decide +kernel
theorem dX12_odds_96 : decode cX12_odds 96 = .ok (.bipush 14, 2) := by decide +kernel
theorem dX12_odds_98 : decode cX12_odds 98 = .ok (.iload 7, 2) := by decide +kernel
theorem dX12_odds_100 : decode cX12_odds 100 = .ok (.ifCond .eq 7, 3) := by decide +kernel
theorem dX12_odds_103 : decode cX12_odds 103 = .ok (.iconst 0, 1) := by decide +kernel
theorem dX12_odds_104 : decode cX12_odds 104 = .ok (.goto 10, 3) := by decide +kernel
theorem dX12_odds_107 : decode cX12_odds 107 = .ok (.aload_n 0, 1) := by decide +kernel
theorem dX12_odds_108 : decode cX12_odds 108 = .ok (.getfield 7, 3) := by decide +kernel
theorem dX12_odds_111 : decode cX12_odds 111 = .ok (.bipush 14, 2) := by decide +kernel
theorem dX12_odds_113 : decode cX12_odds 113 = .ok (.iaload, 1) := by decide +kernel
theorem dX12_odds_114 : decode cX12_odds 114 = .ok (.iastore, 1) := by decide +kernel
theorem dX12_odds_115 : decode cX12_odds 115 = .ok (.aload_n 0, 1) := by decide +kernel
theorem dX12_odds_116 : decode cX12_odds 116 = .ok (.iload_n 2, 1) := by decide +kernel
theorem dX12_odds_117 : decode cX12_odds 117 = .ok (.invokevirtual 99, 3) := by decide +kernel
theorem dX12_odds_120 : decode cX12_odds 120 = .ok (.iload 4, 2) := by decide +kernel
theorem dX12_odds_122 : decode cX12_odds 122 = .ok (.aload_n 0, 1) := by decide +kernel
theorem dX12_odds_123 : decode cX12_odds 123 = .ok (.getfield 95, 3) := by decide +kernel
theorem dX12_odds_126 : decode cX12_odds 126 = .ok (.iload_n 3, 1) := by decide +kernel
theorem dX12_odds_127 : decode cX12_odds 127 = .ok (.if_icmp .le 7, 3) := by decide +kernel
theorem dX12_odds_130 : decode cX12_odds 130 = .ok (.iconst 1, 1) := by decide +kernel
theorem dX12_odds_131 : decode cX12_odds 131 = .ok (.goto 4, 3) := by decide +kernel
theorem dX12_odds_134 : decode cX12_odds 134 = .ok (.iconst 0, 1) := by decide +kernel
theorem dX12_odds_135 : decode cX12_odds 135 = .ok (.iadd, 1) := by decide +kernel
theorem dX12_odds_136 : decode cX12_odds 136 = .ok (.istore 4, 2) := by decide +kernel
theorem dX12_odds_138 : decode cX12_odds 138 = .ok (.aload_n 0, 1) := by decide +kernel
theorem dX12_odds_139 : decode cX12_odds 139 = .ok (.invokevirtual 196, 3) := by decide +kernel
theorem dX12_odds_142 : decode cX12_odds 142 = .ok (.iinc 5 1, 3) := by decide +kernel
theorem dX12_odds_145 : decode cX12_odds 145 = .ok (.goto (-101), 3) := by decide +kernel
theorem dX12_odds_148 : decode cX12_odds 148 = .ok (.iload 4, 2) := by decide +kernel
theorem dX12_odds_150 : decode cX12_odds 150 = .ok (.ireturn, 1) := by decide +kernel
theorem dX12_seed_0 : decode cX12_seed 0 = .ok (.aload_n 0, 1) := by decide +kernel
theorem dX12_seed_1 : decode cX12_seed 1 = .ok (.getfield 7, 3) := by decide +kernel
theorem dX12_seed_4 : decode cX12_seed 4 = .ok (.bipush 20, 2) := by decide +kernel
theorem dX12_seed_6 : decode cX12_seed 6 = .ok (.iaload, 1) := by decide +kernel
theorem dX12_seed_7 : decode cX12_seed 7 = .ok (.istore_n 2, 1) := by decide +kernel
theorem dX12_seed_8 : decode cX12_seed 8 = .ok (.aload_n 0, 1) := by decide +kernel
theorem dX12_seed_9 : decode cX12_seed 9 = .ok (.getfield 7, 3) := by decide +kernel
theorem dX12_seed_12 : decode cX12_seed 12 = .ok (.bipush 20, 2) := by decide +kernel
theorem dX12_seed_14 : decode cX12_seed 14 = .ok (.iload_n 1, 1) := by decide +kernel
theorem dX12_seed_15 : decode cX12_seed 15 = .ok (.iastore, 1) := by decide +kernel
theorem dX12_seed_16 : decode cX12_seed 16 = .ok (.iload_n 2, 1) := by decide +kernel
theorem dX12_seed_17 : decode cX12_seed 17 = .ok (.ireturn, 1) := by decide +kernel
set_option maxRecDepth 20000 in
theorem ggX12_hold_X12_in : GoodIn wsX12_hold wsX12_in := goodIn_r _ [5] (by decide +kernel) (by decide +kernel)
set_option maxRecDepth 20000 in
theorem gX12_hold_X12_in : GoodIn wsX12_hold (va_wsS RX12 48 yX12_in wsX12_in) := goodIn_app (goodIn_of _ (by decide +kernel)) ggX12_hold_X12_in
set_option maxRecDepth 20000 in
theorem ggX12_hold_X12_isWater : GoodIn wsX12_hold wsX12_isWater := goodIn_r _ [9, 1, 2, 3, 4, 5, 16, 17, 18, 19, 20, 21, 22, 23, 24, 25, 26, 27, 28, 29, 30, 31, 32, 33, 34] (by decide +kernel) (by decide +kernel)
set_option maxRecDepth 20000 in
theorem gX12_hold_X12_isWater : GoodIn wsX12_hold (wsV RX12 67 RX12 yX12_isWater wsX12_isWater) := goodIn_app (goodIn_of _ (by decide +kernel)) ggX12_hold_X12_isWater
set_option maxRecDepth 20000 in
theorem ggX12_hold_X12_finding : GoodIn wsX12_hold wsX12_finding := goodIn_r _ [13, 14, 15, 16, 17, 18, 19, 20, 21, 22, 23, 24, 25, 26, 27, 28, 29, 30, 31, 32, 33, 34] (by decide +kernel) (by decide +kernel)
set_option maxRecDepth 20000 in
theorem gX12_hold_X12_finding : GoodIn wsX12_hold (wsV RX12 52 RX12 yX12_finding wsX12_finding) := goodIn_app (goodIn_of _ (by decide +kernel)) ggX12_hold_X12_finding
theorem dX12_hold_0 : decode cX12_hold 0 = .ok (.iload_n 1, 1) := by decide +kernel
theorem dX12_hold_1 : decode cX12_hold 1 = .ok (.iconst 0, 1) := by decide +kernel
theorem dX12_hold_2 : decode cX12_hold 2 = .ok (.bipush 9, 2) := by decide +kernel
theorem dX12_hold_4 : decode cX12_hold 4 = .ok (.invokestatic 48, 3) := by decide +kernel
theorem dX12_hold_7 : decode cX12_hold 7 = .ok (.ifCond .eq 16, 3) := by decide +kernel
theorem dX12_hold_10 : decode cX12_hold 10 = .ok (.iload_n 2, 1) := by decide +kernel
theorem dX12_hold_11 : decode cX12_hold 11 = .ok (.iconst (-1), 1) := by decide +kernel
theorem dX12_hold_12 : decode cX12_hold 12 = .ok (.if_icmp .eq 17, 3) := by decide +kernel
theorem dX12_hold_15 : decode cX12_hold 15 = .ok (.aload_n 0, 1) := by decide +kernel
theorem dX12_hold_16 : decode cX12_hold 16 = .ok (.iload_n 2, 1) := by decide +kernel
theorem dX12_hold_17 : decode cX12_hold 17 = .ok (.invokevirtual 67, 3) := by decide +kernel
theorem dX12_hold_20 : decode cX12_hold 20 = .ok (.ifCond .ne 9, 3) := by decide +kernel
theorem dX12_hold_23 : decode cX12_hold 23 = .ok (.aload_n 0, 1) := by decide +kernel
theorem dX12_hold_24 : decode cX12_hold 24 = .ok (.iconst 0, 1) := by decide +kernel
theorem dX12_hold_25 : decode cX12_hold 25 = .ok (.invokevirtual 52, 3) := by decide +kernel
theorem dX12_hold_28 : decode cX12_hold 28 = .ok (.ireturn, 1) := by decide +kernel
theorem dX12_hold_29 : decode cX12_hold 29 = .ok (.aload_n 0, 1) := by decide +kernel
theorem dX12_hold_30 : decode cX12_hold 30 = .ok (.getfield 7, 3) := by decide +kernel
theorem dX12_hold_33 : decode cX12_hold 33 = .ok (.sipush 297, 3) := by decide +kernel
theorem dX12_hold_36 : decode cX12_hold 36 = .ok (.iload_n 1, 1) := by decide +kernel
theorem dX12_hold_37 : decode cX12_hold 37 = .ok (.iadd, 1) := by decide +kernel
theorem dX12_hold_38 : decode cX12_hold 38 = .ok (.iload_n 2, 1) := by decide +kernel
theorem dX12_hold_39 : decode cX12_hold 39 = .ok (.iastore, 1) := by decide +kernel
theorem dX12_hold_40 : decode cX12_hold 40 = .ok (.iconst 1, 1) := by decide +kernel
theorem dX12_hold_41 : decode cX12_hold 41 = .ok (.ireturn, 1) := by decide +kernel
theorem dX12_isUnder_0 : decode cX12_isUnder 0 = .ok (.iload_n 1, 1) := by decide +kernel
theorem dX12_isUnder_1 : decode cX12_isUnder 1 = .ok (.ifCond .eq 45, 3) := by decide +kernel
theorem dX12_isUnder_4 : decode cX12_isUnder 4 = .ok (.iload_n 0, 1) := by decide +kernel
theorem dX12_isUnder_5 : decode cX12_isUnder 5 = .ok (.iload_n 1, 1) := by decide +kernel
theorem dX12_isUnder_6 : decode cX12_isUnder 6 = .ok (.if_icmp .eq 40, 3) := by decide +kernel
theorem dX12_isUnder_9 : decode cX12_isUnder 9 = .ok (.iload_n 1, 1) := by decide +kernel
theorem dX12_isUnder_10 : decode cX12_isUnder 10 = .ok (.iconst 1, 1) := by decide +kernel
theorem dX12_isUnder_11 : decode cX12_isUnder 11 = .ok (.if_icmp .ne 14, 3) := by decide +kernel
theorem dX12_isUnder_14 : decode cX12_isUnder 14 = .ok (.iload_n 0, 1) := by decide +kernel
theorem dX12_isUnder_15 : decode cX12_isUnder 15 = .ok (.iconst 4, 1) := by decide +kernel
theorem dX12_isUnder_16 : decode cX12_isUnder 16 = .ok (.if_icmp .eq 30, 3) := by decide +kernel
theorem dX12_isUnder_19 : decode cX12_isUnder 19 = .ok (.iload_n 0, 1) := by decide +kernel
theorem dX12_isUnder_20 : decode cX12_isUnder 20 = .ok (.bipush 6, 2) := by decide +kernel
theorem dX12_isUnder_22 : decode cX12_isUnder 22 = .ok (.if_icmp .eq 24, 3) := by decide +kernel
theorem dX12_isUnder_25 : decode cX12_isUnder 25 = .ok (.iload_n 1, 1) := by decide +kernel
theorem dX12_isUnder_26 : decode cX12_isUnder 26 = .ok (.iconst 4, 1) := by decide +kernel
theorem dX12_isUnder_27 : decode cX12_isUnder 27 = .ok (.if_icmp .ne 9, 3) := by decide +kernel
theorem dX12_isUnder_30 : decode cX12_isUnder 30 = .ok (.iload_n 0, 1) := by decide +kernel
theorem dX12_isUnder_31 : decode cX12_isUnder 31 = .ok (.bipush 6, 2) := by decide +kernel
theorem dX12_isUnder_33 : decode cX12_isUnder 33 = .ok (.if_icmp .eq 13, 3) := by decide +kernel
theorem dX12_isUnder_36 : decode cX12_isUnder 36 = .ok (.iload_n 1, 1) := by decide +kernel
theorem dX12_isUnder_37 : decode cX12_isUnder 37 = .ok (.iconst 2, 1) := by decide +kernel
theorem dX12_isUnder_38 : decode cX12_isUnder 38 = .ok (.if_icmp .ne 12, 3) := by decide +kernel
theorem dX12_isUnder_41 : decode cX12_isUnder 41 = .ok (.iload_n 0, 1) := by decide +kernel
theorem dX12_isUnder_42 : decode cX12_isUnder 42 = .ok (.iconst 3, 1) := by decide +kernel
theorem dX12_isUnder_43 : decode cX12_isUnder 43 = .ok (.if_icmp .ne 7, 3) := by decide +kernel
theorem dX12_isUnder_46 : decode cX12_isUnder 46 = .ok (.iconst 1, 1) := by decide +kernel
theorem dX12_isUnder_47 : decode cX12_isUnder 47 = .ok (.goto 4, 3) := by decide +kernel
theorem dX12_isUnder_50 : decode cX12_isUnder 50 = .ok (.iconst 0, 1) := by decide +kernel
theorem dX12_isUnder_51 : decode cX12_isUnder 51 = .ok (.ireturn, 1) := by decide +kernel
set_option maxRecDepth 20000 in
theorem ggX12_as_X12_in : GoodIn wsX12_as wsX12_in := goodIn_r _ [5] (by decide +kernel) (by decide +kernel)
set_option maxRecDepth 20000 in
theorem gX12_as_X12_in : GoodIn wsX12_as (va_wsS RX12 48 yX12_in wsX12_in) := goodIn_app (goodIn_of _ (by decide +kernel)) ggX12_as_X12_in
set_option maxRecDepth 20000 in
theorem ggX12_as_X12_finding : GoodIn wsX12_as wsX12_finding := goodIn_r _ [9, 10, 11, 19, 20, 21, 22, 23, 24, 25, 26, 27, 28, 29, 30, 31, 32, 33, 34, 35, 36, 37] (by decide +kernel) (by decide +kernel)
set_option maxRecDepth 20000 in
theorem gX12_as_X12_finding : GoodIn wsX12_as (wsV RX12 52 RX12 yX12_finding wsX12_finding) := goodIn_app (goodIn_of _ (by decide +kernel)) ggX12_as_X12_finding
set_option maxRecDepth 20000 in
theorem ggX12_as_X12_its : GoodIn wsX12_as wsX12_its := goodIn_r _ [15, 1, 19, 20, 21, 22, 23, 24, 25, 26, 27, 28, 29, 30, 31, 32, 33, 34, 35, 36, 37] (by decide +kernel) (by decide +kernel)
set_option maxRecDepth 20000 in
theorem gX12_as_X12_its : GoodIn wsX12_as (wsV RX12 60 RX12 yX12_its wsX12_its) := goodIn_app (goodIn_of _ (by decide +kernel)) ggX12_as_X12_its
set_option maxRecDepth 20000 in
theorem ggX12_as_X12_isUnder : GoodIn wsX12_as wsX12_isUnder := goodIn_r _ [18] (by decide +kernel) (by decide +kernel)
set_option maxRecDepth 20000 in
theorem gX12_as_X12_isUnder : GoodIn wsX12_as (va_wsS RX12 238 yX12_isUnder wsX12_isUnder) := goodIn_app (goodIn_of _ (by decide +kernel)) ggX12_as_X12_isUnder
theorem dX12_as_0 : decode cX12_as 0 = .ok (.iload_n 1, 1) := by decide +kernel
theorem dX12_as_1 : decode cX12_as 1 = .ok (.iconst 0, 1) := by decide +kernel
theorem dX12_as_2 : decode cX12_as 2 = .ok (.bipush 9, 2) := by decide +kernel
theorem dX12_as_4 : decode cX12_as 4 = .ok (.invokestatic 48, 3) := by decide +kernel
theorem dX12_as_7 : decode cX12_as 7 = .ok (.ifCond .eq 13, 3) := by decide +kernel
theorem dX12_as_10 : decode cX12_as 10 = .ok (.iload_n 2, 1) := by decide +kernel
theorem dX12_as_11 : decode cX12_as 11 = .ok (.iconst 0, 1) := by decide +kernel
theorem dX12_as_12 : decode cX12_as 12 = .ok (.bipush 6, 2) := by decide +kernel
theorem dX12_as_14 : decode cX12_as 14 = .ok (.invokestatic 48, 3) := by decide +kernel
theorem dX12_as_17 : decode cX12_as 17 = .ok (.ifCond .ne 9, 3) := by decide +kernel
theorem dX12_as_20 : decode cX12_as 20 = .ok (.aload_n 0, 1) := by decide +kernel
theorem dX12_as_21 : decode cX12_as 21 = .ok (.iconst 0, 1) := by decide +kernel
theorem dX12_as_22 : decode cX12_as 22 = .ok (.invokevirtual 52, 3) := by decide +kernel
theorem dX12_as_25 : decode cX12_as 25 = .ok (.ireturn, 1) := by decide +kernel
theorem dX12_as_26 : decode cX12_as 26 = .ok (.aload_n 0, 1) := by decide +kernel
theorem dX12_as_27 : decode cX12_as 27 = .ok (.getfield 7, 3) := by decide +kernel
theorem dX12_as_30 : decode cX12_as 30 = .ok (.sipush 297, 3) := by decide +kernel
theorem dX12_as_33 : decode cX12_as 33 = .ok (.iload_n 1, 1) := by decide +kernel
theorem dX12_as_34 : decode cX12_as 34 = .ok (.iadd, 1) := by decide +kernel
theorem dX12_as_35 : decode cX12_as 35 = .ok (.iaload, 1) := by decide +kernel
theorem dX12_as_36 : decode cX12_as 36 = .ok (.istore_n 3, 1) := by decide +kernel
theorem dX12_as_37 : decode cX12_as 37 = .ok (.iload_n 3, 1) := by decide +kernel
theorem dX12_as_38 : decode cX12_as 38 = .ok (.iconst (-1), 1) := by decide +kernel
theorem dX12_as_39 : decode cX12_as 39 = .ok (.if_icmp .ne 9, 3) := by decide +kernel
theorem dX12_as_42 : decode cX12_as 42 = .ok (.aload_n 0, 1) := by decide +kernel
theorem dX12_as_43 : decode cX12_as 43 = .ok (.iconst 5, 1) := by decide +kernel
theorem dX12_as_44 : decode cX12_as 44 = .ok (.invokevirtual 52, 3) := by decide +kernel
theorem dX12_as_47 : decode cX12_as 47 = .ok (.ireturn, 1) := by decide +kernel
theorem dX12_as_48 : decode cX12_as 48 = .ok (.aload_n 0, 1) := by decide +kernel
theorem dX12_as_49 : decode cX12_as 49 = .ok (.iload_n 3, 1) := by decide +kernel
theorem dX12_as_50 : decode cX12_as 50 = .ok (.iconst 0, 1) := by decide +kernel
theorem dX12_as_51 : decode cX12_as 51 = .ok (.invokevirtual 60, 3) := by decide +kernel
theorem dX12_as_54 : decode cX12_as 54 = .ok (.iload_n 2, 1) := by decide +kernel
theorem dX12_as_55 : decode cX12_as 55 = .ok (.invokestatic 238, 3) := by decide +kernel
theorem dX12_as_58 : decode cX12_as 58 = .ok (.ifCond .eq 7, 3) := by decide +kernel
theorem dX12_as_61 : decode cX12_as 61 = .ok (.iload_n 3, 1) := by decide +kernel
theorem dX12_as_62 : decode cX12_as 62 = .ok (.goto 8, 3) := by decide +kernel
theorem dX12_as_65 : decode cX12_as 65 = .ok (.aload_n 0, 1) := by decide +kernel
theorem dX12_as_66 : decode cX12_as 66 = .ok (.iconst 2, 1) := by decide +kernel
theorem dX12_as_67 : decode cX12_as 67 = .ok (.invokevirtual 52, 3) := by decide +kernel
theorem dX12_as_70 : decode cX12_as 70 = .ok (.ireturn, 1) := by decide +kernel
set_option maxRecDepth 20000 in
theorem ggX12_isSheet_X12_in : GoodIn wsX12_isSheet wsX12_in := goodIn_r _ [4] (by decide +kernel) (by decide +kernel)
set_option maxRecDepth 20000 in
theorem gX12_isSheet_X12_in : GoodIn wsX12_isSheet (va_wsS RX12 48 yX12_in wsX12_in) := goodIn_app (goodIn_of _ (by decide +kernel)) ggX12_isSheet_X12_in
theorem dX12_isSheet_0 : decode cX12_isSheet 0 = .ok (.iload_n 0, 1) := by decide +kernel
theorem dX12_isSheet_1 : decode cX12_isSheet 1 = .ok (.iconst 0, 1) := by decide +kernel
theorem dX12_isSheet_2 : decode cX12_isSheet 2 = .ok (.iconst 3, 1) := by decide +kernel
theorem dX12_isSheet_3 : decode cX12_isSheet 3 = .ok (.invokestatic 48, 3) := by decide +kernel
theorem dX12_isSheet_6 : decode cX12_isSheet 6 = .ok (.ireturn, 1) := by decide +kernel
set_option maxRecDepth 20000 in
theorem ggX12_sheet_X12_isSheet : GoodIn wsX12_sheet wsX12_isSheet := goodIn_r _ [7, 8, 9, 6, 10] (by decide +kernel) (by decide +kernel)
set_option maxRecDepth 20000 in
theorem gX12_sheet_X12_isSheet : GoodIn wsX12_sheet (va_wsS RX12 241 yX12_isSheet wsX12_isSheet) := goodIn_app (goodIn_of _ (by decide +kernel)) ggX12_sheet_X12_isSheet
set_option maxRecDepth 20000 in
theorem ggX12_sheet_X12_finding : GoodIn wsX12_sheet wsX12_finding := goodIn_r _ [14, 15, 16, 17, 18, 19, 20, 21, 22, 23, 24, 25, 26, 27, 28, 29, 30, 31, 32, 33, 34, 35] (by decide +kernel) (by decide +kernel)
set_option maxRecDepth 20000 in
theorem gX12_sheet_X12_finding : GoodIn wsX12_sheet (wsV RX12 52 RX12 yX12_finding wsX12_finding) := goodIn_app (goodIn_of _ (by decide +kernel)) ggX12_sheet_X12_finding
theorem dX12_sheet_0 : decode cX12_sheet 0 = .ok (.iload_n 1, 1) := by decide +kernel
theorem dX12_sheet_1 : decode cX12_sheet 1 = .ok (.invokestatic 241, 3) := by decide +kernel
theorem dX12_sheet_4 : decode cX12_sheet 4 = .ok (.ifCond .eq 25, 3) := by decide +kernel
theorem dX12_sheet_7 : decode cX12_sheet 7 = .ok (.iload_n 2, 1) := by decide +kernel
theorem dX12_sheet_8 : decode cX12_sheet 8 = .ok (.ifCond .eq 27, 3) := by decide +kernel
theorem dX12_sheet_11 : decode cX12_sheet 11 = .ok (.iload_n 2, 1) := by decide +kernel
theorem dX12_sheet_12 : decode cX12_sheet 12 = .ok (.bipush 8, 2) := by decide +kernel
theorem dX12_sheet_14 : decode cX12_sheet 14 = .ok (.if_icmp .eq 21, 3) := by decide +kernel
theorem dX12_sheet_17 : decode cX12_sheet 17 = .ok (.iload_n 2, 1) := by decide +kernel
theorem dX12_sheet_18 : decode cX12_sheet 18 = .ok (.bipush 16, 2) := by decide +kernel
theorem dX12_sheet_20 : decode cX12_sheet 20 = .ok (.if_icmp .eq 15, 3) := by decide +kernel
theorem dX12_sheet_23 : decode cX12_sheet 23 = .ok (.iload_n 2, 1) := by decide +kernel
theorem dX12_sheet_24 : decode cX12_sheet 24 = .ok (.bipush 32, 2) := by decide +kernel
theorem dX12_sheet_26 : decode cX12_sheet 26 = .ok (.if_icmp .eq 9, 3) := by decide +kernel
theorem dX12_sheet_29 : decode cX12_sheet 29 = .ok (.aload_n 0, 1) := by decide +kernel
theorem dX12_sheet_30 : decode cX12_sheet 30 = .ok (.iconst 0, 1) := by decide +kernel
theorem dX12_sheet_31 : decode cX12_sheet 31 = .ok (.invokevirtual 52, 3) := by decide +kernel
theorem dX12_sheet_34 : decode cX12_sheet 34 = .ok (.ireturn, 1) := by decide +kernel
theorem dX12_sheet_35 : decode cX12_sheet 35 = .ok (.iload_n 3, 1) := by decide +kernel
theorem dX12_sheet_36 : decode cX12_sheet 36 = .ok (.ifCond .ge 10, 3) := by decide +kernel
theorem dX12_sheet_39 : decode cX12_sheet 39 = .ok (.aload_n 0, 1) := by decide +kernel
theorem dX12_sheet_40 : decode cX12_sheet 40 = .ok (.bipush 6, 2) := by decide +kernel
theorem dX12_sheet_42 : decode cX12_sheet 42 = .ok (.invokevirtual 52, 3) := by decide +kernel
theorem dX12_sheet_45 : decode cX12_sheet 45 = .ok (.ireturn, 1) := by decide +kernel
theorem dX12_sheet_46 : decode cX12_sheet 46 = .ok (.iload_n 3, 1) := by decide +kernel
theorem dX12_sheet_47 : decode cX12_sheet 47 = .ok (.bipush 40, 2) := by decide +kernel
theorem dX12_sheet_49 : decode cX12_sheet 49 = .ok (.if_icmp .le 9, 3) := by decide +kernel
theorem dX12_sheet_52 : decode cX12_sheet 52 = .ok (.aload_n 0, 1) := by decide +kernel
theorem dX12_sheet_53 : decode cX12_sheet 53 = .ok (.iconst 0, 1) := by decide +kernel
theorem dX12_sheet_54 : decode cX12_sheet 54 = .ok (.invokevirtual 52, 3) := by decide +kernel
theorem dX12_sheet_57 : decode cX12_sheet 57 = .ok (.ireturn, 1) := by decide +kernel
theorem dX12_sheet_58 : decode cX12_sheet 58 = .ok (.aload_n 0, 1) := by decide +kernel
theorem dX12_sheet_59 : decode cX12_sheet 59 = .ok (.getfield 31, 3) := by decide +kernel
theorem dX12_sheet_62 : decode cX12_sheet 62 = .ok (.iload_n 1, 1) := by decide +kernel
theorem dX12_sheet_63 : decode cX12_sheet 63 = .ok (.iload_n 2, 1) := by decide +kernel
theorem dX12_sheet_64 : decode cX12_sheet 64 = .ok (.iastore, 1) := by decide +kernel
theorem dX12_sheet_65 : decode cX12_sheet 65 = .ok (.aload_n 0, 1) := by decide +kernel
theorem dX12_sheet_66 : decode cX12_sheet 66 = .ok (.getfield 34, 3) := by decide +kernel
theorem dX12_sheet_69 : decode cX12_sheet 69 = .ok (.iload_n 1, 1) := by decide +kernel
theorem dX12_sheet_70 : decode cX12_sheet 70 = .ok (.iload_n 2, 1) := by decide +kernel
theorem dX12_sheet_71 : decode cX12_sheet 71 = .ok (.ifCond .ne 7, 3) := by decide +kernel
theorem dX12_sheet_74 : decode cX12_sheet 74 = .ok (.iconst 0, 1) := by decide +kernel
theorem dX12_sheet_75 : decode cX12_sheet 75 = .ok (.goto 4, 3) := by decide +kernel
theorem dX12_sheet_78 : decode cX12_sheet 78 = .ok (.iload_n 3, 1) := by decide +kernel
theorem dX12_sheet_79 : decode cX12_sheet 79 = .ok (.iastore, 1) := by decide +kernel
theorem dX12_sheet_80 : decode cX12_sheet 80 = .ok (.iconst 0, 1) := by decide +kernel
theorem dX12_sheet_81 : decode cX12_sheet 81 = .ok (.istore 4, 2) := by decide +kernel
theorem dX12_sheet_83 : decode cX12_sheet 83 = .ok (.iload 4, 2) := by decide +kernel
theorem dX12_sheet_85 : decode cX12_sheet 85 = .ok (.bipush 40, 2) := by decide +kernel
theorem dX12_sheet_87 : decode cX12_sheet 87 = .ok (.if_icmp .ge 22, 3) := by decide +kernel
theorem dX12_sheet_90 : decode cX12_sheet 90 = .ok (.aload_n 0, 1) := by decide +kernel
theorem dX12_sheet_91 : decode cX12_sheet 91 = .ok (.getfield 37, 3) := by decide +kernel
theorem dX12_sheet_94 : decode cX12_sheet 94 = .ok (.bipush 40, 2) := by decide +kernel
theorem dX12_sheet_96 : decode cX12_sheet 96 = .ok (.iload_n 1, 1) := by decide +kernel
theorem dX12_sheet_97 : decode cX12_sheet 97 = .ok (.imul, 1) := by decide +kernel
theorem dX12_sheet_98 : decode cX12_sheet 98 = .ok (.iload 4, 2) := by decide +kernel
theorem dX12_sheet_100 : decode cX12_sheet 100 = .ok (.iadd, 1) := by decide +kernel
theorem dX12_sheet_101 : decode cX12_sheet 101 = .ok (.iconst 0, 1) := by decide +kernel
theorem dX12_sheet_102 : decode cX12_sheet 102 = .ok (.iastore, 1) := by decide +kernel
theorem dX12_sheet_103 : decode cX12_sheet 103 = .ok (.iinc 4 1, 3) := by decide +kernel
theorem dX12_sheet_106 : decode cX12_sheet 106 = .ok (.goto (-23), 3) := by decide +kernel
theorem dX12_sheet_109 : decode cX12_sheet 109 = .ok (.aload_n 0, 1) := by decide +kernel
theorem dX12_sheet_110 : decode cX12_sheet 110 = .ok (.getfield 34, 3) := by decide +kernel
theorem dX12_sheet_113 : decode cX12_sheet 113 = .ok (.iload_n 1, 1) := by decide +kernel
theorem dX12_sheet_114 : decode cX12_sheet 114 = .ok (.iaload, 1) := by decide +kernel
theorem dX12_sheet_115 : decode cX12_sheet 115 = .ok (.ireturn, 1) := by decide +kernel
set_option maxRecDepth 20000 in
theorem ggX12_write_X12_isSheet : GoodIn wsX12_write wsX12_isSheet := goodIn_r _ [7, 8, 9, 6, 10] (by decide +kernel) (by decide +kernel)
set_option maxRecDepth 20000 in
theorem gX12_write_X12_isSheet : GoodIn wsX12_write (va_wsS RX12 241 yX12_isSheet wsX12_isSheet) := goodIn_app (goodIn_of _ (by decide +kernel)) ggX12_write_X12_isSheet
set_option maxRecDepth 20000 in
theorem ggX12_write_X12_finding : GoodIn wsX12_write wsX12_finding := goodIn_r _ [14, 15, 16, 17, 18, 19, 20, 21, 22, 23, 24, 25, 26, 27, 28, 29, 30, 31, 32, 33, 34, 35] (by decide +kernel) (by decide +kernel)
set_option maxRecDepth 20000 in
theorem gX12_write_X12_finding : GoodIn wsX12_write (wsV RX12 52 RX12 yX12_finding wsX12_finding) := goodIn_app (goodIn_of _ (by decide +kernel)) ggX12_write_X12_finding
set_option maxRecDepth 20000 in
theorem ggX12_write_X12_in : GoodIn wsX12_write wsX12_in := goodIn_r _ [10] (by decide +kernel) (by decide +kernel)
set_option maxRecDepth 20000 in
theorem gX12_write_X12_in : GoodIn wsX12_write (va_wsS RX12 48 yX12_in wsX12_in) := goodIn_app (goodIn_of _ (by decide +kernel)) ggX12_write_X12_in
theorem dX12_write_0 : decode cX12_write 0 = .ok (.iload_n 1, 1) := by decide +kernel
theorem dX12_write_1 : decode cX12_write 1 = .ok (.invokestatic 241, 3) := by decide +kernel
theorem dX12_write_4 : decode cX12_write 4 = .ok (.ifCond .ne 9, 3) := by decide +kernel
theorem dX12_write_7 : decode cX12_write 7 = .ok (.aload_n 0, 1) := by decide +kernel
theorem dX12_write_8 : decode cX12_write 8 = .ok (.iconst 0, 1) := by decide +kernel
theorem dX12_write_9 : decode cX12_write 9 = .ok (.invokevirtual 52, 3) := by decide +kernel
theorem dX12_write_12 : decode cX12_write 12 = .ok (.ireturn, 1) := by decide +kernel
theorem dX12_write_13 : decode cX12_write 13 = .ok (.aload_n 0, 1) := by decide +kernel
theorem dX12_write_14 : decode cX12_write 14 = .ok (.getfield 31, 3) := by decide +kernel
theorem dX12_write_17 : decode cX12_write 17 = .ok (.iload_n 1, 1) := by decide +kernel
theorem dX12_write_18 : decode cX12_write 18 = .ok (.iaload, 1) := by decide +kernel
theorem dX12_write_19 : decode cX12_write 19 = .ok (.ifCond .ne 9, 3) := by decide +kernel
theorem dX12_write_22 : decode cX12_write 22 = .ok (.aload_n 0, 1) := by decide +kernel
theorem dX12_write_23 : decode cX12_write 23 = .ok (.iconst 5, 1) := by decide +kernel
theorem dX12_write_24 : decode cX12_write 24 = .ok (.invokevirtual 52, 3) := by decide +kernel
theorem dX12_write_27 : decode cX12_write 27 = .ok (.ireturn, 1) := by decide +kernel
theorem dX12_write_28 : decode cX12_write 28 = .ok (.iload_n 2, 1) := by decide +kernel
theorem dX12_write_29 : decode cX12_write 29 = .ok (.iconst 0, 1) := by decide +kernel
theorem dX12_write_30 : decode cX12_write 30 = .ok (.aload_n 0, 1) := by decide +kernel
theorem dX12_write_31 : decode cX12_write 31 = .ok (.getfield 34, 3) := by decide +kernel
theorem dX12_write_34 : decode cX12_write 34 = .ok (.iload_n 1, 1) := by decide +kernel
theorem dX12_write_35 : decode cX12_write 35 = .ok (.iaload, 1) := by decide +kernel
theorem dX12_write_36 : decode cX12_write 36 = .ok (.iconst 1, 1) := by decide +kernel
theorem dX12_write_37 : decode cX12_write 37 = .ok (.isub, 1) := by decide +kernel
theorem dX12_write_38 : decode cX12_write 38 = .ok (.invokestatic 48, 3) := by decide +kernel
theorem dX12_write_41 : decode cX12_write 41 = .ok (.ifCond .ne 9, 3) := by decide +kernel
theorem dX12_write_44 : decode cX12_write 44 = .ok (.aload_n 0, 1) := by decide +kernel
theorem dX12_write_45 : decode cX12_write 45 = .ok (.iconst 0, 1) := by decide +kernel
theorem dX12_write_46 : decode cX12_write 46 = .ok (.invokevirtual 52, 3) := by decide +kernel
theorem dX12_write_49 : decode cX12_write 49 = .ok (.ireturn, 1) := by decide +kernel
theorem dX12_write_50 : decode cX12_write 50 = .ok (.bipush 32, 2) := by decide +kernel
theorem dX12_write_52 : decode cX12_write 52 = .ok (.aload_n 0, 1) := by decide +kernel
theorem dX12_write_53 : decode cX12_write 53 = .ok (.getfield 31, 3) := by decide +kernel
theorem dX12_write_56 : decode cX12_write 56 = .ok (.iload_n 1, 1) := by decide +kernel
theorem dX12_write_57 : decode cX12_write 57 = .ok (.iaload, 1) := by decide +kernel
theorem dX12_write_58 : decode cX12_write 58 = .ok (.isub, 1) := by decide +kernel
theorem dX12_write_59 : decode cX12_write 59 = .ok (.istore 4, 2) := by decide +kernel
theorem dX12_write_61 : decode cX12_write 61 = .ok (.aload_n 0, 1) := by decide +kernel
theorem dX12_write_62 : decode cX12_write 62 = .ok (.getfield 37, 3) := by decide +kernel
theorem dX12_write_65 : decode cX12_write 65 = .ok (.bipush 40, 2) := by decide +kernel
theorem dX12_write_67 : decode cX12_write 67 = .ok (.iload_n 1, 1) := by decide +kernel
theorem dX12_write_68 : decode cX12_write 68 = .ok (.imul, 1) := by decide +kernel
theorem dX12_write_69 : decode cX12_write 69 = .ok (.iload_n 2, 1) := by decide +kernel
theorem dX12_write_70 : decode cX12_write 70 = .ok (.iadd, 1) := by decide +kernel
theorem dX12_write_71 : decode cX12_write 71 = .ok (.iload_n 3, 1) := by decide +kernel
theorem dX12_write_72 : decode cX12_write 72 = .ok (.iload 4, 2) := by decide +kernel
theorem dX12_write_74 : decode cX12_write 74 = .ok (.ishl, 1) := by decide +kernel
theorem dX12_write_75 : decode cX12_write 75 = .ok (.iload 4, 2) := by decide +kernel
theorem dX12_write_77 : decode cX12_write 77 = .ok (.ishr, 1) := by decide +kernel
theorem dX12_write_78 : decode cX12_write 78 = .ok (.iastore, 1) := by decide +kernel
theorem dX12_write_79 : decode cX12_write 79 = .ok (.iconst 1, 1) := by decide +kernel
theorem dX12_write_80 : decode cX12_write 80 = .ok (.ireturn, 1) := by decide +kernel
set_option maxRecDepth 20000 in
theorem ggX12_copy_X12_isSheet : GoodIn wsX12_copy wsX12_isSheet := goodIn_r _ [8, 9, 10, 7, 11] (by decide +kernel) (by decide +kernel)
set_option maxRecDepth 20000 in
theorem gX12_copy_X12_isSheet : GoodIn wsX12_copy (va_wsS RX12 241 yX12_isSheet wsX12_isSheet) := goodIn_app (goodIn_of _ (by decide +kernel)) ggX12_copy_X12_isSheet
set_option maxRecDepth 20000 in
theorem ggX12_copy_X12_finding : GoodIn wsX12_copy wsX12_finding := goodIn_r _ [15, 16, 17, 18, 19, 20, 21, 22, 23, 24, 25, 26, 27, 28, 29, 30, 31, 32, 33, 34, 35, 36] (by decide +kernel) (by decide +kernel)
set_option maxRecDepth 20000 in
theorem gX12_copy_X12_finding : GoodIn wsX12_copy (wsV RX12 52 RX12 yX12_finding wsX12_finding) := goodIn_app (goodIn_of _ (by decide +kernel)) ggX12_copy_X12_finding
theorem dX12_copy_0 : decode cX12_copy 0 = .ok (.iload_n 1, 1) := by decide +kernel
theorem dX12_copy_1 : decode cX12_copy 1 = .ok (.invokestatic 241, 3) := by decide +kernel
theorem dX12_copy_4 : decode cX12_copy 4 = .ok (.ifCond .eq 10, 3) := by decide +kernel
theorem dX12_copy_7 : decode cX12_copy 7 = .ok (.iload_n 3, 1) := by decide +kernel
theorem dX12_copy_8 : decode cX12_copy 8 = .ok (.invokestatic 241, 3) := by decide +kernel
theorem dX12_copy_11 : decode cX12_copy 11 = .ok (.ifCond .ne 9, 3) := by decide +kernel
theorem dX12_copy_14 : decode cX12_copy 14 = .ok (.aload_n 0, 1) := by decide +kernel
theorem dX12_copy_15 : decode cX12_copy 15 = .ok (.iconst 0, 1) := by decide +kernel
theorem dX12_copy_16 : decode cX12_copy 16 = .ok (.invokevirtual 52, 3) := by decide +kernel
theorem dX12_copy_19 : decode cX12_copy 19 = .ok (.ireturn, 1) := by decide +kernel
theorem dX12_copy_20 : decode cX12_copy 20 = .ok (.aload_n 0, 1) := by decide +kernel
theorem dX12_copy_21 : decode cX12_copy 21 = .ok (.getfield 31, 3) := by decide +kernel
theorem dX12_copy_24 : decode cX12_copy 24 = .ok (.iload_n 1, 1) := by decide +kernel
theorem dX12_copy_25 : decode cX12_copy 25 = .ok (.iaload, 1) := by decide +kernel
theorem dX12_copy_26 : decode cX12_copy 26 = .ok (.ifCond .eq 12, 3) := by decide +kernel
theorem dX12_copy_29 : decode cX12_copy 29 = .ok (.aload_n 0, 1) := by decide +kernel
theorem dX12_copy_30 : decode cX12_copy 30 = .ok (.getfield 31, 3) := by decide +kernel
theorem dX12_copy_33 : decode cX12_copy 33 = .ok (.iload_n 3, 1) := by decide +kernel
theorem dX12_copy_34 : decode cX12_copy 34 = .ok (.iaload, 1) := by decide +kernel
theorem dX12_copy_35 : decode cX12_copy 35 = .ok (.ifCond .ne 9, 3) := by decide +kernel
theorem dX12_copy_38 : decode cX12_copy 38 = .ok (.aload_n 0, 1) := by decide +kernel
theorem dX12_copy_39 : decode cX12_copy 39 = .ok (.iconst 5, 1) := by decide +kernel
theorem dX12_copy_40 : decode cX12_copy 40 = .ok (.invokevirtual 52, 3) := by decide +kernel
theorem dX12_copy_43 : decode cX12_copy 43 = .ok (.ireturn, 1) := by decide +kernel
theorem dX12_copy_44 : decode cX12_copy 44 = .ok (.aload_n 0, 1) := by decide +kernel
theorem dX12_copy_45 : decode cX12_copy 45 = .ok (.getfield 31, 3) := by decide +kernel
theorem dX12_copy_48 : decode cX12_copy 48 = .ok (.iload_n 1, 1) := by decide +kernel
theorem dX12_copy_49 : decode cX12_copy 49 = .ok (.iaload, 1) := by decide +kernel
theorem dX12_copy_50 : decode cX12_copy 50 = .ok (.aload_n 0, 1) := by decide +kernel
theorem dX12_copy_51 : decode cX12_copy 51 = .ok (.getfield 31, 3) := by decide +kernel
theorem dX12_copy_54 : decode cX12_copy 54 = .ok (.iload_n 3, 1) := by decide +kernel
theorem dX12_copy_55 : decode cX12_copy 55 = .ok (.iaload, 1) := by decide +kernel
theorem dX12_copy_56 : decode cX12_copy 56 = .ok (.if_icmp .eq 9, 3) := by decide +kernel
theorem dX12_copy_59 : decode cX12_copy 59 = .ok (.aload_n 0, 1) := by decide +kernel
theorem dX12_copy_60 : decode cX12_copy 60 = .ok (.iconst 2, 1) := by decide +kernel
theorem dX12_copy_61 : decode cX12_copy 61 = .ok (.invokevirtual 52, 3) := by decide +kernel
theorem dX12_copy_64 : decode cX12_copy 64 = .ok (.ireturn, 1) := by decide +kernel
theorem dX12_copy_65 : decode cX12_copy 65 = .ok (.iload_n 2, 1) := by decide +kernel
theorem dX12_copy_66 : decode cX12_copy 66 = .ok (.ifCond .lt 40, 3) := by decide +kernel
theorem dX12_copy_69 : decode cX12_copy 69 = .ok (.iload 4, 2) := by decide +kernel
theorem dX12_copy_71 : decode cX12_copy 71 = .ok (.ifCond .lt 35, 3) := by decide +kernel
theorem dX12_copy_74 : decode cX12_copy 74 = .ok (.iload 5, 2) := by decide +kernel
theorem dX12_copy_76 : decode cX12_copy 76 = .ok (.ifCond .lt 30, 3) := by decide +kernel
theorem dX12_copy_79 : decode cX12_copy 79 = .ok (.iload_n 2, 1) := by decide +kernel
theorem dX12_copy_80 : decode cX12_copy 80 = .ok (.aload_n 0, 1) := by decide +kernel
theorem dX12_copy_81 : decode cX12_copy 81 = .ok (.getfield 34, 3) := by decide +kernel
theorem dX12_copy_84 : decode cX12_copy 84 = .ok (.iload_n 1, 1) := by decide +kernel
theorem dX12_copy_85 : decode cX12_copy 85 = .ok (.iaload, 1) := by decide +kernel
theorem dX12_copy_86 : decode cX12_copy 86 = .ok (.iload 5, 2) := by decide +kernel
theorem dX12_copy_88 : decode cX12_copy 88 = .ok (.isub, 1) := by decide +kernel
theorem dX12_copy_89 : decode cX12_copy 89 = .ok (.if_icmp .gt 17, 3) := by decide +kernel
theorem dX12_copy_92 : decode cX12_copy 92 = .ok (.iload 4, 2) := by decide +kernel
theorem dX12_copy_94 : decode cX12_copy 94 = .ok (.aload_n 0, 1) := by decide +kernel
theorem dX12_copy_95 : decode cX12_copy 95 = .ok (.getfield 34, 3) := by decide +kernel
theorem dX12_copy_98 : decode cX12_copy 98 = .ok (.iload_n 3, 1) := by decide +kernel
theorem dX12_copy_99 : decode cX12_copy 99 = .ok (.iaload, 1) := by decide +kernel
theorem dX12_copy_100 : decode cX12_copy 100 = .ok (.iload 5, 2) := by decide +kernel
theorem dX12_copy_102 : decode cX12_copy 102 = .ok (.isub, 1) := by decide +kernel
theorem dX12_copy_103 : decode cX12_copy 103 = .ok (.if_icmp .le 9, 3) := by decide +kernel
theorem dX12_copy_106 : decode cX12_copy 106 = .ok (.aload_n 0, 1) := by decide +kernel
theorem dX12_copy_107 : decode cX12_copy 107 = .ok (.iconst 0, 1) := by decide +kernel
theorem dX12_copy_108 : decode cX12_copy 108 = .ok (.invokevirtual 52, 3) := by decide +kernel
theorem dX12_copy_111 : decode cX12_copy 111 = .ok (.ireturn, 1) := by decide +kernel
theorem dX12_copy_112 : decode cX12_copy 112 = .ok (.iconst 0, 1) := by decide +kernel
theorem dX12_copy_113 : decode cX12_copy 113 = .ok (.istore 6, 2) := by decide +kernel
theorem dX12_copy_115 : decode cX12_copy 115 = .ok (.iload 6, 2) := by decide +kernel
theorem dX12_copy_117 : decode cX12_copy 117 = .ok (.iload 5, 2) := by decide +kernel
theorem dX12_copy_119 : decode cX12_copy 119 = .ok (.if_icmp .ge 30, 3) := by decide +kernel
theorem dX12_copy_122 : decode cX12_copy 122 = .ok (.aload_n 0, 1) := by decide +kernel
theorem dX12_copy_123 : decode cX12_copy 123 = .ok (.getfield 40, 3) := by decide +kernel
theorem dX12_copy_126 : decode cX12_copy 126 = .ok (.iload 6, 2) := by decide +kernel
theorem dX12_copy_128 : decode cX12_copy 128 = .ok (.aload_n 0, 1) := by decide +kernel
theorem dX12_copy_129 : decode cX12_copy 129 = .ok (.getfield 37, 3) := by decide +kernel
theorem dX12_copy_132 : decode cX12_copy 132 = .ok (.bipush 40, 2) := by decide +kernel
theorem dX12_copy_134 : decode cX12_copy 134 = .ok (.iload_n 1, 1) := by decide +kernel
theorem dX12_copy_135 : decode cX12_copy 135 = .ok (.imul, 1) := by decide +kernel
theorem dX12_copy_136 : decode cX12_copy 136 = .ok (.iload_n 2, 1) := by decide +kernel
theorem dX12_copy_137 : decode cX12_copy 137 = .ok (.iadd, 1) := by decide +kernel
theorem dX12_copy_138 : decode cX12_copy 138 = .ok (.iload 6, 2) := by decide +kernel
theorem dX12_copy_140 : decode cX12_copy 140 = .ok (.iadd, 1) := by decide +kernel
theorem dX12_copy_141 : decode cX12_copy 141 = .ok (.iaload, 1) := by decide +kernel
theorem dX12_copy_142 : decode cX12_copy 142 = .ok (.iastore, 1) := by decide +kernel
theorem dX12_copy_143 : decode cX12_copy 143 = .ok (.iinc 6 1, 3) := by decide +kernel
theorem dX12_copy_146 : decode cX12_copy 146 = .ok (.goto (-31), 3) := by decide +kernel
theorem dX12_copy_149 : decode cX12_copy 149 = .ok (.iconst 0, 1) := by decide +kernel
theorem dX12_copy_150 : decode cX12_copy 150 = .ok (.istore 6, 2) := by decide +kernel
theorem dX12_copy_152 : decode cX12_copy 152 = .ok (.iload 6, 2) := by decide +kernel
theorem dX12_copy_154 : decode cX12_copy 154 = .ok (.iload 5, 2) := by decide +kernel
theorem dX12_copy_156 : decode cX12_copy 156 = .ok (.if_icmp .ge 31, 3) := by decide +kernel
theorem dX12_copy_159 : decode cX12_copy 159 = .ok (.aload_n 0, 1) := by decide +kernel
theorem dX12_copy_160 : decode cX12_copy 160 = .ok (.getfield 37, 3) := by decide +kernel
theorem dX12_copy_163 : decode cX12_copy 163 = .ok (.bipush 40, 2) := by decide +kernel
theorem dX12_copy_165 : decode cX12_copy 165 = .ok (.iload_n 3, 1) := by decide +kernel
theorem dX12_copy_166 : decode cX12_copy 166 = .ok (.imul, 1) := by decide +kernel
theorem dX12_copy_167 : decode cX12_copy 167 = .ok (.iload 4, 2) := by decide +kernel
theorem dX12_copy_169 : decode cX12_copy 169 = .ok (.iadd, 1) := by decide +kernel
theorem dX12_copy_170 : decode cX12_copy 170 = .ok (.iload 6, 2) := by decide +kernel
theorem dX12_copy_172 : decode cX12_copy 172 = .ok (.iadd, 1) := by decide +kernel
theorem dX12_copy_173 : decode cX12_copy 173 = .ok (.aload_n 0, 1) := by decide +kernel
theorem dX12_copy_174 : decode cX12_copy 174 = .ok (.getfield 40, 3) := by decide +kernel
theorem dX12_copy_177 : decode cX12_copy 177 = .ok (.iload 6, 2) := by decide +kernel
theorem dX12_copy_179 : decode cX12_copy 179 = .ok (.iaload, 1) := by decide +kernel
theorem dX12_copy_180 : decode cX12_copy 180 = .ok (.iastore, 1) := by decide +kernel
theorem dX12_copy_181 : decode cX12_copy 181 = .ok (.iinc 6 1, 3) := by decide +kernel
theorem dX12_copy_184 : decode cX12_copy 184 = .ok (.goto (-32), 3) := by decide +kernel
theorem dX12_copy_187 : decode cX12_copy 187 = .ok (.iload 5, 2) := by decide +kernel
theorem dX12_copy_189 : decode cX12_copy 189 = .ok (.ireturn, 1) := by decide +kernel
set_option maxRecDepth 20000 in
theorem ggX12_lacks_X12_isSheet : GoodIn wsX12_lacks wsX12_isSheet := goodIn_r _ [5, 6, 7, 4, 8] (by decide +kernel) (by decide +kernel)
set_option maxRecDepth 20000 in
theorem gX12_lacks_X12_isSheet : GoodIn wsX12_lacks (va_wsS RX12 241 yX12_isSheet wsX12_isSheet) := goodIn_app (goodIn_of _ (by decide +kernel)) ggX12_lacks_X12_isSheet
theorem dX12_lacks_0 : decode cX12_lacks 0 = .ok (.iload_n 1, 1) := by decide +kernel
theorem dX12_lacks_1 : decode cX12_lacks 1 = .ok (.invokestatic 241, 3) := by decide +kernel
theorem dX12_lacks_4 : decode cX12_lacks 4 = .ok (.ifCond .ne 7, 3) := by decide +kernel
theorem dX12_lacks_7 : decode cX12_lacks 7 = .ok (.iconst 0, 1) := by decide +kernel
theorem dX12_lacks_8 : decode cX12_lacks 8 = .ok (.goto 17, 3) := by decide +kernel
theorem dX12_lacks_11 : decode cX12_lacks 11 = .ok (.aload_n 0, 1) := by decide +kernel
theorem dX12_lacks_12 : decode cX12_lacks 12 = .ok (.getfield 31, 3) := by decide +kernel
theorem dX12_lacks_15 : decode cX12_lacks 15 = .ok (.iload_n 1, 1) := by decide +kernel
theorem dX12_lacks_16 : decode cX12_lacks 16 = .ok (.iaload, 1) := by decide +kernel
theorem dX12_lacks_17 : decode cX12_lacks 17 = .ok (.ifCond .ne 7, 3) := by decide +kernel
theorem dX12_lacks_20 : decode cX12_lacks 20 = .ok (.iconst 5, 1) := by decide +kernel
theorem dX12_lacks_21 : decode cX12_lacks 21 = .ok (.goto 4, 3) := by decide +kernel
theorem dX12_lacks_24 : decode cX12_lacks 24 = .ok (.iconst (-1), 1) := by decide +kernel
theorem dX12_lacks_25 : decode cX12_lacks 25 = .ok (.ireturn, 1) := by decide +kernel
set_option maxRecDepth 20000 in
theorem ggX12_load_X12_lacks : GoodIn wsX12_load wsX12_lacks := goodIn_r _ [8, 9, 10, 11, 7, 12, 13, 14, 15, 58, 59, 60, 61, 62, 63, 64, 65, 66, 67, 68, 69, 70, 71, 72, 73, 74, 75, 76] (by decide +kernel) (by decide +kernel)
set_option maxRecDepth 20000 in
theorem gX12_load_X12_lacks : GoodIn wsX12_load (wsV RX12 244 RX12 yX12_lacks wsX12_lacks) := goodIn_app (goodIn_of _ (by decide +kernel)) ggX12_load_X12_lacks
set_option maxRecDepth 20000 in
theorem ggX12_load_X12_finding : GoodIn wsX12_load wsX12_finding := goodIn_r _ [19, 20, 21, 58, 59, 60, 61, 62, 63, 64, 65, 66, 67, 68, 69, 70, 71, 72, 73, 74, 75, 76] (by decide +kernel) (by decide +kernel)
set_option maxRecDepth 20000 in
theorem gX12_load_X12_finding : GoodIn wsX12_load (wsV RX12 52 RX12 yX12_finding wsX12_finding) := goodIn_app (goodIn_of _ (by decide +kernel)) ggX12_load_X12_finding
set_option maxRecDepth 20000 in
theorem ggX12_load_X12_in : GoodIn wsX12_load wsX12_in := goodIn_r _ [15] (by decide +kernel) (by decide +kernel)
set_option maxRecDepth 20000 in
theorem gX12_load_X12_in : GoodIn wsX12_load (va_wsS RX12 48 yX12_in wsX12_in) := goodIn_app (goodIn_of _ (by decide +kernel)) ggX12_load_X12_in
set_option maxRecDepth 20000 in
theorem ggX12_load_X12_goes : GoodIn wsX12_load wsX12_goes := goodIn_r _ [25, 3, 26, 27, 28, 7, 29, 30, 31, 32, 33, 34, 35, 36, 37, 38, 39, 40, 41, 42, 43, 44, 45, 46, 47, 48, 49, 50, 51, 52, 53, 54, 55, 56, 57, 58, 59, 60, 61, 62, 63, 64, 65, 66, 67, 68, 69, 70, 71, 72, 73, 74, 75, 76] (by decide +kernel) (by decide +kernel)
set_option maxRecDepth 20000 in
theorem gX12_load_X12_goes : GoodIn wsX12_load (wsV RX12 92 RX12 yX12_goes wsX12_goes) := goodIn_app (goodIn_of _ (by decide +kernel)) ggX12_load_X12_goes
theorem dX12_load_0 : decode cX12_load 0 = .ok (.aload_n 0, 1) := by decide +kernel
theorem dX12_load_1 : decode cX12_load 1 = .ok (.iload_n 1, 1) := by decide +kernel
theorem dX12_load_2 : decode cX12_load 2 = .ok (.invokevirtual 244, 3) := by decide +kernel
theorem dX12_load_5 : decode cX12_load 5 = .ok (.istore_n 2, 1) := by decide +kernel
theorem dX12_load_6 : decode cX12_load 6 = .ok (.iload_n 2, 1) := by decide +kernel
theorem dX12_load_7 : decode cX12_load 7 = .ok (.ifCond .lt 9, 3) := by decide +kernel
theorem dX12_load_10 : decode cX12_load 10 = .ok (.aload_n 0, 1) := by decide +kernel
theorem dX12_load_11 : decode cX12_load 11 = .ok (.iload_n 2, 1) := by decide +kernel
theorem dX12_load_12 : decode cX12_load 12 = .ok (.invokevirtual 52, 3) := by decide +kernel
theorem dX12_load_15 : decode cX12_load 15 = .ok (.ireturn, 1) := by decide +kernel
theorem dX12_load_16 : decode cX12_load 16 = .ok (.iconst 0, 1) := by decide +kernel
theorem dX12_load_17 : decode cX12_load 17 = .ok (.istore_n 3, 1) := by decide +kernel
theorem dX12_load_18 : decode cX12_load 18 = .ok (.iload_n 3, 1) := by decide +kernel
theorem dX12_load_19 : decode cX12_load 19 = .ok (.aload_n 0, 1) := by decide +kernel
theorem dX12_load_20 : decode cX12_load 20 = .ok (.getfield 34, 3) := by decide +kernel
theorem dX12_load_23 : decode cX12_load 23 = .ok (.iload_n 1, 1) := by decide +kernel
theorem dX12_load_24 : decode cX12_load 24 = .ok (.iaload, 1) := by decide +kernel
theorem dX12_load_25 : decode cX12_load 25 = .ok (.if_icmp .ge 50, 3) := by decide +kernel
theorem dX12_load_28 : decode cX12_load 28 = .ok (.aload_n 0, 1) := by decide +kernel
theorem dX12_load_29 : decode cX12_load 29 = .ok (.getfield 37, 3) := by decide +kernel
theorem dX12_load_32 : decode cX12_load 32 = .ok (.bipush 40, 2) := by decide +kernel
theorem dX12_load_34 : decode cX12_load 34 = .ok (.iload_n 1, 1) := by decide +kernel
theorem dX12_load_35 : decode cX12_load 35 = .ok (.imul, 1) := by decide +kernel
theorem dX12_load_36 : decode cX12_load 36 = .ok (.iload_n 3, 1) := by decide +kernel
theorem dX12_load_37 : decode cX12_load 37 = .ok (.iadd, 1) := by decide +kernel
theorem dX12_load_38 : decode cX12_load 38 = .ok (.iaload, 1) := by decide +kernel
theorem dX12_load_39 : decode cX12_load 39 = .ok (.iconst 0, 1) := by decide +kernel
theorem dX12_load_40 : decode cX12_load 40 = .ok (.bipush 99, 2) := by decide +kernel
theorem dX12_load_42 : decode cX12_load 42 = .ok (.invokestatic 48, 3) := by decide +kernel
theorem dX12_load_45 : decode cX12_load 45 = .ok (.ifCond .eq 30, 3) := by decide +kernel
theorem dX12_load_48 : decode cX12_load 48 = .ok (.aload_n 0, 1) := by decide +kernel
theorem dX12_load_49 : decode cX12_load 49 = .ok (.getfield 7, 3) := by decide +kernel
theorem dX12_load_52 : decode cX12_load 52 = .ok (.iconst 0, 1) := by decide +kernel
theorem dX12_load_53 : decode cX12_load 53 = .ok (.aload_n 0, 1) := by decide +kernel
theorem dX12_load_54 : decode cX12_load 54 = .ok (.getfield 37, 3) := by decide +kernel
theorem dX12_load_57 : decode cX12_load 57 = .ok (.bipush 40, 2) := by decide +kernel
theorem dX12_load_59 : decode cX12_load 59 = .ok (.iload_n 1, 1) := by decide +kernel
theorem dX12_load_60 : decode cX12_load 60 = .ok (.imul, 1) := by decide +kernel
theorem dX12_load_61 : decode cX12_load 61 = .ok (.iload_n 3, 1) := by decide +kernel
theorem dX12_load_62 : decode cX12_load 62 = .ok (.iadd, 1) := by decide +kernel
theorem dX12_load_63 : decode cX12_load 63 = .ok (.iaload, 1) := by decide +kernel
theorem dX12_load_64 : decode cX12_load 64 = .ok (.iastore, 1) := by decide +kernel
theorem dX12_load_65 : decode cX12_load 65 = .ok (.aload_n 0, 1) := by decide +kernel
theorem dX12_load_66 : decode cX12_load 66 = .ok (.invokevirtual 92, 3) := by decide +kernel
theorem dX12_load_69 : decode cX12_load 69 = .ok (.iinc 3 1, 3) := by decide +kernel
theorem dX12_load_72 : decode cX12_load 72 = .ok (.goto (-54), 3) := by decide +kernel
theorem dX12_load_75 : decode cX12_load 75 = .ok (.iload_n 3, 1) := by decide +kernel
theorem dX12_load_76 : decode cX12_load 76 = .ok (.ireturn, 1) := by decide +kernel
set_option maxRecDepth 20000 in
theorem ggX12_judge_X12_lacks : GoodIn wsX12_judge wsX12_lacks := goodIn_r _ [8, 9, 10, 11, 7, 12, 13, 14, 15, 70, 71, 72, 73, 74, 75, 76, 77, 78, 79, 80, 81, 82, 83, 84, 85, 86, 87, 88] (by decide +kernel) (by decide +kernel)
set_option maxRecDepth 20000 in
theorem gX12_judge_X12_lacks : GoodIn wsX12_judge (wsV RX12 244 RX12 yX12_lacks wsX12_lacks) := goodIn_app (goodIn_of _ (by decide +kernel)) ggX12_judge_X12_lacks
set_option maxRecDepth 20000 in
theorem ggX12_judge_X12_finding : GoodIn wsX12_judge wsX12_finding := goodIn_r _ [19, 20, 21, 70, 71, 72, 73, 74, 75, 76, 77, 78, 79, 80, 81, 82, 83, 84, 85, 86, 87, 88] (by decide +kernel) (by decide +kernel)
set_option maxRecDepth 20000 in
theorem gX12_judge_X12_finding : GoodIn wsX12_judge (wsV RX12 52 RX12 yX12_finding wsX12_finding) := goodIn_app (goodIn_of _ (by decide +kernel)) ggX12_judge_X12_finding
set_option maxRecDepth 20000 in
theorem ggX12_judge_X12_begin : GoodIn wsX12_judge wsX12_begin := goodIn_r _ [25, 2, 26, 27, 28, 7, 29, 70, 71, 72, 73, 74, 75, 76, 77, 78, 79, 80, 81, 82, 83, 84, 85, 86, 87, 88] (by decide +kernel) (by decide +kernel)
set_option maxRecDepth 20000 in
theorem gX12_judge_X12_begin : GoodIn wsX12_judge (wsV RX12 199 RX12 yX12_begin wsX12_begin) := goodIn_app (goodIn_of _ (by decide +kernel)) ggX12_judge_X12_begin
set_option maxRecDepth 20000 in
theorem ggX12_judge_X12_goes : GoodIn wsX12_judge wsX12_goes := goodIn_r _ [33, 2, 34, 35, 36, 7, 37, 38, 39, 40, 41, 42, 43, 44, 45, 46, 47, 48, 49, 50, 51, 52, 53, 54, 55, 56, 57, 58, 59, 60, 61, 62, 63, 64, 65, 70, 71, 72, 73, 74, 75, 76, 77, 78, 79, 80, 81, 82, 83, 84, 85, 86, 87, 88] (by decide +kernel) (by decide +kernel)
set_option maxRecDepth 20000 in
theorem gX12_judge_X12_goes : GoodIn wsX12_judge (wsV RX12 92 RX12 yX12_goes wsX12_goes) := goodIn_app (goodIn_of _ (by decide +kernel)) ggX12_judge_X12_goes
set_option maxRecDepth 20000 in
theorem ggX12_judge_X12_layBack : GoodIn wsX12_judge wsX12_layBack := goodIn_r _ [69, 26, 2, 27, 28, 7, 29, 70, 71, 72, 73, 74, 75, 76, 77, 78, 79, 80, 81, 82, 83, 84, 85, 86, 87, 88] (by decide +kernel) (by decide +kernel)
set_option maxRecDepth 20000 in
theorem gX12_judge_X12_layBack : GoodIn wsX12_judge (wsV RX12 196 RX12 yX12_layBack wsX12_layBack) := goodIn_app (goodIn_of _ (by decide +kernel)) ggX12_judge_X12_layBack
theorem dX12_judge_0 : decode cX12_judge 0 = .ok (.aload_n 0, 1) := by decide +kernel
theorem dX12_judge_1 : decode cX12_judge 1 = .ok (.iload_n 1, 1) := by decide +kernel
theorem dX12_judge_2 : decode cX12_judge 2 = .ok (.invokevirtual 244, 3) := by decide +kernel
theorem dX12_judge_5 : decode cX12_judge 5 = .ok (.istore_n 2, 1) := by decide +kernel
theorem dX12_judge_6 : decode cX12_judge 6 = .ok (.iload_n 2, 1) := by decide +kernel
theorem dX12_judge_7 : decode cX12_judge 7 = .ok (.ifCond .lt 9, 3) := by decide +kernel
theorem dX12_judge_10 : decode cX12_judge 10 = .ok (.aload_n 0, 1) := by decide +kernel
theorem dX12_judge_11 : decode cX12_judge 11 = .ok (.iload_n 2, 1) := by decide +kernel
theorem dX12_judge_12 : decode cX12_judge 12 = .ok (.invokevirtual 52, 3) := by decide +kernel
theorem dX12_judge_15 : decode cX12_judge 15 = .ok (.ireturn, 1) := by decide +kernel
theorem dX12_judge_16 : decode cX12_judge 16 = .ok (.aload_n 0, 1) := by decide +kernel
theorem dX12_judge_17 : decode cX12_judge 17 = .ok (.invokevirtual 199, 3) := by decide +kernel
theorem dX12_judge_20 : decode cX12_judge 20 = .ok (.iconst 0, 1) := by decide +kernel
theorem dX12_judge_21 : decode cX12_judge 21 = .ok (.istore_n 3, 1) := by decide +kernel
theorem dX12_judge_22 : decode cX12_judge 22 = .ok (.iconst 1, 1) := by decide +kernel
theorem dX12_judge_23 : decode cX12_judge 23 = .ok (.istore 4, 2) := by decide +kernel
theorem dX12_judge_25 : decode cX12_judge 25 = .ok (.iload_n 3, 1) := by decide +kernel
theorem dX12_judge_26 : decode cX12_judge 26 = .ok (.aload_n 0, 1) := by decide +kernel
theorem dX12_judge_27 : decode cX12_judge 27 = .ok (.getfield 34, 3) := by decide +kernel
theorem dX12_judge_30 : decode cX12_judge 30 = .ok (.iload_n 1, 1) := by decide +kernel
theorem dX12_judge_31 : decode cX12_judge 31 = .ok (.iaload, 1) := by decide +kernel
theorem dX12_judge_32 : decode cX12_judge 32 = .ok (.if_icmp .ge 55, 3) := by decide +kernel
theorem dX12_judge_35 : decode cX12_judge 35 = .ok (.iload 4, 2) := by decide +kernel
theorem dX12_judge_37 : decode cX12_judge 37 = .ok (.ifCond .eq 50, 3) := by decide +kernel
theorem dX12_judge_40 : decode cX12_judge 40 = .ok (.aload_n 0, 1) := by decide +kernel
theorem dX12_judge_41 : decode cX12_judge 41 = .ok (.invokevirtual 92, 3) := by decide +kernel
theorem dX12_judge_44 : decode cX12_judge 44 = .ok (.aload_n 0, 1) := by decide +kernel
theorem dX12_judge_45 : decode cX12_judge 45 = .ok (.getfield 7, 3) := by decide +kernel
theorem dX12_judge_48 : decode cX12_judge 48 = .ok (.iconst 2, 1) := by decide +kernel
theorem dX12_judge_49 : decode cX12_judge 49 = .ok (.iaload, 1) := by decide +kernel
theorem dX12_judge_50 : decode cX12_judge 50 = .ok (.aload_n 0, 1) := by decide +kernel
theorem dX12_judge_51 : decode cX12_judge 51 = .ok (.getfield 37, 3) := by decide +kernel
theorem dX12_judge_54 : decode cX12_judge 54 = .ok (.bipush 40, 2) := by decide +kernel
theorem dX12_judge_56 : decode cX12_judge 56 = .ok (.iload_n 1, 1) := by decide +kernel
theorem dX12_judge_57 : decode cX12_judge 57 = .ok (.imul, 1) := by decide +kernel
theorem dX12_judge_58 : decode cX12_judge 58 = .ok (.iload_n 3, 1) := by decide +kernel
theorem dX12_judge_59 : decode cX12_judge 59 = .ok (.iadd, 1) := by decide +kernel
theorem dX12_judge_60 : decode cX12_judge 60 = .ok (.iaload, 1) := by decide +kernel
theorem dX12_judge_61 : decode cX12_judge 61 = .ok (.if_icmp .ne 7, 3) := by decide +kernel
theorem dX12_judge_64 : decode cX12_judge 64 = .ok (.iconst 1, 1) := by decide +kernel
theorem dX12_judge_65 : decode cX12_judge 65 = .ok (.goto 4, 3) := by decide +kernel
theorem dX12_judge_68 : decode cX12_judge 68 = .ok (.iconst 0, 1) := by decide +kernel
theorem dX12_judge_69 : decode cX12_judge 69 = .ok (.istore 4, 2) := by decide +kernel
theorem dX12_judge_71 : decode cX12_judge 71 = .ok (.iload_n 3, 1) := by decide +kernel
theorem dX12_judge_72 : decode cX12_judge 72 = .ok (.iload 4, 2) := by decide +kernel
theorem dX12_judge_74 : decode cX12_judge 74 = .ok (.ifCond .eq 7, 3) := by decide +kernel
theorem dX12_judge_77 : decode cX12_judge 77 = .ok (.iconst 1, 1) := by decide +kernel
theorem dX12_judge_78 : decode cX12_judge 78 = .ok (.goto 4, 3) := by decide +kernel
theorem dX12_judge_81 : decode cX12_judge 81 = .ok (.iconst 0, 1) := by decide +kernel
theorem dX12_judge_82 : decode cX12_judge 82 = .ok (.iadd, 1) := by decide +kernel
theorem dX12_judge_83 : decode cX12_judge 83 = .ok (.istore_n 3, 1) := by decide +kernel
theorem dX12_judge_84 : decode cX12_judge 84 = .ok (.goto (-59), 3) := by decide +kernel
theorem dX12_judge_87 : decode cX12_judge 87 = .ok (.aload_n 0, 1) := by decide +kernel
theorem dX12_judge_88 : decode cX12_judge 88 = .ok (.invokevirtual 196, 3) := by decide +kernel
theorem dX12_judge_91 : decode cX12_judge 91 = .ok (.iload 4, 2) := by decide +kernel
theorem dX12_judge_93 : decode cX12_judge 93 = .ok (.ifCond .eq 7, 3) := by decide +kernel
theorem dX12_judge_96 : decode cX12_judge 96 = .ok (.iconst 0, 1) := by decide +kernel
theorem dX12_judge_97 : decode cX12_judge 97 = .ok (.goto 6, 3) := by decide +kernel
theorem dX12_judge_100 : decode cX12_judge 100 = .ok (.iconst 1, 1) := by decide +kernel
theorem dX12_judge_101 : decode cX12_judge 101 = .ok (.iload_n 3, 1) := by decide +kernel
theorem dX12_judge_102 : decode cX12_judge 102 = .ok (.iadd, 1) := by decide +kernel
theorem dX12_judge_103 : decode cX12_judge 103 = .ok (.ireturn, 1) := by decide +kernel
set_option maxRecDepth 20000 in
theorem ggX12_image_X12_lay : GoodIn wsX12_image wsX12_lay := goodIn_r _ [7] (by decide +kernel) (by decide +kernel)
set_option maxRecDepth 20000 in
theorem gX12_image_X12_lay : GoodIn wsX12_image (va_wsS RX12 44 yX12_lay wsX12_lay) := goodIn_app (goodIn_of _ (by decide +kernel)) ggX12_image_X12_lay
theorem dX12_image_0 : decode cX12_image 0 = .ok (.aload_n 0, 1) := by decide +kernel
theorem dX12_image_1 : decode cX12_image 1 = .ok (.getfield 7, 3) := by decide +kernel
theorem dX12_image_4 : decode cX12_image 4 = .ok (.aload_n 0, 1) := by decide +kernel
theorem dX12_image_5 : decode cX12_image 5 = .ok (.getfield 13, 3) := by decide +kernel
theorem dX12_image_8 : decode cX12_image 8 = .ok (.invokestatic 44, 3) := by decide +kernel
theorem dX12_image_11 : decode cX12_image 11 = .ok (.aload_n 0, 1) := by decide +kernel
theorem dX12_image_12 : decode cX12_image 12 = .ok (.iconst 1, 1) := by decide +kernel
theorem dX12_image_13 : decode cX12_image 13 = .ok (.putfield 247, 3) := by decide +kernel
theorem dX12_image_16 : decode cX12_image 16 = .ok (.iconst 1, 1) := by decide +kernel
theorem dX12_image_17 : decode cX12_image 17 = .ok (.ireturn, 1) := by decide +kernel
set_option maxRecDepth 20000 in
theorem ggX12_undo_X12_finding : GoodIn wsX12_undo wsX12_finding := goodIn_r _ [8, 9, 10, 14, 15, 16, 17, 18, 19, 20, 21, 22, 23, 24, 25, 26, 27, 28, 29, 30, 31, 32] (by decide +kernel) (by decide +kernel)
set_option maxRecDepth 20000 in
theorem gX12_undo_X12_finding : GoodIn wsX12_undo (wsV RX12 52 RX12 yX12_finding wsX12_finding) := goodIn_app (goodIn_of _ (by decide +kernel)) ggX12_undo_X12_finding
set_option maxRecDepth 20000 in
theorem ggX12_undo_X12_lay : GoodIn wsX12_undo wsX12_lay := goodIn_r _ [13] (by decide +kernel) (by decide +kernel)
set_option maxRecDepth 20000 in
theorem gX12_undo_X12_lay : GoodIn wsX12_undo (va_wsS RX12 44 yX12_lay wsX12_lay) := goodIn_app (goodIn_of _ (by decide +kernel)) ggX12_undo_X12_lay
theorem dX12_undo_0 : decode cX12_undo 0 = .ok (.aload_n 0, 1) := by decide +kernel
theorem dX12_undo_1 : decode cX12_undo 1 = .ok (.getfield 247, 3) := by decide +kernel
theorem dX12_undo_4 : decode cX12_undo 4 = .ok (.ifCond .ne 9, 3) := by decide +kernel
theorem dX12_undo_7 : decode cX12_undo 7 = .ok (.aload_n 0, 1) := by decide +kernel
theorem dX12_undo_8 : decode cX12_undo 8 = .ok (.iconst 3, 1) := by decide +kernel
theorem dX12_undo_9 : decode cX12_undo 9 = .ok (.invokevirtual 52, 3) := by decide +kernel
theorem dX12_undo_12 : decode cX12_undo 12 = .ok (.ireturn, 1) := by decide +kernel
theorem dX12_undo_13 : decode cX12_undo 13 = .ok (.aload_n 0, 1) := by decide +kernel
theorem dX12_undo_14 : decode cX12_undo 14 = .ok (.getfield 13, 3) := by decide +kernel
theorem dX12_undo_17 : decode cX12_undo 17 = .ok (.aload_n 0, 1) := by decide +kernel
theorem dX12_undo_18 : decode cX12_undo 18 = .ok (.getfield 7, 3) := by decide +kernel
theorem dX12_undo_21 : decode cX12_undo 21 = .ok (.invokestatic 44, 3) := by decide +kernel
theorem dX12_undo_24 : decode cX12_undo 24 = .ok (.aload_n 0, 1) := by decide +kernel
theorem dX12_undo_25 : decode cX12_undo 25 = .ok (.getfield 7, 3) := by decide +kernel
theorem dX12_undo_28 : decode cX12_undo 28 = .ok (.bipush 8, 2) := by decide +kernel
theorem dX12_undo_30 : decode cX12_undo 30 = .ok (.iaload, 1) := by decide +kernel
theorem dX12_undo_31 : decode cX12_undo 31 = .ok (.ireturn, 1) := by decide +kernel
theorem dX12_tear_0 : decode cX12_tear 0 = .ok (.aload_n 0, 1) := by decide +kernel
theorem dX12_tear_1 : decode cX12_tear 1 = .ok (.getfield 247, 3) := by decide +kernel
theorem dX12_tear_4 : decode cX12_tear 4 = .ok (.ifCond .eq 7, 3) := by decide +kernel
theorem dX12_tear_7 : decode cX12_tear 7 = .ok (.iconst 1, 1) := by decide +kernel
theorem dX12_tear_8 : decode cX12_tear 8 = .ok (.goto 4, 3) := by decide +kernel
theorem dX12_tear_11 : decode cX12_tear 11 = .ok (.iconst 0, 1) := by decide +kernel
theorem dX12_tear_12 : decode cX12_tear 12 = .ok (.istore_n 1, 1) := by decide +kernel
theorem dX12_tear_13 : decode cX12_tear 13 = .ok (.aload_n 0, 1) := by decide +kernel
theorem dX12_tear_14 : decode cX12_tear 14 = .ok (.iconst 0, 1) := by decide +kernel
theorem dX12_tear_15 : decode cX12_tear 15 = .ok (.putfield 247, 3) := by decide +kernel
theorem dX12_tear_18 : decode cX12_tear 18 = .ok (.iload_n 1, 1) := by decide +kernel
theorem dX12_tear_19 : decode cX12_tear 19 = .ok (.ireturn, 1) := by decide +kernel
set_option maxRecDepth 20000 in
theorem ggX12_count_X12_logged : GoodIn wsX12_count wsX12_logged := goodIn_r _ [7, 1, 18, 19, 20, 21, 22, 23, 24, 25, 26, 27, 28, 29, 30, 31, 32, 33, 34, 35, 36] (by decide +kernel) (by decide +kernel)
set_option maxRecDepth 20000 in
theorem gX12_count_X12_logged : GoodIn wsX12_count (wsV RX12 103 RX12 yX12_logged wsX12_logged) := goodIn_app (goodIn_of _ (by decide +kernel)) ggX12_count_X12_logged
set_option maxRecDepth 20000 in
theorem ggX12_count_X12_thingIts : GoodIn wsX12_count wsX12_thingIts := goodIn_r _ [11, 1, 18, 19, 20, 21, 22, 23, 24, 25, 26, 27, 28, 29, 30, 31, 32, 33, 34, 35, 36] (by decide +kernel) (by decide +kernel)
set_option maxRecDepth 20000 in
theorem gX12_count_X12_thingIts : GoodIn wsX12_count (wsV RX12 89 RX12 yX12_thingIts wsX12_thingIts) := goodIn_app (goodIn_of _ (by decide +kernel)) ggX12_count_X12_thingIts
set_option maxRecDepth 20000 in
theorem ggX12_count_X12_finding : GoodIn wsX12_count wsX12_finding := goodIn_r _ [15, 16, 17, 18, 19, 20, 21, 22, 23, 24, 25, 26, 27, 28, 29, 30, 31, 32, 33, 34, 35, 36] (by decide +kernel) (by decide +kernel)
set_option maxRecDepth 20000 in
theorem gX12_count_X12_finding : GoodIn wsX12_count (wsV RX12 52 RX12 yX12_finding wsX12_finding) := goodIn_app (goodIn_of _ (by decide +kernel)) ggX12_count_X12_finding
theorem dX12_count_0 : decode cX12_count 0 = .ok (.iload_n 1, 1) := by decide +kernel
theorem dX12_count_1 : decode cX12_count 1 = .ok (.tableswitch 129 0 7 #[47, 55, 63, 71, 76, 84, 89, 97], 47) := by decide +kernel
theorem dX12_count_48 : decode cX12_count 48 = .ok (.aload_n 0, 1) := by decide +kernel
theorem dX12_count_49 : decode cX12_count 49 = .ok (.getfield 7, 3) := by decide +kernel
theorem dX12_count_52 : decode cX12_count 52 = .ok (.bipush 16, 2) := by decide +kernel
theorem dX12_count_54 : decode cX12_count 54 = .ok (.iaload, 1) := by decide +kernel
theorem dX12_count_55 : decode cX12_count 55 = .ok (.ireturn, 1) := by decide +kernel
theorem dX12_count_56 : decode cX12_count 56 = .ok (.aload_n 0, 1) := by decide +kernel
theorem dX12_count_57 : decode cX12_count 57 = .ok (.getfield 7, 3) := by decide +kernel
theorem dX12_count_60 : decode cX12_count 60 = .ok (.bipush 17, 2) := by decide +kernel
theorem dX12_count_62 : decode cX12_count 62 = .ok (.iaload, 1) := by decide +kernel
theorem dX12_count_63 : decode cX12_count 63 = .ok (.ireturn, 1) := by decide +kernel
theorem dX12_count_64 : decode cX12_count 64 = .ok (.aload_n 0, 1) := by decide +kernel
theorem dX12_count_65 : decode cX12_count 65 = .ok (.getfield 7, 3) := by decide +kernel
theorem dX12_count_68 : decode cX12_count 68 = .ok (.bipush 18, 2) := by decide +kernel
theorem dX12_count_70 : decode cX12_count 70 = .ok (.iaload, 1) := by decide +kernel
theorem dX12_count_71 : decode cX12_count 71 = .ok (.ireturn, 1) := by decide +kernel
theorem dX12_count_72 : decode cX12_count 72 = .ok (.aload_n 0, 1) := by decide +kernel
theorem dX12_count_73 : decode cX12_count 73 = .ok (.invokevirtual 103, 3) := by decide +kernel
theorem dX12_count_76 : decode cX12_count 76 = .ok (.ireturn, 1) := by decide +kernel
theorem dX12_count_77 : decode cX12_count 77 = .ok (.aload_n 0, 1) := by decide +kernel
theorem dX12_count_78 : decode cX12_count 78 = .ok (.getfield 7, 3) := by decide +kernel
theorem dX12_count_81 : decode cX12_count 81 = .ok (.bipush 19, 2) := by decide +kernel
theorem dX12_count_83 : decode cX12_count 83 = .ok (.iaload, 1) := by decide +kernel
theorem dX12_count_84 : decode cX12_count 84 = .ok (.ireturn, 1) := by decide +kernel
theorem dX12_count_85 : decode cX12_count 85 = .ok (.aload_n 0, 1) := by decide +kernel
theorem dX12_count_86 : decode cX12_count 86 = .ok (.getfield 110, 3) := by decide +kernel
theorem dX12_count_89 : decode cX12_count 89 = .ok (.ireturn, 1) := by decide +kernel
theorem dX12_count_90 : decode cX12_count 90 = .ok (.aload_n 0, 1) := by decide +kernel
theorem dX12_count_91 : decode cX12_count 91 = .ok (.getfield 7, 3) := by decide +kernel
theorem dX12_count_94 : decode cX12_count 94 = .ok (.bipush 20, 2) := by decide +kernel
theorem dX12_count_96 : decode cX12_count 96 = .ok (.iaload, 1) := by decide +kernel
theorem dX12_count_97 : decode cX12_count 97 = .ok (.ireturn, 1) := by decide +kernel
theorem dX12_count_98 : decode cX12_count 98 = .ok (.iconst 0, 1) := by decide +kernel
theorem dX12_count_99 : decode cX12_count 99 = .ok (.istore_n 2, 1) := by decide +kernel
theorem dX12_count_100 : decode cX12_count 100 = .ok (.iconst 0, 1) := by decide +kernel
theorem dX12_count_101 : decode cX12_count 101 = .ok (.istore_n 3, 1) := by decide +kernel
theorem dX12_count_102 : decode cX12_count 102 = .ok (.iload_n 3, 1) := by decide +kernel
theorem dX12_count_103 : decode cX12_count 103 = .ok (.aload_n 0, 1) := by decide +kernel
theorem dX12_count_104 : decode cX12_count 104 = .ok (.getfield 7, 3) := by decide +kernel
theorem dX12_count_107 : decode cX12_count 107 = .ok (.bipush 17, 2) := by decide +kernel
theorem dX12_count_109 : decode cX12_count 109 = .ok (.iaload, 1) := by decide +kernel
theorem dX12_count_110 : decode cX12_count 110 = .ok (.if_icmp .ge 18, 3) := by decide +kernel
theorem dX12_count_113 : decode cX12_count 113 = .ok (.iload_n 2, 1) := by decide +kernel
theorem dX12_count_114 : decode cX12_count 114 = .ok (.aload_n 0, 1) := by decide +kernel
theorem dX12_count_115 : decode cX12_count 115 = .ok (.iload_n 3, 1) := by decide +kernel
theorem dX12_count_116 : decode cX12_count 116 = .ok (.iconst 3, 1) := by decide +kernel
theorem dX12_count_117 : decode cX12_count 117 = .ok (.invokevirtual 89, 3) := by decide +kernel
theorem dX12_count_120 : decode cX12_count 120 = .ok (.iadd, 1) := by decide +kernel
theorem dX12_count_121 : decode cX12_count 121 = .ok (.istore_n 2, 1) := by decide +kernel
theorem dX12_count_122 : decode cX12_count 122 = .ok (.iinc 3 1, 3) := by decide +kernel
theorem dX12_count_125 : decode cX12_count 125 = .ok (.goto (-23), 3) := by decide +kernel
theorem dX12_count_128 : decode cX12_count 128 = .ok (.iload_n 2, 1) := by decide +kernel
theorem dX12_count_129 : decode cX12_count 129 = .ok (.ireturn, 1) := by decide +kernel
theorem dX12_count_130 : decode cX12_count 130 = .ok (.aload_n 0, 1) := by decide +kernel
theorem dX12_count_131 : decode cX12_count 131 = .ok (.iconst 0, 1) := by decide +kernel
theorem dX12_count_132 : decode cX12_count 132 = .ok (.invokevirtual 52, 3) := by decide +kernel
theorem dX12_count_135 : decode cX12_count 135 = .ok (.ireturn, 1) := by decide +kernel
set_option maxRecDepth 20000 in
theorem ggX12_status_X12_in : GoodIn wsX12_status wsX12_in := goodIn_r _ [5] (by decide +kernel) (by decide +kernel)
set_option maxRecDepth 20000 in
theorem gX12_status_X12_in : GoodIn wsX12_status (va_wsS RX12 48 yX12_in wsX12_in) := goodIn_app (goodIn_of _ (by decide +kernel)) ggX12_status_X12_in
set_option maxRecDepth 20000 in
theorem ggX12_status_X12_finding : GoodIn wsX12_status wsX12_finding := goodIn_r _ [9, 1, 10, 11, 12, 13, 14, 15, 16, 17, 18, 19, 20, 21, 22, 23, 24, 25, 26, 27, 28, 29] (by decide +kernel) (by decide +kernel)
set_option maxRecDepth 20000 in
theorem gX12_status_X12_finding : GoodIn wsX12_status (wsV RX12 52 RX12 yX12_finding wsX12_finding) := goodIn_app (goodIn_of _ (by decide +kernel)) ggX12_status_X12_finding
theorem dX12_status_0 : decode cX12_status 0 = .ok (.iload_n 1, 1) := by decide +kernel
theorem dX12_status_1 : decode cX12_status 1 = .ok (.iconst (-1), 1) := by decide +kernel
theorem dX12_status_2 : decode cX12_status 2 = .ok (.bipush 6, 2) := by decide +kernel
theorem dX12_status_4 : decode cX12_status 4 = .ok (.invokestatic 48, 3) := by decide +kernel
theorem dX12_status_7 : decode cX12_status 7 = .ok (.ifCond .ne 9, 3) := by decide +kernel
theorem dX12_status_10 : decode cX12_status 10 = .ok (.aload_n 0, 1) := by decide +kernel
theorem dX12_status_11 : decode cX12_status 11 = .ok (.iconst 0, 1) := by decide +kernel
theorem dX12_status_12 : decode cX12_status 12 = .ok (.invokevirtual 52, 3) := by decide +kernel
theorem dX12_status_15 : decode cX12_status 15 = .ok (.ireturn, 1) := by decide +kernel
theorem dX12_status_16 : decode cX12_status 16 = .ok (.iconst 0, 1) := by decide +kernel
theorem dX12_status_17 : decode cX12_status 17 = .ok (.istore_n 2, 1) := by decide +kernel
theorem dX12_status_18 : decode cX12_status 18 = .ok (.iconst 0, 1) := by decide +kernel
theorem dX12_status_19 : decode cX12_status 19 = .ok (.istore_n 3, 1) := by decide +kernel
theorem dX12_status_20 : decode cX12_status 20 = .ok (.iload_n 3, 1) := by decide +kernel
theorem dX12_status_21 : decode cX12_status 21 = .ok (.bipush 7, 2) := by decide +kernel
theorem dX12_status_23 : decode cX12_status 23 = .ok (.if_icmp .ge 32, 3) := by decide +kernel
theorem dX12_status_26 : decode cX12_status 26 = .ok (.iload_n 2, 1) := by decide +kernel
theorem dX12_status_27 : decode cX12_status 27 = .ok (.iload_n 1, 1) := by decide +kernel
theorem dX12_status_28 : decode cX12_status 28 = .ok (.iconst (-1), 1) := by decide +kernel
theorem dX12_status_29 : decode cX12_status 29 = .ok (.if_icmp .eq 8, 3) := by decide +kernel
theorem dX12_status_32 : decode cX12_status 32 = .ok (.iload_n 1, 1) := by decide +kernel
theorem dX12_status_33 : decode cX12_status 33 = .ok (.iload_n 3, 1) := by decide +kernel
theorem dX12_status_34 : decode cX12_status 34 = .ok (.if_icmp .ne 12, 3) := by decide +kernel
theorem dX12_status_37 : decode cX12_status 37 = .ok (.aload_n 0, 1) := by decide +kernel
theorem dX12_status_38 : decode cX12_status 38 = .ok (.getfield 19, 3) := by decide +kernel
theorem dX12_status_41 : decode cX12_status 41 = .ok (.iload_n 3, 1) := by decide +kernel
theorem dX12_status_42 : decode cX12_status 42 = .ok (.iaload, 1) := by decide +kernel
theorem dX12_status_43 : decode cX12_status 43 = .ok (.goto 4, 3) := by decide +kernel
theorem dX12_status_46 : decode cX12_status 46 = .ok (.iconst 0, 1) := by decide +kernel
theorem dX12_status_47 : decode cX12_status 47 = .ok (.iadd, 1) := by decide +kernel
theorem dX12_status_48 : decode cX12_status 48 = .ok (.istore_n 2, 1) := by decide +kernel
theorem dX12_status_49 : decode cX12_status 49 = .ok (.iinc 3 1, 3) := by decide +kernel
theorem dX12_status_52 : decode cX12_status 52 = .ok (.goto (-32), 3) := by decide +kernel
theorem dX12_status_55 : decode cX12_status 55 = .ok (.iload_n 2, 1) := by decide +kernel
theorem dX12_status_56 : decode cX12_status 56 = .ok (.ireturn, 1) := by decide +kernel
theorem dJ6_bitCount_0f7a4_0 : decode cJ6_bitCount_0f7a4 0 = .ok (.iload_n 0, 1) := by decide +kernel
theorem dJ6_bitCount_0f7a4_1 : decode cJ6_bitCount_0f7a4 1 = .ok (.iload_n 0, 1) := by decide +kernel
theorem dJ6_bitCount_0f7a4_2 : decode cJ6_bitCount_0f7a4 2 = .ok (.iconst 1, 1) := by decide +kernel
theorem dJ6_bitCount_0f7a4_3 : decode cJ6_bitCount_0f7a4 3 = .ok (.iushr, 1) := by decide +kernel
theorem dJ6_bitCount_0f7a4_4 : decode cJ6_bitCount_0f7a4 4 = .ok (.ldc_w 265, 3) := by decide +kernel
theorem dJ6_bitCount_0f7a4_7 : decode cJ6_bitCount_0f7a4 7 = .ok (.iand, 1) := by decide +kernel
theorem dJ6_bitCount_0f7a4_8 : decode cJ6_bitCount_0f7a4 8 = .ok (.isub, 1) := by decide +kernel
theorem dJ6_bitCount_0f7a4_9 : decode cJ6_bitCount_0f7a4 9 = .ok (.istore_n 0, 1) := by decide +kernel
theorem dJ6_bitCount_0f7a4_10 : decode cJ6_bitCount_0f7a4 10 = .ok (.iload_n 0, 1) := by decide +kernel
theorem dJ6_bitCount_0f7a4_11 : decode cJ6_bitCount_0f7a4 11 = .ok (.ldc_w 266, 3) := by decide +kernel
theorem dJ6_bitCount_0f7a4_14 : decode cJ6_bitCount_0f7a4 14 = .ok (.iand, 1) := by decide +kernel
theorem dJ6_bitCount_0f7a4_15 : decode cJ6_bitCount_0f7a4 15 = .ok (.iload_n 0, 1) := by decide +kernel
theorem dJ6_bitCount_0f7a4_16 : decode cJ6_bitCount_0f7a4 16 = .ok (.iconst 2, 1) := by decide +kernel
theorem dJ6_bitCount_0f7a4_17 : decode cJ6_bitCount_0f7a4 17 = .ok (.iushr, 1) := by decide +kernel
theorem dJ6_bitCount_0f7a4_18 : decode cJ6_bitCount_0f7a4 18 = .ok (.ldc_w 266, 3) := by decide +kernel
theorem dJ6_bitCount_0f7a4_21 : decode cJ6_bitCount_0f7a4 21 = .ok (.iand, 1) := by decide +kernel
theorem dJ6_bitCount_0f7a4_22 : decode cJ6_bitCount_0f7a4 22 = .ok (.iadd, 1) := by decide +kernel
theorem dJ6_bitCount_0f7a4_23 : decode cJ6_bitCount_0f7a4 23 = .ok (.istore_n 0, 1) := by decide +kernel
theorem dJ6_bitCount_0f7a4_24 : decode cJ6_bitCount_0f7a4 24 = .ok (.iload_n 0, 1) := by decide +kernel
theorem dJ6_bitCount_0f7a4_25 : decode cJ6_bitCount_0f7a4 25 = .ok (.iload_n 0, 1) := by decide +kernel
theorem dJ6_bitCount_0f7a4_26 : decode cJ6_bitCount_0f7a4 26 = .ok (.iconst 4, 1) := by decide +kernel
theorem dJ6_bitCount_0f7a4_27 : decode cJ6_bitCount_0f7a4 27 = .ok (.iushr, 1) := by decide +kernel
theorem dJ6_bitCount_0f7a4_28 : decode cJ6_bitCount_0f7a4 28 = .ok (.iadd, 1) := by decide +kernel
theorem dJ6_bitCount_0f7a4_29 : decode cJ6_bitCount_0f7a4 29 = .ok (.ldc_w 267, 3) := by decide +kernel
theorem dJ6_bitCount_0f7a4_32 : decode cJ6_bitCount_0f7a4 32 = .ok (.iand, 1) := by decide +kernel
theorem dJ6_bitCount_0f7a4_33 : decode cJ6_bitCount_0f7a4 33 = .ok (.istore_n 0, 1) := by decide +kernel
theorem dJ6_bitCount_0f7a4_34 : decode cJ6_bitCount_0f7a4 34 = .ok (.iload_n 0, 1) := by decide +kernel
theorem dJ6_bitCount_0f7a4_35 : decode cJ6_bitCount_0f7a4 35 = .ok (.iload_n 0, 1) := by decide +kernel
theorem dJ6_bitCount_0f7a4_36 : decode cJ6_bitCount_0f7a4 36 = .ok (.bipush 8, 2) := by decide +kernel
theorem dJ6_bitCount_0f7a4_38 : decode cJ6_bitCount_0f7a4 38 = .ok (.iushr, 1) := by decide +kernel
theorem dJ6_bitCount_0f7a4_39 : decode cJ6_bitCount_0f7a4 39 = .ok (.iadd, 1) := by decide +kernel
theorem dJ6_bitCount_0f7a4_40 : decode cJ6_bitCount_0f7a4 40 = .ok (.istore_n 0, 1) := by decide +kernel
theorem dJ6_bitCount_0f7a4_41 : decode cJ6_bitCount_0f7a4 41 = .ok (.iload_n 0, 1) := by decide +kernel
theorem dJ6_bitCount_0f7a4_42 : decode cJ6_bitCount_0f7a4 42 = .ok (.iload_n 0, 1) := by decide +kernel
theorem dJ6_bitCount_0f7a4_43 : decode cJ6_bitCount_0f7a4 43 = .ok (.bipush 16, 2) := by decide +kernel
theorem dJ6_bitCount_0f7a4_45 : decode cJ6_bitCount_0f7a4 45 = .ok (.iushr, 1) := by decide +kernel
theorem dJ6_bitCount_0f7a4_46 : decode cJ6_bitCount_0f7a4 46 = .ok (.iadd, 1) := by decide +kernel
theorem dJ6_bitCount_0f7a4_47 : decode cJ6_bitCount_0f7a4 47 = .ok (.istore_n 0, 1) := by decide +kernel
theorem dJ6_bitCount_0f7a4_48 : decode cJ6_bitCount_0f7a4 48 = .ok (.iload_n 0, 1) := by decide +kernel
theorem dJ6_bitCount_0f7a4_49 : decode cJ6_bitCount_0f7a4 49 = .ok (.bipush 63, 2) := by decide +kernel
theorem dJ6_bitCount_0f7a4_51 : decode cJ6_bitCount_0f7a4 51 = .ok (.iand, 1) := by decide +kernel
theorem dJ6_bitCount_0f7a4_52 : decode cJ6_bitCount_0f7a4 52 = .ok (.ireturn, 1) := by decide +kernel
theorem dJ9_max_7cf53_0 : decode cJ9_max_7cf53 0 = .ok (.iload_n 0, 1) := by decide +kernel
theorem dJ9_max_7cf53_1 : decode cJ9_max_7cf53 1 = .ok (.iload_n 1, 1) := by decide +kernel
theorem dJ9_max_7cf53_2 : decode cJ9_max_7cf53 2 = .ok (.if_icmp .lt 7, 3) := by decide +kernel
theorem dJ9_max_7cf53_5 : decode cJ9_max_7cf53 5 = .ok (.iload_n 0, 1) := by decide +kernel
theorem dJ9_max_7cf53_6 : decode cJ9_max_7cf53 6 = .ok (.goto 4, 3) := by decide +kernel
theorem dJ9_max_7cf53_9 : decode cJ9_max_7cf53 9 = .ok (.iload_n 1, 1) := by decide +kernel
theorem dJ9_max_7cf53_10 : decode cJ9_max_7cf53 10 = .ok (.ireturn, 1) := by decide +kernel
theorem dJ9_min_7cf53_0 : decode cJ9_min_7cf53 0 = .ok (.iload_n 0, 1) := by decide +kernel
theorem dJ9_min_7cf53_1 : decode cJ9_min_7cf53 1 = .ok (.iload_n 1, 1) := by decide +kernel
theorem dJ9_min_7cf53_2 : decode cJ9_min_7cf53 2 = .ok (.if_icmp .gt 7, 3) := by decide +kernel
theorem dJ9_min_7cf53_5 : decode cJ9_min_7cf53 5 = .ok (.iload_n 0, 1) := by decide +kernel
theorem dJ9_min_7cf53_6 : decode cJ9_min_7cf53 6 = .ok (.goto 4, 3) := by decide +kernel
theorem dJ9_min_7cf53_9 : decode cJ9_min_7cf53 9 = .ok (.iload_n 1, 1) := by decide +kernel
theorem dJ9_min_7cf53_10 : decode cJ9_min_7cf53 10 = .ok (.ireturn, 1) := by decide +kernel
set_option maxRecDepth 20000 in
theorem ggJ0_length_8abf5_J0_coder_7d493 : GoodIn wsJ0_length_8abf5 wsJ0_coder_7d493 := goodIn_r _ [6, 7, 8] (by decide +kernel) (by decide +kernel)
set_option maxRecDepth 20000 in
theorem gJ0_length_8abf5_J0_coder_7d493 : GoodIn wsJ0_length_8abf5 (wsV RJ0 335 RJ0 yJ0_coder_7d493 wsJ0_coder_7d493) := goodIn_app (goodIn_of _ (by decide +kernel)) ggJ0_length_8abf5_J0_coder_7d493
theorem dJ0_length_8abf5_0 : decode cJ0_length_8abf5 0 = .ok (.aload_n 0, 1) := by decide +kernel
theorem dJ0_length_8abf5_1 : decode cJ0_length_8abf5 1 = .ok (.getfield 9, 3) := by decide +kernel
theorem dJ0_length_8abf5_4 : decode cJ0_length_8abf5 4 = .ok (.arraylength, 1) := by decide +kernel
theorem dJ0_length_8abf5_5 : decode cJ0_length_8abf5 5 = .ok (.aload_n 0, 1) := by decide +kernel
theorem dJ0_length_8abf5_6 : decode cJ0_length_8abf5 6 = .ok (.invokevirtual 335, 3) := by decide +kernel
theorem dJ0_length_8abf5_9 : decode cJ0_length_8abf5 9 = .ok (.ishr, 1) := by decide +kernel
theorem dJ0_length_8abf5_10 : decode cJ0_length_8abf5 10 = .ok (.ireturn, 1) := by decide +kernel
set_option maxRecDepth 20000 in
theorem ggJ0_charAt_5068e_J0_isLatin1_aae02 : GoodIn wsJ0_charAt_5068e wsJ0_isLatin1_aae02 := goodIn_r _ [6, 7, 8] (by decide +kernel) (by decide +kernel)
set_option maxRecDepth 20000 in
theorem gJ0_charAt_5068e_J0_isLatin1_aae02 : GoodIn wsJ0_charAt_5068e (wsV RJ0 492 RJ0 yJ0_isLatin1_aae02 wsJ0_isLatin1_aae02) := goodIn_app (goodIn_of _ (by decide +kernel)) ggJ0_charAt_5068e_J0_isLatin1_aae02
set_option maxRecDepth 20000 in
theorem ggJ0_charAt_5068e_J1_charAt_3b067 : GoodIn wsJ0_charAt_5068e wsJ1_charAt_3b067 := goodIn_r _ [12, 13, 14, 5, 15, 16, 17, 18, 19, 20] (by decide +kernel) (by decide +kernel)
set_option maxRecDepth 20000 in
theorem gJ0_charAt_5068e_J1_charAt_3b067 : GoodIn wsJ0_charAt_5068e (va_wsS RJ0 495 yJ1_charAt_3b067 wsJ1_charAt_3b067) := goodIn_app (goodIn_of _ (by decide +kernel)) ggJ0_charAt_5068e_J1_charAt_3b067
set_option maxRecDepth 20000 in
theorem ggJ0_charAt_5068e_J2_charAt_3b067 : GoodIn wsJ0_charAt_5068e wsJ2_charAt_3b067 := goodIn_r _ [24, 25, 26, 23, 27, 28, 29, 30, 31, 14, 5, 15, 16, 17, 18, 19, 20, 32, 33, 34, 35, 36, 37] (by decide +kernel) (by decide +kernel)
set_option maxRecDepth 20000 in
theorem gJ0_charAt_5068e_J2_charAt_3b067 : GoodIn wsJ0_charAt_5068e (va_wsS RJ0 498 yJ2_charAt_3b067 wsJ2_charAt_3b067) := goodIn_app (goodIn_of _ (by decide +kernel)) ggJ0_charAt_5068e_J2_charAt_3b067
theorem dJ0_charAt_5068e_0 : decode cJ0_charAt_5068e 0 = .ok (.aload_n 0, 1) := by decide +kernel
theorem dJ0_charAt_5068e_1 : decode cJ0_charAt_5068e 1 = .ok (.invokevirtual 492, 3) := by decide +kernel
theorem dJ0_charAt_5068e_4 : decode cJ0_charAt_5068e 4 = .ok (.ifCond .eq 12, 3) := by decide +kernel
theorem dJ0_charAt_5068e_7 : decode cJ0_charAt_5068e 7 = .ok (.aload_n 0, 1) := by decide +kernel
theorem dJ0_charAt_5068e_8 : decode cJ0_charAt_5068e 8 = .ok (.getfield 9, 3) := by decide +kernel
theorem dJ0_charAt_5068e_11 : decode cJ0_charAt_5068e 11 = .ok (.iload_n 1, 1) := by decide +kernel
theorem dJ0_charAt_5068e_12 : decode cJ0_charAt_5068e 12 = .ok (.invokestatic 495, 3) := by decide +kernel
theorem dJ0_charAt_5068e_15 : decode cJ0_charAt_5068e 15 = .ok (.ireturn, 1) := by decide +kernel
theorem dJ0_charAt_5068e_16 : decode cJ0_charAt_5068e 16 = .ok (.aload_n 0, 1) := by decide +kernel
theorem dJ0_charAt_5068e_17 : decode cJ0_charAt_5068e 17 = .ok (.getfield 9, 3) := by decide +kernel
theorem dJ0_charAt_5068e_20 : decode cJ0_charAt_5068e 20 = .ok (.iload_n 1, 1) := by decide +kernel
theorem dJ0_charAt_5068e_21 : decode cJ0_charAt_5068e 21 = .ok (.invokestatic 498, 3) := by decide +kernel
theorem dJ0_charAt_5068e_24 : decode cJ0_charAt_5068e 24 = .ok (.ireturn, 1) := by decide +kernel
theorem dJ0_coder_7d493_0 : decode cJ0_coder_7d493 0 = .ok (.getstatic 38, 3) := by decide +kernel
theorem dJ0_coder_7d493_3 : decode cJ0_coder_7d493 3 = .ok (.ifCond .eq 10, 3) := by decide +kernel
theorem dJ0_coder_7d493_6 : decode cJ0_coder_7d493 6 = .ok (.aload_n 0, 1) := by decide +kernel
theorem dJ0_coder_7d493_7 : decode cJ0_coder_7d493 7 = .ok (.getfield 15, 3) := by decide +kernel
theorem dJ0_coder_7d493_10 : decode cJ0_coder_7d493 10 = .ok (.goto 4, 3) := by decide +kernel
theorem dJ0_coder_7d493_13 : decode cJ0_coder_7d493 13 = .ok (.iconst 1, 1) := by decide +kernel
theorem dJ0_coder_7d493_14 : decode cJ0_coder_7d493 14 = .ok (.ireturn, 1) := by decide +kernel
theorem dJ0_isLatin1_aae02_0 : decode cJ0_isLatin1_aae02 0 = .ok (.getstatic 38, 3) := by decide +kernel
theorem dJ0_isLatin1_aae02_3 : decode cJ0_isLatin1_aae02 3 = .ok (.ifCond .eq 14, 3) := by decide +kernel
theorem dJ0_isLatin1_aae02_6 : decode cJ0_isLatin1_aae02 6 = .ok (.aload_n 0, 1) := by decide +kernel
theorem dJ0_isLatin1_aae02_7 : decode cJ0_isLatin1_aae02 7 = .ok (.getfield 15, 3) := by decide +kernel
theorem dJ0_isLatin1_aae02_10 : decode cJ0_isLatin1_aae02 10 = .ok (.ifCond .ne 7, 3) := by decide +kernel
theorem dJ0_isLatin1_aae02_13 : decode cJ0_isLatin1_aae02 13 = .ok (.iconst 1, 1) := by decide +kernel
theorem dJ0_isLatin1_aae02_14 : decode cJ0_isLatin1_aae02 14 = .ok (.goto 4, 3) := by decide +kernel
theorem dJ0_isLatin1_aae02_17 : decode cJ0_isLatin1_aae02 17 = .ok (.iconst 0, 1) := by decide +kernel
theorem dJ0_isLatin1_aae02_18 : decode cJ0_isLatin1_aae02 18 = .ok (.ireturn, 1) := by decide +kernel
set_option maxRecDepth 20000 in
theorem ggJ0_checkIndex_df160_J3_checkIndex_8e157 : GoodIn wsJ0_checkIndex_df160 wsJ3_checkIndex_8e157 := goodIn_r _ [5] (by decide +kernel) (by decide +kernel)
set_option maxRecDepth 20000 in
theorem gJ0_checkIndex_df160_J3_checkIndex_8e157 : GoodIn wsJ0_checkIndex_df160 (va_wsS RJ0 1059 yJ3_checkIndex_8e157 wsJ3_checkIndex_8e157) := goodIn_app (goodIn_of _ (by decide +kernel)) ggJ0_checkIndex_df160_J3_checkIndex_8e157
theorem dJ0_checkIndex_df160_0 : decode cJ0_checkIndex_df160 0 = .ok (.iload_n 0, 1) := by decide +kernel
theorem dJ0_checkIndex_df160_1 : decode cJ0_checkIndex_df160 1 = .ok (.iload_n 1, 1) := by decide +kernel
theorem dJ0_checkIndex_df160_2 : decode cJ0_checkIndex_df160 2 = .ok (.getstatic 1053, 3) := by decide +kernel
theorem dJ0_checkIndex_df160_5 : decode cJ0_checkIndex_df160 5 = .ok (.invokestatic 1059, 3) := by decide +kernel
theorem dJ0_checkIndex_df160_8 : decode cJ0_checkIndex_df160 8 = .ok (.pop, 1) := by decide +kernel
theorem dJ0_checkIndex_df160_9 : decode cJ0_checkIndex_df160 9 = .ok (.return_, 1) := by decide +kernel
set_option maxRecDepth 20000 in
theorem ggJ1_charAt_3b067_J0_checkIndex_df160 : GoodIn wsJ1_charAt_3b067 wsJ0_checkIndex_df160 := goodIn_r _ [4, 5, 6, 7, 8, 9] (by decide +kernel) (by decide +kernel)
set_option maxRecDepth 20000 in
theorem gJ1_charAt_3b067_J0_checkIndex_df160 : GoodIn wsJ1_charAt_3b067 (va_wsS RJ1 9 yJ0_checkIndex_df160 wsJ0_checkIndex_df160) := goodIn_app (goodIn_of _ (by decide +kernel)) ggJ1_charAt_3b067_J0_checkIndex_df160
theorem dJ1_charAt_3b067_0 : decode cJ1_charAt_3b067 0 = .ok (.iload_n 1, 1) := by decide +kernel
theorem dJ1_charAt_3b067_1 : decode cJ1_charAt_3b067 1 = .ok (.aload_n 0, 1) := by decide +kernel
theorem dJ1_charAt_3b067_2 : decode cJ1_charAt_3b067 2 = .ok (.arraylength, 1) := by decide +kernel
theorem dJ1_charAt_3b067_3 : decode cJ1_charAt_3b067 3 = .ok (.invokestatic 9, 3) := by decide +kernel
theorem dJ1_charAt_3b067_6 : decode cJ1_charAt_3b067 6 = .ok (.aload_n 0, 1) := by decide +kernel
theorem dJ1_charAt_3b067_7 : decode cJ1_charAt_3b067 7 = .ok (.iload_n 1, 1) := by decide +kernel
theorem dJ1_charAt_3b067_8 : decode cJ1_charAt_3b067 8 = .ok (.baload, 1) := by decide +kernel
theorem dJ1_charAt_3b067_9 : decode cJ1_charAt_3b067 9 = .ok (.sipush 255, 3) := by decide +kernel
theorem dJ1_charAt_3b067_12 : decode cJ1_charAt_3b067 12 = .ok (.iand, 1) := by decide +kernel
theorem dJ1_charAt_3b067_13 : decode cJ1_charAt_3b067 13 = .ok (.i2c, 1) := by decide +kernel
theorem dJ1_charAt_3b067_14 : decode cJ1_charAt_3b067 14 = .ok (.ireturn, 1) := by decide +kernel
set_option maxRecDepth 20000 in
theorem ggJ2_getChar_3b067_J2_length_9d52b : GoodIn wsJ2_getChar_3b067 wsJ2_length_9d52b := goodIn_r _ [7] (by decide +kernel) (by decide +kernel)
set_option maxRecDepth 20000 in
theorem gJ2_getChar_3b067_J2_length_9d52b : GoodIn wsJ2_getChar_3b067 (va_wsS RJ2 48 yJ2_length_9d52b wsJ2_length_9d52b) := goodIn_app (goodIn_of _ (by decide +kernel)) ggJ2_getChar_3b067_J2_length_9d52b
theorem dJ2_getChar_3b067_0 : decode cJ2_getChar_3b067 0 = .ok (.getstatic 44, 3) := by decide +kernel
theorem dJ2_getChar_3b067_3 : decode cJ2_getChar_3b067 3 = .ok (.ifCond .ne 25, 3) := by decide +kernel
theorem dJ2_getChar_3b067_6 : decode cJ2_getChar_3b067 6 = .ok (.iload_n 1, 1) := by decide +kernel
theorem dJ2_getChar_3b067_7 : decode cJ2_getChar_3b067 7 = .ok (.ifCond .lt 11, 3) := by decide +kernel
theorem dJ2_getChar_3b067_10 : decode cJ2_getChar_3b067 10 = .ok (.iload_n 1, 1) := by decide +kernel
theorem dJ2_getChar_3b067_11 : decode cJ2_getChar_3b067 11 = .ok (.aload_n 0, 1) := by decide +kernel
theorem dJ2_getChar_3b067_12 : decode cJ2_getChar_3b067 12 = .ok (.invokestatic 48, 3) := by decide +kernel
theorem dJ2_getChar_3b067_15 : decode cJ2_getChar_3b067 15 = .ok (.if_icmp .lt 13, 3) := by decide +kernel
theorem dJ2_getChar_3b067_18 : decode cJ2_getChar_3b067 18 = .ok (.new 52, 3) := by decide +kernel
theorem dJ2_getChar_3b067_21 : decode cJ2_getChar_3b067 21 = .ok (.dup, 1) := by decide +kernel
theorem dJ2_getChar_3b067_22 : decode cJ2_getChar_3b067 22 = .ok (.ldc 54, 2) := by decide +kernel
theorem dJ2_getChar_3b067_24 : decode cJ2_getChar_3b067 24 = .ok (.invokespecial 56, 3) := by decide +kernel
theorem dJ2_getChar_3b067_27 : decode cJ2_getChar_3b067 27 = .ok (.athrow, 1) := by decide +kernel
theorem dJ2_getChar_3b067_28 : decode cJ2_getChar_3b067 28 = .ok (.iload_n 1, 1) := by decide +kernel
theorem dJ2_getChar_3b067_29 : decode cJ2_getChar_3b067 29 = .ok (.iconst 1, 1) := by decide +kernel
theorem dJ2_getChar_3b067_30 : decode cJ2_getChar_3b067 30 = .ok (.ishl, 1) := by decide +kernel
theorem dJ2_getChar_3b067_31 : decode cJ2_getChar_3b067 31 = .ok (.istore_n 1, 1) := by decide +kernel
theorem dJ2_getChar_3b067_32 : decode cJ2_getChar_3b067 32 = .ok (.aload_n 0, 1) := by decide +kernel
theorem dJ2_getChar_3b067_33 : decode cJ2_getChar_3b067 33 = .ok (.iload_n 1, 1) := by decide +kernel
theorem dJ2_getChar_3b067_34 : decode cJ2_getChar_3b067 34 = .ok (.iinc 1 1, 3) := by decide +kernel
theorem dJ2_getChar_3b067_37 : decode cJ2_getChar_3b067 37 = .ok (.baload, 1) := by decide +kernel
theorem dJ2_getChar_3b067_38 : decode cJ2_getChar_3b067 38 = .ok (.sipush 255, 3) := by decide +kernel
theorem dJ2_getChar_3b067_41 : decode cJ2_getChar_3b067 41 = .ok (.iand, 1) := by decide +kernel
theorem dJ2_getChar_3b067_42 : decode cJ2_getChar_3b067 42 = .ok (.getstatic 59, 3) := by decide +kernel
theorem dJ2_getChar_3b067_45 : decode cJ2_getChar_3b067 45 = .ok (.ishl, 1) := by decide +kernel
theorem dJ2_getChar_3b067_46 : decode cJ2_getChar_3b067 46 = .ok (.aload_n 0, 1) := by decide +kernel
theorem dJ2_getChar_3b067_47 : decode cJ2_getChar_3b067 47 = .ok (.iload_n 1, 1) := by decide +kernel
theorem dJ2_getChar_3b067_48 : decode cJ2_getChar_3b067 48 = .ok (.baload, 1) := by decide +kernel
theorem dJ2_getChar_3b067_49 : decode cJ2_getChar_3b067 49 = .ok (.sipush 255, 3) := by decide +kernel
theorem dJ2_getChar_3b067_52 : decode cJ2_getChar_3b067 52 = .ok (.iand, 1) := by decide +kernel
theorem dJ2_getChar_3b067_53 : decode cJ2_getChar_3b067 53 = .ok (.getstatic 63, 3) := by decide +kernel
theorem dJ2_getChar_3b067_56 : decode cJ2_getChar_3b067 56 = .ok (.ishl, 1) := by decide +kernel
theorem dJ2_getChar_3b067_57 : decode cJ2_getChar_3b067 57 = .ok (.ior, 1) := by decide +kernel
theorem dJ2_getChar_3b067_58 : decode cJ2_getChar_3b067 58 = .ok (.i2c, 1) := by decide +kernel
theorem dJ2_getChar_3b067_59 : decode cJ2_getChar_3b067 59 = .ok (.ireturn, 1) := by decide +kernel
theorem dJ2_length_9d52b_0 : decode cJ2_length_9d52b 0 = .ok (.aload_n 0, 1) := by decide +kernel
theorem dJ2_length_9d52b_1 : decode cJ2_length_9d52b 1 = .ok (.arraylength, 1) := by decide +kernel
theorem dJ2_length_9d52b_2 : decode cJ2_length_9d52b 2 = .ok (.iconst 1, 1) := by decide +kernel
theorem dJ2_length_9d52b_3 : decode cJ2_length_9d52b 3 = .ok (.ishr, 1) := by decide +kernel
theorem dJ2_length_9d52b_4 : decode cJ2_length_9d52b 4 = .ok (.ireturn, 1) := by decide +kernel
set_option maxRecDepth 20000 in
theorem ggJ2_charAt_3b067_J2_checkIndex_2214a : GoodIn wsJ2_charAt_3b067 wsJ2_checkIndex_2214a := goodIn_r _ [4, 5, 6, 3, 7, 8, 9, 10, 11, 12, 13, 14, 15, 16] (by decide +kernel) (by decide +kernel)
set_option maxRecDepth 20000 in
theorem gJ2_charAt_3b067_J2_checkIndex_2214a : GoodIn wsJ2_charAt_3b067 (va_wsS RJ2 67 yJ2_checkIndex_2214a wsJ2_checkIndex_2214a) := goodIn_app (goodIn_of _ (by decide +kernel)) ggJ2_charAt_3b067_J2_checkIndex_2214a
set_option maxRecDepth 20000 in
theorem ggJ2_charAt_3b067_J2_getChar_3b067 : GoodIn wsJ2_charAt_3b067 wsJ2_getChar_3b067 := goodIn_r _ [19, 20, 21, 22, 5, 6, 3, 7] (by decide +kernel) (by decide +kernel)
set_option maxRecDepth 20000 in
theorem gJ2_charAt_3b067_J2_getChar_3b067 : GoodIn wsJ2_charAt_3b067 (va_wsS RJ2 71 yJ2_getChar_3b067 wsJ2_getChar_3b067) := goodIn_app (goodIn_of _ (by decide +kernel)) ggJ2_charAt_3b067_J2_getChar_3b067
theorem dJ2_charAt_3b067_0 : decode cJ2_charAt_3b067 0 = .ok (.iload_n 1, 1) := by decide +kernel
theorem dJ2_charAt_3b067_1 : decode cJ2_charAt_3b067 1 = .ok (.aload_n 0, 1) := by decide +kernel
theorem dJ2_charAt_3b067_2 : decode cJ2_charAt_3b067 2 = .ok (.invokestatic 67, 3) := by decide +kernel
theorem dJ2_charAt_3b067_5 : decode cJ2_charAt_3b067 5 = .ok (.aload_n 0, 1) := by decide +kernel
theorem dJ2_charAt_3b067_6 : decode cJ2_charAt_3b067 6 = .ok (.iload_n 1, 1) := by decide +kernel
theorem dJ2_charAt_3b067_7 : decode cJ2_charAt_3b067 7 = .ok (.invokestatic 71, 3) := by decide +kernel
theorem dJ2_charAt_3b067_10 : decode cJ2_charAt_3b067 10 = .ok (.ireturn, 1) := by decide +kernel
set_option maxRecDepth 20000 in
theorem ggJ2_checkIndex_2214a_J2_length_9d52b : GoodIn wsJ2_checkIndex_2214a wsJ2_length_9d52b := goodIn_r _ [4] (by decide +kernel) (by decide +kernel)
set_option maxRecDepth 20000 in
theorem gJ2_checkIndex_2214a_J2_length_9d52b : GoodIn wsJ2_checkIndex_2214a (va_wsS RJ2 48 yJ2_length_9d52b wsJ2_length_9d52b) := goodIn_app (goodIn_of _ (by decide +kernel)) ggJ2_checkIndex_2214a_J2_length_9d52b
set_option maxRecDepth 20000 in
theorem ggJ2_checkIndex_2214a_J0_checkIndex_df160 : GoodIn wsJ2_checkIndex_2214a wsJ0_checkIndex_df160 := goodIn_r _ [8, 9, 10, 11, 12, 13] (by decide +kernel) (by decide +kernel)
