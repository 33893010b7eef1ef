theorem dX12_thing_127 : decode cX12_thing 127 = .ok (.iconst 1, 1) := by decide +kernel
theorem dX12_thing_128 : decode cX12_thing 128 = .ok (.iadd, 1) := by decide +kernel
theorem dX12_thing_129 : decode cX12_thing 129 = .ok (.iastore, 1) := by decide +kernel
theorem dX12_thing_130 : decode cX12_thing 130 = .ok (.aload_n 0, 1) := by decide +kernel
theorem dX12_thing_131 : decode cX12_thing 131 = .ok (.getfield 7, 3) := by decide +kernel
theorem dX12_thing_134 : decode cX12_thing 134 = .ok (.bipush 17, 2) := by decide +kernel
theorem dX12_thing_136 : decode cX12_thing 136 = .ok (.iaload, 1) := by decide +kernel
theorem dX12_thing_137 : decode cX12_thing 137 = .ok (.iconst 1, 1) := by decide +kernel
theorem dX12_thing_138 : decode cX12_thing 138 = .ok (.isub, 1) := by decide +kernel
theorem dX12_thing_139 : decode cX12_thing 139 = .ok (.ireturn, 1) := by decide +kernel
set_option maxRecDepth 20000 in
theorem ggX12_thingOf_X12_isThing : GoodIn wsX12_thingOf wsX12_isThing := goodIn_r _ [5, 6, 7, 8, 4, 9, 20, 21, 22, 23, 24, 25, 26, 27, 28, 29, 30, 31, 32, 33, 34, 35, 36, 37, 38] (by decide +kernel) (by decide +kernel)
set_option maxRecDepth 20000 in
theorem gX12_thingOf_X12_isThing : GoodIn wsX12_thingOf (wsV RX12 107 RX12 yX12_isThing wsX12_isThing) := goodIn_app (goodIn_of _ (by decide +kernel)) ggX12_thingOf_X12_isThing
set_option maxRecDepth 20000 in
theorem ggX12_thingOf_X12_in : GoodIn wsX12_thingOf wsX12_in := goodIn_r _ [9] (by decide +kernel) (by decide +kernel)
set_option maxRecDepth 20000 in
theorem gX12_thingOf_X12_in : GoodIn wsX12_thingOf (va_wsS RX12 48 yX12_in wsX12_in) := goodIn_app (goodIn_of _ (by decide +kernel)) ggX12_thingOf_X12_in
set_option maxRecDepth 20000 in
theorem ggX12_thingOf_X12_thingIts : GoodIn wsX12_thingOf wsX12_thingIts := goodIn_r _ [13, 6, 20, 21, 22, 23, 24, 25, 26, 27, 28, 29, 30, 31, 32, 33, 34, 35, 36, 37, 38] (by decide +kernel) (by decide +kernel)
set_option maxRecDepth 20000 in
theorem gX12_thingOf_X12_thingIts : GoodIn wsX12_thingOf (wsV RX12 89 RX12 yX12_thingIts wsX12_thingIts) := goodIn_app (goodIn_of _ (by decide +kernel)) ggX12_thingOf_X12_thingIts
set_option maxRecDepth 20000 in
theorem ggX12_thingOf_X12_finding : GoodIn wsX12_thingOf wsX12_finding := goodIn_r _ [17, 18, 19, 20, 21, 22, 23, 24, 25, 26, 27, 28, 29, 30, 31, 32, 33, 34, 35, 36, 37, 38] (by decide +kernel) (by decide +kernel)
set_option maxRecDepth 20000 in
theorem gX12_thingOf_X12_finding : GoodIn wsX12_thingOf (wsV RX12 52 RX12 yX12_finding wsX12_finding) := goodIn_app (goodIn_of _ (by decide +kernel)) ggX12_thingOf_X12_finding
theorem dX12_thingOf_0 : decode cX12_thingOf 0 = .ok (.aload_n 0, 1) := by decide +kernel
theorem dX12_thingOf_1 : decode cX12_thingOf 1 = .ok (.iload_n 1, 1) := by decide +kernel
theorem dX12_thingOf_2 : decode cX12_thingOf 2 = .ok (.invokevirtual 107, 3) := by decide +kernel
theorem dX12_thingOf_5 : decode cX12_thingOf 5 = .ok (.ifCond .eq 21, 3) := by decide +kernel
theorem dX12_thingOf_8 : decode cX12_thingOf 8 = .ok (.iload_n 2, 1) := by decide +kernel
theorem dX12_thingOf_9 : decode cX12_thingOf 9 = .ok (.iconst 0, 1) := by decide +kernel
theorem dX12_thingOf_10 : decode cX12_thingOf 10 = .ok (.iconst 4, 1) := by decide +kernel
theorem dX12_thingOf_11 : decode cX12_thingOf 11 = .ok (.invokestatic 48, 3) := by decide +kernel
theorem dX12_thingOf_14 : decode cX12_thingOf 14 = .ok (.ifCond .eq 12, 3) := by decide +kernel
theorem dX12_thingOf_17 : decode cX12_thingOf 17 = .ok (.aload_n 0, 1) := by decide +kernel
theorem dX12_thingOf_18 : decode cX12_thingOf 18 = .ok (.iload_n 1, 1) := by decide +kernel
theorem dX12_thingOf_19 : decode cX12_thingOf 19 = .ok (.iload_n 2, 1) := by decide +kernel
theorem dX12_thingOf_20 : decode cX12_thingOf 20 = .ok (.invokevirtual 89, 3) := by decide +kernel
theorem dX12_thingOf_23 : decode cX12_thingOf 23 = .ok (.goto 8, 3) := by decide +kernel
theorem dX12_thingOf_26 : decode cX12_thingOf 26 = .ok (.aload_n 0, 1) := by decide +kernel
theorem dX12_thingOf_27 : decode cX12_thingOf 27 = .ok (.iconst 0, 1) := by decide +kernel
theorem dX12_thingOf_28 : decode cX12_thingOf 28 = .ok (.invokevirtual 52, 3) := by decide +kernel
theorem dX12_thingOf_31 : decode cX12_thingOf 31 = .ok (.ireturn, 1) := by decide +kernel
set_option maxRecDepth 20000 in
theorem ggX12_lift_X12_isThing : GoodIn wsX12_lift wsX12_isThing := goodIn_r _ [6, 1, 7, 8, 5, 9, 57, 58, 59, 60, 61, 62, 63, 64, 65, 66, 67, 68, 69, 70, 71, 72, 73, 74, 75] (by decide +kernel) (by decide +kernel)
set_option maxRecDepth 20000 in
theorem gX12_lift_X12_isThing : GoodIn wsX12_lift (wsV RX12 107 RX12 yX12_isThing wsX12_isThing) := goodIn_app (goodIn_of _ (by decide +kernel)) ggX12_lift_X12_isThing
set_option maxRecDepth 20000 in
theorem ggX12_lift_X12_finding : GoodIn wsX12_lift wsX12_finding := goodIn_r _ [13, 14, 15, 57, 58, 59, 60, 61, 62, 63, 64, 65, 66, 67, 68, 69, 70, 71, 72, 73, 74, 75] (by decide +kernel) (by decide +kernel)
set_option maxRecDepth 20000 in
theorem gX12_lift_X12_finding : GoodIn wsX12_lift (wsV RX12 52 RX12 yX12_finding wsX12_finding) := goodIn_app (goodIn_of _ (by decide +kernel)) ggX12_lift_X12_finding
set_option maxRecDepth 20000 in
theorem ggX12_lift_X12_thingIts : GoodIn wsX12_lift wsX12_thingIts := goodIn_r _ [19, 1, 57, 58, 59, 60, 61, 62, 63, 64, 65, 66, 67, 68, 69, 70, 71, 72, 73, 74, 75] (by decide +kernel) (by decide +kernel)
set_option maxRecDepth 20000 in
theorem gX12_lift_X12_thingIts : GoodIn wsX12_lift (wsV RX12 89 RX12 yX12_thingIts wsX12_thingIts) := goodIn_app (goodIn_of _ (by decide +kernel)) ggX12_lift_X12_thingIts
set_option maxRecDepth 20000 in
theorem ggX12_lift_X12_goesOn : GoodIn wsX12_lift wsX12_goesOn := goodIn_r _ [23, 1, 24, 25, 26, 27, 5, 28, 29, 30, 31, 32, 33, 34, 35, 36, 37, 38, 39, 40, 41, 42, 43, 44, 45, 46, 47, 48, 49, 50, 51, 52, 53, 54, 55, 56, 16, 17, 18, 19, 57, 58, 59, 60, 61, 62, 63, 64, 65, 66, 67, 68, 69, 70, 71, 72, 73, 74, 75] (by decide +kernel) (by decide +kernel)
set_option maxRecDepth 20000 in
theorem gX12_lift_X12_goesOn : GoodIn wsX12_lift (wsV RX12 99 RX12 yX12_goesOn wsX12_goesOn) := goodIn_app (goodIn_of _ (by decide +kernel)) ggX12_lift_X12_goesOn
theorem dX12_lift_0 : decode cX12_lift 0 = .ok (.aload_n 0, 1) := by decide +kernel
theorem dX12_lift_1 : decode cX12_lift 1 = .ok (.iload_n 1, 1) := by decide +kernel
theorem dX12_lift_2 : decode cX12_lift 2 = .ok (.invokevirtual 107, 3) := by decide +kernel
theorem dX12_lift_5 : decode cX12_lift 5 = .ok (.ifCond .ne 9, 3) := by decide +kernel
theorem dX12_lift_8 : decode cX12_lift 8 = .ok (.aload_n 0, 1) := by decide +kernel
theorem dX12_lift_9 : decode cX12_lift 9 = .ok (.iconst 0, 1) := by decide +kernel
theorem dX12_lift_10 : decode cX12_lift 10 = .ok (.invokevirtual 52, 3) := by decide +kernel
theorem dX12_lift_13 : decode cX12_lift 13 = .ok (.ireturn, 1) := by decide +kernel
theorem dX12_lift_14 : decode cX12_lift 14 = .ok (.aload_n 0, 1) := by decide +kernel
theorem dX12_lift_15 : decode cX12_lift 15 = .ok (.iload_n 1, 1) := by decide +kernel
theorem dX12_lift_16 : decode cX12_lift 16 = .ok (.iconst 3, 1) := by decide +kernel
theorem dX12_lift_17 : decode cX12_lift 17 = .ok (.invokevirtual 89, 3) := by decide +kernel
theorem dX12_lift_20 : decode cX12_lift 20 = .ok (.aload_n 0, 1) := by decide +kernel
theorem dX12_lift_21 : decode cX12_lift 21 = .ok (.iload_n 1, 1) := by decide +kernel
theorem dX12_lift_22 : decode cX12_lift 22 = .ok (.iconst 4, 1) := by decide +kernel
theorem dX12_lift_23 : decode cX12_lift 23 = .ok (.invokevirtual 89, 3) := by decide +kernel
theorem dX12_lift_26 : decode cX12_lift 26 = .ok (.iadd, 1) := by decide +kernel
theorem dX12_lift_27 : decode cX12_lift 27 = .ok (.ifCond .le 9, 3) := by decide +kernel
theorem dX12_lift_30 : decode cX12_lift 30 = .ok (.aload_n 0, 1) := by decide +kernel
theorem dX12_lift_31 : decode cX12_lift 31 = .ok (.iconst 4, 1) := by decide +kernel
theorem dX12_lift_32 : decode cX12_lift 32 = .ok (.invokevirtual 52, 3) := by decide +kernel
theorem dX12_lift_35 : decode cX12_lift 35 = .ok (.ireturn, 1) := by decide +kernel
theorem dX12_lift_36 : decode cX12_lift 36 = .ok (.aload_n 0, 1) := by decide +kernel
theorem dX12_lift_37 : decode cX12_lift 37 = .ok (.aload_n 0, 1) := by decide +kernel
theorem dX12_lift_38 : decode cX12_lift 38 = .ok (.iload_n 1, 1) := by decide +kernel
theorem dX12_lift_39 : decode cX12_lift 39 = .ok (.iconst 1, 1) := by decide +kernel
theorem dX12_lift_40 : decode cX12_lift 40 = .ok (.invokevirtual 89, 3) := by decide +kernel
theorem dX12_lift_43 : decode cX12_lift 43 = .ok (.invokevirtual 99, 3) := by decide +kernel
theorem dX12_lift_46 : decode cX12_lift 46 = .ok (.aload_n 0, 1) := by decide +kernel
theorem dX12_lift_47 : decode cX12_lift 47 = .ok (.getfield 7, 3) := by decide +kernel
theorem dX12_lift_50 : decode cX12_lift 50 = .ok (.bipush 97, 2) := by decide +kernel
theorem dX12_lift_52 : decode cX12_lift 52 = .ok (.iconst 5, 1) := by decide +kernel
theorem dX12_lift_53 : decode cX12_lift 53 = .ok (.iload_n 1, 1) := by decide +kernel
theorem dX12_lift_54 : decode cX12_lift 54 = .ok (.imul, 1) := by decide +kernel
theorem dX12_lift_55 : decode cX12_lift 55 = .ok (.iadd, 1) := by decide +kernel
theorem dX12_lift_56 : decode cX12_lift 56 = .ok (.iconst 3, 1) := by decide +kernel
theorem dX12_lift_57 : decode cX12_lift 57 = .ok (.iadd, 1) := by decide +kernel
theorem dX12_lift_58 : decode cX12_lift 58 = .ok (.iconst 1, 1) := by decide +kernel
theorem dX12_lift_59 : decode cX12_lift 59 = .ok (.iastore, 1) := by decide +kernel
theorem dX12_lift_60 : decode cX12_lift 60 = .ok (.aload_n 0, 1) := by decide +kernel
theorem dX12_lift_61 : decode cX12_lift 61 = .ok (.getfield 7, 3) := by decide +kernel
theorem dX12_lift_64 : decode cX12_lift 64 = .ok (.iconst 2, 1) := by decide +kernel
theorem dX12_lift_65 : decode cX12_lift 65 = .ok (.iaload, 1) := by decide +kernel
theorem dX12_lift_66 : decode cX12_lift 66 = .ok (.ireturn, 1) := by decide +kernel
set_option maxRecDepth 20000 in
theorem ggX12_down_X12_isThing : GoodIn wsX12_down wsX12_isThing := goodIn_r _ [6, 1, 7, 8, 5, 9, 20, 21, 22, 23, 24, 25, 26, 27, 28, 29, 30, 31, 32, 33, 34, 35, 36, 37, 38] (by decide +kernel) (by decide +kernel)
set_option maxRecDepth 20000 in
theorem gX12_down_X12_isThing : GoodIn wsX12_down (wsV RX12 107 RX12 yX12_isThing wsX12_isThing) := goodIn_app (goodIn_of _ (by decide +kernel)) ggX12_down_X12_isThing
set_option maxRecDepth 20000 in
theorem ggX12_down_X12_in : GoodIn wsX12_down wsX12_in := goodIn_r _ [9] (by decide +kernel) (by decide +kernel)
set_option maxRecDepth 20000 in
theorem gX12_down_X12_in : GoodIn wsX12_down (va_wsS RX12 48 yX12_in wsX12_in) := goodIn_app (goodIn_of _ (by decide +kernel)) ggX12_down_X12_in
set_option maxRecDepth 20000 in
theorem ggX12_down_X12_finding : GoodIn wsX12_down wsX12_finding := goodIn_r _ [13, 14, 15, 20, 21, 22, 23, 24, 25, 26, 27, 28, 29, 30, 31, 32, 33, 34, 35, 36, 37, 38] (by decide +kernel) (by decide +kernel)
set_option maxRecDepth 20000 in
theorem gX12_down_X12_finding : GoodIn wsX12_down (wsV RX12 52 RX12 yX12_finding wsX12_finding) := goodIn_app (goodIn_of _ (by decide +kernel)) ggX12_down_X12_finding
set_option maxRecDepth 20000 in
theorem ggX12_down_X12_thingIts : GoodIn wsX12_down wsX12_thingIts := goodIn_r _ [19, 1, 20, 21, 22, 23, 24, 25, 26, 27, 28, 29, 30, 31, 32, 33, 34, 35, 36, 37, 38] (by decide +kernel) (by decide +kernel)
set_option maxRecDepth 20000 in
theorem gX12_down_X12_thingIts : GoodIn wsX12_down (wsV RX12 89 RX12 yX12_thingIts wsX12_thingIts) := goodIn_app (goodIn_of _ (by decide +kernel)) ggX12_down_X12_thingIts
theorem dX12_down_0 : decode cX12_down 0 = .ok (.aload_n 0, 1) := by decide +kernel
theorem dX12_down_1 : decode cX12_down 1 = .ok (.iload_n 1, 1) := by decide +kernel
theorem dX12_down_2 : decode cX12_down 2 = .ok (.invokevirtual 107, 3) := by decide +kernel
theorem dX12_down_5 : decode cX12_down 5 = .ok (.ifCond .eq 14, 3) := by decide +kernel
theorem dX12_down_8 : decode cX12_down 8 = .ok (.iload_n 2, 1) := by decide +kernel
theorem dX12_down_9 : decode cX12_down 9 = .ok (.iconst 0, 1) := by decide +kernel
theorem dX12_down_10 : decode cX12_down 10 = .ok (.sipush 999, 3) := by decide +kernel
theorem dX12_down_13 : decode cX12_down 13 = .ok (.invokestatic 48, 3) := by decide +kernel
theorem dX12_down_16 : decode cX12_down 16 = .ok (.ifCond .ne 9, 3) := by decide +kernel
theorem dX12_down_19 : decode cX12_down 19 = .ok (.aload_n 0, 1) := by decide +kernel
theorem dX12_down_20 : decode cX12_down 20 = .ok (.iconst 0, 1) := by decide +kernel
theorem dX12_down_21 : decode cX12_down 21 = .ok (.invokevirtual 52, 3) := by decide +kernel
theorem dX12_down_24 : decode cX12_down 24 = .ok (.ireturn, 1) := by decide +kernel
theorem dX12_down_25 : decode cX12_down 25 = .ok (.aload_n 0, 1) := by decide +kernel
theorem dX12_down_26 : decode cX12_down 26 = .ok (.iload_n 1, 1) := by decide +kernel
theorem dX12_down_27 : decode cX12_down 27 = .ok (.iconst 3, 1) := by decide +kernel
theorem dX12_down_28 : decode cX12_down 28 = .ok (.invokevirtual 89, 3) := by decide +kernel
theorem dX12_down_31 : decode cX12_down 31 = .ok (.istore_n 3, 1) := by decide +kernel
theorem dX12_down_32 : decode cX12_down 32 = .ok (.aload_n 0, 1) := by decide +kernel
theorem dX12_down_33 : decode cX12_down 33 = .ok (.getfield 7, 3) := by decide +kernel
theorem dX12_down_36 : decode cX12_down 36 = .ok (.bipush 97, 2) := by decide +kernel
theorem dX12_down_38 : decode cX12_down 38 = .ok (.iconst 5, 1) := by decide +kernel
theorem dX12_down_39 : decode cX12_down 39 = .ok (.iload_n 1, 1) := by decide +kernel
theorem dX12_down_40 : decode cX12_down 40 = .ok (.imul, 1) := by decide +kernel
theorem dX12_down_41 : decode cX12_down 41 = .ok (.iadd, 1) := by decide +kernel
theorem dX12_down_42 : decode cX12_down 42 = .ok (.iconst 3, 1) := by decide +kernel
theorem dX12_down_43 : decode cX12_down 43 = .ok (.iadd, 1) := by decide +kernel
theorem dX12_down_44 : decode cX12_down 44 = .ok (.iconst 0, 1) := by decide +kernel
theorem dX12_down_45 : decode cX12_down 45 = .ok (.iastore, 1) := by decide +kernel
theorem dX12_down_46 : decode cX12_down 46 = .ok (.aload_n 0, 1) := by decide +kernel
theorem dX12_down_47 : decode cX12_down 47 = .ok (.getfield 7, 3) := by decide +kernel
theorem dX12_down_50 : decode cX12_down 50 = .ok (.bipush 97, 2) := by decide +kernel
theorem dX12_down_52 : decode cX12_down 52 = .ok (.iconst 5, 1) := by decide +kernel
theorem dX12_down_53 : decode cX12_down 53 = .ok (.iload_n 1, 1) := by decide +kernel
theorem dX12_down_54 : decode cX12_down 54 = .ok (.imul, 1) := by decide +kernel
theorem dX12_down_55 : decode cX12_down 55 = .ok (.iadd, 1) := by decide +kernel
theorem dX12_down_56 : decode cX12_down 56 = .ok (.iconst 2, 1) := by decide +kernel
theorem dX12_down_57 : decode cX12_down 57 = .ok (.iadd, 1) := by decide +kernel
theorem dX12_down_58 : decode cX12_down 58 = .ok (.iload_n 2, 1) := by decide +kernel
theorem dX12_down_59 : decode cX12_down 59 = .ok (.iastore, 1) := by decide +kernel
theorem dX12_down_60 : decode cX12_down 60 = .ok (.iload_n 3, 1) := by decide +kernel
theorem dX12_down_61 : decode cX12_down 61 = .ok (.ireturn, 1) := by decide +kernel
set_option maxRecDepth 20000 in
theorem ggX12_harm_X12_thingIts : GoodIn wsX12_harm wsX12_thingIts := goodIn_r _ [6, 1, 7, 8, 9, 10, 11, 12, 13, 14, 15, 16, 17, 18, 19, 20, 21, 22, 23, 24, 25] (by decide +kernel) (by decide +kernel)
set_option maxRecDepth 20000 in
theorem gX12_harm_X12_thingIts : GoodIn wsX12_harm (wsV RX12 89 RX12 yX12_thingIts wsX12_thingIts) := goodIn_app (goodIn_of _ (by decide +kernel)) ggX12_harm_X12_thingIts
theorem dX12_harm_0 : decode cX12_harm 0 = .ok (.iconst 0, 1) := by decide +kernel
theorem dX12_harm_1 : decode cX12_harm 1 = .ok (.istore_n 1, 1) := by decide +kernel
theorem dX12_harm_2 : decode cX12_harm 2 = .ok (.iconst 0, 1) := by decide +kernel
theorem dX12_harm_3 : decode cX12_harm 3 = .ok (.istore_n 2, 1) := by decide +kernel
theorem dX12_harm_4 : decode cX12_harm 4 = .ok (.iload_n 2, 1) := by decide +kernel
theorem dX12_harm_5 : decode cX12_harm 5 = .ok (.aload_n 0, 1) := by decide +kernel
theorem dX12_harm_6 : decode cX12_harm 6 = .ok (.getfield 7, 3) := by decide +kernel
theorem dX12_harm_9 : decode cX12_harm 9 = .ok (.bipush 17, 2) := by decide +kernel
theorem dX12_harm_11 : decode cX12_harm 11 = .ok (.iaload, 1) := by decide +kernel
theorem dX12_harm_12 : decode cX12_harm 12 = .ok (.if_icmp .ge 32, 3) := by decide +kernel
theorem dX12_harm_15 : decode cX12_harm 15 = .ok (.iload_n 1, 1) := by decide +kernel
theorem dX12_harm_16 : decode cX12_harm 16 = .ok (.aload_n 0, 1) := by decide +kernel
theorem dX12_harm_17 : decode cX12_harm 17 = .ok (.iload_n 2, 1) := by decide +kernel
theorem dX12_harm_18 : decode cX12_harm 18 = .ok (.iconst 4, 1) := by decide +kernel
theorem dX12_harm_19 : decode cX12_harm 19 = .ok (.invokevirtual 89, 3) := by decide +kernel
theorem dX12_harm_22 : decode cX12_harm 22 = .ok (.iconst 1, 1) := by decide +kernel
theorem dX12_harm_23 : decode cX12_harm 23 = .ok (.if_icmp .ne 12, 3) := by decide +kernel
theorem dX12_harm_26 : decode cX12_harm 26 = .ok (.aload_n 0, 1) := by decide +kernel
theorem dX12_harm_27 : decode cX12_harm 27 = .ok (.iload_n 2, 1) := by decide +kernel
theorem dX12_harm_28 : decode cX12_harm 28 = .ok (.iconst 0, 1) := by decide +kernel
theorem dX12_harm_29 : decode cX12_harm 29 = .ok (.invokevirtual 89, 3) := by decide +kernel
theorem dX12_harm_32 : decode cX12_harm 32 = .ok (.goto 4, 3) := by decide +kernel
theorem dX12_harm_35 : decode cX12_harm 35 = .ok (.iconst 0, 1) := by decide +kernel
theorem dX12_harm_36 : decode cX12_harm 36 = .ok (.iadd, 1) := by decide +kernel
theorem dX12_harm_37 : decode cX12_harm 37 = .ok (.istore_n 1, 1) := by decide +kernel
theorem dX12_harm_38 : decode cX12_harm 38 = .ok (.iinc 2 1, 3) := by decide +kernel
theorem dX12_harm_41 : decode cX12_harm 41 = .ok (.goto (-37), 3) := by decide +kernel
theorem dX12_harm_44 : decode cX12_harm 44 = .ok (.iload_n 1, 1) := by decide +kernel
theorem dX12_harm_45 : decode cX12_harm 45 = .ok (.ireturn, 1) := by decide +kernel
set_option maxRecDepth 20000 in
theorem ggX12_feed_X12_in : GoodIn wsX12_feed wsX12_in := goodIn_r _ [6] (by decide +kernel) (by decide +kernel)
set_option maxRecDepth 20000 in
theorem gX12_feed_X12_in : GoodIn wsX12_feed (va_wsS RX12 48 yX12_in wsX12_in) := goodIn_app (goodIn_of _ (by decide +kernel)) ggX12_feed_X12_in
set_option maxRecDepth 20000 in
theorem ggX12_feed_X12_finding : GoodIn wsX12_feed wsX12_finding := goodIn_r _ [10, 11, 12, 13, 14, 15, 16, 17, 18, 19, 20, 21, 22, 23, 24, 25, 26, 27, 28, 29, 30, 31] (by decide +kernel) (by decide +kernel)
set_option maxRecDepth 20000 in
theorem gX12_feed_X12_finding : GoodIn wsX12_feed (wsV RX12 52 RX12 yX12_finding wsX12_finding) := goodIn_app (goodIn_of _ (by decide +kernel)) ggX12_feed_X12_finding
theorem dX12_feed_0 : decode cX12_feed 0 = .ok (.iload_n 2, 1) := by decide +kernel
theorem dX12_feed_1 : decode cX12_feed 1 = .ok (.iconst 1, 1) := by decide +kernel
theorem dX12_feed_2 : decode cX12_feed 2 = .ok (.iconst 4, 1) := by decide +kernel
theorem dX12_feed_3 : decode cX12_feed 3 = .ok (.invokestatic 48, 3) := by decide +kernel
theorem dX12_feed_6 : decode cX12_feed 6 = .ok (.ifCond .ne 9, 3) := by decide +kernel
theorem dX12_feed_9 : decode cX12_feed 9 = .ok (.aload_n 0, 1) := by decide +kernel
theorem dX12_feed_10 : decode cX12_feed 10 = .ok (.iconst 0, 1) := by decide +kernel
theorem dX12_feed_11 : decode cX12_feed 11 = .ok (.invokevirtual 52, 3) := by decide +kernel
theorem dX12_feed_14 : decode cX12_feed 14 = .ok (.ireturn, 1) := by decide +kernel
theorem dX12_feed_15 : decode cX12_feed 15 = .ok (.aload_n 0, 1) := by decide +kernel
theorem dX12_feed_16 : decode cX12_feed 16 = .ok (.getfield 110, 3) := by decide +kernel
theorem dX12_feed_19 : decode cX12_feed 19 = .ok (.iload_n 2, 1) := by decide +kernel
theorem dX12_feed_20 : decode cX12_feed 20 = .ok (.iadd, 1) := by decide +kernel
theorem dX12_feed_21 : decode cX12_feed 21 = .ok (.bipush 100, 2) := by decide +kernel
theorem dX12_feed_23 : decode cX12_feed 23 = .ok (.if_icmp .le 9, 3) := by decide +kernel
theorem dX12_feed_26 : decode cX12_feed 26 = .ok (.aload_n 0, 1) := by decide +kernel
theorem dX12_feed_27 : decode cX12_feed 27 = .ok (.iconst 1, 1) := by decide +kernel
theorem dX12_feed_28 : decode cX12_feed 28 = .ok (.invokevirtual 52, 3) := by decide +kernel
theorem dX12_feed_31 : decode cX12_feed 31 = .ok (.ireturn, 1) := by decide +kernel
theorem dX12_feed_32 : decode cX12_feed 32 = .ok (.iload_n 2, 1) := by decide +kernel
theorem dX12_feed_33 : decode cX12_feed 33 = .ok (.iconst 1, 1) := by decide +kernel
theorem dX12_feed_34 : decode cX12_feed 34 = .ok (.isub, 1) := by decide +kernel
theorem dX12_feed_35 : decode cX12_feed 35 = .ok (.istore_n 3, 1) := by decide +kernel
theorem dX12_feed_36 : decode cX12_feed 36 = .ok (.iload_n 3, 1) := by decide +kernel
theorem dX12_feed_37 : decode cX12_feed 37 = .ok (.ifCond .lt 38, 3) := by decide +kernel
theorem dX12_feed_40 : decode cX12_feed 40 = .ok (.aload_n 0, 1) := by decide +kernel
theorem dX12_feed_41 : decode cX12_feed 41 = .ok (.getfield 22, 3) := by decide +kernel
theorem dX12_feed_44 : decode cX12_feed 44 = .ok (.aload_n 0, 1) := by decide +kernel
theorem dX12_feed_45 : decode cX12_feed 45 = .ok (.getfield 110, 3) := by decide +kernel
theorem dX12_feed_48 : decode cX12_feed 48 = .ok (.iload_n 1, 1) := by decide +kernel
theorem dX12_feed_49 : decode cX12_feed 49 = .ok (.bipush 8, 2) := by decide +kernel
theorem dX12_feed_51 : decode cX12_feed 51 = .ok (.iload_n 3, 1) := by decide +kernel
theorem dX12_feed_52 : decode cX12_feed 52 = .ok (.imul, 1) := by decide +kernel
theorem dX12_feed_53 : decode cX12_feed 53 = .ok (.ishr, 1) := by decide +kernel
theorem dX12_feed_54 : decode cX12_feed 54 = .ok (.sipush 255, 3) := by decide +kernel
theorem dX12_feed_57 : decode cX12_feed 57 = .ok (.iand, 1) := by decide +kernel
theorem dX12_feed_58 : decode cX12_feed 58 = .ok (.iastore, 1) := by decide +kernel
theorem dX12_feed_59 : decode cX12_feed 59 = .ok (.aload_n 0, 1) := by decide +kernel
theorem dX12_feed_60 : decode cX12_feed 60 = .ok (.dup, 1) := by decide +kernel
theorem dX12_feed_61 : decode cX12_feed 61 = .ok (.getfield 110, 3) := by decide +kernel
theorem dX12_feed_64 : decode cX12_feed 64 = .ok (.iconst 1, 1) := by decide +kernel
theorem dX12_feed_65 : decode cX12_feed 65 = .ok (.iadd, 1) := by decide +kernel
theorem dX12_feed_66 : decode cX12_feed 66 = .ok (.putfield 110, 3) := by decide +kernel
theorem dX12_feed_69 : decode cX12_feed 69 = .ok (.iinc 3 (-1), 3) := by decide +kernel
theorem dX12_feed_72 : decode cX12_feed 72 = .ok (.goto (-36), 3) := by decide +kernel
theorem dX12_feed_75 : decode cX12_feed 75 = .ok (.aload_n 0, 1) := by decide +kernel
theorem dX12_feed_76 : decode cX12_feed 76 = .ok (.getfield 110, 3) := by decide +kernel
theorem dX12_feed_79 : decode cX12_feed 79 = .ok (.ireturn, 1) := by decide +kernel
theorem dX12_wipe_0 : decode cX12_wipe 0 = .ok (.aload_n 0, 1) := by decide +kernel
theorem dX12_wipe_1 : decode cX12_wipe 1 = .ok (.getfield 110, 3) := by decide +kernel
theorem dX12_wipe_4 : decode cX12_wipe 4 = .ok (.istore_n 1, 1) := by decide +kernel
theorem dX12_wipe_5 : decode cX12_wipe 5 = .ok (.aload_n 0, 1) := by decide +kernel
theorem dX12_wipe_6 : decode cX12_wipe 6 = .ok (.iconst 0, 1) := by decide +kernel
theorem dX12_wipe_7 : decode cX12_wipe 7 = .ok (.putfield 110, 3) := by decide +kernel
theorem dX12_wipe_10 : decode cX12_wipe 10 = .ok (.iload_n 1, 1) := by decide +kernel
theorem dX12_wipe_11 : decode cX12_wipe 11 = .ok (.ireturn, 1) := by decide +kernel
theorem dX12_byteAt_0 : decode cX12_byteAt 0 = .ok (.iload_n 1, 1) := by decide +kernel
theorem dX12_byteAt_1 : decode cX12_byteAt 1 = .ok (.aload_n 0, 1) := by decide +kernel
theorem dX12_byteAt_2 : decode cX12_byteAt 2 = .ok (.getfield 110, 3) := by decide +kernel
theorem dX12_byteAt_5 : decode cX12_byteAt 5 = .ok (.if_icmp .ge 12, 3) := by decide +kernel
theorem dX12_byteAt_8 : decode cX12_byteAt 8 = .ok (.aload_n 0, 1) := by decide +kernel
theorem dX12_byteAt_9 : decode cX12_byteAt 9 = .ok (.getfield 22, 3) := by decide +kernel
theorem dX12_byteAt_12 : decode cX12_byteAt 12 = .ok (.iload_n 1, 1) := by decide +kernel
theorem dX12_byteAt_13 : decode cX12_byteAt 13 = .ok (.iaload, 1) := by decide +kernel
theorem dX12_byteAt_14 : decode cX12_byteAt 14 = .ok (.goto 4, 3) := by decide +kernel
theorem dX12_byteAt_17 : decode cX12_byteAt 17 = .ok (.iconst (-1), 1) := by decide +kernel
theorem dX12_byteAt_18 : decode cX12_byteAt 18 = .ok (.ireturn, 1) := by decide +kernel
set_option maxRecDepth 20000 in
theorem ggX12_next_X12_byteAt : GoodIn wsX12_next wsX12_byteAt := goodIn_r _ [9, 10, 11, 15, 16, 17, 18, 19, 20, 21, 22, 23, 24, 25, 26, 27, 28, 29, 30, 31, 32, 33] (by decide +kernel) (by decide +kernel)
set_option maxRecDepth 20000 in
theorem gX12_next_X12_byteAt : GoodIn wsX12_next (wsV RX12 116 RX12 yX12_byteAt wsX12_byteAt) := goodIn_app (goodIn_of _ (by decide +kernel)) ggX12_next_X12_byteAt
set_option maxRecDepth 20000 in
theorem ggX12_next_X12_in : GoodIn wsX12_next wsX12_in := goodIn_r _ [14] (by decide +kernel) (by decide +kernel)
set_option maxRecDepth 20000 in
theorem gX12_next_X12_in : GoodIn wsX12_next (va_wsS RX12 48 yX12_in wsX12_in) := goodIn_app (goodIn_of _ (by decide +kernel)) ggX12_next_X12_in
theorem dX12_next_0 : decode cX12_next 0 = .ok (.aload_n 0, 1) := by decide +kernel
theorem dX12_next_1 : decode cX12_next 1 = .ok (.aload_n 0, 1) := by decide +kernel
theorem dX12_next_2 : decode cX12_next 2 = .ok (.getfield 113, 3) := by decide +kernel
theorem dX12_next_5 : decode cX12_next 5 = .ok (.invokevirtual 116, 3) := by decide +kernel
theorem dX12_next_8 : decode cX12_next 8 = .ok (.bipush 32, 2) := by decide +kernel
theorem dX12_next_10 : decode cX12_next 10 = .ok (.if_icmp .ne 16, 3) := by decide +kernel
theorem dX12_next_13 : decode cX12_next 13 = .ok (.aload_n 0, 1) := by decide +kernel
theorem dX12_next_14 : decode cX12_next 14 = .ok (.dup, 1) := by decide +kernel
theorem dX12_next_15 : decode cX12_next 15 = .ok (.getfield 113, 3) := by decide +kernel
theorem dX12_next_18 : decode cX12_next 18 = .ok (.iconst 1, 1) := by decide +kernel
theorem dX12_next_19 : decode cX12_next 19 = .ok (.iadd, 1) := by decide +kernel
theorem dX12_next_20 : decode cX12_next 20 = .ok (.putfield 113, 3) := by decide +kernel
theorem dX12_next_23 : decode cX12_next 23 = .ok (.goto (-23), 3) := by decide +kernel
theorem dX12_next_26 : decode cX12_next 26 = .ok (.aload_n 0, 1) := by decide +kernel
theorem dX12_next_27 : decode cX12_next 27 = .ok (.aload_n 0, 1) := by decide +kernel
theorem dX12_next_28 : decode cX12_next 28 = .ok (.getfield 113, 3) := by decide +kernel
theorem dX12_next_31 : decode cX12_next 31 = .ok (.putfield 119, 3) := by decide +kernel
theorem dX12_next_34 : decode cX12_next 34 = .ok (.aload_n 0, 1) := by decide +kernel
theorem dX12_next_35 : decode cX12_next 35 = .ok (.aload_n 0, 1) := by decide +kernel
theorem dX12_next_36 : decode cX12_next 36 = .ok (.getfield 113, 3) := by decide +kernel
theorem dX12_next_39 : decode cX12_next 39 = .ok (.invokevirtual 116, 3) := by decide +kernel
theorem dX12_next_42 : decode cX12_next 42 = .ok (.istore_n 1, 1) := by decide +kernel
theorem dX12_next_43 : decode cX12_next 43 = .ok (.iload_n 1, 1) := by decide +kernel
theorem dX12_next_44 : decode cX12_next 44 = .ok (.ifCond .ge 11, 3) := by decide +kernel
theorem dX12_next_47 : decode cX12_next 47 = .ok (.aload_n 0, 1) := by decide +kernel
theorem dX12_next_48 : decode cX12_next 48 = .ok (.iconst 0, 1) := by decide +kernel
theorem dX12_next_49 : decode cX12_next 49 = .ok (.putfield 122, 3) := by decide +kernel
theorem dX12_next_52 : decode cX12_next 52 = .ok (.goto 167, 3) := by decide +kernel
theorem dX12_next_55 : decode cX12_next 55 = .ok (.iload_n 1, 1) := by decide +kernel
theorem dX12_next_56 : decode cX12_next 56 = .ok (.bipush 97, 2) := by decide +kernel
theorem dX12_next_58 : decode cX12_next 58 = .ok (.bipush 122, 2) := by decide +kernel
theorem dX12_next_60 : decode cX12_next 60 = .ok (.invokestatic 48, 3) := by decide +kernel
theorem dX12_next_63 : decode cX12_next 63 = .ok (.ifCond .eq 39, 3) := by decide +kernel
theorem dX12_next_66 : decode cX12_next 66 = .ok (.aload_n 0, 1) := by decide +kernel
theorem dX12_next_67 : decode cX12_next 67 = .ok (.iconst 1, 1) := by decide +kernel
theorem dX12_next_68 : decode cX12_next 68 = .ok (.putfield 122, 3) := by decide +kernel
theorem dX12_next_71 : decode cX12_next 71 = .ok (.aload_n 0, 1) := by decide +kernel
theorem dX12_next_72 : decode cX12_next 72 = .ok (.aload_n 0, 1) := by decide +kernel
theorem dX12_next_73 : decode cX12_next 73 = .ok (.getfield 113, 3) := by decide +kernel
theorem dX12_next_76 : decode cX12_next 76 = .ok (.invokevirtual 116, 3) := by decide +kernel
theorem dX12_next_79 : decode cX12_next 79 = .ok (.bipush 97, 2) := by decide +kernel
theorem dX12_next_81 : decode cX12_next 81 = .ok (.bipush 122, 2) := by decide +kernel
theorem dX12_next_83 : decode cX12_next 83 = .ok (.invokestatic 48, 3) := by decide +kernel
theorem dX12_next_86 : decode cX12_next 86 = .ok (.ifCond .eq 133, 3) := by decide +kernel
theorem dX12_next_89 : decode cX12_next 89 = .ok (.aload_n 0, 1) := by decide +kernel
theorem dX12_next_90 : decode cX12_next 90 = .ok (.dup, 1) := by decide +kernel
theorem dX12_next_91 : decode cX12_next 91 = .ok (.getfield 113, 3) := by decide +kernel
theorem dX12_next_94 : decode cX12_next 94 = .ok (.iconst 1, 1) := by decide +kernel
theorem dX12_next_95 : decode cX12_next 95 = .ok (.iadd, 1) := by decide +kernel
theorem dX12_next_96 : decode cX12_next 96 = .ok (.putfield 113, 3) := by decide +kernel
theorem dX12_next_99 : decode cX12_next 99 = .ok (.goto (-28), 3) := by decide +kernel
theorem dX12_next_102 : decode cX12_next 102 = .ok (.iload_n 1, 1) := by decide +kernel
theorem dX12_next_103 : decode cX12_next 103 = .ok (.bipush 48, 2) := by decide +kernel
theorem dX12_next_105 : decode cX12_next 105 = .ok (.bipush 57, 2) := by decide +kernel
theorem dX12_next_107 : decode cX12_next 107 = .ok (.invokestatic 48, 3) := by decide +kernel
theorem dX12_next_110 : decode cX12_next 110 = .ok (.ifCond .eq 84, 3) := by decide +kernel
theorem dX12_next_113 : decode cX12_next 113 = .ok (.aload_n 0, 1) := by decide +kernel
theorem dX12_next_114 : decode cX12_next 114 = .ok (.iconst 2, 1) := by decide +kernel
theorem dX12_next_115 : decode cX12_next 115 = .ok (.putfield 122, 3) := by decide +kernel
theorem dX12_next_118 : decode cX12_next 118 = .ok (.aload_n 0, 1) := by decide +kernel
theorem dX12_next_119 : decode cX12_next 119 = .ok (.iconst 0, 1) := by decide +kernel
theorem dX12_next_120 : decode cX12_next 120 = .ok (.putfield 125, 3) := by decide +kernel
theorem dX12_next_123 : decode cX12_next 123 = .ok (.aload_n 0, 1) := by decide +kernel
theorem dX12_next_124 : decode cX12_next 124 = .ok (.aload_n 0, 1) := by decide +kernel
theorem dX12_next_125 : decode cX12_next 125 = .ok (.getfield 113, 3) := by decide +kernel
theorem dX12_next_128 : decode cX12_next 128 = .ok (.invokevirtual 116, 3) := by decide +kernel
theorem dX12_next_131 : decode cX12_next 131 = .ok (.bipush 48, 2) := by decide +kernel
theorem dX12_next_133 : decode cX12_next 133 = .ok (.bipush 57, 2) := by decide +kernel
theorem dX12_next_135 : decode cX12_next 135 = .ok (.invokestatic 48, 3) := by decide +kernel
theorem dX12_next_138 : decode cX12_next 138 = .ok (.ifCond .eq 81, 3) := by decide +kernel
theorem dX12_next_141 : decode cX12_next 141 = .ok (.aload_n 0, 1) := by decide +kernel
theorem dX12_next_142 : decode cX12_next 142 = .ok (.aload_n 0, 1) := by decide +kernel
theorem dX12_next_143 : decode cX12_next 143 = .ok (.getfield 125, 3) := by decide +kernel
theorem dX12_next_146 : decode cX12_next 146 = .ok (.sipush 999, 3) := by decide +kernel
theorem dX12_next_149 : decode cX12_next 149 = .ok (.if_icmp .le 10, 3) := by decide +kernel
theorem dX12_next_152 : decode cX12_next 152 = .ok (.aload_n 0, 1) := by decide +kernel
theorem dX12_next_153 : decode cX12_next 153 = .ok (.getfield 125, 3) := by decide +kernel
theorem dX12_next_156 : decode cX12_next 156 = .ok (.goto 22, 3) := by decide +kernel
theorem dX12_next_159 : decode cX12_next 159 = .ok (.bipush 10, 2) := by decide +kernel
theorem dX12_next_161 : decode cX12_next 161 = .ok (.aload_n 0, 1) := by decide +kernel
theorem dX12_next_162 : decode cX12_next 162 = .ok (.getfield 125, 3) := by decide +kernel
theorem dX12_next_165 : decode cX12_next 165 = .ok (.imul, 1) := by decide +kernel
theorem dX12_next_166 : decode cX12_next 166 = .ok (.aload_n 0, 1) := by decide +kernel
theorem dX12_next_167 : decode cX12_next 167 = .ok (.aload_n 0, 1) := by decide +kernel
theorem dX12_next_168 : decode cX12_next 168 = .ok (.getfield 113, 3) := by decide +kernel
theorem dX12_next_171 : decode cX12_next 171 = .ok (.invokevirtual 116, 3) := by decide +kernel
theorem dX12_next_174 : decode cX12_next 174 = .ok (.iadd, 1) := by decide +kernel
theorem dX12_next_175 : decode cX12_next 175 = .ok (.bipush 48, 2) := by decide +kernel
theorem dX12_next_177 : decode cX12_next 177 = .ok (.isub, 1) := by decide +kernel
theorem dX12_next_178 : decode cX12_next 178 = .ok (.putfield 125, 3) := by decide +kernel
theorem dX12_next_181 : decode cX12_next 181 = .ok (.aload_n 0, 1) := by decide +kernel
theorem dX12_next_182 : decode cX12_next 182 = .ok (.dup, 1) := by decide +kernel
theorem dX12_next_183 : decode cX12_next 183 = .ok (.getfield 113, 3) := by decide +kernel
theorem dX12_next_186 : decode cX12_next 186 = .ok (.iconst 1, 1) := by decide +kernel
theorem dX12_next_187 : decode cX12_next 187 = .ok (.iadd, 1) := by decide +kernel
theorem dX12_next_188 : decode cX12_next 188 = .ok (.putfield 113, 3) := by decide +kernel
theorem dX12_next_191 : decode cX12_next 191 = .ok (.goto (-68), 3) := by decide +kernel
theorem dX12_next_194 : decode cX12_next 194 = .ok (.aload_n 0, 1) := by decide +kernel
theorem dX12_next_195 : decode cX12_next 195 = .ok (.iload_n 1, 1) := by decide +kernel
theorem dX12_next_196 : decode cX12_next 196 = .ok (.bipush 59, 2) := by decide +kernel
theorem dX12_next_198 : decode cX12_next 198 = .ok (.if_icmp .ne 7, 3) := by decide +kernel
theorem dX12_next_201 : decode cX12_next 201 = .ok (.iconst 3, 1) := by decide +kernel
theorem dX12_next_202 : decode cX12_next 202 = .ok (.goto 4, 3) := by decide +kernel
theorem dX12_next_205 : decode cX12_next 205 = .ok (.iconst 4, 1) := by decide +kernel
theorem dX12_next_206 : decode cX12_next 206 = .ok (.putfield 122, 3) := by decide +kernel
theorem dX12_next_209 : decode cX12_next 209 = .ok (.aload_n 0, 1) := by decide +kernel
theorem dX12_next_210 : decode cX12_next 210 = .ok (.dup, 1) := by decide +kernel
theorem dX12_next_211 : decode cX12_next 211 = .ok (.getfield 113, 3) := by decide +kernel
theorem dX12_next_214 : decode cX12_next 214 = .ok (.iconst 1, 1) := by decide +kernel
theorem dX12_next_215 : decode cX12_next 215 = .ok (.iadd, 1) := by decide +kernel
theorem dX12_next_216 : decode cX12_next 216 = .ok (.putfield 113, 3) := by decide +kernel
theorem dX12_next_219 : decode cX12_next 219 = .ok (.return_, 1) := by decide +kernel
set_option maxRecDepth 20000 in
theorem ggX12_isWord_J0_length_8abf5 : GoodIn wsX12_isWord wsJ0_length_8abf5 := goodIn_r _ [9, 10, 11, 12, 13, 8, 14, 15, 16] (by decide +kernel) (by decide +kernel)
set_option maxRecDepth 20000 in
theorem gX12_isWord_J0_length_8abf5 : GoodIn wsX12_isWord (wsV RX12 128 RJ0 yJ0_length_8abf5 wsJ0_length_8abf5) := goodIn_app (goodIn_of _ (by decide +kernel)) ggX12_isWord_J0_length_8abf5
set_option maxRecDepth 20000 in
theorem ggX12_isWord_J0_charAt_5068e : GoodIn wsX12_isWord wsJ0_charAt_5068e := goodIn_r _ [20, 10, 21, 22, 23, 8, 24, 15, 16, 25, 26, 27, 28, 29, 30, 31, 32, 33, 34, 35, 36, 37, 38, 39, 40, 41, 42, 43, 44, 45, 46, 47, 48, 49, 50, 51, 52, 53] (by decide +kernel) (by decide +kernel)
set_option maxRecDepth 20000 in
theorem gX12_isWord_J0_charAt_5068e : GoodIn wsX12_isWord (wsV RX12 133 RJ0 yJ0_charAt_5068e wsJ0_charAt_5068e) := goodIn_app (goodIn_of _ (by decide +kernel)) ggX12_isWord_J0_charAt_5068e
theorem dX12_isWord_0 : decode cX12_isWord 0 = .ok (.aload_n 0, 1) := by decide +kernel
theorem dX12_isWord_1 : decode cX12_isWord 1 = .ok (.getfield 122, 3) := by decide +kernel
theorem dX12_isWord_4 : decode cX12_isWord 4 = .ok (.iconst 1, 1) := by decide +kernel
theorem dX12_isWord_5 : decode cX12_isWord 5 = .ok (.if_icmp .ne 23, 3) := by decide +kernel
theorem dX12_isWord_8 : decode cX12_isWord 8 = .ok (.aload_n 0, 1) := by decide +kernel
theorem dX12_isWord_9 : decode cX12_isWord 9 = .ok (.getfield 113, 3) := by decide +kernel
theorem dX12_isWord_12 : decode cX12_isWord 12 = .ok (.aload_n 0, 1) := by decide +kernel
theorem dX12_isWord_13 : decode cX12_isWord 13 = .ok (.getfield 119, 3) := by decide +kernel
theorem dX12_isWord_16 : decode cX12_isWord 16 = .ok (.isub, 1) := by decide +kernel
theorem dX12_isWord_17 : decode cX12_isWord 17 = .ok (.aload_n 1, 1) := by decide +kernel
theorem dX12_isWord_18 : decode cX12_isWord 18 = .ok (.invokevirtual 128, 3) := by decide +kernel
theorem dX12_isWord_21 : decode cX12_isWord 21 = .ok (.if_icmp .ne 7, 3) := by decide +kernel
theorem dX12_isWord_24 : decode cX12_isWord 24 = .ok (.iconst 1, 1) := by decide +kernel
theorem dX12_isWord_25 : decode cX12_isWord 25 = .ok (.goto 4, 3) := by decide +kernel
theorem dX12_isWord_28 : decode cX12_isWord 28 = .ok (.iconst 0, 1) := by decide +kernel
theorem dX12_isWord_29 : decode cX12_isWord 29 = .ok (.istore_n 2, 1) := by decide +kernel
theorem dX12_isWord_30 : decode cX12_isWord 30 = .ok (.iconst 0, 1) := by decide +kernel
theorem dX12_isWord_31 : decode cX12_isWord 31 = .ok (.istore_n 3, 1) := by decide +kernel
theorem dX12_isWord_32 : decode cX12_isWord 32 = .ok (.iload_n 3, 1) := by decide +kernel
theorem dX12_isWord_33 : decode cX12_isWord 33 = .ok (.aload_n 1, 1) := by decide +kernel
theorem dX12_isWord_34 : decode cX12_isWord 34 = .ok (.invokevirtual 128, 3) := by decide +kernel
theorem dX12_isWord_37 : decode cX12_isWord 37 = .ok (.if_icmp .ge 38, 3) := by decide +kernel
theorem dX12_isWord_40 : decode cX12_isWord 40 = .ok (.iload_n 2, 1) := by decide +kernel
theorem dX12_isWord_41 : decode cX12_isWord 41 = .ok (.ifCond .eq 34, 3) := by decide +kernel
theorem dX12_isWord_44 : decode cX12_isWord 44 = .ok (.aload_n 0, 1) := by decide +kernel
theorem dX12_isWord_45 : decode cX12_isWord 45 = .ok (.getfield 22, 3) := by decide +kernel
theorem dX12_isWord_48 : decode cX12_isWord 48 = .ok (.aload_n 0, 1) := by decide +kernel
theorem dX12_isWord_49 : decode cX12_isWord 49 = .ok (.getfield 119, 3) := by decide +kernel
theorem dX12_isWord_52 : decode cX12_isWord 52 = .ok (.iload_n 3, 1) := by decide +kernel
theorem dX12_isWord_53 : decode cX12_isWord 53 = .ok (.iadd, 1) := by decide +kernel
theorem dX12_isWord_54 : decode cX12_isWord 54 = .ok (.iaload, 1) := by decide +kernel
theorem dX12_isWord_55 : decode cX12_isWord 55 = .ok (.aload_n 1, 1) := by decide +kernel
theorem dX12_isWord_56 : decode cX12_isWord 56 = .ok (.iload_n 3, 1) := by decide +kernel
theorem dX12_isWord_57 : decode cX12_isWord 57 = .ok (.invokevirtual 133, 3) := by decide +kernel
theorem dX12_isWord_60 : decode cX12_isWord 60 = .ok (.if_icmp .ne 7, 3) := by decide +kernel
theorem dX12_isWord_63 : decode cX12_isWord 63 = .ok (.iconst 1, 1) := by decide +kernel
theorem dX12_isWord_64 : decode cX12_isWord 64 = .ok (.goto 4, 3) := by decide +kernel
theorem dX12_isWord_67 : decode cX12_isWord 67 = .ok (.iconst 0, 1) := by decide +kernel
theorem dX12_isWord_68 : decode cX12_isWord 68 = .ok (.istore_n 2, 1) := by decide +kernel
theorem dX12_isWord_69 : decode cX12_isWord 69 = .ok (.iinc 3 1, 3) := by decide +kernel
theorem dX12_isWord_72 : decode cX12_isWord 72 = .ok (.goto (-40), 3) := by decide +kernel
theorem dX12_isWord_75 : decode cX12_isWord 75 = .ok (.iload_n 2, 1) := by decide +kernel
theorem dX12_isWord_76 : decode cX12_isWord 76 = .ok (.ireturn, 1) := by decide +kernel
set_option maxRecDepth 20000 in
theorem ggX12_takes_X12_isWord : GoodIn wsX12_takes wsX12_isWord := goodIn_r _ [5, 6, 7, 8, 9, 10, 11, 12, 13, 14, 15, 16, 17, 18, 19, 20, 21, 22, 23, 24, 25, 26, 27, 28, 29, 30, 31, 32, 33, 34, 35, 36, 37, 38, 39, 40, 41, 42, 43, 44, 45, 46, 47, 48, 49, 50, 51, 52, 53, 54, 55, 56, 57, 58, 72, 73, 74, 75, 76, 77, 78, 79, 80, 81, 82, 83, 84, 85, 86, 87, 88, 89, 90] (by decide +kernel) (by decide +kernel)
set_option maxRecDepth 20000 in
theorem gX12_takes_X12_isWord : GoodIn wsX12_takes (wsV RX12 137 RX12 yX12_isWord wsX12_isWord) := goodIn_app (goodIn_of _ (by decide +kernel)) ggX12_takes_X12_isWord
set_option maxRecDepth 20000 in
theorem ggX12_takes_X12_next : GoodIn wsX12_takes wsX12_next := goodIn_r _ [62, 7, 8, 6, 63, 64, 65, 66, 4, 67, 68, 9, 69, 70, 71, 72, 73, 74, 75, 76, 77, 78, 79, 80, 81, 82, 83, 84, 85, 86, 87, 88, 89, 90] (by decide +kernel) (by decide +kernel)
set_option maxRecDepth 20000 in
theorem gX12_takes_X12_next : GoodIn wsX12_takes (wsV RX12 141 RX12 yX12_next wsX12_next) := goodIn_app (goodIn_of _ (by decide +kernel)) ggX12_takes_X12_next
theorem dX12_takes_0 : decode cX12_takes 0 = .ok (.aload_n 0, 1) := by decide +kernel
theorem dX12_takes_1 : decode cX12_takes 1 = .ok (.aload_n 1, 1) := by decide +kernel
theorem dX12_takes_2 : decode cX12_takes 2 = .ok (.invokevirtual 137, 3) := by decide +kernel
theorem dX12_takes_5 : decode cX12_takes 5 = .ok (.ifCond .ne 5, 3) := by decide +kernel
theorem dX12_takes_8 : decode cX12_takes 8 = .ok (.iconst 0, 1) := by decide +kernel
theorem dX12_takes_9 : decode cX12_takes 9 = .ok (.ireturn, 1) := by decide +kernel
theorem dX12_takes_10 : decode cX12_takes 10 = .ok (.aload_n 0, 1) := by decide +kernel
theorem dX12_takes_11 : decode cX12_takes 11 = .ok (.invokevirtual 141, 3) := by decide +kernel
theorem dX12_takes_14 : decode cX12_takes 14 = .ok (.iconst 1, 1) := by decide +kernel
theorem dX12_takes_15 : decode cX12_takes 15 = .ok (.ireturn, 1) := by decide +kernel
theorem dX12_lays_0 : decode cX12_lays 0 = .ok (.aload_n 0, 1) := by decide +kernel
theorem dX12_lays_1 : decode cX12_lays 1 = .ok (.getfield 25, 3) := by decide +kernel
theorem dX12_lays_4 : decode cX12_lays 4 = .ok (.iconst 2, 1) := by decide +kernel
theorem dX12_lays_5 : decode cX12_lays 5 = .ok (.aload_n 0, 1) := by decide +kernel
theorem dX12_lays_6 : decode cX12_lays 6 = .ok (.getfield 144, 3) := by decide +kernel
theorem dX12_lays_9 : decode cX12_lays 9 = .ok (.imul, 1) := by decide +kernel
theorem dX12_lays_10 : decode cX12_lays 10 = .ok (.iload_n 1, 1) := by decide +kernel
theorem dX12_lays_11 : decode cX12_lays 11 = .ok (.iastore, 1) := by decide +kernel
theorem dX12_lays_12 : decode cX12_lays 12 = .ok (.aload_n 0, 1) := by decide +kernel
theorem dX12_lays_13 : decode cX12_lays 13 = .ok (.getfield 25, 3) := by decide +kernel
theorem dX12_lays_16 : decode cX12_lays 16 = .ok (.iconst 2, 1) := by decide +kernel
theorem dX12_lays_17 : decode cX12_lays 17 = .ok (.aload_n 0, 1) := by decide +kernel
theorem dX12_lays_18 : decode cX12_lays 18 = .ok (.getfield 144, 3) := by decide +kernel
theorem dX12_lays_21 : decode cX12_lays 21 = .ok (.imul, 1) := by decide +kernel
theorem dX12_lays_22 : decode cX12_lays 22 = .ok (.iconst 1, 1) := by decide +kernel
theorem dX12_lays_23 : decode cX12_lays 23 = .ok (.iadd, 1) := by decide +kernel
theorem dX12_lays_24 : decode cX12_lays 24 = .ok (.iload_n 2, 1) := by decide +kernel
theorem dX12_lays_25 : decode cX12_lays 25 = .ok (.iastore, 1) := by decide +kernel
theorem dX12_lays_26 : decode cX12_lays 26 = .ok (.aload_n 0, 1) := by decide +kernel
theorem dX12_lays_27 : decode cX12_lays 27 = .ok (.dup, 1) := by decide +kernel
theorem dX12_lays_28 : decode cX12_lays 28 = .ok (.getfield 144, 3) := by decide +kernel
theorem dX12_lays_31 : decode cX12_lays 31 = .ok (.iconst 1, 1) := by decide +kernel
theorem dX12_lays_32 : decode cX12_lays 32 = .ok (.iadd, 1) := by decide +kernel
theorem dX12_lays_33 : decode cX12_lays 33 = .ok (.putfield 144, 3) := by decide +kernel
theorem dX12_lays_36 : decode cX12_lays 36 = .ok (.return_, 1) := by decide +kernel
set_option maxRecDepth 20000 in
theorem ggX12_takesNumber_X12_in : GoodIn wsX12_takesNumber wsX12_in := goodIn_r _ [6] (by decide +kernel) (by decide +kernel)
set_option maxRecDepth 20000 in
theorem gX12_takesNumber_X12_in : GoodIn wsX12_takesNumber (va_wsS RX12 48 yX12_in wsX12_in) := goodIn_app (goodIn_of _ (by decide +kernel)) ggX12_takesNumber_X12_in
set_option maxRecDepth 20000 in
theorem ggX12_takesNumber_X12_lays : GoodIn wsX12_takesNumber wsX12_lays := goodIn_r _ [10, 11, 12, 25, 26, 27, 28, 29, 30, 31, 32, 33, 34, 35, 36, 37, 38, 39, 40, 41, 42, 43] (by decide +kernel) (by decide +kernel)
set_option maxRecDepth 20000 in
theorem gX12_takesNumber_X12_lays : GoodIn wsX12_takesNumber (wsV RX12 147 RX12 yX12_lays wsX12_lays) := goodIn_app (goodIn_of _ (by decide +kernel)) ggX12_takesNumber_X12_lays
set_option maxRecDepth 20000 in
theorem ggX12_takesNumber_X12_next : GoodIn wsX12_takesNumber wsX12_next := goodIn_r _ [16, 17, 18, 1, 2, 19, 20, 21, 5, 22, 23, 24, 3, 4, 6, 25, 26, 27, 28, 29, 30, 31, 32, 33, 34, 35, 36, 37, 38, 39, 40, 41, 42, 43] (by decide +kernel) (by decide +kernel)
set_option maxRecDepth 20000 in
theorem gX12_takesNumber_X12_next : GoodIn wsX12_takesNumber (wsV RX12 141 RX12 yX12_next wsX12_next) := goodIn_app (goodIn_of _ (by decide +kernel)) ggX12_takesNumber_X12_next
theorem dX12_takesNumber_0 : decode cX12_takesNumber 0 = .ok (.aload_n 0, 1) := by decide +kernel
theorem dX12_takesNumber_1 : decode cX12_takesNumber 1 = .ok (.getfield 122, 3) := by decide +kernel
theorem dX12_takesNumber_4 : decode cX12_takesNumber 4 = .ok (.iconst 2, 1) := by decide +kernel
theorem dX12_takesNumber_5 : decode cX12_takesNumber 5 = .ok (.if_icmp .ne 15, 3) := by decide +kernel
theorem dX12_takesNumber_8 : decode cX12_takesNumber 8 = .ok (.aload_n 0, 1) := by decide +kernel
theorem dX12_takesNumber_9 : decode cX12_takesNumber 9 = .ok (.getfield 125, 3) := by decide +kernel
theorem dX12_takesNumber_12 : decode cX12_takesNumber 12 = .ok (.iload_n 2, 1) := by decide +kernel
theorem dX12_takesNumber_13 : decode cX12_takesNumber 13 = .ok (.iload_n 3, 1) := by decide +kernel
theorem dX12_takesNumber_14 : decode cX12_takesNumber 14 = .ok (.invokestatic 48, 3) := by decide +kernel
theorem dX12_takesNumber_17 : decode cX12_takesNumber 17 = .ok (.ifCond .ne 5, 3) := by decide +kernel
theorem dX12_takesNumber_20 : decode cX12_takesNumber 20 = .ok (.iconst 0, 1) := by decide +kernel
theorem dX12_takesNumber_21 : decode cX12_takesNumber 21 = .ok (.ireturn, 1) := by decide +kernel
theorem dX12_takesNumber_22 : decode cX12_takesNumber 22 = .ok (.aload_n 0, 1) := by decide +kernel
theorem dX12_takesNumber_23 : decode cX12_takesNumber 23 = .ok (.iload_n 1, 1) := by decide +kernel
theorem dX12_takesNumber_24 : decode cX12_takesNumber 24 = .ok (.aload_n 0, 1) := by decide +kernel
theorem dX12_takesNumber_25 : decode cX12_takesNumber 25 = .ok (.getfield 125, 3) := by decide +kernel
theorem dX12_takesNumber_28 : decode cX12_takesNumber 28 = .ok (.invokevirtual 147, 3) := by decide +kernel
theorem dX12_takesNumber_31 : decode cX12_takesNumber 31 = .ok (.aload_n 0, 1) := by decide +kernel
theorem dX12_takesNumber_32 : decode cX12_takesNumber 32 = .ok (.invokevirtual 141, 3) := by decide +kernel
theorem dX12_takesNumber_35 : decode cX12_takesNumber 35 = .ok (.iconst 1, 1) := by decide +kernel
theorem dX12_takesNumber_36 : decode cX12_takesNumber 36 = .ok (.ireturn, 1) := by decide +kernel
set_option maxRecDepth 20000 in
theorem ggX12_takesEither_X12_isWord : GoodIn wsX12_takesEither wsX12_isWord := goodIn_r _ [5, 6, 7, 8, 9, 10, 11, 12, 13, 14, 15, 16, 17, 18, 19, 20, 21, 22, 23, 24, 25, 26, 27, 28, 29, 30, 31, 32, 33, 34, 35, 36, 37, 38, 39, 40, 41, 42, 43, 44, 45, 46, 47, 48, 49, 50, 51, 52, 53, 54, 55, 56, 57, 58, 78, 79, 80, 81, 82, 83, 84, 85, 86, 87, 88, 89, 90, 91, 92, 93, 94, 95, 96] (by decide +kernel) (by decide +kernel)
set_option maxRecDepth 20000 in
theorem gX12_takesEither_X12_isWord : GoodIn wsX12_takesEither (wsV RX12 137 RX12 yX12_isWord wsX12_isWord) := goodIn_app (goodIn_of _ (by decide +kernel)) ggX12_takesEither_X12_isWord
set_option maxRecDepth 20000 in
theorem ggX12_takesEither_X12_lays : GoodIn wsX12_takesEither wsX12_lays := goodIn_r _ [62, 63, 64, 78, 79, 80, 81, 82, 83, 84, 85, 86, 87, 88, 89, 90, 91, 92, 93, 94, 95, 96] (by decide +kernel) (by decide +kernel)
set_option maxRecDepth 20000 in
theorem gX12_takesEither_X12_lays : GoodIn wsX12_takesEither (wsV RX12 147 RX12 yX12_lays wsX12_lays) := goodIn_app (goodIn_of _ (by decide +kernel)) ggX12_takesEither_X12_lays
set_option maxRecDepth 20000 in
theorem ggX12_takesEither_X12_next : GoodIn wsX12_takesEither wsX12_next := goodIn_r _ [68, 7, 8, 6, 69, 70, 71, 72, 4, 73, 74, 9, 75, 76, 77, 78, 79, 80, 81, 82, 83, 84, 85, 86, 87, 88, 89, 90, 91, 92, 93, 94, 95, 96] (by decide +kernel) (by decide +kernel)
set_option maxRecDepth 20000 in
theorem gX12_takesEither_X12_next : GoodIn wsX12_takesEither (wsV RX12 141 RX12 yX12_next wsX12_next) := goodIn_app (goodIn_of _ (by decide +kernel)) ggX12_takesEither_X12_next
theorem dX12_takesEither_0 : decode cX12_takesEither 0 = .ok (.aload_n 0, 1) := by decide +kernel
theorem dX12_takesEither_1 : decode cX12_takesEither 1 = .ok (.aload_n 2, 1) := by decide +kernel
theorem dX12_takesEither_2 : decode cX12_takesEither 2 = .ok (.invokevirtual 137, 3) := by decide +kernel
theorem dX12_takesEither_5 : decode cX12_takesEither 5 = .ok (.istore 4, 2) := by decide +kernel
theorem dX12_takesEither_7 : decode cX12_takesEither 7 = .ok (.iload 4, 2) := by decide +kernel
theorem dX12_takesEither_9 : decode cX12_takesEither 9 = .ok (.ifCond .ne 13, 3) := by decide +kernel
theorem dX12_takesEither_12 : decode cX12_takesEither 12 = .ok (.aload_n 0, 1) := by decide +kernel
theorem dX12_takesEither_13 : decode cX12_takesEither 13 = .ok (.aload_n 3, 1) := by decide +kernel
theorem dX12_takesEither_14 : decode cX12_takesEither 14 = .ok (.invokevirtual 137, 3) := by decide +kernel
theorem dX12_takesEither_17 : decode cX12_takesEither 17 = .ok (.ifCond .ne 5, 3) := by decide +kernel
theorem dX12_takesEither_20 : decode cX12_takesEither 20 = .ok (.iconst 0, 1) := by decide +kernel
theorem dX12_takesEither_21 : decode cX12_takesEither 21 = .ok (.ireturn, 1) := by decide +kernel
theorem dX12_takesEither_22 : decode cX12_takesEither 22 = .ok (.aload_n 0, 1) := by decide +kernel
theorem dX12_takesEither_23 : decode cX12_takesEither 23 = .ok (.iload_n 1, 1) := by decide +kernel
theorem dX12_takesEither_24 : decode cX12_takesEither 24 = .ok (.iload 4, 2) := by decide +kernel
theorem dX12_takesEither_26 : decode cX12_takesEither 26 = .ok (.ifCond .eq 7, 3) := by decide +kernel
theorem dX12_takesEither_29 : decode cX12_takesEither 29 = .ok (.iconst 1, 1) := by decide +kernel
theorem dX12_takesEither_30 : decode cX12_takesEither 30 = .ok (.goto 4, 3) := by decide +kernel
theorem dX12_takesEither_33 : decode cX12_takesEither 33 = .ok (.iconst 0, 1) := by decide +kernel
theorem dX12_takesEither_34 : decode cX12_takesEither 34 = .ok (.invokevirtual 147, 3) := by decide +kernel
theorem dX12_takesEither_37 : decode cX12_takesEither 37 = .ok (.aload_n 0, 1) := by decide +kernel
theorem dX12_takesEither_38 : decode cX12_takesEither 38 = .ok (.invokevirtual 141, 3) := by decide +kernel
theorem dX12_takesEither_41 : decode cX12_takesEither 41 = .ok (.iconst 1, 1) := by decide +kernel
theorem dX12_takesEither_42 : decode cX12_takesEither 42 = .ok (.ireturn, 1) := by decide +kernel
set_option maxRecDepth 20000 in
theorem ggX12_takesDeed_X12_takes : GoodIn wsX12_takesDeed wsX12_takes := goodIn_r _ [6, 7, 8, 9, 5, 10, 11, 12, 13, 14, 15, 16, 17, 18, 19, 20, 21, 22, 23, 24, 25, 26, 27, 28, 29, 30, 31, 32, 33, 34, 35, 36, 37, 38, 39, 40, 41, 42, 43, 44, 45, 46, 47, 48, 49, 50, 51, 52, 53, 54, 55, 56, 57, 58, 59, 60, 61, 62, 63, 64, 65, 66, 67, 68, 69, 70, 71, 72, 73, 74, 75, 76, 90, 91, 92, 93, 94, 95, 96, 97, 98, 99, 100, 101, 102, 103, 104, 105, 106, 107, 108] (by decide +kernel) (by decide +kernel)
set_option maxRecDepth 20000 in
theorem gX12_takesDeed_X12_takes : GoodIn wsX12_takesDeed (wsV RX12 153 RX12 yX12_takes wsX12_takes) := goodIn_app (goodIn_of _ (by decide +kernel)) ggX12_takesDeed_X12_takes
set_option maxRecDepth 20000 in
theorem ggX12_takesDeed_X12_takesNumber : GoodIn wsX12_takesDeed wsX12_takesNumber := goodIn_r _ [80, 11, 68, 74, 75, 5, 76, 81, 82, 83, 84, 85, 1, 64, 65, 66, 67, 12, 13, 69, 70, 71, 72, 73, 14, 90, 91, 92, 93, 94, 95, 96, 97, 98, 99, 100, 101, 102, 103, 104, 105, 106, 107, 108] (by decide +kernel) (by decide +kernel)
set_option maxRecDepth 20000 in
theorem gX12_takesDeed_X12_takesNumber : GoodIn wsX12_takesDeed (wsV RX12 156 RX12 yX12_takesNumber wsX12_takesNumber) := goodIn_app (goodIn_of _ (by decide +kernel)) ggX12_takesDeed_X12_takesNumber
set_option maxRecDepth 20000 in
theorem ggX12_takesDeed_X12_takesEither : GoodIn wsX12_takesDeed wsX12_takesEither := goodIn_r _ [89, 7, 8, 9, 5, 10, 11, 12, 13, 14, 15, 16, 17, 18, 19, 20, 21, 22, 23, 24, 25, 26, 27, 28, 29, 30, 31, 32, 33, 34, 35, 36, 37, 38, 39, 40, 41, 42, 43, 44, 45, 46, 47, 48, 49, 50, 51, 52, 53, 54, 55, 56, 57, 58, 59, 60, 61, 62, 63, 81, 82, 83, 84, 85, 1, 64, 65, 66, 67, 68, 69, 70, 71, 72, 73, 74, 75, 76, 90, 91, 92, 93, 94, 95, 96, 97, 98, 99, 100, 101, 102, 103, 104, 105, 106, 107, 108] (by decide +kernel) (by decide +kernel)
set_option maxRecDepth 20000 in
theorem gX12_takesDeed_X12_takesEither : GoodIn wsX12_takesDeed (wsV RX12 167 RX12 yX12_takesEither wsX12_takesEither) := goodIn_app (goodIn_of _ (by decide +kernel)) ggX12_takesDeed_X12_takesEither
theorem dX12_takesDeed_0 : decode cX12_takesDeed 0 = .ok (.aload_n 0, 1) := by decide +kernel
theorem dX12_takesDeed_1 : decode cX12_takesDeed 1 = .ok (.getfield 144, 3) := by decide +kernel
theorem dX12_takesDeed_4 : decode cX12_takesDeed 4 = .ok (.bipush 12, 2) := by decide +kernel
theorem dX12_takesDeed_6 : decode cX12_takesDeed 6 = .ok (.if_icmp .ne 5, 3) := by decide +kernel
theorem dX12_takesDeed_9 : decode cX12_takesDeed 9 = .ok (.iconst 0, 1) := by decide +kernel
theorem dX12_takesDeed_10 : decode cX12_takesDeed 10 = .ok (.ireturn, 1) := by decide +kernel
theorem dX12_takesDeed_11 : decode cX12_takesDeed 11 = .ok (.aload_n 0, 1) := by decide +kernel
theorem dX12_takesDeed_12 : decode cX12_takesDeed 12 = .ok (.ldc 151, 2) := by decide +kernel
theorem dX12_takesDeed_14 : decode cX12_takesDeed 14 = .ok (.invokevirtual 153, 3) := by decide +kernel
theorem dX12_takesDeed_17 : decode cX12_takesDeed 17 = .ok (.ifCond .eq 12, 3) := by decide +kernel
theorem dX12_takesDeed_20 : decode cX12_takesDeed 20 = .ok (.aload_n 0, 1) := by decide +kernel
theorem dX12_takesDeed_21 : decode cX12_takesDeed 21 = .ok (.iconst 0, 1) := by decide +kernel
theorem dX12_takesDeed_22 : decode cX12_takesDeed 22 = .ok (.iconst 0, 1) := by decide +kernel
theorem dX12_takesDeed_23 : decode cX12_takesDeed 23 = .ok (.bipush 99, 2) := by decide +kernel
theorem dX12_takesDeed_25 : decode cX12_takesDeed 25 = .ok (.invokevirtual 156, 3) := by decide +kernel
theorem dX12_takesDeed_28 : decode cX12_takesDeed 28 = .ok (.ireturn, 1) := by decide +kernel
theorem dX12_takesDeed_29 : decode cX12_takesDeed 29 = .ok (.aload_n 0, 1) := by decide +kernel
theorem dX12_takesDeed_30 : decode cX12_takesDeed 30 = .ok (.ldc 159, 2) := by decide +kernel
theorem dX12_takesDeed_32 : decode cX12_takesDeed 32 = .ok (.invokevirtual 153, 3) := by decide +kernel
theorem dX12_takesDeed_35 : decode cX12_takesDeed 35 = .ok (.ifCond .eq 12, 3) := by decide +kernel
theorem dX12_takesDeed_38 : decode cX12_takesDeed 38 = .ok (.aload_n 0, 1) := by decide +kernel
theorem dX12_takesDeed_39 : decode cX12_takesDeed 39 = .ok (.iconst 1, 1) := by decide +kernel
theorem dX12_takesDeed_40 : decode cX12_takesDeed 40 = .ok (.iconst 1, 1) := by decide +kernel
theorem dX12_takesDeed_41 : decode cX12_takesDeed 41 = .ok (.bipush 60, 2) := by decide +kernel
theorem dX12_takesDeed_43 : decode cX12_takesDeed 43 = .ok (.invokevirtual 156, 3) := by decide +kernel
theorem dX12_takesDeed_46 : decode cX12_takesDeed 46 = .ok (.ireturn, 1) := by decide +kernel
theorem dX12_takesDeed_47 : decode cX12_takesDeed 47 = .ok (.aload_n 0, 1) := by decide +kernel
theorem dX12_takesDeed_48 : decode cX12_takesDeed 48 = .ok (.ldc 161, 2) := by decide +kernel
theorem dX12_takesDeed_50 : decode cX12_takesDeed 50 = .ok (.invokevirtual 153, 3) := by decide +kernel
theorem dX12_takesDeed_53 : decode cX12_takesDeed 53 = .ok (.ifCond .eq 13, 3) := by decide +kernel
theorem dX12_takesDeed_56 : decode cX12_takesDeed 56 = .ok (.aload_n 0, 1) := by decide +kernel
theorem dX12_takesDeed_57 : decode cX12_takesDeed 57 = .ok (.iconst 2, 1) := by decide +kernel
theorem dX12_takesDeed_58 : decode cX12_takesDeed 58 = .ok (.ldc 163, 2) := by decide +kernel
theorem dX12_takesDeed_60 : decode cX12_takesDeed 60 = .ok (.ldc 165, 2) := by decide +kernel
theorem dX12_takesDeed_62 : decode cX12_takesDeed 62 = .ok (.invokevirtual 167, 3) := by decide +kernel
theorem dX12_takesDeed_65 : decode cX12_takesDeed 65 = .ok (.ireturn, 1) := by decide +kernel
theorem dX12_takesDeed_66 : decode cX12_takesDeed 66 = .ok (.aload_n 0, 1) := by decide +kernel
theorem dX12_takesDeed_67 : decode cX12_takesDeed 67 = .ok (.ldc 171, 2) := by decide +kernel
theorem dX12_takesDeed_69 : decode cX12_takesDeed 69 = .ok (.invokevirtual 153, 3) := by decide +kernel
theorem dX12_takesDeed_72 : decode cX12_takesDeed 72 = .ok (.ifCond .eq 13, 3) := by decide +kernel
theorem dX12_takesDeed_75 : decode cX12_takesDeed 75 = .ok (.aload_n 0, 1) := by decide +kernel
theorem dX12_takesDeed_76 : decode cX12_takesDeed 76 = .ok (.iconst 3, 1) := by decide +kernel
theorem dX12_takesDeed_77 : decode cX12_takesDeed 77 = .ok (.ldc 173, 2) := by decide +kernel
theorem dX12_takesDeed_79 : decode cX12_takesDeed 79 = .ok (.ldc 175, 2) := by decide +kernel
theorem dX12_takesDeed_81 : decode cX12_takesDeed 81 = .ok (.invokevirtual 167, 3) := by decide +kernel
theorem dX12_takesDeed_84 : decode cX12_takesDeed 84 = .ok (.ireturn, 1) := by decide +kernel
theorem dX12_takesDeed_85 : decode cX12_takesDeed 85 = .ok (.aload_n 0, 1) := by decide +kernel
theorem dX12_takesDeed_86 : decode cX12_takesDeed 86 = .ok (.ldc 177, 2) := by decide +kernel
theorem dX12_takesDeed_88 : decode cX12_takesDeed 88 = .ok (.invokevirtual 153, 3) := by decide +kernel
theorem dX12_takesDeed_91 : decode cX12_takesDeed 91 = .ok (.ifCond .eq 13, 3) := by decide +kernel
theorem dX12_takesDeed_94 : decode cX12_takesDeed 94 = .ok (.aload_n 0, 1) := by decide +kernel
theorem dX12_takesDeed_95 : decode cX12_takesDeed 95 = .ok (.iconst 4, 1) := by decide +kernel
theorem dX12_takesDeed_96 : decode cX12_takesDeed 96 = .ok (.iconst 0, 1) := by decide +kernel
theorem dX12_takesDeed_97 : decode cX12_takesDeed 97 = .ok (.sipush 999, 3) := by decide +kernel
theorem dX12_takesDeed_100 : decode cX12_takesDeed 100 = .ok (.invokevirtual 156, 3) := by decide +kernel
theorem dX12_takesDeed_103 : decode cX12_takesDeed 103 = .ok (.ireturn, 1) := by decide +kernel
theorem dX12_takesDeed_104 : decode cX12_takesDeed 104 = .ok (.aload_n 0, 1) := by decide +kernel
theorem dX12_takesDeed_105 : decode cX12_takesDeed 105 = .ok (.ldc 179, 2) := by decide +kernel
theorem dX12_takesDeed_107 : decode cX12_takesDeed 107 = .ok (.invokevirtual 153, 3) := by decide +kernel
theorem dX12_takesDeed_110 : decode cX12_takesDeed 110 = .ok (.ifCond .eq 19, 3) := by decide +kernel
theorem dX12_takesDeed_113 : decode cX12_takesDeed 113 = .ok (.aload_n 0, 1) := by decide +kernel
theorem dX12_takesDeed_114 : decode cX12_takesDeed 114 = .ok (.iconst 5, 1) := by decide +kernel
theorem dX12_takesDeed_115 : decode cX12_takesDeed 115 = .ok (.iconst 0, 1) := by decide +kernel
theorem dX12_takesDeed_116 : decode cX12_takesDeed 116 = .ok (.sipush 999, 3) := by decide +kernel
theorem dX12_takesDeed_119 : decode cX12_takesDeed 119 = .ok (.invokevirtual 156, 3) := by decide +kernel
theorem dX12_takesDeed_122 : decode cX12_takesDeed 122 = .ok (.ifCond .eq 7, 3) := by decide +kernel
theorem dX12_takesDeed_125 : decode cX12_takesDeed 125 = .ok (.iconst 1, 1) := by decide +kernel
theorem dX12_takesDeed_126 : decode cX12_takesDeed 126 = .ok (.goto 4, 3) := by decide +kernel
theorem dX12_takesDeed_129 : decode cX12_takesDeed 129 = .ok (.iconst 0, 1) := by decide +kernel
theorem dX12_takesDeed_130 : decode cX12_takesDeed 130 = .ok (.ireturn, 1) := by decide +kernel
set_option maxRecDepth 20000 in
theorem ggX12_takesAll_X12_next : GoodIn wsX12_takesAll wsX12_next := goodIn_r _ [8, 1, 9, 3, 10, 11, 12, 13, 7, 14, 15, 16, 17, 18, 19, 94, 95, 96, 97, 98, 99, 100, 101, 102, 103, 104, 105, 106, 107, 108, 109, 110, 111, 112] (by decide +kernel) (by decide +kernel)
set_option maxRecDepth 20000 in
theorem gX12_takesAll_X12_next : GoodIn wsX12_takesAll (wsV RX12 141 RX12 yX12_next wsX12_next) := goodIn_app (goodIn_of _ (by decide +kernel)) ggX12_takesAll_X12_next
set_option maxRecDepth 20000 in
theorem ggX12_takesAll_X12_takesDeed : GoodIn wsX12_takesAll wsX12_takesDeed := goodIn_r _ [23, 2, 24, 25, 26, 7, 27, 28, 29, 30, 31, 3, 1, 9, 16, 32, 33, 34, 35, 36, 37, 38, 39, 40, 41, 42, 43, 44, 45, 46, 47, 48, 49, 50, 51, 52, 53, 54, 55, 56, 57, 58, 59, 60, 61, 62, 63, 64, 65, 66, 67, 68, 69, 70, 71, 72, 73, 74, 75, 76, 77, 78, 79, 80, 4, 5, 6, 8, 10, 11, 12, 13, 14, 15, 17, 18, 19, 81, 82, 83, 84, 85, 86, 87, 88, 89, 90, 91, 92, 93, 94, 95, 96, 97, 98, 99, 100, 101, 102, 103, 104, 105, 106, 107, 108, 109, 110, 111, 112] (by decide +kernel) (by decide +kernel)
set_option maxRecDepth 20000 in
theorem gX12_takesAll_X12_takesDeed : GoodIn wsX12_takesAll (wsV RX12 181 RX12 yX12_takesDeed wsX12_takesDeed) := goodIn_app (goodIn_of _ (by decide +kernel)) ggX12_takesAll_X12_takesDeed
theorem dX12_takesAll_0 : decode cX12_takesAll 0 = .ok (.aload_n 0, 1) := by decide +kernel
theorem dX12_takesAll_1 : decode cX12_takesAll 1 = .ok (.iconst 0, 1) := by decide +kernel
theorem dX12_takesAll_2 : decode cX12_takesAll 2 = .ok (.putfield 113, 3) := by decide +kernel
theorem dX12_takesAll_5 : decode cX12_takesAll 5 = .ok (.aload_n 0, 1) := by decide +kernel
theorem dX12_takesAll_6 : decode cX12_takesAll 6 = .ok (.iconst 0, 1) := by decide +kernel
theorem dX12_takesAll_7 : decode cX12_takesAll 7 = .ok (.putfield 144, 3) := by decide +kernel
theorem dX12_takesAll_10 : decode cX12_takesAll 10 = .ok (.aload_n 0, 1) := by decide +kernel
theorem dX12_takesAll_11 : decode cX12_takesAll 11 = .ok (.invokevirtual 141, 3) := by decide +kernel
theorem dX12_takesAll_14 : decode cX12_takesAll 14 = .ok (.aload_n 0, 1) := by decide +kernel
theorem dX12_takesAll_15 : decode cX12_takesAll 15 = .ok (.invokevirtual 181, 3) := by decide +kernel
theorem dX12_takesAll_18 : decode cX12_takesAll 18 = .ok (.ifCond .ne 5, 3) := by decide +kernel
theorem dX12_takesAll_21 : decode cX12_takesAll 21 = .ok (.iconst 0, 1) := by decide +kernel
theorem dX12_takesAll_22 : decode cX12_takesAll 22 = .ok (.ireturn, 1) := by decide +kernel
theorem dX12_takesAll_23 : decode cX12_takesAll 23 = .ok (.aload_n 0, 1) := by decide +kernel
theorem dX12_takesAll_24 : decode cX12_takesAll 24 = .ok (.getfield 122, 3) := by decide +kernel
theorem dX12_takesAll_27 : decode cX12_takesAll 27 = .ok (.iconst 3, 1) := by decide +kernel
theorem dX12_takesAll_28 : decode cX12_takesAll 28 = .ok (.if_icmp .ne 16, 3) := by decide +kernel
theorem dX12_takesAll_31 : decode cX12_takesAll 31 = .ok (.aload_n 0, 1) := by decide +kernel
theorem dX12_takesAll_32 : decode cX12_takesAll 32 = .ok (.invokevirtual 141, 3) := by decide +kernel
theorem dX12_takesAll_35 : decode cX12_takesAll 35 = .ok (.aload_n 0, 1) := by decide +kernel
theorem dX12_takesAll_36 : decode cX12_takesAll 36 = .ok (.invokevirtual 181, 3) := by decide +kernel
theorem dX12_takesAll_39 : decode cX12_takesAll 39 = .ok (.ifCond .ne (-16), 3) := by decide +kernel
theorem dX12_takesAll_42 : decode cX12_takesAll 42 = .ok (.iconst 0, 1) := by decide +kernel
theorem dX12_takesAll_43 : decode cX12_takesAll 43 = .ok (.ireturn, 1) := by decide +kernel
theorem dX12_takesAll_44 : decode cX12_takesAll 44 = .ok (.aload_n 0, 1) := by decide +kernel
theorem dX12_takesAll_45 : decode cX12_takesAll 45 = .ok (.getfield 122, 3) := by decide +kernel
theorem dX12_takesAll_48 : decode cX12_takesAll 48 = .ok (.ifCond .ne 7, 3) := by decide +kernel
theorem dX12_takesAll_51 : decode cX12_takesAll 51 = .ok (.iconst 1, 1) := by decide +kernel
theorem dX12_takesAll_52 : decode cX12_takesAll 52 = .ok (.goto 4, 3) := by decide +kernel
theorem dX12_takesAll_55 : decode cX12_takesAll 55 = .ok (.iconst 0, 1) := by decide +kernel
theorem dX12_takesAll_56 : decode cX12_takesAll 56 = .ok (.ireturn, 1) := by decide +kernel
set_option maxRecDepth 20000 in
theorem ggX12_sky_X12_finding : GoodIn wsX12_sky wsX12_finding := goodIn_r _ [10, 11, 12, 105, 106, 107, 108, 109, 110, 111, 112, 113, 114, 115, 116, 117, 118, 119, 120, 121, 122, 123] (by decide +kernel) (by decide +kernel)
set_option maxRecDepth 20000 in
theorem gX12_sky_X12_finding : GoodIn wsX12_sky (wsV RX12 52 RX12 yX12_finding wsX12_finding) := goodIn_app (goodIn_of _ (by decide +kernel)) ggX12_sky_X12_finding
set_option maxRecDepth 20000 in
theorem ggX12_sky_X12_takesAll : GoodIn wsX12_sky wsX12_takesAll := goodIn_r _ [16, 17, 4, 18, 19, 20, 21, 9, 22, 3, 23, 24, 25, 26, 27, 2, 28, 29, 30, 31, 32, 33, 34, 35, 36, 37, 38, 39, 40, 41, 42, 43, 44, 45, 46, 47, 48, 49, 50, 51, 52, 53, 54, 55, 56, 57, 58, 59, 60, 61, 62, 63, 64, 65, 66, 67, 68, 69, 70, 71, 72, 73, 74, 75, 76, 77, 78, 79, 80, 81, 82, 83, 84, 85, 86, 87, 88, 89, 90, 91, 92, 93, 94, 95, 96, 97, 98, 99, 100, 5, 101, 102, 103, 104, 105, 106, 107, 108, 109, 110, 111, 112, 113, 114, 115, 116, 117, 118, 119, 120, 121, 122, 123] (by decide +kernel) (by decide +kernel)
set_option maxRecDepth 20000 in
theorem gX12_sky_X12_takesAll : GoodIn wsX12_sky (wsV RX12 184 RX12 yX12_takesAll wsX12_takesAll) := goodIn_app (goodIn_of _ (by decide +kernel)) ggX12_sky_X12_takesAll
theorem dX12_sky_0 : decode cX12_sky 0 = .ok (.aload_n 0, 1) := by decide +kernel
theorem dX12_sky_1 : decode cX12_sky 1 = .ok (.getfield 7, 3) := by decide +kernel
theorem dX12_sky_4 : decode cX12_sky 4 = .ok (.bipush 18, 2) := by decide +kernel
theorem dX12_sky_6 : decode cX12_sky 6 = .ok (.iaload, 1) := by decide +kernel
theorem dX12_sky_7 : decode cX12_sky 7 = .ok (.bipush 6, 2) := by decide +kernel
theorem dX12_sky_9 : decode cX12_sky 9 = .ok (.if_icmp .ne 9, 3) := by decide +kernel
theorem dX12_sky_12 : decode cX12_sky 12 = .ok (.aload_n 0, 1) := by decide +kernel
theorem dX12_sky_13 : decode cX12_sky 13 = .ok (.iconst 1, 1) := by decide +kernel
theorem dX12_sky_14 : decode cX12_sky 14 = .ok (.invokevirtual 52, 3) := by decide +kernel
theorem dX12_sky_17 : decode cX12_sky 17 = .ok (.ireturn, 1) := by decide +kernel
theorem dX12_sky_18 : decode cX12_sky 18 = .ok (.aload_n 0, 1) := by decide +kernel
theorem dX12_sky_19 : decode cX12_sky 19 = .ok (.invokevirtual 184, 3) := by decide +kernel
theorem dX12_sky_22 : decode cX12_sky 22 = .ok (.istore_n 1, 1) := by decide +kernel
theorem dX12_sky_23 : decode cX12_sky 23 = .ok (.aload_n 0, 1) := by decide +kernel
theorem dX12_sky_24 : decode cX12_sky 24 = .ok (.iconst 0, 1) := by decide +kernel
theorem dX12_sky_25 : decode cX12_sky 25 = .ok (.putfield 110, 3) := by decide +kernel
theorem dX12_sky_28 : decode cX12_sky 28 = .ok (.iload_n 1, 1) := by decide +kernel
theorem dX12_sky_29 : decode cX12_sky 29 = .ok (.ifCond .ne 10, 3) := by decide +kernel
theorem dX12_sky_32 : decode cX12_sky 32 = .ok (.iconst (-1), 1) := by decide +kernel
theorem dX12_sky_33 : decode cX12_sky 33 = .ok (.aload_n 0, 1) := by decide +kernel
theorem dX12_sky_34 : decode cX12_sky 34 = .ok (.getfield 119, 3) := by decide +kernel
theorem dX12_sky_37 : decode cX12_sky 37 = .ok (.isub, 1) := by decide +kernel
theorem dX12_sky_38 : decode cX12_sky 38 = .ok (.ireturn, 1) := by decide +kernel
theorem dX12_sky_39 : decode cX12_sky 39 = .ok (.sipush 147, 3) := by decide +kernel
theorem dX12_sky_42 : decode cX12_sky 42 = .ok (.bipush 25, 2) := by decide +kernel
theorem dX12_sky_44 : decode cX12_sky 44 = .ok (.aload_n 0, 1) := by decide +kernel
theorem dX12_sky_45 : decode cX12_sky 45 = .ok (.getfield 7, 3) := by decide +kernel
theorem dX12_sky_48 : decode cX12_sky 48 = .ok (.bipush 18, 2) := by decide +kernel
theorem dX12_sky_50 : decode cX12_sky 50 = .ok (.iaload, 1) := by decide +kernel
theorem dX12_sky_51 : decode cX12_sky 51 = .ok (.imul, 1) := by decide +kernel
theorem dX12_sky_52 : decode cX12_sky 52 = .ok (.iadd, 1) := by decide +kernel
theorem dX12_sky_53 : decode cX12_sky 53 = .ok (.istore_n 2, 1) := by decide +kernel
theorem dX12_sky_54 : decode cX12_sky 54 = .ok (.aload_n 0, 1) := by decide +kernel
theorem dX12_sky_55 : decode cX12_sky 55 = .ok (.getfield 7, 3) := by decide +kernel
theorem dX12_sky_58 : decode cX12_sky 58 = .ok (.iload_n 2, 1) := by decide +kernel
theorem dX12_sky_59 : decode cX12_sky 59 = .ok (.aload_n 0, 1) := by decide +kernel
theorem dX12_sky_60 : decode cX12_sky 60 = .ok (.getfield 144, 3) := by decide +kernel
theorem dX12_sky_63 : decode cX12_sky 63 = .ok (.iastore, 1) := by decide +kernel
theorem dX12_sky_64 : decode cX12_sky 64 = .ok (.iconst 0, 1) := by decide +kernel
theorem dX12_sky_65 : decode cX12_sky 65 = .ok (.istore_n 3, 1) := by decide +kernel
theorem dX12_sky_66 : decode cX12_sky 66 = .ok (.iload_n 3, 1) := by decide +kernel
theorem dX12_sky_67 : decode cX12_sky 67 = .ok (.iconst 2, 1) := by decide +kernel
theorem dX12_sky_68 : decode cX12_sky 68 = .ok (.aload_n 0, 1) := by decide +kernel
theorem dX12_sky_69 : decode cX12_sky 69 = .ok (.getfield 144, 3) := by decide +kernel
theorem dX12_sky_72 : decode cX12_sky 72 = .ok (.imul, 1) := by decide +kernel
theorem dX12_sky_73 : decode cX12_sky 73 = .ok (.if_icmp .ge 25, 3) := by decide +kernel
theorem dX12_sky_76 : decode cX12_sky 76 = .ok (.aload_n 0, 1) := by decide +kernel
theorem dX12_sky_77 : decode cX12_sky 77 = .ok (.getfield 7, 3) := by decide +kernel
theorem dX12_sky_80 : decode cX12_sky 80 = .ok (.iload_n 2, 1) := by decide +kernel
theorem dX12_sky_81 : decode cX12_sky 81 = .ok (.iconst 1, 1) := by decide +kernel
theorem dX12_sky_82 : decode cX12_sky 82 = .ok (.iadd, 1) := by decide +kernel
theorem dX12_sky_83 : decode cX12_sky 83 = .ok (.iload_n 3, 1) := by decide +kernel
theorem dX12_sky_84 : decode cX12_sky 84 = .ok (.iadd, 1) := by decide +kernel
theorem dX12_sky_85 : decode cX12_sky 85 = .ok (.aload_n 0, 1) := by decide +kernel
theorem dX12_sky_86 : decode cX12_sky 86 = .ok (.getfield 25, 3) := by decide +kernel
theorem dX12_sky_89 : decode cX12_sky 89 = .ok (.iload_n 3, 1) := by decide +kernel
theorem dX12_sky_90 : decode cX12_sky 90 = .ok (.iaload, 1) := by decide +kernel
theorem dX12_sky_91 : decode cX12_sky 91 = .ok (.iastore, 1) := by decide +kernel
theorem dX12_sky_92 : decode cX12_sky 92 = .ok (.iinc 3 1, 3) := by decide +kernel
theorem dX12_sky_95 : decode cX12_sky 95 = .ok (.goto (-29), 3) := by decide +kernel
theorem dX12_sky_98 : decode cX12_sky 98 = .ok (.aload_n 0, 1) := by decide +kernel
theorem dX12_sky_99 : decode cX12_sky 99 = .ok (.getfield 7, 3) := by decide +kernel
theorem dX12_sky_102 : decode cX12_sky 102 = .ok (.bipush 18, 2) := by decide +kernel
theorem dX12_sky_104 : decode cX12_sky 104 = .ok (.dup2, 1) := by decide +kernel
theorem dX12_sky_105 : decode cX12_sky 105 = .ok (.iaload, 1) := by decide +kernel
theorem dX12_sky_106 : decode cX12_sky 106 = .ok (.iconst 1, 1) := by decide +kernel
theorem dX12_sky_107 : decode cX12_sky 107 = .ok (.iadd, 1) := by decide +kernel
theorem dX12_sky_108 : decode cX12_sky 108 = .ok (.iastore, 1) := by decide +kernel
theorem dX12_sky_109 : decode cX12_sky 109 = .ok (.aload_n 0, 1) := by decide +kernel
theorem dX12_sky_110 : decode cX12_sky 110 = .ok (.getfield 7, 3) := by decide +kernel
theorem dX12_sky_113 : decode cX12_sky 113 = .ok (.bipush 18, 2) := by decide +kernel
theorem dX12_sky_115 : decode cX12_sky 115 = .ok (.iaload, 1) := by decide +kernel
theorem dX12_sky_116 : decode cX12_sky 116 = .ok (.iconst 1, 1) := by decide +kernel
theorem dX12_sky_117 : decode cX12_sky 117 = .ok (.isub, 1) := by decide +kernel
theorem dX12_sky_118 : decode cX12_sky 118 = .ok (.ireturn, 1) := by decide +kernel
set_option maxRecDepth 20000 in
theorem ggX12_isSky_X12_in : GoodIn wsX12_isSky wsX12_in := goodIn_r _ [5] (by decide +kernel) (by decide +kernel)
set_option maxRecDepth 20000 in
theorem gX12_isSky_X12_in : GoodIn wsX12_isSky (va_wsS RX12 48 yX12_in wsX12_in) := goodIn_app (goodIn_of _ (by decide +kernel)) ggX12_isSky_X12_in
theorem dX12_isSky_0 : decode cX12_isSky 0 = .ok (.iload_n 1, 1) := by decide +kernel
theorem dX12_isSky_1 : decode cX12_isSky 1 = .ok (.iconst 0, 1) := by decide +kernel
theorem dX12_isSky_2 : decode cX12_isSky 2 = .ok (.aload_n 0, 1) := by decide +kernel
theorem dX12_isSky_3 : decode cX12_isSky 3 = .ok (.getfield 7, 3) := by decide +kernel
theorem dX12_isSky_6 : decode cX12_isSky 6 = .ok (.bipush 18, 2) := by decide +kernel
theorem dX12_isSky_8 : decode cX12_isSky 8 = .ok (.iaload, 1) := by decide +kernel
theorem dX12_isSky_9 : decode cX12_isSky 9 = .ok (.iconst 1, 1) := by decide +kernel
theorem dX12_isSky_10 : decode cX12_isSky 10 = .ok (.isub, 1) := by decide +kernel
theorem dX12_isSky_11 : decode cX12_isSky 11 = .ok (.invokestatic 48, 3) := by decide +kernel
theorem dX12_isSky_14 : decode cX12_isSky 14 = .ok (.ireturn, 1) := by decide +kernel
set_option maxRecDepth 20000 in
theorem ggX12_skyOf_X12_isSky : GoodIn wsX12_skyOf wsX12_isSky := goodIn_r _ [6, 1, 7, 8, 5, 9, 16, 17, 18, 19, 20, 21, 22, 23, 24, 25, 26, 27, 28, 29, 30, 31, 32, 33, 34] (by decide +kernel) (by decide +kernel)
set_option maxRecDepth 20000 in
theorem gX12_skyOf_X12_isSky : GoodIn wsX12_skyOf (wsV RX12 187 RX12 yX12_isSky wsX12_isSky) := goodIn_app (goodIn_of _ (by decide +kernel)) ggX12_skyOf_X12_isSky
set_option maxRecDepth 20000 in
theorem ggX12_skyOf_X12_in : GoodIn wsX12_skyOf wsX12_in := goodIn_r _ [9] (by decide +kernel) (by decide +kernel)
set_option maxRecDepth 20000 in
theorem gX12_skyOf_X12_in : GoodIn wsX12_skyOf (va_wsS RX12 48 yX12_in wsX12_in) := goodIn_app (goodIn_of _ (by decide +kernel)) ggX12_skyOf_X12_in
set_option maxRecDepth 20000 in
theorem ggX12_skyOf_X12_finding : GoodIn wsX12_skyOf wsX12_finding := goodIn_r _ [13, 14, 15, 16, 17, 18, 19, 20, 21, 22, 23, 24, 25, 26, 27, 28, 29, 30, 31, 32, 33, 34] (by decide +kernel) (by decide +kernel)
set_option maxRecDepth 20000 in
theorem gX12_skyOf_X12_finding : GoodIn wsX12_skyOf (wsV RX12 52 RX12 yX12_finding wsX12_finding) := goodIn_app (goodIn_of _ (by decide +kernel)) ggX12_skyOf_X12_finding
theorem dX12_skyOf_0 : decode cX12_skyOf 0 = .ok (.aload_n 0, 1) := by decide +kernel
theorem dX12_skyOf_1 : decode cX12_skyOf 1 = .ok (.iload_n 1, 1) := by decide +kernel
theorem dX12_skyOf_2 : decode cX12_skyOf 2 = .ok (.invokevirtual 187, 3) := by decide +kernel
theorem dX12_skyOf_5 : decode cX12_skyOf 5 = .ok (.ifCond .eq 12, 3) := by decide +kernel
theorem dX12_skyOf_8 : decode cX12_skyOf 8 = .ok (.iload_n 2, 1) := by decide +kernel
theorem dX12_skyOf_9 : decode cX12_skyOf 9 = .ok (.iconst 0, 1) := by decide +kernel
theorem dX12_skyOf_10 : decode cX12_skyOf 10 = .ok (.iconst 1, 1) := by decide +kernel
theorem dX12_skyOf_11 : decode cX12_skyOf 11 = .ok (.invokestatic 48, 3) := by decide +kernel
theorem dX12_skyOf_14 : decode cX12_skyOf 14 = .ok (.ifCond .ne 9, 3) := by decide +kernel
theorem dX12_skyOf_17 : decode cX12_skyOf 17 = .ok (.aload_n 0, 1) := by decide +kernel
theorem dX12_skyOf_18 : decode cX12_skyOf 18 = .ok (.iconst 0, 1) := by decide +kernel
theorem dX12_skyOf_19 : decode cX12_skyOf 19 = .ok (.invokevirtual 52, 3) := by decide +kernel
theorem dX12_skyOf_22 : decode cX12_skyOf 22 = .ok (.ireturn, 1) := by decide +kernel
theorem dX12_skyOf_23 : decode cX12_skyOf 23 = .ok (.sipush 147, 3) := by decide +kernel
theorem dX12_skyOf_26 : decode cX12_skyOf 26 = .ok (.bipush 25, 2) := by decide +kernel
theorem dX12_skyOf_28 : decode cX12_skyOf 28 = .ok (.iload_n 1, 1) := by decide +kernel
theorem dX12_skyOf_29 : decode cX12_skyOf 29 = .ok (.imul, 1) := by decide +kernel
theorem dX12_skyOf_30 : decode cX12_skyOf 30 = .ok (.iadd, 1) := by decide +kernel
theorem dX12_skyOf_31 : decode cX12_skyOf 31 = .ok (.istore_n 3, 1) := by decide +kernel
theorem dX12_skyOf_32 : decode cX12_skyOf 32 = .ok (.iconst 0, 1) := by decide +kernel
theorem dX12_skyOf_33 : decode cX12_skyOf 33 = .ok (.istore 4, 2) := by decide +kernel
theorem dX12_skyOf_35 : decode cX12_skyOf 35 = .ok (.iconst 0, 1) := by decide +kernel
theorem dX12_skyOf_36 : decode cX12_skyOf 36 = .ok (.istore 5, 2) := by decide +kernel
theorem dX12_skyOf_38 : decode cX12_skyOf 38 = .ok (.iload 5, 2) := by decide +kernel
theorem dX12_skyOf_40 : decode cX12_skyOf 40 = .ok (.aload_n 0, 1) := by decide +kernel
theorem dX12_skyOf_41 : decode cX12_skyOf 41 = .ok (.getfield 7, 3) := by decide +kernel
theorem dX12_skyOf_44 : decode cX12_skyOf 44 = .ok (.iload_n 3, 1) := by decide +kernel
theorem dX12_skyOf_45 : decode cX12_skyOf 45 = .ok (.iaload, 1) := by decide +kernel
theorem dX12_skyOf_46 : decode cX12_skyOf 46 = .ok (.if_icmp .ge 48, 3) := by decide +kernel
theorem dX12_skyOf_49 : decode cX12_skyOf 49 = .ok (.iload 4, 2) := by decide +kernel
theorem dX12_skyOf_51 : decode cX12_skyOf 51 = .ok (.aload_n 0, 1) := by decide +kernel
theorem dX12_skyOf_52 : decode cX12_skyOf 52 = .ok (.getfield 7, 3) := by decide +kernel
theorem dX12_skyOf_55 : decode cX12_skyOf 55 = .ok (.iload_n 3, 1) := by decide +kernel
theorem dX12_skyOf_56 : decode cX12_skyOf 56 = .ok (.iconst 1, 1) := by decide +kernel
theorem dX12_skyOf_57 : decode cX12_skyOf 57 = .ok (.iadd, 1) := by decide +kernel
theorem dX12_skyOf_58 : decode cX12_skyOf 58 = .ok (.iconst 2, 1) := by decide +kernel
theorem dX12_skyOf_59 : decode cX12_skyOf 59 = .ok (.iload 5, 2) := by decide +kernel
theorem dX12_skyOf_61 : decode cX12_skyOf 61 = .ok (.imul, 1) := by decide +kernel
theorem dX12_skyOf_62 : decode cX12_skyOf 62 = .ok (.iadd, 1) := by decide +kernel
theorem dX12_skyOf_63 : decode cX12_skyOf 63 = .ok (.iaload, 1) := by decide +kernel
theorem dX12_skyOf_64 : decode cX12_skyOf 64 = .ok (.iconst 1, 1) := by decide +kernel
theorem dX12_skyOf_65 : decode cX12_skyOf 65 = .ok (.if_icmp .ne 19, 3) := by decide +kernel
theorem dX12_skyOf_68 : decode cX12_skyOf 68 = .ok (.aload_n 0, 1) := by decide +kernel
theorem dX12_skyOf_69 : decode cX12_skyOf 69 = .ok (.getfield 7, 3) := by decide +kernel
theorem dX12_skyOf_72 : decode cX12_skyOf 72 = .ok (.iload_n 3, 1) := by decide +kernel
theorem dX12_skyOf_73 : decode cX12_skyOf 73 = .ok (.iconst 2, 1) := by decide +kernel
theorem dX12_skyOf_74 : decode cX12_skyOf 74 = .ok (.iadd, 1) := by decide +kernel
theorem dX12_skyOf_75 : decode cX12_skyOf 75 = .ok (.iconst 2, 1) := by decide +kernel
theorem dX12_skyOf_76 : decode cX12_skyOf 76 = .ok (.iload 5, 2) := by decide +kernel
theorem dX12_skyOf_78 : decode cX12_skyOf 78 = .ok (.imul, 1) := by decide +kernel
theorem dX12_skyOf_79 : decode cX12_skyOf 79 = .ok (.iadd, 1) := by decide +kernel
theorem dX12_skyOf_80 : decode cX12_skyOf 80 = .ok (.iaload, 1) := by decide +kernel
theorem dX12_skyOf_81 : decode cX12_skyOf 81 = .ok (.goto 4, 3) := by decide +kernel
theorem dX12_skyOf_84 : decode cX12_skyOf 84 = .ok (.iconst 0, 1) := by decide +kernel
theorem dX12_skyOf_85 : decode cX12_skyOf 85 = .ok (.iadd, 1) := by decide +kernel
theorem dX12_skyOf_86 : decode cX12_skyOf 86 = .ok (.istore 4, 2) := by decide +kernel
theorem dX12_skyOf_88 : decode cX12_skyOf 88 = .ok (.iinc 5 1, 3) := by decide +kernel
theorem dX12_skyOf_91 : decode cX12_skyOf 91 = .ok (.goto (-53), 3) := by decide +kernel
theorem dX12_skyOf_94 : decode cX12_skyOf 94 = .ok (.iload_n 2, 1) := by decide +kernel
theorem dX12_skyOf_95 : decode cX12_skyOf 95 = .ok (.ifCond .ne 12, 3) := by decide +kernel
theorem dX12_skyOf_98 : decode cX12_skyOf 98 = .ok (.aload_n 0, 1) := by decide +kernel
theorem dX12_skyOf_99 : decode cX12_skyOf 99 = .ok (.getfield 7, 3) := by decide +kernel
theorem dX12_skyOf_102 : decode cX12_skyOf 102 = .ok (.iload_n 3, 1) := by decide +kernel
theorem dX12_skyOf_103 : decode cX12_skyOf 103 = .ok (.iaload, 1) := by decide +kernel
theorem dX12_skyOf_104 : decode cX12_skyOf 104 = .ok (.goto 5, 3) := by decide +kernel
theorem dX12_skyOf_107 : decode cX12_skyOf 107 = .ok (.iload 4, 2) := by decide +kernel
theorem dX12_skyOf_109 : decode cX12_skyOf 109 = .ok (.ireturn, 1) := by decide +kernel
set_option maxRecDepth 20000 in
theorem ggX12_plays_X12_goesOn : GoodIn wsX12_plays wsX12_goesOn := goodIn_r _ [6, 1, 7, 8, 9, 10, 5, 11, 12, 13, 14, 15, 16, 17, 18, 19, 20, 21, 22, 23, 24, 25, 26, 27, 28, 29, 30, 31, 32, 33, 34, 35, 36, 37, 38, 39, 40, 41, 42, 43, 44, 45, 46, 47, 48, 49, 50, 51, 52, 53, 54, 55, 56, 57, 58, 59, 60, 61, 62] (by decide +kernel) (by decide +kernel)
set_option maxRecDepth 20000 in
theorem gX12_plays_X12_goesOn : GoodIn wsX12_plays (wsV RX12 99 RX12 yX12_goesOn wsX12_goesOn) := goodIn_app (goodIn_of _ (by decide +kernel)) ggX12_plays_X12_goesOn
set_option maxRecDepth 20000 in
theorem ggX12_plays_X12_has : GoodIn wsX12_plays wsX12_has := goodIn_r _ [31, 1, 44, 45, 46, 47, 48, 49, 50, 51, 52, 53, 54, 55, 56, 57, 58, 59, 60, 61, 62] (by decide +kernel) (by decide +kernel)
set_option maxRecDepth 20000 in
theorem gX12_plays_X12_has : GoodIn wsX12_plays (wsV RX12 56 RX12 yX12_has wsX12_has) := goodIn_app (goodIn_of _ (by decide +kernel)) ggX12_plays_X12_has
theorem dX12_plays_0 : decode cX12_plays 0 = .ok (.sipush 147, 3) := by decide +kernel
theorem dX12_plays_3 : decode cX12_plays 3 = .ok (.bipush 25, 2) := by decide +kernel
theorem dX12_plays_5 : decode cX12_plays 5 = .ok (.iload_n 1, 1) := by decide +kernel
theorem dX12_plays_6 : decode cX12_plays 6 = .ok (.imul, 1) := by decide +kernel
theorem dX12_plays_7 : decode cX12_plays 7 = .ok (.iadd, 1) := by decide +kernel
theorem dX12_plays_8 : decode cX12_plays 8 = .ok (.istore_n 2, 1) := by decide +kernel
theorem dX12_plays_9 : decode cX12_plays 9 = .ok (.iconst 0, 1) := by decide +kernel
theorem dX12_plays_10 : decode cX12_plays 10 = .ok (.istore_n 3, 1) := by decide +kernel
theorem dX12_plays_11 : decode cX12_plays 11 = .ok (.iload_n 3, 1) := by decide +kernel
theorem dX12_plays_12 : decode cX12_plays 12 = .ok (.aload_n 0, 1) := by decide +kernel
theorem dX12_plays_13 : decode cX12_plays 13 = .ok (.getfield 7, 3) := by decide +kernel
theorem dX12_plays_16 : decode cX12_plays 16 = .ok (.iload_n 2, 1) := by decide +kernel
theorem dX12_plays_17 : decode cX12_plays 17 = .ok (.iaload, 1) := by decide +kernel
theorem dX12_plays_18 : decode cX12_plays 18 = .ok (.if_icmp .ge 166, 3) := by decide +kernel
theorem dX12_plays_21 : decode cX12_plays 21 = .ok (.aload_n 0, 1) := by decide +kernel
theorem dX12_plays_22 : decode cX12_plays 22 = .ok (.getfield 7, 3) := by decide +kernel
theorem dX12_plays_25 : decode cX12_plays 25 = .ok (.iload_n 2, 1) := by decide +kernel
theorem dX12_plays_26 : decode cX12_plays 26 = .ok (.iconst 2, 1) := by decide +kernel
theorem dX12_plays_27 : decode cX12_plays 27 = .ok (.iadd, 1) := by decide +kernel
theorem dX12_plays_28 : decode cX12_plays 28 = .ok (.iconst 2, 1) := by decide +kernel
theorem dX12_plays_29 : decode cX12_plays 29 = .ok (.iload_n 3, 1) := by decide +kernel
theorem dX12_plays_30 : decode cX12_plays 30 = .ok (.imul, 1) := by decide +kernel
theorem dX12_plays_31 : decode cX12_plays 31 = .ok (.iadd, 1) := by decide +kernel
theorem dX12_plays_32 : decode cX12_plays 32 = .ok (.iaload, 1) := by decide +kernel
theorem dX12_plays_33 : decode cX12_plays 33 = .ok (.istore 4, 2) := by decide +kernel
theorem dX12_plays_35 : decode cX12_plays 35 = .ok (.aload_n 0, 1) := by decide +kernel
theorem dX12_plays_36 : decode cX12_plays 36 = .ok (.getfield 7, 3) := by decide +kernel
theorem dX12_plays_39 : decode cX12_plays 39 = .ok (.iload_n 2, 1) := by decide +kernel
theorem dX12_plays_40 : decode cX12_plays 40 = .ok (.iconst 1, 1) := by decide +kernel
theorem dX12_plays_41 : decode cX12_plays 41 = .ok (.iadd, 1) := by decide +kernel
theorem dX12_plays_42 : decode cX12_plays 42 = .ok (.iconst 2, 1) := by decide +kernel
theorem dX12_plays_43 : decode cX12_plays 43 = .ok (.iload_n 3, 1) := by decide +kernel
theorem dX12_plays_44 : decode cX12_plays 44 = .ok (.imul, 1) := by decide +kernel
theorem dX12_plays_45 : decode cX12_plays 45 = .ok (.iadd, 1) := by decide +kernel
theorem dX12_plays_46 : decode cX12_plays 46 = .ok (.iaload, 1) := by decide +kernel
theorem dX12_plays_47 : decode cX12_plays 47 = .ok (.tableswitch 101 0 4 #[33, 44, 53, 65, 89], 33) := by decide +kernel
theorem dX12_plays_80 : decode cX12_plays 80 = .ok (.aload_n 0, 1) := by decide +kernel
theorem dX12_plays_81 : decode cX12_plays 81 = .ok (.getfield 7, 3) := by decide +kernel
theorem dX12_plays_84 : decode cX12_plays 84 = .ok (.iconst 0, 1) := by decide +kernel
theorem dX12_plays_85 : decode cX12_plays 85 = .ok (.iload 4, 2) := by decide +kernel
theorem dX12_plays_87 : decode cX12_plays 87 = .ok (.iastore, 1) := by decide +kernel
theorem dX12_plays_88 : decode cX12_plays 88 = .ok (.goto 90, 3) := by decide +kernel
theorem dX12_plays_91 : decode cX12_plays 91 = .ok (.aload_n 0, 1) := by decide +kernel
theorem dX12_plays_92 : decode cX12_plays 92 = .ok (.iload 4, 2) := by decide +kernel
theorem dX12_plays_94 : decode cX12_plays 94 = .ok (.invokevirtual 99, 3) := by decide +kernel
theorem dX12_plays_97 : decode cX12_plays 97 = .ok (.goto 81, 3) := by decide +kernel
theorem dX12_plays_100 : decode cX12_plays 100 = .ok (.aload_n 0, 1) := by decide +kernel
theorem dX12_plays_101 : decode cX12_plays 101 = .ok (.getfield 7, 3) := by decide +kernel
theorem dX12_plays_104 : decode cX12_plays 104 = .ok (.bipush 14, 2) := by decide +kernel
theorem dX12_plays_106 : decode cX12_plays 106 = .ok (.iload 4, 2) := by decide +kernel
theorem dX12_plays_108 : decode cX12_plays 108 = .ok (.iastore, 1) := by decide +kernel
theorem dX12_plays_109 : decode cX12_plays 109 = .ok (.goto 69, 3) := by decide +kernel
theorem dX12_plays_112 : decode cX12_plays 112 = .ok (.aload_n 0, 1) := by decide +kernel
theorem dX12_plays_113 : decode cX12_plays 113 = .ok (.getfield 7, 3) := by decide +kernel
theorem dX12_plays_116 : decode cX12_plays 116 = .ok (.bipush 15, 2) := by decide +kernel
theorem dX12_plays_118 : decode cX12_plays 118 = .ok (.aload_n 0, 1) := by decide +kernel
theorem dX12_plays_119 : decode cX12_plays 119 = .ok (.iconst 1, 1) := by decide +kernel
theorem dX12_plays_120 : decode cX12_plays 120 = .ok (.invokevirtual 56, 3) := by decide +kernel
theorem dX12_plays_123 : decode cX12_plays 123 = .ok (.ifCond .eq 7, 3) := by decide +kernel
theorem dX12_plays_126 : decode cX12_plays 126 = .ok (.iconst 0, 1) := by decide +kernel
theorem dX12_plays_127 : decode cX12_plays 127 = .ok (.goto 5, 3) := by decide +kernel
theorem dX12_plays_130 : decode cX12_plays 130 = .ok (.iload 4, 2) := by decide +kernel
theorem dX12_plays_132 : decode cX12_plays 132 = .ok (.iastore, 1) := by decide +kernel
theorem dX12_plays_133 : decode cX12_plays 133 = .ok (.goto 45, 3) := by decide +kernel
theorem dX12_plays_136 : decode cX12_plays 136 = .ok (.aload_n 0, 1) := by decide +kernel
theorem dX12_plays_137 : decode cX12_plays 137 = .ok (.getfield 7, 3) := by decide +kernel
theorem dX12_plays_140 : decode cX12_plays 140 = .ok (.bipush 7, 2) := by decide +kernel
theorem dX12_plays_142 : decode cX12_plays 142 = .ok (.iload 4, 2) := by decide +kernel
theorem dX12_plays_144 : decode cX12_plays 144 = .ok (.iastore, 1) := by decide +kernel
theorem dX12_plays_145 : decode cX12_plays 145 = .ok (.goto 33, 3) := by decide +kernel
theorem dX12_plays_148 : decode cX12_plays 148 = .ok (.aload_n 0, 1) := by decide +kernel
theorem dX12_plays_149 : decode cX12_plays 149 = .ok (.getfield 7, 3) := by decide +kernel
theorem dX12_plays_152 : decode cX12_plays 152 = .ok (.iconst 2, 1) := by decide +kernel
theorem dX12_plays_153 : decode cX12_plays 153 = .ok (.aload_n 0, 1) := by decide +kernel
theorem dX12_plays_154 : decode cX12_plays 154 = .ok (.getfield 7, 3) := by decide +kernel
theorem dX12_plays_157 : decode cX12_plays 157 = .ok (.iconst 2, 1) := by decide +kernel
theorem dX12_plays_158 : decode cX12_plays 158 = .ok (.iaload, 1) := by decide +kernel
theorem dX12_plays_159 : decode cX12_plays 159 = .ok (.iload 4, 2) := by decide +kernel
theorem dX12_plays_161 : decode cX12_plays 161 = .ok (.if_icmp .le 15, 3) := by decide +kernel
theorem dX12_plays_164 : decode cX12_plays 164 = .ok (.aload_n 0, 1) := by decide +kernel
theorem dX12_plays_165 : decode cX12_plays 165 = .ok (.getfield 7, 3) := by decide +kernel
theorem dX12_plays_168 : decode cX12_plays 168 = .ok (.iconst 2, 1) := by decide +kernel
theorem dX12_plays_169 : decode cX12_plays 169 = .ok (.iaload, 1) := by decide +kernel
theorem dX12_plays_170 : decode cX12_plays 170 = .ok (.iload 4, 2) := by decide +kernel
theorem dX12_plays_172 : decode cX12_plays 172 = .ok (.isub, 1) := by decide +kernel
theorem dX12_plays_173 : decode cX12_plays 173 = .ok (.goto 4, 3) := by decide +kernel
theorem dX12_plays_176 : decode cX12_plays 176 = .ok (.iconst 0, 1) := by decide +kernel
theorem dX12_plays_177 : decode cX12_plays 177 = .ok (.iastore, 1) := by decide +kernel
theorem dX12_plays_178 : decode cX12_plays 178 = .ok (.iinc 3 1, 3) := by decide +kernel
theorem dX12_plays_181 : decode cX12_plays 181 = .ok (.goto (-170), 3) := by decide +kernel
theorem dX12_plays_184 : decode cX12_plays 184 = .ok (.return_, 1) := by decide +kernel
set_option maxRecDepth 20000 in
theorem ggX12_play_X12_isSky : GoodIn wsX12_play wsX12_isSky := goodIn_r _ [6, 1, 7, 8, 5, 9, 61, 62, 63, 64, 65, 66, 67, 68, 69, 70, 71, 72, 73, 74, 75, 76, 77, 78, 79] (by decide +kernel) (by decide +kernel)
set_option maxRecDepth 20000 in
theorem gX12_play_X12_isSky : GoodIn wsX12_play (wsV RX12 187 RX12 yX12_isSky wsX12_isSky) := goodIn_app (goodIn_of _ (by decide +kernel)) ggX12_play_X12_isSky
set_option maxRecDepth 20000 in
theorem ggX12_play_X12_finding : GoodIn wsX12_play wsX12_finding := goodIn_r _ [13, 14, 15, 61, 62, 63, 64, 65, 66, 67, 68, 69, 70, 71, 72, 73, 74, 75, 76, 77, 78, 79] (by decide +kernel) (by decide +kernel)
set_option maxRecDepth 20000 in
theorem gX12_play_X12_finding : GoodIn wsX12_play (wsV RX12 52 RX12 yX12_finding wsX12_finding) := goodIn_app (goodIn_of _ (by decide +kernel)) ggX12_play_X12_finding
set_option maxRecDepth 20000 in
theorem ggX12_play_X12_plays : GoodIn wsX12_play wsX12_plays := goodIn_r _ [19, 1, 20, 21, 22, 5, 23, 24, 25, 26, 27, 28, 29, 30, 31, 32, 33, 34, 35, 36, 37, 38, 39, 40, 41, 42, 43, 44, 45, 46, 47, 48, 49, 50, 51, 52, 53, 54, 55, 56, 57, 58, 59, 60, 61, 62, 63, 64, 65, 66, 67, 68, 69, 70, 71, 72, 73, 74, 75, 76, 77, 78, 79] (by decide +kernel) (by decide +kernel)
set_option maxRecDepth 20000 in
theorem gX12_play_X12_plays : GoodIn wsX12_play (wsV RX12 190 RX12 yX12_plays wsX12_plays) := goodIn_app (goodIn_of _ (by decide +kernel)) ggX12_play_X12_plays
theorem dX12_play_0 : decode cX12_play 0 = .ok (.aload_n 0, 1) := by decide +kernel
theorem dX12_play_1 : decode cX12_play 1 = .ok (.iload_n 1, 1) := by decide +kernel
theorem dX12_play_2 : decode cX12_play 2 = .ok (.invokevirtual 187, 3) := by decide +kernel
theorem dX12_play_5 : decode cX12_play 5 = .ok (.ifCond .ne 9, 3) := by decide +kernel
theorem dX12_play_8 : decode cX12_play 8 = .ok (.aload_n 0, 1) := by decide +kernel
theorem dX12_play_9 : decode cX12_play 9 = .ok (.iconst 0, 1) := by decide +kernel
theorem dX12_play_10 : decode cX12_play 10 = .ok (.invokevirtual 52, 3) := by decide +kernel
theorem dX12_play_13 : decode cX12_play 13 = .ok (.ireturn, 1) := by decide +kernel
theorem dX12_play_14 : decode cX12_play 14 = .ok (.aload_n 0, 1) := by decide +kernel
theorem dX12_play_15 : decode cX12_play 15 = .ok (.iload_n 1, 1) := by decide +kernel
theorem dX12_play_16 : decode cX12_play 16 = .ok (.invokevirtual 190, 3) := by decide +kernel
theorem dX12_play_19 : decode cX12_play 19 = .ok (.aload_n 0, 1) := by decide +kernel
theorem dX12_play_20 : decode cX12_play 20 = .ok (.getfield 7, 3) := by decide +kernel
theorem dX12_play_23 : decode cX12_play 23 = .ok (.iconst 2, 1) := by decide +kernel
theorem dX12_play_24 : decode cX12_play 24 = .ok (.iaload, 1) := by decide +kernel
theorem dX12_play_25 : decode cX12_play 25 = .ok (.ireturn, 1) := by decide +kernel
set_option maxRecDepth 20000 in
theorem ggX12_toldOf_X12_harm : GoodIn wsX12_toldOf wsX12_harm := goodIn_r _ [7, 1, 8, 9, 10, 6, 11, 20, 21, 22, 23, 24, 25, 26, 27, 28, 29, 30, 31, 32, 33, 34, 35, 36, 37, 38] (by decide +kernel) (by decide +kernel)
set_option maxRecDepth 20000 in
theorem gX12_toldOf_X12_harm : GoodIn wsX12_toldOf (wsV RX12 193 RX12 yX12_harm wsX12_harm) := goodIn_app (goodIn_of _ (by decide +kernel)) ggX12_toldOf_X12_harm
set_option maxRecDepth 20000 in
theorem ggX12_toldOf_X12_layBack : GoodIn wsX12_toldOf wsX12_layBack := goodIn_r _ [15, 16, 1, 17, 18, 6, 19, 20, 21, 22, 23, 24, 25, 26, 27, 28, 29, 30, 31, 32, 33, 34, 35, 36, 37, 38] (by decide +kernel) (by decide +kernel)
set_option maxRecDepth 20000 in
theorem gX12_toldOf_X12_layBack : GoodIn wsX12_toldOf (wsV RX12 196 RX12 yX12_layBack wsX12_layBack) := goodIn_app (goodIn_of _ (by decide +kernel)) ggX12_toldOf_X12_layBack
theorem dX12_toldOf_0 : decode cX12_toldOf 0 = .ok (.iload_n 1, 1) := by decide +kernel
theorem dX12_toldOf_1 : decode cX12_toldOf 1 = .ok (.ifCond .ne 12, 3) := by decide +kernel
theorem dX12_toldOf_4 : decode cX12_toldOf 4 = .ok (.aload_n 0, 1) := by decide +kernel
theorem dX12_toldOf_5 : decode cX12_toldOf 5 = .ok (.getfield 7, 3) := by decide +kernel
theorem dX12_toldOf_8 : decode cX12_toldOf 8 = .ok (.iconst 2, 1) := by decide +kernel
theorem dX12_toldOf_9 : decode cX12_toldOf 9 = .ok (.iaload, 1) := by decide +kernel
theorem dX12_toldOf_10 : decode cX12_toldOf 10 = .ok (.goto 36, 3) := by decide +kernel
theorem dX12_toldOf_13 : decode cX12_toldOf 13 = .ok (.iload_n 1, 1) := by decide +kernel
theorem dX12_toldOf_14 : decode cX12_toldOf 14 = .ok (.iconst 1, 1) := by decide +kernel
theorem dX12_toldOf_15 : decode cX12_toldOf 15 = .ok (.if_icmp .ne 10, 3) := by decide +kernel
theorem dX12_toldOf_18 : decode cX12_toldOf 18 = .ok (.aload_n 0, 1) := by decide +kernel
theorem dX12_toldOf_19 : decode cX12_toldOf 19 = .ok (.getfield 95, 3) := by decide +kernel
theorem dX12_toldOf_22 : decode cX12_toldOf 22 = .ok (.goto 24, 3) := by decide +kernel
theorem dX12_toldOf_25 : decode cX12_toldOf 25 = .ok (.iload_n 1, 1) := by decide +kernel
theorem dX12_toldOf_26 : decode cX12_toldOf 26 = .ok (.iconst 2, 1) := by decide +kernel
theorem dX12_toldOf_27 : decode cX12_toldOf 27 = .ok (.if_icmp .ne 15, 3) := by decide +kernel
theorem dX12_toldOf_30 : decode cX12_toldOf 30 = .ok (.aload_n 0, 1) := by decide +kernel
theorem dX12_toldOf_31 : decode cX12_toldOf 31 = .ok (.getfield 7, 3) := by decide +kernel
theorem dX12_toldOf_34 : decode cX12_toldOf 34 = .ok (.bipush 9, 2) := by decide +kernel
theorem dX12_toldOf_36 : decode cX12_toldOf 36 = .ok (.iaload, 1) := by decide +kernel
theorem dX12_toldOf_37 : decode cX12_toldOf 37 = .ok (.iload_n 2, 1) := by decide +kernel
theorem dX12_toldOf_38 : decode cX12_toldOf 38 = .ok (.isub, 1) := by decide +kernel
theorem dX12_toldOf_39 : decode cX12_toldOf 39 = .ok (.goto 7, 3) := by decide +kernel
theorem dX12_toldOf_42 : decode cX12_toldOf 42 = .ok (.aload_n 0, 1) := by decide +kernel
theorem dX12_toldOf_43 : decode cX12_toldOf 43 = .ok (.invokevirtual 193, 3) := by decide +kernel
theorem dX12_toldOf_46 : decode cX12_toldOf 46 = .ok (.istore_n 3, 1) := by decide +kernel
theorem dX12_toldOf_47 : decode cX12_toldOf 47 = .ok (.aload_n 0, 1) := by decide +kernel
theorem dX12_toldOf_48 : decode cX12_toldOf 48 = .ok (.invokevirtual 196, 3) := by decide +kernel
theorem dX12_toldOf_51 : decode cX12_toldOf 51 = .ok (.iload_n 3, 1) := by decide +kernel
theorem dX12_toldOf_52 : decode cX12_toldOf 52 = .ok (.ireturn, 1) := by decide +kernel
set_option maxRecDepth 20000 in
theorem ggX12_ahead_X12_in : GoodIn wsX12_ahead wsX12_in := goodIn_r _ [6] (by decide +kernel) (by decide +kernel)
set_option maxRecDepth 20000 in
theorem gX12_ahead_X12_in : GoodIn wsX12_ahead (va_wsS RX12 48 yX12_in wsX12_in) := goodIn_app (goodIn_of _ (by decide +kernel)) ggX12_ahead_X12_in
set_option maxRecDepth 20000 in
theorem ggX12_ahead_X12_finding : GoodIn wsX12_ahead wsX12_finding := goodIn_r _ [10, 11, 12, 73, 74, 75, 76, 77, 78, 79, 80, 81, 82, 83, 84, 85, 86, 87, 88, 89, 90, 91] (by decide +kernel) (by decide +kernel)
set_option maxRecDepth 20000 in
theorem gX12_ahead_X12_finding : GoodIn wsX12_ahead (wsV RX12 52 RX12 yX12_finding wsX12_finding) := goodIn_app (goodIn_of _ (by decide +kernel)) ggX12_ahead_X12_finding
set_option maxRecDepth 20000 in
theorem ggX12_ahead_X12_begin : GoodIn wsX12_ahead wsX12_begin := goodIn_r _ [16, 2, 17, 18, 19, 5, 20, 73, 74, 75, 76, 77, 78, 79, 80, 81, 82, 83, 84, 85, 86, 87, 88, 89, 90, 91] (by decide +kernel) (by decide +kernel)
set_option maxRecDepth 20000 in
theorem gX12_ahead_X12_begin : GoodIn wsX12_ahead (wsV RX12 199 RX12 yX12_begin wsX12_begin) := goodIn_app (goodIn_of _ (by decide +kernel)) ggX12_ahead_X12_begin
set_option maxRecDepth 20000 in
theorem ggX12_ahead_X12_goesOn : GoodIn wsX12_ahead wsX12_goesOn := goodIn_r _ [24, 2, 1, 25, 26, 27, 5, 28, 29, 30, 31, 32, 33, 34, 35, 36, 37, 38, 39, 40, 41, 42, 43, 44, 45, 46, 47, 48, 49, 50, 51, 52, 53, 54, 55, 56, 57, 58, 59, 60, 73, 74, 75, 76, 77, 78, 79, 80, 81, 82, 83, 84, 85, 86, 87, 88, 89, 90, 91] (by decide +kernel) (by decide +kernel)
set_option maxRecDepth 20000 in
theorem gX12_ahead_X12_goesOn : GoodIn wsX12_ahead (wsV RX12 99 RX12 yX12_goesOn wsX12_goesOn) := goodIn_app (goodIn_of _ (by decide +kernel)) ggX12_ahead_X12_goesOn
set_option maxRecDepth 20000 in
theorem ggX12_ahead_X12_toldOf : GoodIn wsX12_ahead wsX12_toldOf := goodIn_r _ [64, 2, 1, 65, 66, 67, 5, 68, 57, 58, 59, 60, 69, 70, 71, 72, 17, 18, 19, 20, 73, 74, 75, 76, 77, 78, 79, 80, 81, 82, 83, 84, 85, 86, 87, 88, 89, 90, 91] (by decide +kernel) (by decide +kernel)
set_option maxRecDepth 20000 in
theorem gX12_ahead_X12_toldOf : GoodIn wsX12_ahead (wsV RX12 202 RX12 yX12_toldOf wsX12_toldOf) := goodIn_app (goodIn_of _ (by decide +kernel)) ggX12_ahead_X12_toldOf
theorem dX12_ahead_0 : decode cX12_ahead 0 = .ok (.iload_n 1, 1) := by decide +kernel
theorem dX12_ahead_1 : decode cX12_ahead 1 = .ok (.iconst 0, 1) := by decide +kernel
theorem dX12_ahead_2 : decode cX12_ahead 2 = .ok (.sipush 400, 3) := by decide +kernel
theorem dX12_ahead_5 : decode cX12_ahead 5 = .ok (.invokestatic 48, 3) := by decide +kernel
theorem dX12_ahead_8 : decode cX12_ahead 8 = .ok (.ifCond .eq 12, 3) := by decide +kernel
theorem dX12_ahead_11 : decode cX12_ahead 11 = .ok (.iload_n 2, 1) := by decide +kernel
theorem dX12_ahead_12 : decode cX12_ahead 12 = .ok (.iconst 0, 1) := by decide +kernel
theorem dX12_ahead_13 : decode cX12_ahead 13 = .ok (.iconst 3, 1) := by decide +kernel
theorem dX12_ahead_14 : decode cX12_ahead 14 = .ok (.invokestatic 48, 3) := by decide +kernel
theorem dX12_ahead_17 : decode cX12_ahead 17 = .ok (.ifCond .ne 9, 3) := by decide +kernel
theorem dX12_ahead_20 : decode cX12_ahead 20 = .ok (.aload_n 0, 1) := by decide +kernel
theorem dX12_ahead_21 : decode cX12_ahead 21 = .ok (.iconst 0, 1) := by decide +kernel
theorem dX12_ahead_22 : decode cX12_ahead 22 = .ok (.invokevirtual 52, 3) := by decide +kernel
theorem dX12_ahead_25 : decode cX12_ahead 25 = .ok (.ireturn, 1) := by decide +kernel
theorem dX12_ahead_26 : decode cX12_ahead 26 = .ok (.aload_n 0, 1) := by decide +kernel
theorem dX12_ahead_27 : decode cX12_ahead 27 = .ok (.invokevirtual 199, 3) := by decide +kernel
theorem dX12_ahead_30 : decode cX12_ahead 30 = .ok (.aload_n 0, 1) := by decide +kernel
theorem dX12_ahead_31 : decode cX12_ahead 31 = .ok (.iconst 0, 1) := by decide +kernel
theorem dX12_ahead_32 : decode cX12_ahead 32 = .ok (.putfield 95, 3) := by decide +kernel
theorem dX12_ahead_35 : decode cX12_ahead 35 = .ok (.aload_n 0, 1) := by decide +kernel
theorem dX12_ahead_36 : decode cX12_ahead 36 = .ok (.getfield 7, 3) := by decide +kernel
theorem dX12_ahead_39 : decode cX12_ahead 39 = .ok (.bipush 9, 2) := by decide +kernel
theorem dX12_ahead_41 : decode cX12_ahead 41 = .ok (.iaload, 1) := by decide +kernel
theorem dX12_ahead_42 : decode cX12_ahead 42 = .ok (.istore_n 3, 1) := by decide +kernel
theorem dX12_ahead_43 : decode cX12_ahead 43 = .ok (.aload_n 0, 1) := by decide +kernel
theorem dX12_ahead_44 : decode cX12_ahead 44 = .ok (.iload_n 1, 1) := by decide +kernel
theorem dX12_ahead_45 : decode cX12_ahead 45 = .ok (.invokevirtual 99, 3) := by decide +kernel
theorem dX12_ahead_48 : decode cX12_ahead 48 = .ok (.aload_n 0, 1) := by decide +kernel
theorem dX12_ahead_49 : decode cX12_ahead 49 = .ok (.iload_n 2, 1) := by decide +kernel
theorem dX12_ahead_50 : decode cX12_ahead 50 = .ok (.iload_n 3, 1) := by decide +kernel
theorem dX12_ahead_51 : decode cX12_ahead 51 = .ok (.invokevirtual 202, 3) := by decide +kernel
theorem dX12_ahead_54 : decode cX12_ahead 54 = .ok (.ireturn, 1) := by decide +kernel
set_option maxRecDepth 20000 in
theorem ggX12_under_X12_isSky : GoodIn wsX12_under wsX12_isSky := goodIn_r _ [7, 2, 8, 9, 6, 10, 81, 82, 83, 84, 85, 86, 87, 88, 89, 90, 91, 92, 93, 94, 95, 96, 97, 98, 99] (by decide +kernel) (by decide +kernel)
set_option maxRecDepth 20000 in
theorem gX12_under_X12_isSky : GoodIn wsX12_under (wsV RX12 187 RX12 yX12_isSky wsX12_isSky) := goodIn_app (goodIn_of _ (by decide +kernel)) ggX12_under_X12_isSky
set_option maxRecDepth 20000 in
theorem ggX12_under_X12_in : GoodIn wsX12_under wsX12_in := goodIn_r _ [10] (by decide +kernel) (by decide +kernel)
set_option maxRecDepth 20000 in
theorem gX12_under_X12_in : GoodIn wsX12_under (va_wsS RX12 48 yX12_in wsX12_in) := goodIn_app (goodIn_of _ (by decide +kernel)) ggX12_under_X12_in
set_option maxRecDepth 20000 in
theorem ggX12_under_X12_finding : GoodIn wsX12_under wsX12_finding := goodIn_r _ [14, 15, 16, 81, 82, 83, 84, 85, 86, 87, 88, 89, 90, 91, 92, 93, 94, 95, 96, 97, 98, 99] (by decide +kernel) (by decide +kernel)
set_option maxRecDepth 20000 in
theorem gX12_under_X12_finding : GoodIn wsX12_under (wsV RX12 52 RX12 yX12_finding wsX12_finding) := goodIn_app (goodIn_of _ (by decide +kernel)) ggX12_under_X12_finding
set_option maxRecDepth 20000 in
theorem ggX12_under_X12_begin : GoodIn wsX12_under wsX12_begin := goodIn_r _ [20, 2, 21, 22, 23, 6, 24, 81, 82, 83, 84, 85, 86, 87, 88, 89, 90, 91, 92, 93, 94, 95, 96, 97, 98, 99] (by decide +kernel) (by decide +kernel)
set_option maxRecDepth 20000 in
theorem gX12_under_X12_begin : GoodIn wsX12_under (wsV RX12 199 RX12 yX12_begin wsX12_begin) := goodIn_app (goodIn_of _ (by decide +kernel)) ggX12_under_X12_begin
set_option maxRecDepth 20000 in
theorem ggX12_under_X12_plays : GoodIn wsX12_under wsX12_plays := goodIn_r _ [28, 2, 29, 30, 31, 6, 32, 1, 33, 34, 35, 36, 37, 38, 39, 40, 41, 42, 43, 44, 45, 46, 47, 48, 49, 50, 51, 52, 53, 54, 55, 56, 57, 58, 59, 60, 61, 62, 63, 64, 65, 66, 67, 68, 81, 82, 83, 84, 85, 86, 87, 88, 89, 90, 91, 92, 93, 94, 95, 96, 97, 98, 99] (by decide +kernel) (by decide +kernel)
set_option maxRecDepth 20000 in
theorem gX12_under_X12_plays : GoodIn wsX12_under (wsV RX12 190 RX12 yX12_plays wsX12_plays) := goodIn_app (goodIn_of _ (by decide +kernel)) ggX12_under_X12_plays
set_option maxRecDepth 20000 in
theorem ggX12_under_X12_toldOf : GoodIn wsX12_under wsX12_toldOf := goodIn_r _ [72, 2, 1, 73, 74, 75, 6, 76, 65, 66, 67, 68, 77, 78, 79, 80, 21, 22, 23, 24, 81, 82, 83, 84, 85, 86, 87, 88, 89, 90, 91, 92, 93, 94, 95, 96, 97, 98, 99] (by decide +kernel) (by decide +kernel)
set_option maxRecDepth 20000 in
theorem gX12_under_X12_toldOf : GoodIn wsX12_under (wsV RX12 202 RX12 yX12_toldOf wsX12_toldOf) := goodIn_app (goodIn_of _ (by decide +kernel)) ggX12_under_X12_toldOf
theorem dX12_under_0 : decode cX12_under 0 = .ok (.aload_n 0, 1) := by decide +kernel
theorem dX12_under_1 : decode cX12_under 1 = .ok (.iload_n 1, 1) := by decide +kernel
theorem dX12_under_2 : decode cX12_under 2 = .ok (.invokevirtual 187, 3) := by decide +kernel
theorem dX12_under_5 : decode cX12_under 5 = .ok (.ifCond .eq 12, 3) := by decide +kernel
theorem dX12_under_8 : decode cX12_under 8 = .ok (.iload_n 2, 1) := by decide +kernel
theorem dX12_under_9 : decode cX12_under 9 = .ok (.iconst 0, 1) := by decide +kernel
theorem dX12_under_10 : decode cX12_under 10 = .ok (.iconst 3, 1) := by decide +kernel
theorem dX12_under_11 : decode cX12_under 11 = .ok (.invokestatic 48, 3) := by decide +kernel
theorem dX12_under_14 : decode cX12_under 14 = .ok (.ifCond .ne 9, 3) := by decide +kernel
theorem dX12_under_17 : decode cX12_under 17 = .ok (.aload_n 0, 1) := by decide +kernel
theorem dX12_under_18 : decode cX12_under 18 = .ok (.iconst 0, 1) := by decide +kernel
theorem dX12_under_19 : decode cX12_under 19 = .ok (.invokevirtual 52, 3) := by decide +kernel
theorem dX12_under_22 : decode cX12_under 22 = .ok (.ireturn, 1) := by decide +kernel
theorem dX12_under_23 : decode cX12_under 23 = .ok (.aload_n 0, 1) := by decide +kernel
theorem dX12_under_24 : decode cX12_under 24 = .ok (.invokevirtual 199, 3) := by decide +kernel
theorem dX12_under_27 : decode cX12_under 27 = .ok (.aload_n 0, 1) := by decide +kernel
theorem dX12_under_28 : decode cX12_under 28 = .ok (.iconst 0, 1) := by decide +kernel
theorem dX12_under_29 : decode cX12_under 29 = .ok (.putfield 95, 3) := by decide +kernel
theorem dX12_under_32 : decode cX12_under 32 = .ok (.aload_n 0, 1) := by decide +kernel
theorem dX12_under_33 : decode cX12_under 33 = .ok (.getfield 7, 3) := by decide +kernel
theorem dX12_under_36 : decode cX12_under 36 = .ok (.bipush 9, 2) := by decide +kernel
theorem dX12_under_38 : decode cX12_under 38 = .ok (.iaload, 1) := by decide +kernel
theorem dX12_under_39 : decode cX12_under 39 = .ok (.istore_n 3, 1) := by decide +kernel
theorem dX12_under_40 : decode cX12_under 40 = .ok (.aload_n 0, 1) := by decide +kernel
theorem dX12_under_41 : decode cX12_under 41 = .ok (.iload_n 1, 1) := by decide +kernel
theorem dX12_under_42 : decode cX12_under 42 = .ok (.invokevirtual 190, 3) := by decide +kernel
theorem dX12_under_45 : decode cX12_under 45 = .ok (.aload_n 0, 1) := by decide +kernel
theorem dX12_under_46 : decode cX12_under 46 = .ok (.iload_n 2, 1) := by decide +kernel
theorem dX12_under_47 : decode cX12_under 47 = .ok (.iload_n 3, 1) := by decide +kernel
theorem dX12_under_48 : decode cX12_under 48 = .ok (.invokevirtual 202, 3) := by decide +kernel
theorem dX12_under_51 : decode cX12_under 51 = .ok (.ireturn, 1) := by decide +kernel
set_option maxRecDepth 20000 in
theorem ggX12_reaches_X12_in : GoodIn wsX12_reaches wsX12_in := goodIn_r _ [5] (by decide +kernel) (by decide +kernel)
set_option maxRecDepth 20000 in
theorem gX12_reaches_X12_in : GoodIn wsX12_reaches (va_wsS RX12 48 yX12_in wsX12_in) := goodIn_app (goodIn_of _ (by decide +kernel)) ggX12_reaches_X12_in
set_option maxRecDepth 20000 in
theorem ggX12_reaches_X12_finding : GoodIn wsX12_reaches wsX12_finding := goodIn_r _ [9, 10, 11, 65, 66, 67, 68, 69, 70, 71, 72, 73, 74, 75, 76, 77, 78, 79, 80, 81, 82, 83] (by decide +kernel) (by decide +kernel)
set_option maxRecDepth 20000 in
theorem gX12_reaches_X12_finding : GoodIn wsX12_reaches (wsV RX12 52 RX12 yX12_finding wsX12_finding) := goodIn_app (goodIn_of _ (by decide +kernel)) ggX12_reaches_X12_finding
set_option maxRecDepth 20000 in
theorem ggX12_reaches_X12_begin : GoodIn wsX12_reaches wsX12_begin := goodIn_r _ [15, 16, 17, 18, 19, 4, 20, 65, 66, 67, 68, 69, 70, 71, 72, 73, 74, 75, 76, 77, 78, 79, 80, 81, 82, 83] (by decide +kernel) (by decide +kernel)
set_option maxRecDepth 20000 in
theorem gX12_reaches_X12_begin : GoodIn wsX12_reaches (wsV RX12 199 RX12 yX12_begin wsX12_begin) := goodIn_app (goodIn_of _ (by decide +kernel)) ggX12_reaches_X12_begin
set_option maxRecDepth 20000 in
theorem ggX12_reaches_X12_goesOn : GoodIn wsX12_reaches wsX12_goesOn := goodIn_r _ [24, 16, 1, 25, 26, 27, 4, 28, 29, 30, 31, 32, 33, 34, 35, 36, 37, 38, 39, 40, 41, 42, 43, 44, 45, 46, 47, 48, 49, 50, 51, 52, 53, 54, 55, 56, 57, 58, 59, 60, 65, 66, 67, 68, 69, 70, 71, 72, 73, 74, 75, 76, 77, 78, 79, 80, 81, 82, 83] (by decide +kernel) (by decide +kernel)
set_option maxRecDepth 20000 in
theorem gX12_reaches_X12_goesOn : GoodIn wsX12_reaches (wsV RX12 99 RX12 yX12_goesOn wsX12_goesOn) := goodIn_app (goodIn_of _ (by decide +kernel)) ggX12_reaches_X12_goesOn
set_option maxRecDepth 20000 in
theorem ggX12_reaches_X12_layBack : GoodIn wsX12_reaches wsX12_layBack := goodIn_r _ [64, 17, 16, 18, 19, 4, 20, 65, 66, 67, 68, 69, 70, 71, 72, 73, 74, 75, 76, 77, 78, 79, 80, 81, 82, 83] (by decide +kernel) (by decide +kernel)
set_option maxRecDepth 20000 in
theorem gX12_reaches_X12_layBack : GoodIn wsX12_reaches (wsV RX12 196 RX12 yX12_layBack wsX12_layBack) := goodIn_app (goodIn_of _ (by decide +kernel)) ggX12_reaches_X12_layBack
theorem dX12_reaches_0 : decode cX12_reaches 0 = .ok (.iload_n 1, 1) := by decide +kernel
theorem dX12_reaches_1 : decode cX12_reaches 1 = .ok (.iconst 0, 1) := by decide +kernel
theorem dX12_reaches_2 : decode cX12_reaches 2 = .ok (.sipush 9999, 3) := by decide +kernel
theorem dX12_reaches_5 : decode cX12_reaches 5 = .ok (.invokestatic 48, 3) := by decide +kernel
theorem dX12_reaches_8 : decode cX12_reaches 8 = .ok (.ifCond .ne 9, 3) := by decide +kernel
theorem dX12_reaches_11 : decode cX12_reaches 11 = .ok (.aload_n 0, 1) := by decide +kernel
theorem dX12_reaches_12 : decode cX12_reaches 12 = .ok (.iconst 0, 1) := by decide +kernel
theorem dX12_reaches_13 : decode cX12_reaches 13 = .ok (.invokevirtual 52, 3) := by decide +kernel
theorem dX12_reaches_16 : decode cX12_reaches 16 = .ok (.ireturn, 1) := by decide +kernel
theorem dX12_reaches_17 : decode cX12_reaches 17 = .ok (.aload_n 0, 1) := by decide +kernel
theorem dX12_reaches_18 : decode cX12_reaches 18 = .ok (.invokevirtual 199, 3) := by decide +kernel
theorem dX12_reaches_21 : decode cX12_reaches 21 = .ok (.aload_n 0, 1) := by decide +kernel
theorem dX12_reaches_22 : decode cX12_reaches 22 = .ok (.iconst 0, 1) := by decide +kernel
theorem dX12_reaches_23 : decode cX12_reaches 23 = .ok (.putfield 95, 3) := by decide +kernel
theorem dX12_reaches_26 : decode cX12_reaches 26 = .ok (.iconst 0, 1) := by decide +kernel
theorem dX12_reaches_27 : decode cX12_reaches 27 = .ok (.istore_n 2, 1) := by decide +kernel
theorem dX12_reaches_28 : decode cX12_reaches 28 = .ok (.iload_n 2, 1) := by decide +kernel
theorem dX12_reaches_29 : decode cX12_reaches 29 = .ok (.sipush 400, 3) := by decide +kernel
theorem dX12_reaches_32 : decode cX12_reaches 32 = .ok (.if_icmp .ge 22, 3) := by decide +kernel
theorem dX12_reaches_35 : decode cX12_reaches 35 = .ok (.aload_n 0, 1) := by decide +kernel
theorem dX12_reaches_36 : decode cX12_reaches 36 = .ok (.getfield 95, 3) := by decide +kernel
theorem dX12_reaches_39 : decode cX12_reaches 39 = .ok (.iload_n 1, 1) := by decide +kernel
theorem dX12_reaches_40 : decode cX12_reaches 40 = .ok (.if_icmp .gt 14, 3) := by decide +kernel
theorem dX12_reaches_43 : decode cX12_reaches 43 = .ok (.aload_n 0, 1) := by decide +kernel
theorem dX12_reaches_44 : decode cX12_reaches 44 = .ok (.iconst 1, 1) := by decide +kernel
theorem dX12_reaches_45 : decode cX12_reaches 45 = .ok (.invokevirtual 99, 3) := by decide +kernel
theorem dX12_reaches_48 : decode cX12_reaches 48 = .ok (.iinc 2 1, 3) := by decide +kernel
theorem dX12_reaches_51 : decode cX12_reaches 51 = .ok (.goto (-23), 3) := by decide +kernel
theorem dX12_reaches_54 : decode cX12_reaches 54 = .ok (.aload_n 0, 1) := by decide +kernel
theorem dX12_reaches_55 : decode cX12_reaches 55 = .ok (.getfield 95, 3) := by decide +kernel
theorem dX12_reaches_58 : decode cX12_reaches 58 = .ok (.iload_n 1, 1) := by decide +kernel
theorem dX12_reaches_59 : decode cX12_reaches 59 = .ok (.if_icmp .le 7, 3) := by decide +kernel
theorem dX12_reaches_62 : decode cX12_reaches 62 = .ok (.iconst 1, 1) := by decide +kernel
theorem dX12_reaches_63 : decode cX12_reaches 63 = .ok (.goto 4, 3) := by decide +kernel
theorem dX12_reaches_66 : decode cX12_reaches 66 = .ok (.iconst 0, 1) := by decide +kernel
theorem dX12_reaches_67 : decode cX12_reaches 67 = .ok (.istore_n 3, 1) := by decide +kernel
theorem dX12_reaches_68 : decode cX12_reaches 68 = .ok (.aload_n 0, 1) := by decide +kernel
theorem dX12_reaches_69 : decode cX12_reaches 69 = .ok (.invokevirtual 196, 3) := by decide +kernel
theorem dX12_reaches_72 : decode cX12_reaches 72 = .ok (.iload_n 3, 1) := by decide +kernel
theorem dX12_reaches_73 : decode cX12_reaches 73 = .ok (.ifCond .eq 7, 3) := by decide +kernel
theorem dX12_reaches_76 : decode cX12_reaches 76 = .ok (.iload_n 2, 1) := by decide +kernel
theorem dX12_reaches_77 : decode cX12_reaches 77 = .ok (.goto 8, 3) := by decide +kernel
theorem dX12_reaches_80 : decode cX12_reaches 80 = .ok (.aload_n 0, 1) := by decide +kernel
theorem dX12_reaches_81 : decode cX12_reaches 81 = .ok (.iconst 3, 1) := by decide +kernel
theorem dX12_reaches_82 : decode cX12_reaches 82 = .ok (.invokevirtual 52, 3) := by decide +kernel
theorem dX12_reaches_85 : decode cX12_reaches 85 = .ok (.ireturn, 1) := by decide +kernel
set_option maxRecDepth 20000 in
theorem ggX12_isNight_X12_in : GoodIn wsX12_isNight wsX12_in := goodIn_r _ [4] (by decide +kernel) (by decide +kernel)
set_option maxRecDepth 20000 in
theorem gX12_isNight_X12_in : GoodIn wsX12_isNight (va_wsS RX12 48 yX12_in wsX12_in) := goodIn_app (goodIn_of _ (by decide +kernel)) ggX12_isNight_X12_in
theorem dX12_isNight_0 : decode cX12_isNight 0 = .ok (.iload_n 0, 1) := by decide +kernel
theorem dX12_isNight_1 : decode cX12_isNight 1 = .ok (.iconst 1, 1) := by decide +kernel
theorem dX12_isNight_2 : decode cX12_isNight 2 = .ok (.sipush 200, 3) := by decide +kernel
theorem dX12_isNight_5 : decode cX12_isNight 5 = .ok (.invokestatic 48, 3) := by decide +kernel
theorem dX12_isNight_8 : decode cX12_isNight 8 = .ok (.ifCond .eq 18, 3) := by decide +kernel
theorem dX12_isNight_11 : decode cX12_isNight 11 = .ok (.iload_n 1, 1) := by decide +kernel
theorem dX12_isNight_12 : decode cX12_isNight 12 = .ok (.iconst 0, 1) := by decide +kernel
theorem dX12_isNight_13 : decode cX12_isNight 13 = .ok (.sipush 9999, 3) := by decide +kernel
theorem dX12_isNight_16 : decode cX12_isNight 16 = .ok (.invokestatic 48, 3) := by decide +kernel
theorem dX12_isNight_19 : decode cX12_isNight 19 = .ok (.ifCond .eq 7, 3) := by decide +kernel
theorem dX12_isNight_22 : decode cX12_isNight 22 = .ok (.iconst 1, 1) := by decide +kernel
theorem dX12_isNight_23 : decode cX12_isNight 23 = .ok (.goto 4, 3) := by decide +kernel
theorem dX12_isNight_26 : decode cX12_isNight 26 = .ok (.iconst 0, 1) := by decide +kernel
theorem dX12_isNight_27 : decode cX12_isNight 27 = .ok (.ireturn, 1) := by decide +kernel
set_option maxRecDepth 20000 in
theorem ggX12_startsWith_X12_begin : GoodIn wsX12_startsWith wsX12_begin := goodIn_r _ [7, 2, 8, 9, 10, 6, 11, 56, 57, 58, 59, 60, 61, 62, 63, 64, 65, 66, 67, 68, 69, 70, 71, 72, 73, 74] (by decide +kernel) (by decide +kernel)
set_option maxRecDepth 20000 in
theorem gX12_startsWith_X12_begin : GoodIn wsX12_startsWith (wsV RX12 199 RX12 yX12_begin wsX12_begin) := goodIn_app (goodIn_of _ (by decide +kernel)) ggX12_startsWith_X12_begin
set_option maxRecDepth 20000 in
theorem ggX12_startsWith_X12_goesOn : GoodIn wsX12_startsWith wsX12_goesOn := goodIn_r _ [15, 2, 1, 16, 17, 18, 6, 19, 20, 21, 22, 23, 24, 25, 26, 27, 28, 29, 30, 31, 32, 33, 34, 35, 36, 37, 38, 39, 40, 41, 42, 43, 44, 45, 46, 47, 48, 49, 50, 51, 56, 57, 58, 59, 60, 61, 62, 63, 64, 65, 66, 67, 68, 69, 70, 71, 72, 73, 74] (by decide +kernel) (by decide +kernel)
set_option maxRecDepth 20000 in
theorem gX12_startsWith_X12_goesOn : GoodIn wsX12_startsWith (wsV RX12 99 RX12 yX12_goesOn wsX12_goesOn) := goodIn_app (goodIn_of _ (by decide +kernel)) ggX12_startsWith_X12_goesOn
set_option maxRecDepth 20000 in
theorem ggX12_startsWith_X12_layBack : GoodIn wsX12_startsWith wsX12_layBack := goodIn_r _ [55, 8, 2, 9, 10, 6, 11, 56, 57, 58, 59, 60, 61, 62, 63, 64, 65, 66, 67, 68, 69, 70, 71, 72, 73, 74] (by decide +kernel) (by decide +kernel)
set_option maxRecDepth 20000 in
theorem gX12_startsWith_X12_layBack : GoodIn wsX12_startsWith (wsV RX12 196 RX12 yX12_layBack wsX12_layBack) := goodIn_app (goodIn_of _ (by decide +kernel)) ggX12_startsWith_X12_layBack
theorem dX12_startsWith_0 : decode cX12_startsWith 0 = .ok (.aload_n 0, 1) := by decide +kernel
theorem dX12_startsWith_1 : decode cX12_startsWith 1 = .ok (.invokevirtual 199, 3) := by decide +kernel
theorem dX12_startsWith_4 : decode cX12_startsWith 4 = .ok (.aload_n 0, 1) := by decide +kernel
theorem dX12_startsWith_5 : decode cX12_startsWith 5 = .ok (.iconst 0, 1) := by decide +kernel
theorem dX12_startsWith_6 : decode cX12_startsWith 6 = .ok (.putfield 95, 3) := by decide +kernel
theorem dX12_startsWith_9 : decode cX12_startsWith 9 = .ok (.aload_n 0, 1) := by decide +kernel
theorem dX12_startsWith_10 : decode cX12_startsWith 10 = .ok (.getfield 7, 3) := by decide +kernel
theorem dX12_startsWith_13 : decode cX12_startsWith 13 = .ok (.iload_n 1, 1) := by decide +kernel
theorem dX12_startsWith_14 : decode cX12_startsWith 14 = .ok (.iload_n 2, 1) := by decide +kernel
theorem dX12_startsWith_15 : decode cX12_startsWith 15 = .ok (.iastore, 1) := by decide +kernel
theorem dX12_startsWith_16 : decode cX12_startsWith 16 = .ok (.aload_n 0, 1) := by decide +kernel
theorem dX12_startsWith_17 : decode cX12_startsWith 17 = .ok (.getfield 7, 3) := by decide +kernel
theorem dX12_startsWith_20 : decode cX12_startsWith 20 = .ok (.bipush 9, 2) := by decide +kernel
theorem dX12_startsWith_22 : decode cX12_startsWith 22 = .ok (.iaload, 1) := by decide +kernel
theorem dX12_startsWith_23 : decode cX12_startsWith 23 = .ok (.istore 5, 2) := by decide +kernel
theorem dX12_startsWith_25 : decode cX12_startsWith 25 = .ok (.aload_n 0, 1) := by decide +kernel
theorem dX12_startsWith_26 : decode cX12_startsWith 26 = .ok (.iload_n 3, 1) := by decide +kernel
theorem dX12_startsWith_27 : decode cX12_startsWith 27 = .ok (.invokevirtual 99, 3) := by decide +kernel
theorem dX12_startsWith_30 : decode cX12_startsWith 30 = .ok (.aload_n 0, 1) := by decide +kernel
theorem dX12_startsWith_31 : decode cX12_startsWith 31 = .ok (.getfield 95, 3) := by decide +kernel
theorem dX12_startsWith_34 : decode cX12_startsWith 34 = .ok (.iload 4, 2) := by decide +kernel
theorem dX12_startsWith_36 : decode cX12_startsWith 36 = .ok (.if_icmp .le 7, 3) := by decide +kernel
theorem dX12_startsWith_39 : decode cX12_startsWith 39 = .ok (.iconst (-1), 1) := by decide +kernel
theorem dX12_startsWith_40 : decode cX12_startsWith 40 = .ok (.goto 13, 3) := by decide +kernel
theorem dX12_startsWith_43 : decode cX12_startsWith 43 = .ok (.aload_n 0, 1) := by decide +kernel
theorem dX12_startsWith_44 : decode cX12_startsWith 44 = .ok (.getfield 7, 3) := by decide +kernel
theorem dX12_startsWith_47 : decode cX12_startsWith 47 = .ok (.bipush 9, 2) := by decide +kernel
theorem dX12_startsWith_49 : decode cX12_startsWith 49 = .ok (.iaload, 1) := by decide +kernel
theorem dX12_startsWith_50 : decode cX12_startsWith 50 = .ok (.iload 5, 2) := by decide +kernel
theorem dX12_startsWith_52 : decode cX12_startsWith 52 = .ok (.isub, 1) := by decide +kernel
theorem dX12_startsWith_53 : decode cX12_startsWith 53 = .ok (.istore 6, 2) := by decide +kernel
theorem dX12_startsWith_55 : decode cX12_startsWith 55 = .ok (.aload_n 0, 1) := by decide +kernel
theorem dX12_startsWith_56 : decode cX12_startsWith 56 = .ok (.invokevirtual 196, 3) := by decide +kernel
theorem dX12_startsWith_59 : decode cX12_startsWith 59 = .ok (.iload 6, 2) := by decide +kernel
theorem dX12_startsWith_61 : decode cX12_startsWith 61 = .ok (.ireturn, 1) := by decide +kernel
set_option maxRecDepth 20000 in
theorem ggX12_bestOn_X12_isNight : GoodIn wsX12_bestOn wsX12_isNight := goodIn_r _ [5, 6, 7, 4, 8] (by decide +kernel) (by decide +kernel)
set_option maxRecDepth 20000 in
theorem gX12_bestOn_X12_isNight : GoodIn wsX12_bestOn (va_wsS RX12 205 yX12_isNight wsX12_isNight) := goodIn_app (goodIn_of _ (by decide +kernel)) ggX12_bestOn_X12_isNight
set_option maxRecDepth 20000 in
theorem ggX12_bestOn_X12_finding : GoodIn wsX12_bestOn wsX12_finding := goodIn_r _ [12, 13, 14, 72, 73, 74, 75, 76, 77, 78, 79, 80, 81, 82, 83, 84, 85, 86, 87, 88, 89, 90] (by decide +kernel) (by decide +kernel)
set_option maxRecDepth 20000 in
theorem gX12_bestOn_X12_finding : GoodIn wsX12_bestOn (wsV RX12 52 RX12 yX12_finding wsX12_finding) := goodIn_app (goodIn_of _ (by decide +kernel)) ggX12_bestOn_X12_finding
set_option maxRecDepth 20000 in
theorem ggX12_bestOn_X12_startsWith : GoodIn wsX12_bestOn wsX12_startsWith := goodIn_r _ [18, 19, 1, 20, 21, 22, 4, 23, 24, 25, 26, 27, 28, 29, 30, 31, 32, 33, 34, 35, 36, 37, 38, 39, 40, 41, 42, 43, 44, 45, 46, 47, 48, 49, 50, 51, 52, 53, 54, 55, 56, 57, 58, 59, 60, 61, 62, 63, 64, 65, 66, 67, 68, 69, 70, 71, 72, 73, 74, 75, 76, 77, 78, 79, 80, 81, 82, 83, 84, 85, 86, 87, 88, 89, 90] (by decide +kernel) (by decide +kernel)
set_option maxRecDepth 20000 in
theorem gX12_bestOn_X12_startsWith : GoodIn wsX12_bestOn (wsV RX12 209 RX12 yX12_startsWith wsX12_startsWith) := goodIn_app (goodIn_of _ (by decide +kernel)) ggX12_bestOn_X12_startsWith
theorem dX12_bestOn_0 : decode cX12_bestOn 0 = .ok (.iload_n 1, 1) := by decide +kernel
theorem dX12_bestOn_1 : decode cX12_bestOn 1 = .ok (.iload_n 2, 1) := by decide +kernel
theorem dX12_bestOn_2 : decode cX12_bestOn 2 = .ok (.invokestatic 205, 3) := by decide +kernel
theorem dX12_bestOn_5 : decode cX12_bestOn 5 = .ok (.ifCond .ne 9, 3) := by decide +kernel
theorem dX12_bestOn_8 : decode cX12_bestOn 8 = .ok (.aload_n 0, 1) := by decide +kernel
theorem dX12_bestOn_9 : decode cX12_bestOn 9 = .ok (.iconst 0, 1) := by decide +kernel
theorem dX12_bestOn_10 : decode cX12_bestOn 10 = .ok (.invokevirtual 52, 3) := by decide +kernel
theorem dX12_bestOn_13 : decode cX12_bestOn 13 = .ok (.ireturn, 1) := by decide +kernel
theorem dX12_bestOn_14 : decode cX12_bestOn 14 = .ok (.iconst (-1), 1) := by decide +kernel
theorem dX12_bestOn_15 : decode cX12_bestOn 15 = .ok (.istore_n 3, 1) := by decide +kernel
theorem dX12_bestOn_16 : decode cX12_bestOn 16 = .ok (.iconst 0, 1) := by decide +kernel
theorem dX12_bestOn_17 : decode cX12_bestOn 17 = .ok (.istore 4, 2) := by decide +kernel
theorem dX12_bestOn_19 : decode cX12_bestOn 19 = .ok (.aload_n 0, 1) := by decide +kernel
theorem dX12_bestOn_20 : decode cX12_bestOn 20 = .ok (.getfield 7, 3) := by decide +kernel
theorem dX12_bestOn_23 : decode cX12_bestOn 23 = .ok (.iconst 4, 1) := by decide +kernel
theorem dX12_bestOn_24 : decode cX12_bestOn 24 = .ok (.iaload, 1) := by decide +kernel
theorem dX12_bestOn_25 : decode cX12_bestOn 25 = .ok (.iconst 1, 1) := by decide +kernel
theorem dX12_bestOn_26 : decode cX12_bestOn 26 = .ok (.iadd, 1) := by decide +kernel
theorem dX12_bestOn_27 : decode cX12_bestOn 27 = .ok (.istore 5, 2) := by decide +kernel
theorem dX12_bestOn_29 : decode cX12_bestOn 29 = .ok (.iload 5, 2) := by decide +kernel
theorem dX12_bestOn_31 : decode cX12_bestOn 31 = .ok (.sipush 200, 3) := by decide +kernel
theorem dX12_bestOn_34 : decode cX12_bestOn 34 = .ok (.if_icmp .gt 43, 3) := by decide +kernel
theorem dX12_bestOn_37 : decode cX12_bestOn 37 = .ok (.aload_n 0, 1) := by decide +kernel
theorem dX12_bestOn_38 : decode cX12_bestOn 38 = .ok (.iconst 3, 1) := by decide +kernel
theorem dX12_bestOn_39 : decode cX12_bestOn 39 = .ok (.iload 5, 2) := by decide +kernel
theorem dX12_bestOn_41 : decode cX12_bestOn 41 = .ok (.iload_n 1, 1) := by decide +kernel
theorem dX12_bestOn_42 : decode cX12_bestOn 42 = .ok (.iload_n 2, 1) := by decide +kernel
theorem dX12_bestOn_43 : decode cX12_bestOn 43 = .ok (.invokevirtual 209, 3) := by decide +kernel
theorem dX12_bestOn_46 : decode cX12_bestOn 46 = .ok (.istore 6, 2) := by decide +kernel
theorem dX12_bestOn_48 : decode cX12_bestOn 48 = .ok (.iload 6, 2) := by decide +kernel
theorem dX12_bestOn_50 : decode cX12_bestOn 50 = .ok (.ifCond .lt 21, 3) := by decide +kernel
theorem dX12_bestOn_53 : decode cX12_bestOn 53 = .ok (.iload_n 3, 1) := by decide +kernel
theorem dX12_bestOn_54 : decode cX12_bestOn 54 = .ok (.ifCond .lt 10, 3) := by decide +kernel
theorem dX12_bestOn_57 : decode cX12_bestOn 57 = .ok (.iload 6, 2) := by decide +kernel
theorem dX12_bestOn_59 : decode cX12_bestOn 59 = .ok (.iload 4, 2) := by decide +kernel
theorem dX12_bestOn_61 : decode cX12_bestOn 61 = .ok (.if_icmp .ge 10, 3) := by decide +kernel
theorem dX12_bestOn_64 : decode cX12_bestOn 64 = .ok (.iload 5, 2) := by decide +kernel
theorem dX12_bestOn_66 : decode cX12_bestOn 66 = .ok (.istore_n 3, 1) := by decide +kernel
theorem dX12_bestOn_67 : decode cX12_bestOn 67 = .ok (.iload 6, 2) := by decide +kernel
theorem dX12_bestOn_69 : decode cX12_bestOn 69 = .ok (.istore 4, 2) := by decide +kernel
theorem dX12_bestOn_71 : decode cX12_bestOn 71 = .ok (.iinc 5 1, 3) := by decide +kernel
theorem dX12_bestOn_74 : decode cX12_bestOn 74 = .ok (.goto (-45), 3) := by decide +kernel
theorem dX12_bestOn_77 : decode cX12_bestOn 77 = .ok (.iload_n 3, 1) := by decide +kernel
theorem dX12_bestOn_78 : decode cX12_bestOn 78 = .ok (.ifCond .ge 11, 3) := by decide +kernel
theorem dX12_bestOn_81 : decode cX12_bestOn 81 = .ok (.aload_n 0, 1) := by decide +kernel
theorem dX12_bestOn_82 : decode cX12_bestOn 82 = .ok (.iconst 3, 1) := by decide +kernel
theorem dX12_bestOn_83 : decode cX12_bestOn 83 = .ok (.invokevirtual 52, 3) := by decide +kernel
theorem dX12_bestOn_86 : decode cX12_bestOn 86 = .ok (.goto 4, 3) := by decide +kernel
theorem dX12_bestOn_89 : decode cX12_bestOn 89 = .ok (.iload_n 3, 1) := by decide +kernel
theorem dX12_bestOn_90 : decode cX12_bestOn 90 = .ok (.ireturn, 1) := by decide +kernel
set_option maxRecDepth 20000 in
theorem ggX12_rateFor_X12_isNight : GoodIn wsX12_rateFor wsX12_isNight := goodIn_r _ [4, 5, 6, 3, 7] (by decide +kernel) (by decide +kernel)
set_option maxRecDepth 20000 in
theorem gX12_rateFor_X12_isNight : GoodIn wsX12_rateFor (va_wsS RX12 205 yX12_isNight wsX12_isNight) := goodIn_app (goodIn_of _ (by decide +kernel)) ggX12_rateFor_X12_isNight
set_option maxRecDepth 20000 in
theorem ggX12_rateFor_X12_finding : GoodIn wsX12_rateFor wsX12_finding := goodIn_r _ [11, 12, 13, 72, 73, 74, 75, 76, 77, 78, 79, 80, 81, 82, 83, 84, 85, 86, 87, 88, 89, 90] (by decide +kernel) (by decide +kernel)
set_option maxRecDepth 20000 in
theorem gX12_rateFor_X12_finding : GoodIn wsX12_rateFor (wsV RX12 52 RX12 yX12_finding wsX12_finding) := goodIn_app (goodIn_of _ (by decide +kernel)) ggX12_rateFor_X12_finding
set_option maxRecDepth 20000 in
theorem ggX12_rateFor_X12_startsWith : GoodIn wsX12_rateFor wsX12_startsWith := goodIn_r _ [17, 18, 19, 20, 21, 22, 3, 23, 24, 25, 26, 27, 28, 29, 30, 31, 32, 33, 34, 35, 36, 37, 38, 39, 40, 41, 42, 43, 44, 45, 46, 47, 48, 49, 50, 51, 52, 53, 54, 55, 56, 57, 58, 59, 60, 61, 62, 63, 64, 65, 66, 67, 68, 69, 70, 71, 72, 73, 74, 75, 76, 77, 78, 79, 80, 81, 82, 83, 84, 85, 86, 87, 88, 89, 90] (by decide +kernel) (by decide +kernel)
set_option maxRecDepth 20000 in
theorem gX12_rateFor_X12_startsWith : GoodIn wsX12_rateFor (wsV RX12 209 RX12 yX12_startsWith wsX12_startsWith) := goodIn_app (goodIn_of _ (by decide +kernel)) ggX12_rateFor_X12_startsWith
theorem dX12_rateFor_0 : decode cX12_rateFor 0 = .ok (.iload_n 1, 1) := by decide +kernel
theorem dX12_rateFor_1 : decode cX12_rateFor 1 = .ok (.iload_n 2, 1) := by decide +kernel
theorem dX12_rateFor_2 : decode cX12_rateFor 2 = .ok (.invokestatic 205, 3) := by decide +kernel
theorem dX12_rateFor_5 : decode cX12_rateFor 5 = .ok (.ifCond .ne 9, 3) := by decide +kernel
theorem dX12_rateFor_8 : decode cX12_rateFor 8 = .ok (.aload_n 0, 1) := by decide +kernel
theorem dX12_rateFor_9 : decode cX12_rateFor 9 = .ok (.iconst 0, 1) := by decide +kernel
theorem dX12_rateFor_10 : decode cX12_rateFor 10 = .ok (.invokevirtual 52, 3) := by decide +kernel
theorem dX12_rateFor_13 : decode cX12_rateFor 13 = .ok (.ireturn, 1) := by decide +kernel
theorem dX12_rateFor_14 : decode cX12_rateFor 14 = .ok (.iconst (-1), 1) := by decide +kernel
theorem dX12_rateFor_15 : decode cX12_rateFor 15 = .ok (.istore_n 3, 1) := by decide +kernel
theorem dX12_rateFor_16 : decode cX12_rateFor 16 = .ok (.iconst 1, 1) := by decide +kernel
theorem dX12_rateFor_17 : decode cX12_rateFor 17 = .ok (.istore 4, 2) := by decide +kernel
theorem dX12_rateFor_19 : decode cX12_rateFor 19 = .ok (.iload 4, 2) := by decide +kernel
theorem dX12_rateFor_21 : decode cX12_rateFor 21 = .ok (.bipush 99, 2) := by decide +kernel
theorem dX12_rateFor_23 : decode cX12_rateFor 23 = .ok (.if_icmp .gt 32, 3) := by decide +kernel
theorem dX12_rateFor_26 : decode cX12_rateFor 26 = .ok (.iload_n 3, 1) := by decide +kernel
theorem dX12_rateFor_27 : decode cX12_rateFor 27 = .ok (.ifCond .ge 28, 3) := by decide +kernel
theorem dX12_rateFor_30 : decode cX12_rateFor 30 = .ok (.aload_n 0, 1) := by decide +kernel
theorem dX12_rateFor_31 : decode cX12_rateFor 31 = .ok (.iconst 5, 1) := by decide +kernel
theorem dX12_rateFor_32 : decode cX12_rateFor 32 = .ok (.iload 4, 2) := by decide +kernel
theorem dX12_rateFor_34 : decode cX12_rateFor 34 = .ok (.iload_n 1, 1) := by decide +kernel
theorem dX12_rateFor_35 : decode cX12_rateFor 35 = .ok (.iload_n 2, 1) := by decide +kernel
theorem dX12_rateFor_36 : decode cX12_rateFor 36 = .ok (.invokevirtual 209, 3) := by decide +kernel
theorem dX12_rateFor_39 : decode cX12_rateFor 39 = .ok (.ifCond .lt 8, 3) := by decide +kernel
theorem dX12_rateFor_42 : decode cX12_rateFor 42 = .ok (.iload 4, 2) := by decide +kernel
theorem dX12_rateFor_44 : decode cX12_rateFor 44 = .ok (.goto 4, 3) := by decide +kernel
theorem dX12_rateFor_47 : decode cX12_rateFor 47 = .ok (.iconst (-1), 1) := by decide +kernel
theorem dX12_rateFor_48 : decode cX12_rateFor 48 = .ok (.istore_n 3, 1) := by decide +kernel
theorem dX12_rateFor_49 : decode cX12_rateFor 49 = .ok (.iinc 4 1, 3) := by decide +kernel
theorem dX12_rateFor_52 : decode cX12_rateFor 52 = .ok (.goto (-33), 3) := by decide +kernel
theorem dX12_rateFor_55 : decode cX12_rateFor 55 = .ok (.iload_n 3, 1) := by decide +kernel
theorem dX12_rateFor_56 : decode cX12_rateFor 56 = .ok (.ifCond .ge 11, 3) := by decide +kernel
theorem dX12_rateFor_59 : decode cX12_rateFor 59 = .ok (.aload_n 0, 1) := by decide +kernel
theorem dX12_rateFor_60 : decode cX12_rateFor 60 = .ok (.iconst 3, 1) := by decide +kernel
theorem dX12_rateFor_61 : decode cX12_rateFor 61 = .ok (.invokevirtual 52, 3) := by decide +kernel
theorem dX12_rateFor_64 : decode cX12_rateFor 64 = .ok (.goto 4, 3) := by decide +kernel
theorem dX12_rateFor_67 : decode cX12_rateFor 67 = .ok (.iload_n 3, 1) := by decide +kernel
theorem dX12_rateFor_68 : decode cX12_rateFor 68 = .ok (.ireturn, 1) := by decide +kernel
set_option maxRecDepth 20000 in
theorem ggX12_batteryFor_X12_isNight : GoodIn wsX12_batteryFor wsX12_isNight := goodIn_r _ [5, 6, 7, 4, 8] (by decide +kernel) (by decide +kernel)
set_option maxRecDepth 20000 in
theorem gX12_batteryFor_X12_isNight : GoodIn wsX12_batteryFor (va_wsS RX12 205 yX12_isNight wsX12_isNight) := goodIn_app (goodIn_of _ (by decide +kernel)) ggX12_batteryFor_X12_isNight
set_option maxRecDepth 20000 in
theorem ggX12_batteryFor_X12_finding : GoodIn wsX12_batteryFor wsX12_finding := goodIn_r _ [12, 13, 14, 72, 73, 74, 75, 76, 77, 78, 79, 80, 81, 82, 83, 84, 85, 86, 87, 88, 89, 90] (by decide +kernel) (by decide +kernel)
set_option maxRecDepth 20000 in
theorem gX12_batteryFor_X12_finding : GoodIn wsX12_batteryFor (wsV RX12 52 RX12 yX12_finding wsX12_finding) := goodIn_app (goodIn_of _ (by decide +kernel)) ggX12_batteryFor_X12_finding
set_option maxRecDepth 20000 in
theorem ggX12_batteryFor_X12_startsWith : GoodIn wsX12_batteryFor wsX12_startsWith := goodIn_r _ [18, 19, 1, 20, 21, 22, 4, 23, 24, 25, 26, 27, 28, 29, 30, 31, 32, 33, 34, 35, 36, 37, 38, 39, 40, 41, 42, 43, 44, 45, 46, 47, 48, 49, 50, 51, 52, 53, 54, 55, 56, 57, 58, 59, 60, 61, 62, 63, 64, 65, 66, 67, 68, 69, 70, 71, 72, 73, 74, 75, 76, 77, 78, 79, 80, 81, 82, 83, 84, 85, 86, 87, 88, 89, 90] (by decide +kernel) (by decide +kernel)
set_option maxRecDepth 20000 in
theorem gX12_batteryFor_X12_startsWith : GoodIn wsX12_batteryFor (wsV RX12 209 RX12 yX12_startsWith wsX12_startsWith) := goodIn_app (goodIn_of _ (by decide +kernel)) ggX12_batteryFor_X12_startsWith
theorem dX12_batteryFor_0 : decode cX12_batteryFor 0 = .ok (.iload_n 1, 1) := by decide +kernel
theorem dX12_batteryFor_1 : decode cX12_batteryFor 1 = .ok (.iload_n 2, 1) := by decide +kernel
theorem dX12_batteryFor_2 : decode cX12_batteryFor 2 = .ok (.invokestatic 205, 3) := by decide +kernel
theorem dX12_batteryFor_5 : decode cX12_batteryFor 5 = .ok (.ifCond .ne 9, 3) := by decide +kernel
theorem dX12_batteryFor_8 : decode cX12_batteryFor 8 = .ok (.aload_n 0, 1) := by decide +kernel
theorem dX12_batteryFor_9 : decode cX12_batteryFor 9 = .ok (.iconst 0, 1) := by decide +kernel
theorem dX12_batteryFor_10 : decode cX12_batteryFor 10 = .ok (.invokevirtual 52, 3) := by decide +kernel
theorem dX12_batteryFor_13 : decode cX12_batteryFor 13 = .ok (.ireturn, 1) := by decide +kernel
theorem dX12_batteryFor_14 : decode cX12_batteryFor 14 = .ok (.aload_n 0, 1) := by decide +kernel
theorem dX12_batteryFor_15 : decode cX12_batteryFor 15 = .ok (.getfield 7, 3) := by decide +kernel
theorem dX12_batteryFor_18 : decode cX12_batteryFor 18 = .ok (.bipush 14, 2) := by decide +kernel
theorem dX12_batteryFor_20 : decode cX12_batteryFor 20 = .ok (.iaload, 1) := by decide +kernel
theorem dX12_batteryFor_21 : decode cX12_batteryFor 21 = .ok (.istore_n 3, 1) := by decide +kernel
theorem dX12_batteryFor_22 : decode cX12_batteryFor 22 = .ok (.aload_n 0, 1) := by decide +kernel
theorem dX12_batteryFor_23 : decode cX12_batteryFor 23 = .ok (.getfield 7, 3) := by decide +kernel
theorem dX12_batteryFor_26 : decode cX12_batteryFor 26 = .ok (.bipush 14, 2) := by decide +kernel
theorem dX12_batteryFor_28 : decode cX12_batteryFor 28 = .ok (.iconst 0, 1) := by decide +kernel
theorem dX12_batteryFor_29 : decode cX12_batteryFor 29 = .ok (.iastore, 1) := by decide +kernel
theorem dX12_batteryFor_30 : decode cX12_batteryFor 30 = .ok (.iconst (-1), 1) := by decide +kernel
theorem dX12_batteryFor_31 : decode cX12_batteryFor 31 = .ok (.istore 4, 2) := by decide +kernel
theorem dX12_batteryFor_33 : decode cX12_batteryFor 33 = .ok (.iconst 0, 1) := by decide +kernel
theorem dX12_batteryFor_34 : decode cX12_batteryFor 34 = .ok (.istore 5, 2) := by decide +kernel
theorem dX12_batteryFor_36 : decode cX12_batteryFor 36 = .ok (.iload 5, 2) := by decide +kernel
theorem dX12_batteryFor_38 : decode cX12_batteryFor 38 = .ok (.sipush 999, 3) := by decide +kernel
theorem dX12_batteryFor_41 : decode cX12_batteryFor 41 = .ok (.if_icmp .gt 35, 3) := by decide +kernel
theorem dX12_batteryFor_44 : decode cX12_batteryFor 44 = .ok (.iload 4, 2) := by decide +kernel
theorem dX12_batteryFor_46 : decode cX12_batteryFor 46 = .ok (.ifCond .ge 30, 3) := by decide +kernel
theorem dX12_batteryFor_49 : decode cX12_batteryFor 49 = .ok (.aload_n 0, 1) := by decide +kernel
theorem dX12_batteryFor_50 : decode cX12_batteryFor 50 = .ok (.bipush 7, 2) := by decide +kernel
theorem dX12_batteryFor_52 : decode cX12_batteryFor 52 = .ok (.iload 5, 2) := by decide +kernel
theorem dX12_batteryFor_54 : decode cX12_batteryFor 54 = .ok (.iload_n 1, 1) := by decide +kernel
theorem dX12_batteryFor_55 : decode cX12_batteryFor 55 = .ok (.iload_n 2, 1) := by decide +kernel
theorem dX12_batteryFor_56 : decode cX12_batteryFor 56 = .ok (.invokevirtual 209, 3) := by decide +kernel
theorem dX12_batteryFor_59 : decode cX12_batteryFor 59 = .ok (.ifCond .lt 8, 3) := by decide +kernel
theorem dX12_batteryFor_62 : decode cX12_batteryFor 62 = .ok (.iload 5, 2) := by decide +kernel
theorem dX12_batteryFor_64 : decode cX12_batteryFor 64 = .ok (.goto 4, 3) := by decide +kernel
theorem dX12_batteryFor_67 : decode cX12_batteryFor 67 = .ok (.iconst (-1), 1) := by decide +kernel
theorem dX12_batteryFor_68 : decode cX12_batteryFor 68 = .ok (.istore 4, 2) := by decide +kernel
theorem dX12_batteryFor_70 : decode cX12_batteryFor 70 = .ok (.iinc 5 1, 3) := by decide +kernel
theorem dX12_batteryFor_73 : decode cX12_batteryFor 73 = .ok (.goto (-37), 3) := by decide +kernel
theorem dX12_batteryFor_76 : decode cX12_batteryFor 76 = .ok (.aload_n 0, 1) := by decide +kernel
theorem dX12_batteryFor_77 : decode cX12_batteryFor 77 = .ok (.getfield 7, 3) := by decide +kernel
theorem dX12_batteryFor_80 : decode cX12_batteryFor 80 = .ok (.bipush 14, 2) := by decide +kernel
theorem dX12_batteryFor_82 : decode cX12_batteryFor 82 = .ok (.iload_n 3, 1) := by decide +kernel
theorem dX12_batteryFor_83 : decode cX12_batteryFor 83 = .ok (.iastore, 1) := by decide +kernel
theorem dX12_batteryFor_84 : decode cX12_batteryFor 84 = .ok (.iload 4, 2) := by decide +kernel
theorem dX12_batteryFor_86 : decode cX12_batteryFor 86 = .ok (.ifCond .ge 11, 3) := by decide +kernel
theorem dX12_batteryFor_89 : decode cX12_batteryFor 89 = .ok (.aload_n 0, 1) := by decide +kernel
theorem dX12_batteryFor_90 : decode cX12_batteryFor 90 = .ok (.iconst 3, 1) := by decide +kernel
theorem dX12_batteryFor_91 : decode cX12_batteryFor 91 = .ok (.invokevirtual 52, 3) := by decide +kernel
theorem dX12_batteryFor_94 : decode cX12_batteryFor 94 = .ok (.goto 5, 3) := by decide +kernel
theorem dX12_batteryFor_97 : decode cX12_batteryFor 97 = .ok (.iload 4, 2) := by decide +kernel
theorem dX12_batteryFor_99 : decode cX12_batteryFor 99 = .ok (.ireturn, 1) := by decide +kernel
set_option maxRecDepth 20000 in
theorem ggX12_cost_X12_in : GoodIn wsX12_cost wsX12_in := goodIn_r _ [5] (by decide +kernel) (by decide +kernel)
set_option maxRecDepth 20000 in
theorem gX12_cost_X12_in : GoodIn wsX12_cost (va_wsS RX12 48 yX12_in wsX12_in) := goodIn_app (goodIn_of _ (by decide +kernel)) ggX12_cost_X12_in
set_option maxRecDepth 20000 in
theorem ggX12_cost_X12_finding : GoodIn wsX12_cost wsX12_finding := goodIn_r _ [9, 10, 11, 12, 13, 14, 15, 16, 17, 18, 19, 20, 21, 22, 23, 24, 25, 26, 27, 28, 29, 30] (by decide +kernel) (by decide +kernel)
set_option maxRecDepth 20000 in
theorem gX12_cost_X12_finding : GoodIn wsX12_cost (wsV RX12 52 RX12 yX12_finding wsX12_finding) := goodIn_app (goodIn_of _ (by decide +kernel)) ggX12_cost_X12_finding
theorem dX12_cost_0 : decode cX12_cost 0 = .ok (.iload_n 1, 1) := by decide +kernel
theorem dX12_cost_1 : decode cX12_cost 1 = .ok (.iconst 0, 1) := by decide +kernel
theorem dX12_cost_2 : decode cX12_cost 2 = .ok (.iconst 3, 1) := by decide +kernel
theorem dX12_cost_3 : decode cX12_cost 3 = .ok (.invokestatic 48, 3) := by decide +kernel
theorem dX12_cost_6 : decode cX12_cost 6 = .ok (.ifCond .eq 14, 3) := by decide +kernel
theorem dX12_cost_9 : decode cX12_cost 9 = .ok (.iload_n 2, 1) := by decide +kernel
theorem dX12_cost_10 : decode cX12_cost 10 = .ok (.iconst 0, 1) := by decide +kernel
theorem dX12_cost_11 : decode cX12_cost 11 = .ok (.sipush 999, 3) := by decide +kernel
theorem dX12_cost_14 : decode cX12_cost 14 = .ok (.invokestatic 48, 3) := by decide +kernel
theorem dX12_cost_17 : decode cX12_cost 17 = .ok (.ifCond .ne 9, 3) := by decide +kernel
theorem dX12_cost_20 : decode cX12_cost 20 = .ok (.aload_n 0, 1) := by decide +kernel
theorem dX12_cost_21 : decode cX12_cost 21 = .ok (.iconst 0, 1) := by decide +kernel
theorem dX12_cost_22 : decode cX12_cost 22 = .ok (.invokevirtual 52, 3) := by decide +kernel
theorem dX12_cost_25 : decode cX12_cost 25 = .ok (.ireturn, 1) := by decide +kernel
theorem dX12_cost_26 : decode cX12_cost 26 = .ok (.aload_n 0, 1) := by decide +kernel
theorem dX12_cost_27 : decode cX12_cost 27 = .ok (.getfield 7, 3) := by decide +kernel
theorem dX12_cost_30 : decode cX12_cost 30 = .ok (.bipush 21, 2) := by decide +kernel
theorem dX12_cost_32 : decode cX12_cost 32 = .ok (.iload_n 1, 1) := by decide +kernel
theorem dX12_cost_33 : decode cX12_cost 33 = .ok (.iadd, 1) := by decide +kernel
theorem dX12_cost_34 : decode cX12_cost 34 = .ok (.iaload, 1) := by decide +kernel
theorem dX12_cost_35 : decode cX12_cost 35 = .ok (.istore_n 3, 1) := by decide +kernel
theorem dX12_cost_36 : decode cX12_cost 36 = .ok (.aload_n 0, 1) := by decide +kernel
theorem dX12_cost_37 : decode cX12_cost 37 = .ok (.getfield 7, 3) := by decide +kernel
theorem dX12_cost_40 : decode cX12_cost 40 = .ok (.bipush 21, 2) := by decide +kernel
theorem dX12_cost_42 : decode cX12_cost 42 = .ok (.iload_n 1, 1) := by decide +kernel
theorem dX12_cost_43 : decode cX12_cost 43 = .ok (.iadd, 1) := by decide +kernel
theorem dX12_cost_44 : decode cX12_cost 44 = .ok (.iload_n 2, 1) := by decide +kernel
theorem dX12_cost_45 : decode cX12_cost 45 = .ok (.iastore, 1) := by decide +kernel
theorem dX12_cost_46 : decode cX12_cost 46 = .ok (.iload_n 3, 1) := by decide +kernel
theorem dX12_cost_47 : decode cX12_cost 47 = .ok (.ireturn, 1) := by decide +kernel
theorem dX12_builds_0 : decode cX12_builds 0 = .ok (.aload_n 0, 1) := by decide +kernel
theorem dX12_builds_1 : decode cX12_builds 1 = .ok (.getfield 7, 3) := by decide +kernel
theorem dX12_builds_4 : decode cX12_builds 4 = .ok (.bipush 19, 2) := by decide +kernel
theorem dX12_builds_6 : decode cX12_builds 6 = .ok (.dup2, 1) := by decide +kernel
theorem dX12_builds_7 : decode cX12_builds 7 = .ok (.iaload, 1) := by decide +kernel
theorem dX12_builds_8 : decode cX12_builds 8 = .ok (.iconst 1, 1) := by decide +kernel
theorem dX12_builds_9 : decode cX12_builds 9 = .ok (.iload_n 1, 1) := by decide +kernel
theorem dX12_builds_10 : decode cX12_builds 10 = .ok (.ishl, 1) := by decide +kernel
theorem dX12_builds_11 : decode cX12_builds 11 = .ok (.ior, 1) := by decide +kernel
theorem dX12_builds_12 : decode cX12_builds 12 = .ok (.iastore, 1) := by decide +kernel
theorem dX12_builds_13 : decode cX12_builds 13 = .ok (.iload_n 1, 1) := by decide +kernel
theorem dX12_builds_14 : decode cX12_builds 14 = .ok (.iconst 1, 1) := by decide +kernel
theorem dX12_builds_15 : decode cX12_builds 15 = .ok (.if_icmp .ne 11, 3) := by decide +kernel
theorem dX12_builds_18 : decode cX12_builds 18 = .ok (.aload_n 0, 1) := by decide +kernel
theorem dX12_builds_19 : decode cX12_builds 19 = .ok (.getfield 7, 3) := by decide +kernel
theorem dX12_builds_22 : decode cX12_builds 22 = .ok (.bipush 15, 2) := by decide +kernel
theorem dX12_builds_24 : decode cX12_builds 24 = .ok (.iconst 0, 1) := by decide +kernel
theorem dX12_builds_25 : decode cX12_builds 25 = .ok (.iastore, 1) := by decide +kernel
theorem dX12_builds_26 : decode cX12_builds 26 = .ok (.iload_n 1, 1) := by decide +kernel
theorem dX12_builds_27 : decode cX12_builds 27 = .ok (.iconst 3, 1) := by decide +kernel
theorem dX12_builds_28 : decode cX12_builds 28 = .ok (.if_icmp .ne 44, 3) := by decide +kernel
theorem dX12_builds_31 : decode cX12_builds 31 = .ok (.aload_n 0, 1) := by decide +kernel
theorem dX12_builds_32 : decode cX12_builds 32 = .ok (.getfield 7, 3) := by decide +kernel
theorem dX12_builds_35 : decode cX12_builds 35 = .ok (.bipush 7, 2) := by decide +kernel
theorem dX12_builds_37 : decode cX12_builds 37 = .ok (.aload_n 0, 1) := by decide +kernel
theorem dX12_builds_38 : decode cX12_builds 38 = .ok (.getfield 7, 3) := by decide +kernel
theorem dX12_builds_41 : decode cX12_builds 41 = .ok (.bipush 7, 2) := by decide +kernel
theorem dX12_builds_43 : decode cX12_builds 43 = .ok (.iaload, 1) := by decide +kernel
theorem dX12_builds_44 : decode cX12_builds 44 = .ok (.sipush 240, 3) := by decide +kernel
theorem dX12_builds_47 : decode cX12_builds 47 = .ok (.iadd, 1) := by decide +kernel
theorem dX12_builds_48 : decode cX12_builds 48 = .ok (.sipush 999, 3) := by decide +kernel
theorem dX12_builds_51 : decode cX12_builds 51 = .ok (.if_icmp .le 9, 3) := by decide +kernel
theorem dX12_builds_54 : decode cX12_builds 54 = .ok (.sipush 999, 3) := by decide +kernel
theorem dX12_builds_57 : decode cX12_builds 57 = .ok (.goto 14, 3) := by decide +kernel
theorem dX12_builds_60 : decode cX12_builds 60 = .ok (.aload_n 0, 1) := by decide +kernel
theorem dX12_builds_61 : decode cX12_builds 61 = .ok (.getfield 7, 3) := by decide +kernel
theorem dX12_builds_64 : decode cX12_builds 64 = .ok (.bipush 7, 2) := by decide +kernel
theorem dX12_builds_66 : decode cX12_builds 66 = .ok (.iaload, 1) := by decide +kernel
theorem dX12_builds_67 : decode cX12_builds 67 = .ok (.sipush 240, 3) := by decide +kernel
theorem dX12_builds_70 : decode cX12_builds 70 = .ok (.iadd, 1) := by decide +kernel
theorem dX12_builds_71 : decode cX12_builds 71 = .ok (.iastore, 1) := by decide +kernel
theorem dX12_builds_72 : decode cX12_builds 72 = .ok (.return_, 1) := by decide +kernel
set_option maxRecDepth 20000 in
theorem ggX12_build_X12_in : GoodIn wsX12_build wsX12_in := goodIn_r _ [5] (by decide +kernel) (by decide +kernel)
set_option maxRecDepth 20000 in
theorem gX12_build_X12_in : GoodIn wsX12_build (va_wsS RX12 48 yX12_in wsX12_in) := goodIn_app (goodIn_of _ (by decide +kernel)) ggX12_build_X12_in
set_option maxRecDepth 20000 in
theorem ggX12_build_X12_finding : GoodIn wsX12_build wsX12_finding := goodIn_r _ [9, 10, 11, 20, 21, 22, 23, 24, 25, 26, 27, 28, 29, 30, 31, 32, 33, 34, 35, 36, 37, 38] (by decide +kernel) (by decide +kernel)
set_option maxRecDepth 20000 in
theorem gX12_build_X12_finding : GoodIn wsX12_build (wsV RX12 52 RX12 yX12_finding wsX12_finding) := goodIn_app (goodIn_of _ (by decide +kernel)) ggX12_build_X12_finding
set_option maxRecDepth 20000 in
theorem ggX12_build_X12_has : GoodIn wsX12_build wsX12_has := goodIn_r _ [15, 1, 20, 21, 22, 23, 24, 25, 26, 27, 28, 29, 30, 31, 32, 33, 34, 35, 36, 37, 38] (by decide +kernel) (by decide +kernel)
set_option maxRecDepth 20000 in
theorem gX12_build_X12_has : GoodIn wsX12_build (wsV RX12 56 RX12 yX12_has wsX12_has) := goodIn_app (goodIn_of _ (by decide +kernel)) ggX12_build_X12_has
set_option maxRecDepth 20000 in
theorem ggX12_build_X12_builds : GoodIn wsX12_build wsX12_builds := goodIn_r _ [19, 1, 20, 21, 22, 23, 24, 25, 26, 27, 28, 29, 30, 31, 32, 33, 34, 35, 36, 37, 38] (by decide +kernel) (by decide +kernel)
set_option maxRecDepth 20000 in
theorem gX12_build_X12_builds : GoodIn wsX12_build (wsV RX12 213 RX12 yX12_builds wsX12_builds) := goodIn_app (goodIn_of _ (by decide +kernel)) ggX12_build_X12_builds
theorem dX12_build_0 : decode cX12_build 0 = .ok (.iload_n 1, 1) := by decide +kernel
theorem dX12_build_1 : decode cX12_build 1 = .ok (.iconst 0, 1) := by decide +kernel
theorem dX12_build_2 : decode cX12_build 2 = .ok (.iconst 3, 1) := by decide +kernel
theorem dX12_build_3 : decode cX12_build 3 = .ok (.invokestatic 48, 3) := by decide +kernel
theorem dX12_build_6 : decode cX12_build 6 = .ok (.ifCond .ne 9, 3) := by decide +kernel
theorem dX12_build_9 : decode cX12_build 9 = .ok (.aload_n 0, 1) := by decide +kernel
theorem dX12_build_10 : decode cX12_build 10 = .ok (.iconst 0, 1) := by decide +kernel
theorem dX12_build_11 : decode cX12_build 11 = .ok (.invokevirtual 52, 3) := by decide +kernel
theorem dX12_build_14 : decode cX12_build 14 = .ok (.ireturn, 1) := by decide +kernel
theorem dX12_build_15 : decode cX12_build 15 = .ok (.aload_n 0, 1) := by decide +kernel
theorem dX12_build_16 : decode cX12_build 16 = .ok (.iload_n 1, 1) := by decide +kernel
theorem dX12_build_17 : decode cX12_build 17 = .ok (.invokevirtual 56, 3) := by decide +kernel
theorem dX12_build_20 : decode cX12_build 20 = .ok (.ifCond .eq 9, 3) := by decide +kernel
theorem dX12_build_23 : decode cX12_build 23 = .ok (.aload_n 0, 1) := by decide +kernel
theorem dX12_build_24 : decode cX12_build 24 = .ok (.iconst 4, 1) := by decide +kernel
theorem dX12_build_25 : decode cX12_build 25 = .ok (.invokevirtual 52, 3) := by decide +kernel
theorem dX12_build_28 : decode cX12_build 28 = .ok (.ireturn, 1) := by decide +kernel
theorem dX12_build_29 : decode cX12_build 29 = .ok (.aload_n 0, 1) := by decide +kernel
theorem dX12_build_30 : decode cX12_build 30 = .ok (.iload_n 1, 1) := by decide +kernel
theorem dX12_build_31 : decode cX12_build 31 = .ok (.invokevirtual 213, 3) := by decide +kernel
theorem dX12_build_34 : decode cX12_build 34 = .ok (.aload_n 0, 1) := by decide +kernel
theorem dX12_build_35 : decode cX12_build 35 = .ok (.getfield 7, 3) := by decide +kernel
theorem dX12_build_38 : decode cX12_build 38 = .ok (.bipush 19, 2) := by decide +kernel
theorem dX12_build_40 : decode cX12_build 40 = .ok (.iaload, 1) := by decide +kernel
theorem dX12_build_41 : decode cX12_build 41 = .ok (.ireturn, 1) := by decide +kernel
theorem dX12_costOf_0 : decode cX12_costOf 0 = .ok (.iconst 0, 1) := by decide +kernel
theorem dX12_costOf_1 : decode cX12_costOf 1 = .ok (.istore_n 2, 1) := by decide +kernel
theorem dX12_costOf_2 : decode cX12_costOf 2 = .ok (.iconst 0, 1) := by decide +kernel
theorem dX12_costOf_3 : decode cX12_costOf 3 = .ok (.istore_n 3, 1) := by decide +kernel
theorem dX12_costOf_4 : decode cX12_costOf 4 = .ok (.iload_n 3, 1) := by decide +kernel
theorem dX12_costOf_5 : decode cX12_costOf 5 = .ok (.iconst 4, 1) := by decide +kernel
theorem dX12_costOf_6 : decode cX12_costOf 6 = .ok (.if_icmp .ge 34, 3) := by decide +kernel
theorem dX12_costOf_9 : decode cX12_costOf 9 = .ok (.iload_n 2, 1) := by decide +kernel
theorem dX12_costOf_10 : decode cX12_costOf 10 = .ok (.iload_n 1, 1) := by decide +kernel
theorem dX12_costOf_11 : decode cX12_costOf 11 = .ok (.iload_n 3, 1) := by decide +kernel
theorem dX12_costOf_12 : decode cX12_costOf 12 = .ok (.ishr, 1) := by decide +kernel
theorem dX12_costOf_13 : decode cX12_costOf 13 = .ok (.iconst 1, 1) := by decide +kernel
theorem dX12_costOf_14 : decode cX12_costOf 14 = .ok (.iand, 1) := by decide +kernel
theorem dX12_costOf_15 : decode cX12_costOf 15 = .ok (.iconst 1, 1) := by decide +kernel
theorem dX12_costOf_16 : decode cX12_costOf 16 = .ok (.if_icmp .ne 15, 3) := by decide +kernel
theorem dX12_costOf_19 : decode cX12_costOf 19 = .ok (.aload_n 0, 1) := by decide +kernel
theorem dX12_costOf_20 : decode cX12_costOf 20 = .ok (.getfield 7, 3) := by decide +kernel
theorem dX12_costOf_23 : decode cX12_costOf 23 = .ok (.bipush 21, 2) := by decide +kernel
theorem dX12_costOf_25 : decode cX12_costOf 25 = .ok (.iload_n 3, 1) := by decide +kernel
theorem dX12_costOf_26 : decode cX12_costOf 26 = .ok (.iadd, 1) := by decide +kernel
theorem dX12_costOf_27 : decode cX12_costOf 27 = .ok (.iaload, 1) := by decide +kernel
theorem dX12_costOf_28 : decode cX12_costOf 28 = .ok (.goto 4, 3) := by decide +kernel
theorem dX12_costOf_31 : decode cX12_costOf 31 = .ok (.iconst 0, 1) := by decide +kernel
theorem dX12_costOf_32 : decode cX12_costOf 32 = .ok (.iadd, 1) := by decide +kernel
theorem dX12_costOf_33 : decode cX12_costOf 33 = .ok (.istore_n 2, 1) := by decide +kernel
theorem dX12_costOf_34 : decode cX12_costOf 34 = .ok (.iinc 3 1, 3) := by decide +kernel
theorem dX12_costOf_37 : decode cX12_costOf 37 = .ok (.goto (-33), 3) := by decide +kernel
theorem dX12_costOf_40 : decode cX12_costOf 40 = .ok (.iload_n 2, 1) := by decide +kernel
theorem dX12_costOf_41 : decode cX12_costOf 41 = .ok (.ireturn, 1) := by decide +kernel
set_option maxRecDepth 20000 in
theorem ggX12_harmWith_X12_begin : GoodIn wsX12_harmWith wsX12_begin := goodIn_r _ [5, 6, 7, 8, 9, 4, 10, 72, 73, 74, 75, 76, 77, 78, 79, 80, 81, 82, 83, 84, 85, 86, 87, 88, 89, 90] (by decide +kernel) (by decide +kernel)
set_option maxRecDepth 20000 in
theorem gX12_harmWith_X12_begin : GoodIn wsX12_harmWith (wsV RX12 199 RX12 yX12_begin wsX12_begin) := goodIn_app (goodIn_of _ (by decide +kernel)) ggX12_harmWith_X12_begin
set_option maxRecDepth 20000 in
theorem ggX12_harmWith_X12_builds : GoodIn wsX12_harmWith wsX12_builds := goodIn_r _ [14, 6, 72, 73, 74, 75, 76, 77, 78, 79, 80, 81, 82, 83, 84, 85, 86, 87, 88, 89, 90] (by decide +kernel) (by decide +kernel)
set_option maxRecDepth 20000 in
theorem gX12_harmWith_X12_builds : GoodIn wsX12_harmWith (wsV RX12 213 RX12 yX12_builds wsX12_builds) := goodIn_app (goodIn_of _ (by decide +kernel)) ggX12_harmWith_X12_builds
set_option maxRecDepth 20000 in
theorem ggX12_harmWith_X12_plays : GoodIn wsX12_harmWith wsX12_plays := goodIn_r _ [18, 6, 19, 20, 21, 4, 22, 23, 24, 25, 26, 27, 28, 29, 30, 31, 32, 33, 34, 35, 36, 37, 38, 39, 40, 41, 42, 43, 44, 45, 46, 47, 48, 49, 50, 51, 52, 53, 54, 55, 56, 57, 58, 59, 72, 73, 74, 75, 76, 77, 78, 79, 80, 81, 82, 83, 84, 85, 86, 87, 88, 89, 90] (by decide +kernel) (by decide +kernel)
set_option maxRecDepth 20000 in
theorem gX12_harmWith_X12_plays : GoodIn wsX12_harmWith (wsV RX12 190 RX12 yX12_plays wsX12_plays) := goodIn_app (goodIn_of _ (by decide +kernel)) ggX12_harmWith_X12_plays
set_option maxRecDepth 20000 in
theorem ggX12_harmWith_X12_toldOf : GoodIn wsX12_harmWith wsX12_toldOf := goodIn_r _ [63, 6, 23, 64, 65, 66, 4, 67, 56, 57, 58, 59, 68, 69, 70, 71, 7, 8, 9, 10, 72, 73, 74, 75, 76, 77, 78, 79, 80, 81, 82, 83, 84, 85, 86, 87, 88, 89, 90] (by decide +kernel) (by decide +kernel)
set_option maxRecDepth 20000 in
theorem gX12_harmWith_X12_toldOf : GoodIn wsX12_harmWith (wsV RX12 202 RX12 yX12_toldOf wsX12_toldOf) := goodIn_app (goodIn_of _ (by decide +kernel)) ggX12_harmWith_X12_toldOf
theorem dX12_harmWith_0 : decode cX12_harmWith 0 = .ok (.aload_n 0, 1) := by decide +kernel
theorem dX12_harmWith_1 : decode cX12_harmWith 1 = .ok (.invokevirtual 199, 3) := by decide +kernel
theorem dX12_harmWith_4 : decode cX12_harmWith 4 = .ok (.iconst 0, 1) := by decide +kernel
theorem dX12_harmWith_5 : decode cX12_harmWith 5 = .ok (.istore_n 3, 1) := by decide +kernel
