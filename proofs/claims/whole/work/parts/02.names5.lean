theorem dX11_count_76 : decode cX11_count 76 = .ok (.aload_n 0, 1) := by decide +kernel
theorem dX11_count_77 : decode cX11_count 77 = .ok (.getfield 16, 3) := by decide +kernel
theorem dX11_count_80 : decode cX11_count 80 = .ok (.getfield 232, 3) := by decide +kernel
theorem dX11_count_83 : decode cX11_count 83 = .ok (.getfield 236, 3) := by decide +kernel
theorem dX11_count_86 : decode cX11_count 86 = .ok (.ireturn, 1) := by decide +kernel
theorem dX11_count_87 : decode cX11_count 87 = .ok (.aload_n 0, 1) := by decide +kernel
theorem dX11_count_88 : decode cX11_count 88 = .ok (.getfield 16, 3) := by decide +kernel
theorem dX11_count_91 : decode cX11_count 91 = .ok (.getfield 47, 3) := by decide +kernel
theorem dX11_count_94 : decode cX11_count 94 = .ok (.getfield 123, 3) := by decide +kernel
theorem dX11_count_97 : decode cX11_count 97 = .ok (.invokevirtual 184, 3) := by decide +kernel
theorem dX11_count_100 : decode cX11_count 100 = .ok (.ireturn, 1) := by decide +kernel
theorem dX11_count_101 : decode cX11_count 101 = .ok (.aload_n 0, 1) := by decide +kernel
theorem dX11_count_102 : decode cX11_count 102 = .ok (.getfield 16, 3) := by decide +kernel
theorem dX11_count_105 : decode cX11_count 105 = .ok (.getfield 47, 3) := by decide +kernel
theorem dX11_count_108 : decode cX11_count 108 = .ok (.getfield 288, 3) := by decide +kernel
theorem dX11_count_111 : decode cX11_count 111 = .ok (.ireturn, 1) := by decide +kernel
theorem dX11_count_112 : decode cX11_count 112 = .ok (.aload_n 0, 1) := by decide +kernel
theorem dX11_count_113 : decode cX11_count 113 = .ok (.getfield 26, 3) := by decide +kernel
theorem dX11_count_116 : decode cX11_count 116 = .ok (.getfield 226, 3) := by decide +kernel
theorem dX11_count_119 : decode cX11_count 119 = .ok (.ireturn, 1) := by decide +kernel
theorem dX11_count_120 : decode cX11_count 120 = .ok (.aload_n 0, 1) := by decide +kernel
theorem dX11_count_121 : decode cX11_count 121 = .ok (.getfield 16, 3) := by decide +kernel
theorem dX11_count_124 : decode cX11_count 124 = .ok (.getfield 315, 3) := by decide +kernel
theorem dX11_count_127 : decode cX11_count 127 = .ok (.ireturn, 1) := by decide +kernel
theorem dX11_count_128 : decode cX11_count 128 = .ok (.aload_n 0, 1) := by decide +kernel
theorem dX11_count_129 : decode cX11_count 129 = .ok (.getfield 16, 3) := by decide +kernel
theorem dX11_count_132 : decode cX11_count 132 = .ok (.getfield 47, 3) := by decide +kernel
theorem dX11_count_135 : decode cX11_count 135 = .ok (.getfield 60, 3) := by decide +kernel
theorem dX11_count_138 : decode cX11_count 138 = .ok (.getfield 220, 3) := by decide +kernel
theorem dX11_count_141 : decode cX11_count 141 = .ok (.invokestatic 372, 3) := by decide +kernel
theorem dX11_count_144 : decode cX11_count 144 = .ok (.ireturn, 1) := by decide +kernel
theorem dX11_count_145 : decode cX11_count 145 = .ok (.aload_n 0, 1) := by decide +kernel
theorem dX11_count_146 : decode cX11_count 146 = .ok (.ldc 78, 2) := by decide +kernel
theorem dX11_count_148 : decode cX11_count 148 = .ok (.invokevirtual 79, 3) := by decide +kernel
theorem dX11_count_151 : decode cX11_count 151 = .ok (.ireturn, 1) := by decide +kernel
set_option maxRecDepth 20000 in
theorem ggX11_status_X11_within : GoodIn wsX11_status wsX11_within := goodIn_r _ [6] (by decide +kernel) (by decide +kernel)
set_option maxRecDepth 20000 in
theorem gX11_status_X11_within : GoodIn wsX11_status (va_wsS RX11 74 yX11_within wsX11_within) := goodIn_app (goodIn_of _ (by decide +kernel)) ggX11_status_X11_within
set_option maxRecDepth 20000 in
theorem ggX11_status_X11_tell : GoodIn wsX11_status wsX11_tell := goodIn_r _ [10, 2, 1, 11, 12, 13, 14, 15, 16, 17, 18, 19] (by decide +kernel) (by decide +kernel)
set_option maxRecDepth 20000 in
theorem gX11_status_X11_tell : GoodIn wsX11_status (wsV RX11 79 RX11 yX11_tell wsX11_tell) := goodIn_app (goodIn_of _ (by decide +kernel)) ggX11_status_X11_tell
theorem dX11_status_0 : decode cX11_status 0 = .ok (.iload_n 1, 1) := by decide +kernel
theorem dX11_status_1 : decode cX11_status 1 = .ok (.iconst (-1), 1) := by decide +kernel
theorem dX11_status_2 : decode cX11_status 2 = .ok (.bipush 6, 2) := by decide +kernel
theorem dX11_status_4 : decode cX11_status 4 = .ok (.invokestatic 74, 3) := by decide +kernel
theorem dX11_status_7 : decode cX11_status 7 = .ok (.ifCond .ne 10, 3) := by decide +kernel
theorem dX11_status_10 : decode cX11_status 10 = .ok (.aload_n 0, 1) := by decide +kernel
theorem dX11_status_11 : decode cX11_status 11 = .ok (.ldc 78, 2) := by decide +kernel
theorem dX11_status_13 : decode cX11_status 13 = .ok (.invokevirtual 79, 3) := by decide +kernel
theorem dX11_status_16 : decode cX11_status 16 = .ok (.ireturn, 1) := by decide +kernel
theorem dX11_status_17 : decode cX11_status 17 = .ok (.iload_n 1, 1) := by decide +kernel
theorem dX11_status_18 : decode cX11_status 18 = .ok (.ifCond .lt 10, 3) := by decide +kernel
theorem dX11_status_21 : decode cX11_status 21 = .ok (.aload_n 0, 1) := by decide +kernel
theorem dX11_status_22 : decode cX11_status 22 = .ok (.getfield 9, 3) := by decide +kernel
theorem dX11_status_25 : decode cX11_status 25 = .ok (.iload_n 1, 1) := by decide +kernel
theorem dX11_status_26 : decode cX11_status 26 = .ok (.iaload, 1) := by decide +kernel
theorem dX11_status_27 : decode cX11_status 27 = .ok (.ireturn, 1) := by decide +kernel
theorem dX11_status_28 : decode cX11_status 28 = .ok (.iconst 0, 1) := by decide +kernel
theorem dX11_status_29 : decode cX11_status 29 = .ok (.istore_n 2, 1) := by decide +kernel
theorem dX11_status_30 : decode cX11_status 30 = .ok (.iconst 0, 1) := by decide +kernel
theorem dX11_status_31 : decode cX11_status 31 = .ok (.istore_n 3, 1) := by decide +kernel
theorem dX11_status_32 : decode cX11_status 32 = .ok (.iload_n 3, 1) := by decide +kernel
theorem dX11_status_33 : decode cX11_status 33 = .ok (.bipush 7, 2) := by decide +kernel
theorem dX11_status_35 : decode cX11_status 35 = .ok (.if_icmp .ge 18, 3) := by decide +kernel
theorem dX11_status_38 : decode cX11_status 38 = .ok (.iload_n 2, 1) := by decide +kernel
theorem dX11_status_39 : decode cX11_status 39 = .ok (.aload_n 0, 1) := by decide +kernel
theorem dX11_status_40 : decode cX11_status 40 = .ok (.getfield 9, 3) := by decide +kernel
theorem dX11_status_43 : decode cX11_status 43 = .ok (.iload_n 3, 1) := by decide +kernel
theorem dX11_status_44 : decode cX11_status 44 = .ok (.iaload, 1) := by decide +kernel
theorem dX11_status_45 : decode cX11_status 45 = .ok (.iadd, 1) := by decide +kernel
theorem dX11_status_46 : decode cX11_status 46 = .ok (.istore_n 2, 1) := by decide +kernel
theorem dX11_status_47 : decode cX11_status 47 = .ok (.iinc 3 1, 3) := by decide +kernel
theorem dX11_status_50 : decode cX11_status 50 = .ok (.goto (-18), 3) := by decide +kernel
theorem dX11_status_53 : decode cX11_status 53 = .ok (.iload_n 2, 1) := by decide +kernel
theorem dX11_status_54 : decode cX11_status 54 = .ok (.ireturn, 1) := by decide +kernel
theorem dX11_tell_0 : decode cX11_tell 0 = .ok (.aload_n 0, 1) := by decide +kernel
theorem dX11_tell_1 : decode cX11_tell 1 = .ok (.getfield 9, 3) := by decide +kernel
theorem dX11_tell_4 : decode cX11_tell 4 = .ok (.ldc 78, 2) := by decide +kernel
theorem dX11_tell_6 : decode cX11_tell 6 = .ok (.iload_n 1, 1) := by decide +kernel
theorem dX11_tell_7 : decode cX11_tell 7 = .ok (.isub, 1) := by decide +kernel
theorem dX11_tell_8 : decode cX11_tell 8 = .ok (.dup2, 1) := by decide +kernel
theorem dX11_tell_9 : decode cX11_tell 9 = .ok (.iaload, 1) := by decide +kernel
theorem dX11_tell_10 : decode cX11_tell 10 = .ok (.iconst 1, 1) := by decide +kernel
theorem dX11_tell_11 : decode cX11_tell 11 = .ok (.iadd, 1) := by decide +kernel
theorem dX11_tell_12 : decode cX11_tell 12 = .ok (.iastore, 1) := by decide +kernel
theorem dX11_tell_13 : decode cX11_tell 13 = .ok (.iload_n 1, 1) := by decide +kernel
theorem dX11_tell_14 : decode cX11_tell 14 = .ok (.ireturn, 1) := by decide +kernel
set_option maxRecDepth 20000 in
theorem ggX11_orNone_X11_tell : GoodIn wsX11_orNone wsX11_tell := goodIn_r _ [6, 7, 8, 9, 10, 11, 12, 13, 14, 15, 16, 17] (by decide +kernel) (by decide +kernel)
set_option maxRecDepth 20000 in
theorem gX11_orNone_X11_tell : GoodIn wsX11_orNone (wsV RX11 79 RX11 yX11_tell wsX11_tell) := goodIn_app (goodIn_of _ (by decide +kernel)) ggX11_orNone_X11_tell
theorem dX11_orNone_0 : decode cX11_orNone 0 = .ok (.iload_n 1, 1) := by decide +kernel
theorem dX11_orNone_1 : decode cX11_orNone 1 = .ok (.iconst (-1), 1) := by decide +kernel
theorem dX11_orNone_2 : decode cX11_orNone 2 = .ok (.if_icmp .ne 12, 3) := by decide +kernel
theorem dX11_orNone_5 : decode cX11_orNone 5 = .ok (.aload_n 0, 1) := by decide +kernel
theorem dX11_orNone_6 : decode cX11_orNone 6 = .ok (.ldc 191, 2) := by decide +kernel
theorem dX11_orNone_8 : decode cX11_orNone 8 = .ok (.invokevirtual 79, 3) := by decide +kernel
theorem dX11_orNone_11 : decode cX11_orNone 11 = .ok (.goto 4, 3) := by decide +kernel
theorem dX11_orNone_14 : decode cX11_orNone 14 = .ok (.iload_n 1, 1) := by decide +kernel
theorem dX11_orNone_15 : decode cX11_orNone 15 = .ok (.ireturn, 1) := by decide +kernel
set_option maxRecDepth 20000 in
theorem ggX11_isWater_X11_within : GoodIn wsX11_isWater wsX11_within := goodIn_r _ [8] (by decide +kernel) (by decide +kernel)
set_option maxRecDepth 20000 in
theorem gX11_isWater_X11_within : GoodIn wsX11_isWater (va_wsS RX11 74 yX11_within wsX11_within) := goodIn_app (goodIn_of _ (by decide +kernel)) ggX11_isWater_X11_within
theorem dX11_isWater_0 : decode cX11_isWater 0 = .ok (.iload_n 1, 1) := by decide +kernel
theorem dX11_isWater_1 : decode cX11_isWater 1 = .ok (.iconst 0, 1) := by decide +kernel
theorem dX11_isWater_2 : decode cX11_isWater 2 = .ok (.aload_n 0, 1) := by decide +kernel
theorem dX11_isWater_3 : decode cX11_isWater 3 = .ok (.getfield 16, 3) := by decide +kernel
theorem dX11_isWater_6 : decode cX11_isWater 6 = .ok (.getfield 47, 3) := by decide +kernel
theorem dX11_isWater_9 : decode cX11_isWater 9 = .ok (.getfield 83, 3) := by decide +kernel
theorem dX11_isWater_12 : decode cX11_isWater 12 = .ok (.getfield 87, 3) := by decide +kernel
theorem dX11_isWater_15 : decode cX11_isWater 15 = .ok (.iconst 1, 1) := by decide +kernel
theorem dX11_isWater_16 : decode cX11_isWater 16 = .ok (.isub, 1) := by decide +kernel
theorem dX11_isWater_17 : decode cX11_isWater 17 = .ok (.invokestatic 74, 3) := by decide +kernel
theorem dX11_isWater_20 : decode cX11_isWater 20 = .ok (.ireturn, 1) := by decide +kernel
set_option maxRecDepth 20000 in
theorem ggX11_isThing_X11_within : GoodIn wsX11_isThing wsX11_within := goodIn_r _ [8] (by decide +kernel) (by decide +kernel)
set_option maxRecDepth 20000 in
theorem gX11_isThing_X11_within : GoodIn wsX11_isThing (va_wsS RX11 74 yX11_within wsX11_within) := goodIn_app (goodIn_of _ (by decide +kernel)) ggX11_isThing_X11_within
theorem dX11_isThing_0 : decode cX11_isThing 0 = .ok (.iload_n 1, 1) := by decide +kernel
theorem dX11_isThing_1 : decode cX11_isThing 1 = .ok (.iconst 0, 1) := by decide +kernel
theorem dX11_isThing_2 : decode cX11_isThing 2 = .ok (.aload_n 0, 1) := by decide +kernel
theorem dX11_isThing_3 : decode cX11_isThing 3 = .ok (.getfield 16, 3) := by decide +kernel
theorem dX11_isThing_6 : decode cX11_isThing 6 = .ok (.getfield 47, 3) := by decide +kernel
theorem dX11_isThing_9 : decode cX11_isThing 9 = .ok (.getfield 60, 3) := by decide +kernel
theorem dX11_isThing_12 : decode cX11_isThing 12 = .ok (.getfield 198, 3) := by decide +kernel
theorem dX11_isThing_15 : decode cX11_isThing 15 = .ok (.iconst 1, 1) := by decide +kernel
theorem dX11_isThing_16 : decode cX11_isThing 16 = .ok (.isub, 1) := by decide +kernel
theorem dX11_isThing_17 : decode cX11_isThing 17 = .ok (.invokestatic 74, 3) := by decide +kernel
theorem dX11_isThing_20 : decode cX11_isThing 20 = .ok (.ireturn, 1) := by decide +kernel
set_option maxRecDepth 20000 in
theorem ggX11_isSky_X11_within : GoodIn wsX11_isSky wsX11_within := goodIn_r _ [7] (by decide +kernel) (by decide +kernel)
set_option maxRecDepth 20000 in
theorem gX11_isSky_X11_within : GoodIn wsX11_isSky (va_wsS RX11 74 yX11_within wsX11_within) := goodIn_app (goodIn_of _ (by decide +kernel)) ggX11_isSky_X11_within
theorem dX11_isSky_0 : decode cX11_isSky 0 = .ok (.iload_n 1, 1) := by decide +kernel
theorem dX11_isSky_1 : decode cX11_isSky 1 = .ok (.iconst 0, 1) := by decide +kernel
theorem dX11_isSky_2 : decode cX11_isSky 2 = .ok (.aload_n 0, 1) := by decide +kernel
theorem dX11_isSky_3 : decode cX11_isSky 3 = .ok (.getfield 16, 3) := by decide +kernel
theorem dX11_isSky_6 : decode cX11_isSky 6 = .ok (.getfield 232, 3) := by decide +kernel
theorem dX11_isSky_9 : decode cX11_isSky 9 = .ok (.getfield 236, 3) := by decide +kernel
theorem dX11_isSky_12 : decode cX11_isSky 12 = .ok (.iconst 1, 1) := by decide +kernel
theorem dX11_isSky_13 : decode cX11_isSky 13 = .ok (.isub, 1) := by decide +kernel
theorem dX11_isSky_14 : decode cX11_isSky 14 = .ok (.invokestatic 74, 3) := by decide +kernel
theorem dX11_isSky_17 : decode cX11_isSky 17 = .ok (.ireturn, 1) := by decide +kernel
set_option maxRecDepth 20000 in
theorem ggX11_isSheet_X11_within : GoodIn wsX11_isSheet wsX11_within := goodIn_r _ [4] (by decide +kernel) (by decide +kernel)
set_option maxRecDepth 20000 in
theorem gX11_isSheet_X11_within : GoodIn wsX11_isSheet (va_wsS RX11 74 yX11_within wsX11_within) := goodIn_app (goodIn_of _ (by decide +kernel)) ggX11_isSheet_X11_within
theorem dX11_isSheet_0 : decode cX11_isSheet 0 = .ok (.iload_n 0, 1) := by decide +kernel
theorem dX11_isSheet_1 : decode cX11_isSheet 1 = .ok (.iconst 0, 1) := by decide +kernel
theorem dX11_isSheet_2 : decode cX11_isSheet 2 = .ok (.iconst 3, 1) := by decide +kernel
theorem dX11_isSheet_3 : decode cX11_isSheet 3 = .ok (.invokestatic 74, 3) := by decide +kernel
theorem dX11_isSheet_6 : decode cX11_isSheet 6 = .ok (.ireturn, 1) := by decide +kernel
set_option maxRecDepth 20000 in
theorem ggX11_isTrial_X11_within : GoodIn wsX11_isTrial wsX11_within := goodIn_r _ [4] (by decide +kernel) (by decide +kernel)
set_option maxRecDepth 20000 in
theorem gX11_isTrial_X11_within : GoodIn wsX11_isTrial (va_wsS RX11 74 yX11_within wsX11_within) := goodIn_app (goodIn_of _ (by decide +kernel)) ggX11_isTrial_X11_within
theorem dX11_isTrial_0 : decode cX11_isTrial 0 = .ok (.iload_n 0, 1) := by decide +kernel
theorem dX11_isTrial_1 : decode cX11_isTrial 1 = .ok (.iconst 1, 1) := by decide +kernel
theorem dX11_isTrial_2 : decode cX11_isTrial 2 = .ok (.sipush 200, 3) := by decide +kernel
theorem dX11_isTrial_5 : decode cX11_isTrial 5 = .ok (.invokestatic 74, 3) := by decide +kernel
theorem dX11_isTrial_8 : decode cX11_isTrial 8 = .ok (.ifCond .eq 18, 3) := by decide +kernel
theorem dX11_isTrial_11 : decode cX11_isTrial 11 = .ok (.iload_n 1, 1) := by decide +kernel
theorem dX11_isTrial_12 : decode cX11_isTrial 12 = .ok (.iconst 0, 1) := by decide +kernel
theorem dX11_isTrial_13 : decode cX11_isTrial 13 = .ok (.sipush 9999, 3) := by decide +kernel
theorem dX11_isTrial_16 : decode cX11_isTrial 16 = .ok (.invokestatic 74, 3) := by decide +kernel
theorem dX11_isTrial_19 : decode cX11_isTrial 19 = .ok (.ifCond .eq 7, 3) := by decide +kernel
theorem dX11_isTrial_22 : decode cX11_isTrial 22 = .ok (.iconst 1, 1) := by decide +kernel
theorem dX11_isTrial_23 : decode cX11_isTrial 23 = .ok (.goto 4, 3) := by decide +kernel
theorem dX11_isTrial_26 : decode cX11_isTrial 26 = .ok (.iconst 0, 1) := by decide +kernel
theorem dX11_isTrial_27 : decode cX11_isTrial 27 = .ok (.ireturn, 1) := by decide +kernel
theorem dX11_within_0 : decode cX11_within 0 = .ok (.iload_n 0, 1) := by decide +kernel
theorem dX11_within_1 : decode cX11_within 1 = .ok (.iload_n 1, 1) := by decide +kernel
theorem dX11_within_2 : decode cX11_within 2 = .ok (.if_icmp .lt 12, 3) := by decide +kernel
theorem dX11_within_5 : decode cX11_within 5 = .ok (.iload_n 0, 1) := by decide +kernel
theorem dX11_within_6 : decode cX11_within 6 = .ok (.iload_n 2, 1) := by decide +kernel
theorem dX11_within_7 : decode cX11_within 7 = .ok (.if_icmp .gt 7, 3) := by decide +kernel
theorem dX11_within_10 : decode cX11_within 10 = .ok (.iconst 1, 1) := by decide +kernel
theorem dX11_within_11 : decode cX11_within 11 = .ok (.goto 4, 3) := by decide +kernel
theorem dX11_within_14 : decode cX11_within 14 = .ok (.iconst 0, 1) := by decide +kernel
theorem dX11_within_15 : decode cX11_within 15 = .ok (.ireturn, 1) := by decide +kernel
theorem dX11_bit_0 : decode cX11_bit 0 = .ok (.iload_n 0, 1) := by decide +kernel
theorem dX11_bit_1 : decode cX11_bit 1 = .ok (.ifCond .eq 7, 3) := by decide +kernel
theorem dX11_bit_4 : decode cX11_bit 4 = .ok (.iconst 1, 1) := by decide +kernel
theorem dX11_bit_5 : decode cX11_bit 5 = .ok (.goto 4, 3) := by decide +kernel
theorem dX11_bit_8 : decode cX11_bit 8 = .ok (.iconst 0, 1) := by decide +kernel
theorem dX11_bit_9 : decode cX11_bit 9 = .ok (.ireturn, 1) := by decide +kernel
theorem dX12_init_0 : decode cX12_init 0 = .ok (.aload_n 0, 1) := by decide +kernel
theorem dX12_init_1 : decode cX12_init 1 = .ok (.invokespecial 1, 3) := by decide +kernel
theorem dX12_init_4 : decode cX12_init 4 = .ok (.aload_n 0, 1) := by decide +kernel
theorem dX12_init_5 : decode cX12_init 5 = .ok (.sipush 307, 3) := by decide +kernel
theorem dX12_init_8 : decode cX12_init 8 = .ok (.newarray .int, 2) := by decide +kernel
theorem dX12_init_10 : decode cX12_init 10 = .ok (.putfield 7, 3) := by decide +kernel
theorem dX12_init_13 : decode cX12_init 13 = .ok (.aload_n 0, 1) := by decide +kernel
theorem dX12_init_14 : decode cX12_init 14 = .ok (.sipush 307, 3) := by decide +kernel
theorem dX12_init_17 : decode cX12_init 17 = .ok (.newarray .int, 2) := by decide +kernel
theorem dX12_init_19 : decode cX12_init 19 = .ok (.putfield 13, 3) := by decide +kernel
theorem dX12_init_22 : decode cX12_init 22 = .ok (.aload_n 0, 1) := by decide +kernel
theorem dX12_init_23 : decode cX12_init 23 = .ok (.sipush 307, 3) := by decide +kernel
theorem dX12_init_26 : decode cX12_init 26 = .ok (.newarray .int, 2) := by decide +kernel
theorem dX12_init_28 : decode cX12_init 28 = .ok (.putfield 16, 3) := by decide +kernel
theorem dX12_init_31 : decode cX12_init 31 = .ok (.aload_n 0, 1) := by decide +kernel
theorem dX12_init_32 : decode cX12_init 32 = .ok (.bipush 7, 2) := by decide +kernel
theorem dX12_init_34 : decode cX12_init 34 = .ok (.newarray .int, 2) := by decide +kernel
theorem dX12_init_36 : decode cX12_init 36 = .ok (.putfield 19, 3) := by decide +kernel
theorem dX12_init_39 : decode cX12_init 39 = .ok (.aload_n 0, 1) := by decide +kernel
theorem dX12_init_40 : decode cX12_init 40 = .ok (.bipush 100, 2) := by decide +kernel
theorem dX12_init_42 : decode cX12_init 42 = .ok (.newarray .int, 2) := by decide +kernel
theorem dX12_init_44 : decode cX12_init 44 = .ok (.putfield 22, 3) := by decide +kernel
theorem dX12_init_47 : decode cX12_init 47 = .ok (.aload_n 0, 1) := by decide +kernel
theorem dX12_init_48 : decode cX12_init 48 = .ok (.bipush 26, 2) := by decide +kernel
theorem dX12_init_50 : decode cX12_init 50 = .ok (.newarray .int, 2) := by decide +kernel
theorem dX12_init_52 : decode cX12_init 52 = .ok (.putfield 25, 3) := by decide +kernel
theorem dX12_init_55 : decode cX12_init 55 = .ok (.aload_n 0, 1) := by decide +kernel
theorem dX12_init_56 : decode cX12_init 56 = .ok (.bipush 10, 2) := by decide +kernel
theorem dX12_init_58 : decode cX12_init 58 = .ok (.newarray .int, 2) := by decide +kernel
theorem dX12_init_60 : decode cX12_init 60 = .ok (.putfield 28, 3) := by decide +kernel
theorem dX12_init_63 : decode cX12_init 63 = .ok (.aload_n 0, 1) := by decide +kernel
theorem dX12_init_64 : decode cX12_init 64 = .ok (.iconst 4, 1) := by decide +kernel
theorem dX12_init_65 : decode cX12_init 65 = .ok (.newarray .int, 2) := by decide +kernel
theorem dX12_init_67 : decode cX12_init 67 = .ok (.putfield 31, 3) := by decide +kernel
theorem dX12_init_70 : decode cX12_init 70 = .ok (.aload_n 0, 1) := by decide +kernel
theorem dX12_init_71 : decode cX12_init 71 = .ok (.iconst 4, 1) := by decide +kernel
theorem dX12_init_72 : decode cX12_init 72 = .ok (.newarray .int, 2) := by decide +kernel
theorem dX12_init_74 : decode cX12_init 74 = .ok (.putfield 34, 3) := by decide +kernel
theorem dX12_init_77 : decode cX12_init 77 = .ok (.aload_n 0, 1) := by decide +kernel
theorem dX12_init_78 : decode cX12_init 78 = .ok (.sipush 160, 3) := by decide +kernel
theorem dX12_init_81 : decode cX12_init 81 = .ok (.newarray .int, 2) := by decide +kernel
theorem dX12_init_83 : decode cX12_init 83 = .ok (.putfield 37, 3) := by decide +kernel
theorem dX12_init_86 : decode cX12_init 86 = .ok (.aload_n 0, 1) := by decide +kernel
theorem dX12_init_87 : decode cX12_init 87 = .ok (.bipush 40, 2) := by decide +kernel
theorem dX12_init_89 : decode cX12_init 89 = .ok (.newarray .int, 2) := by decide +kernel
theorem dX12_init_91 : decode cX12_init 91 = .ok (.putfield 40, 3) := by decide +kernel
theorem dX12_init_94 : decode cX12_init 94 = .ok (.aload_n 0, 1) := by decide +kernel
theorem dX12_init_95 : decode cX12_init 95 = .ok (.getfield 7, 3) := by decide +kernel
theorem dX12_init_98 : decode cX12_init 98 = .ok (.iconst 1, 1) := by decide +kernel
theorem dX12_init_99 : decode cX12_init 99 = .ok (.bipush 100, 2) := by decide +kernel
theorem dX12_init_101 : decode cX12_init 101 = .ok (.iastore, 1) := by decide +kernel
theorem dX12_init_102 : decode cX12_init 102 = .ok (.aload_n 0, 1) := by decide +kernel
theorem dX12_init_103 : decode cX12_init 103 = .ok (.getfield 7, 3) := by decide +kernel
theorem dX12_init_106 : decode cX12_init 106 = .ok (.iconst 3, 1) := by decide +kernel
theorem dX12_init_107 : decode cX12_init 107 = .ok (.bipush 50, 2) := by decide +kernel
theorem dX12_init_109 : decode cX12_init 109 = .ok (.iastore, 1) := by decide +kernel
theorem dX12_init_110 : decode cX12_init 110 = .ok (.aload_n 0, 1) := by decide +kernel
theorem dX12_init_111 : decode cX12_init 111 = .ok (.getfield 7, 3) := by decide +kernel
theorem dX12_init_114 : decode cX12_init 114 = .ok (.iconst 4, 1) := by decide +kernel
theorem dX12_init_115 : decode cX12_init 115 = .ok (.bipush 10, 2) := by decide +kernel
theorem dX12_init_117 : decode cX12_init 117 = .ok (.iastore, 1) := by decide +kernel
theorem dX12_init_118 : decode cX12_init 118 = .ok (.aload_n 0, 1) := by decide +kernel
theorem dX12_init_119 : decode cX12_init 119 = .ok (.getfield 7, 3) := by decide +kernel
theorem dX12_init_122 : decode cX12_init 122 = .ok (.iconst 5, 1) := by decide +kernel
theorem dX12_init_123 : decode cX12_init 123 = .ok (.bipush 20, 2) := by decide +kernel
theorem dX12_init_125 : decode cX12_init 125 = .ok (.iastore, 1) := by decide +kernel
theorem dX12_init_126 : decode cX12_init 126 = .ok (.aload_n 0, 1) := by decide +kernel
theorem dX12_init_127 : decode cX12_init 127 = .ok (.getfield 7, 3) := by decide +kernel
theorem dX12_init_130 : decode cX12_init 130 = .ok (.bipush 6, 2) := by decide +kernel
theorem dX12_init_132 : decode cX12_init 132 = .ok (.sipush 500, 3) := by decide +kernel
theorem dX12_init_135 : decode cX12_init 135 = .ok (.iastore, 1) := by decide +kernel
theorem dX12_init_136 : decode cX12_init 136 = .ok (.aload_n 0, 1) := by decide +kernel
theorem dX12_init_137 : decode cX12_init 137 = .ok (.getfield 7, 3) := by decide +kernel
theorem dX12_init_140 : decode cX12_init 140 = .ok (.bipush 14, 2) := by decide +kernel
theorem dX12_init_142 : decode cX12_init 142 = .ok (.iconst 1, 1) := by decide +kernel
theorem dX12_init_143 : decode cX12_init 143 = .ok (.iastore, 1) := by decide +kernel
theorem dX12_init_144 : decode cX12_init 144 = .ok (.aload_n 0, 1) := by decide +kernel
theorem dX12_init_145 : decode cX12_init 145 = .ok (.getfield 7, 3) := by decide +kernel
theorem dX12_init_148 : decode cX12_init 148 = .ok (.bipush 20, 2) := by decide +kernel
theorem dX12_init_150 : decode cX12_init 150 = .ok (.iconst 1, 1) := by decide +kernel
theorem dX12_init_151 : decode cX12_init 151 = .ok (.iastore, 1) := by decide +kernel
theorem dX12_init_152 : decode cX12_init 152 = .ok (.iconst 0, 1) := by decide +kernel
theorem dX12_init_153 : decode cX12_init 153 = .ok (.istore_n 1, 1) := by decide +kernel
theorem dX12_init_154 : decode cX12_init 154 = .ok (.iload_n 1, 1) := by decide +kernel
theorem dX12_init_155 : decode cX12_init 155 = .ok (.iconst 4, 1) := by decide +kernel
theorem dX12_init_156 : decode cX12_init 156 = .ok (.if_icmp .ge 20, 3) := by decide +kernel
theorem dX12_init_159 : decode cX12_init 159 = .ok (.aload_n 0, 1) := by decide +kernel
theorem dX12_init_160 : decode cX12_init 160 = .ok (.getfield 7, 3) := by decide +kernel
theorem dX12_init_163 : decode cX12_init 163 = .ok (.bipush 21, 2) := by decide +kernel
theorem dX12_init_165 : decode cX12_init 165 = .ok (.iload_n 1, 1) := by decide +kernel
theorem dX12_init_166 : decode cX12_init 166 = .ok (.iadd, 1) := by decide +kernel
theorem dX12_init_167 : decode cX12_init 167 = .ok (.bipush 100, 2) := by decide +kernel
theorem dX12_init_169 : decode cX12_init 169 = .ok (.iastore, 1) := by decide +kernel
theorem dX12_init_170 : decode cX12_init 170 = .ok (.iinc 1 1, 3) := by decide +kernel
theorem dX12_init_173 : decode cX12_init 173 = .ok (.goto (-19), 3) := by decide +kernel
theorem dX12_init_176 : decode cX12_init 176 = .ok (.iconst 0, 1) := by decide +kernel
theorem dX12_init_177 : decode cX12_init 177 = .ok (.istore_n 1, 1) := by decide +kernel
theorem dX12_init_178 : decode cX12_init 178 = .ok (.iload_n 1, 1) := by decide +kernel
theorem dX12_init_179 : decode cX12_init 179 = .ok (.bipush 10, 2) := by decide +kernel
theorem dX12_init_181 : decode cX12_init 181 = .ok (.if_icmp .ge 20, 3) := by decide +kernel
theorem dX12_init_184 : decode cX12_init 184 = .ok (.aload_n 0, 1) := by decide +kernel
theorem dX12_init_185 : decode cX12_init 185 = .ok (.getfield 7, 3) := by decide +kernel
theorem dX12_init_188 : decode cX12_init 188 = .ok (.sipush 297, 3) := by decide +kernel
theorem dX12_init_191 : decode cX12_init 191 = .ok (.iload_n 1, 1) := by decide +kernel
theorem dX12_init_192 : decode cX12_init 192 = .ok (.iadd, 1) := by decide +kernel
theorem dX12_init_193 : decode cX12_init 193 = .ok (.iconst (-1), 1) := by decide +kernel
theorem dX12_init_194 : decode cX12_init 194 = .ok (.iastore, 1) := by decide +kernel
theorem dX12_init_195 : decode cX12_init 195 = .ok (.iinc 1 1, 3) := by decide +kernel
theorem dX12_init_198 : decode cX12_init 198 = .ok (.goto (-20), 3) := by decide +kernel
theorem dX12_init_201 : decode cX12_init 201 = .ok (.return_, 1) := by decide +kernel
theorem dX12_finding_0 : decode cX12_finding 0 = .ok (.aload_n 0, 1) := by decide +kernel
theorem dX12_finding_1 : decode cX12_finding 1 = .ok (.getfield 19, 3) := by decide +kernel
theorem dX12_finding_4 : decode cX12_finding 4 = .ok (.iload_n 1, 1) := by decide +kernel
theorem dX12_finding_5 : decode cX12_finding 5 = .ok (.dup2, 1) := by decide +kernel
theorem dX12_finding_6 : decode cX12_finding 6 = .ok (.iaload, 1) := by decide +kernel
theorem dX12_finding_7 : decode cX12_finding 7 = .ok (.iconst 1, 1) := by decide +kernel
theorem dX12_finding_8 : decode cX12_finding 8 = .ok (.iadd, 1) := by decide +kernel
theorem dX12_finding_9 : decode cX12_finding 9 = .ok (.iastore, 1) := by decide +kernel
theorem dX12_finding_10 : decode cX12_finding 10 = .ok (.ldc 43, 2) := by decide +kernel
theorem dX12_finding_12 : decode cX12_finding 12 = .ok (.iload_n 1, 1) := by decide +kernel
theorem dX12_finding_13 : decode cX12_finding 13 = .ok (.isub, 1) := by decide +kernel
theorem dX12_finding_14 : decode cX12_finding 14 = .ok (.ireturn, 1) := by decide +kernel
theorem dX12_in_0 : decode cX12_in 0 = .ok (.iload_n 0, 1) := by decide +kernel
theorem dX12_in_1 : decode cX12_in 1 = .ok (.iload_n 1, 1) := by decide +kernel
theorem dX12_in_2 : decode cX12_in 2 = .ok (.if_icmp .lt 12, 3) := by decide +kernel
theorem dX12_in_5 : decode cX12_in 5 = .ok (.iload_n 0, 1) := by decide +kernel
theorem dX12_in_6 : decode cX12_in 6 = .ok (.iload_n 2, 1) := by decide +kernel
theorem dX12_in_7 : decode cX12_in 7 = .ok (.if_icmp .gt 7, 3) := by decide +kernel
theorem dX12_in_10 : decode cX12_in 10 = .ok (.iconst 1, 1) := by decide +kernel
theorem dX12_in_11 : decode cX12_in 11 = .ok (.goto 4, 3) := by decide +kernel
theorem dX12_in_14 : decode cX12_in 14 = .ok (.iconst 0, 1) := by decide +kernel
theorem dX12_in_15 : decode cX12_in 15 = .ok (.ireturn, 1) := by decide +kernel
theorem dX12_lay_0 : decode cX12_lay 0 = .ok (.iconst 0, 1) := by decide +kernel
theorem dX12_lay_1 : decode cX12_lay 1 = .ok (.istore_n 2, 1) := by decide +kernel
theorem dX12_lay_2 : decode cX12_lay 2 = .ok (.iload_n 2, 1) := by decide +kernel
theorem dX12_lay_3 : decode cX12_lay 3 = .ok (.sipush 307, 3) := by decide +kernel
theorem dX12_lay_6 : decode cX12_lay 6 = .ok (.if_icmp .ge 15, 3) := by decide +kernel
theorem dX12_lay_9 : decode cX12_lay 9 = .ok (.aload_n 1, 1) := by decide +kernel
theorem dX12_lay_10 : decode cX12_lay 10 = .ok (.iload_n 2, 1) := by decide +kernel
theorem dX12_lay_11 : decode cX12_lay 11 = .ok (.aload_n 0, 1) := by decide +kernel
theorem dX12_lay_12 : decode cX12_lay 12 = .ok (.iload_n 2, 1) := by decide +kernel
theorem dX12_lay_13 : decode cX12_lay 13 = .ok (.iaload, 1) := by decide +kernel
theorem dX12_lay_14 : decode cX12_lay 14 = .ok (.iastore, 1) := by decide +kernel
theorem dX12_lay_15 : decode cX12_lay 15 = .ok (.iinc 2 1, 3) := by decide +kernel
theorem dX12_lay_18 : decode cX12_lay 18 = .ok (.goto (-16), 3) := by decide +kernel
theorem dX12_lay_21 : decode cX12_lay 21 = .ok (.return_, 1) := by decide +kernel
set_option maxRecDepth 20000 in
theorem ggX12_begin_X12_lay : GoodIn wsX12_begin wsX12_lay := goodIn_r _ [6] (by decide +kernel) (by decide +kernel)
set_option maxRecDepth 20000 in
theorem gX12_begin_X12_lay : GoodIn wsX12_begin (va_wsS RX12 44 yX12_lay wsX12_lay) := goodIn_app (goodIn_of _ (by decide +kernel)) ggX12_begin_X12_lay
theorem dX12_begin_0 : decode cX12_begin 0 = .ok (.aload_n 0, 1) := by decide +kernel
theorem dX12_begin_1 : decode cX12_begin 1 = .ok (.getfield 7, 3) := by decide +kernel
theorem dX12_begin_4 : decode cX12_begin 4 = .ok (.aload_n 0, 1) := by decide +kernel
theorem dX12_begin_5 : decode cX12_begin 5 = .ok (.getfield 16, 3) := by decide +kernel
theorem dX12_begin_8 : decode cX12_begin 8 = .ok (.invokestatic 44, 3) := by decide +kernel
theorem dX12_begin_11 : decode cX12_begin 11 = .ok (.return_, 1) := by decide +kernel
set_option maxRecDepth 20000 in
theorem ggX12_layBack_X12_lay : GoodIn wsX12_layBack wsX12_lay := goodIn_r _ [6] (by decide +kernel) (by decide +kernel)
set_option maxRecDepth 20000 in
theorem gX12_layBack_X12_lay : GoodIn wsX12_layBack (va_wsS RX12 44 yX12_lay wsX12_lay) := goodIn_app (goodIn_of _ (by decide +kernel)) ggX12_layBack_X12_lay
theorem dX12_layBack_0 : decode cX12_layBack 0 = .ok (.aload_n 0, 1) := by decide +kernel
theorem dX12_layBack_1 : decode cX12_layBack 1 = .ok (.getfield 16, 3) := by decide +kernel
theorem dX12_layBack_4 : decode cX12_layBack 4 = .ok (.aload_n 0, 1) := by decide +kernel
theorem dX12_layBack_5 : decode cX12_layBack 5 = .ok (.getfield 7, 3) := by decide +kernel
theorem dX12_layBack_8 : decode cX12_layBack 8 = .ok (.invokestatic 44, 3) := by decide +kernel
theorem dX12_layBack_11 : decode cX12_layBack 11 = .ok (.return_, 1) := by decide +kernel
theorem dX12_has_0 : decode cX12_has 0 = .ok (.aload_n 0, 1) := by decide +kernel
theorem dX12_has_1 : decode cX12_has 1 = .ok (.getfield 7, 3) := by decide +kernel
theorem dX12_has_4 : decode cX12_has 4 = .ok (.bipush 19, 2) := by decide +kernel
theorem dX12_has_6 : decode cX12_has 6 = .ok (.iaload, 1) := by decide +kernel
theorem dX12_has_7 : decode cX12_has 7 = .ok (.iload_n 1, 1) := by decide +kernel
theorem dX12_has_8 : decode cX12_has 8 = .ok (.ishr, 1) := by decide +kernel
theorem dX12_has_9 : decode cX12_has 9 = .ok (.iconst 1, 1) := by decide +kernel
theorem dX12_has_10 : decode cX12_has 10 = .ok (.iand, 1) := by decide +kernel
theorem dX12_has_11 : decode cX12_has 11 = .ok (.iconst 1, 1) := by decide +kernel
theorem dX12_has_12 : decode cX12_has 12 = .ok (.if_icmp .ne 7, 3) := by decide +kernel
theorem dX12_has_15 : decode cX12_has 15 = .ok (.iconst 1, 1) := by decide +kernel
theorem dX12_has_16 : decode cX12_has 16 = .ok (.goto 4, 3) := by decide +kernel
theorem dX12_has_19 : decode cX12_has 19 = .ok (.iconst 0, 1) := by decide +kernel
theorem dX12_has_20 : decode cX12_has 20 = .ok (.ireturn, 1) := by decide +kernel
set_option maxRecDepth 20000 in
theorem ggX12_isWater_X12_in : GoodIn wsX12_isWater wsX12_in := goodIn_r _ [5] (by decide +kernel) (by decide +kernel)
set_option maxRecDepth 20000 in
theorem gX12_isWater_X12_in : GoodIn wsX12_isWater (va_wsS RX12 48 yX12_in wsX12_in) := goodIn_app (goodIn_of _ (by decide +kernel)) ggX12_isWater_X12_in
theorem dX12_isWater_0 : decode cX12_isWater 0 = .ok (.iload_n 1, 1) := by decide +kernel
theorem dX12_isWater_1 : decode cX12_isWater 1 = .ok (.iconst 0, 1) := by decide +kernel
theorem dX12_isWater_2 : decode cX12_isWater 2 = .ok (.aload_n 0, 1) := by decide +kernel
theorem dX12_isWater_3 : decode cX12_isWater 3 = .ok (.getfield 7, 3) := by decide +kernel
theorem dX12_isWater_6 : decode cX12_isWater 6 = .ok (.bipush 16, 2) := by decide +kernel
theorem dX12_isWater_8 : decode cX12_isWater 8 = .ok (.iaload, 1) := by decide +kernel
theorem dX12_isWater_9 : decode cX12_isWater 9 = .ok (.iconst 1, 1) := by decide +kernel
theorem dX12_isWater_10 : decode cX12_isWater 10 = .ok (.isub, 1) := by decide +kernel
theorem dX12_isWater_11 : decode cX12_isWater 11 = .ok (.invokestatic 48, 3) := by decide +kernel
theorem dX12_isWater_14 : decode cX12_isWater 14 = .ok (.ireturn, 1) := by decide +kernel
theorem dX12_its_0 : decode cX12_its 0 = .ok (.aload_n 0, 1) := by decide +kernel
theorem dX12_its_1 : decode cX12_its 1 = .ok (.getfield 7, 3) := by decide +kernel
theorem dX12_its_4 : decode cX12_its 4 = .ok (.bipush 65, 2) := by decide +kernel
theorem dX12_its_6 : decode cX12_its 6 = .ok (.iconst 4, 1) := by decide +kernel
theorem dX12_its_7 : decode cX12_its 7 = .ok (.iload_n 1, 1) := by decide +kernel
theorem dX12_its_8 : decode cX12_its 8 = .ok (.imul, 1) := by decide +kernel
theorem dX12_its_9 : decode cX12_its 9 = .ok (.iadd, 1) := by decide +kernel
theorem dX12_its_10 : decode cX12_its 10 = .ok (.iload_n 2, 1) := by decide +kernel
theorem dX12_its_11 : decode cX12_its 11 = .ok (.iadd, 1) := by decide +kernel
theorem dX12_its_12 : decode cX12_its 12 = .ok (.iaload, 1) := by decide +kernel
theorem dX12_its_13 : decode cX12_its 13 = .ok (.ireturn, 1) := by decide +kernel
set_option maxRecDepth 20000 in
theorem ggX12_water_X12_in : GoodIn wsX12_water wsX12_in := goodIn_r _ [5] (by decide +kernel) (by decide +kernel)
set_option maxRecDepth 20000 in
theorem gX12_water_X12_in : GoodIn wsX12_water (va_wsS RX12 48 yX12_in wsX12_in) := goodIn_app (goodIn_of _ (by decide +kernel)) ggX12_water_X12_in
set_option maxRecDepth 20000 in
theorem ggX12_water_X12_finding : GoodIn wsX12_water wsX12_finding := goodIn_r _ [9, 10, 11, 12, 13, 14, 15, 16, 17, 18, 19, 20, 21, 22, 23, 24, 25, 26, 27, 28, 29, 30] (by decide +kernel) (by decide +kernel)
set_option maxRecDepth 20000 in
theorem gX12_water_X12_finding : GoodIn wsX12_water (wsV RX12 52 RX12 yX12_finding wsX12_finding) := goodIn_app (goodIn_of _ (by decide +kernel)) ggX12_water_X12_finding
theorem dX12_water_0 : decode cX12_water 0 = .ok (.iload_n 1, 1) := by decide +kernel
theorem dX12_water_1 : decode cX12_water 1 = .ok (.iconst 0, 1) := by decide +kernel
theorem dX12_water_2 : decode cX12_water 2 = .ok (.bipush 6, 2) := by decide +kernel
theorem dX12_water_4 : decode cX12_water 4 = .ok (.invokestatic 48, 3) := by decide +kernel
theorem dX12_water_7 : decode cX12_water 7 = .ok (.ifCond .eq 24, 3) := by decide +kernel
theorem dX12_water_10 : decode cX12_water 10 = .ok (.iload_n 2, 1) := by decide +kernel
theorem dX12_water_11 : decode cX12_water 11 = .ok (.iconst 1, 1) := by decide +kernel
theorem dX12_water_12 : decode cX12_water 12 = .ok (.bipush 99, 2) := by decide +kernel
theorem dX12_water_14 : decode cX12_water 14 = .ok (.invokestatic 48, 3) := by decide +kernel
theorem dX12_water_17 : decode cX12_water 17 = .ok (.ifCond .eq 14, 3) := by decide +kernel
theorem dX12_water_20 : decode cX12_water 20 = .ok (.iload_n 3, 1) := by decide +kernel
theorem dX12_water_21 : decode cX12_water 21 = .ok (.iconst 0, 1) := by decide +kernel
theorem dX12_water_22 : decode cX12_water 22 = .ok (.sipush 999, 3) := by decide +kernel
theorem dX12_water_25 : decode cX12_water 25 = .ok (.invokestatic 48, 3) := by decide +kernel
theorem dX12_water_28 : decode cX12_water 28 = .ok (.ifCond .ne 9, 3) := by decide +kernel
theorem dX12_water_31 : decode cX12_water 31 = .ok (.aload_n 0, 1) := by decide +kernel
theorem dX12_water_32 : decode cX12_water 32 = .ok (.iconst 0, 1) := by decide +kernel
theorem dX12_water_33 : decode cX12_water 33 = .ok (.invokevirtual 52, 3) := by decide +kernel
theorem dX12_water_36 : decode cX12_water 36 = .ok (.ireturn, 1) := by decide +kernel
theorem dX12_water_37 : decode cX12_water 37 = .ok (.aload_n 0, 1) := by decide +kernel
theorem dX12_water_38 : decode cX12_water 38 = .ok (.getfield 7, 3) := by decide +kernel
theorem dX12_water_41 : decode cX12_water 41 = .ok (.bipush 16, 2) := by decide +kernel
theorem dX12_water_43 : decode cX12_water 43 = .ok (.iaload, 1) := by decide +kernel
theorem dX12_water_44 : decode cX12_water 44 = .ok (.bipush 8, 2) := by decide +kernel
theorem dX12_water_46 : decode cX12_water 46 = .ok (.if_icmp .ne 9, 3) := by decide +kernel
theorem dX12_water_49 : decode cX12_water 49 = .ok (.aload_n 0, 1) := by decide +kernel
theorem dX12_water_50 : decode cX12_water 50 = .ok (.iconst 1, 1) := by decide +kernel
theorem dX12_water_51 : decode cX12_water 51 = .ok (.invokevirtual 52, 3) := by decide +kernel
theorem dX12_water_54 : decode cX12_water 54 = .ok (.ireturn, 1) := by decide +kernel
theorem dX12_water_55 : decode cX12_water 55 = .ok (.bipush 65, 2) := by decide +kernel
theorem dX12_water_57 : decode cX12_water 57 = .ok (.iconst 4, 1) := by decide +kernel
theorem dX12_water_58 : decode cX12_water 58 = .ok (.aload_n 0, 1) := by decide +kernel
theorem dX12_water_59 : decode cX12_water 59 = .ok (.getfield 7, 3) := by decide +kernel
theorem dX12_water_62 : decode cX12_water 62 = .ok (.bipush 16, 2) := by decide +kernel
theorem dX12_water_64 : decode cX12_water 64 = .ok (.iaload, 1) := by decide +kernel
theorem dX12_water_65 : decode cX12_water 65 = .ok (.imul, 1) := by decide +kernel
theorem dX12_water_66 : decode cX12_water 66 = .ok (.iadd, 1) := by decide +kernel
theorem dX12_water_67 : decode cX12_water 67 = .ok (.istore 4, 2) := by decide +kernel
theorem dX12_water_69 : decode cX12_water 69 = .ok (.aload_n 0, 1) := by decide +kernel
theorem dX12_water_70 : decode cX12_water 70 = .ok (.getfield 7, 3) := by decide +kernel
theorem dX12_water_73 : decode cX12_water 73 = .ok (.iload 4, 2) := by decide +kernel
theorem dX12_water_75 : decode cX12_water 75 = .ok (.iconst 0, 1) := by decide +kernel
theorem dX12_water_76 : decode cX12_water 76 = .ok (.iadd, 1) := by decide +kernel
theorem dX12_water_77 : decode cX12_water 77 = .ok (.iload_n 1, 1) := by decide +kernel
theorem dX12_water_78 : decode cX12_water 78 = .ok (.iastore, 1) := by decide +kernel
theorem dX12_water_79 : decode cX12_water 79 = .ok (.aload_n 0, 1) := by decide +kernel
theorem dX12_water_80 : decode cX12_water 80 = .ok (.getfield 7, 3) := by decide +kernel
theorem dX12_water_83 : decode cX12_water 83 = .ok (.iload 4, 2) := by decide +kernel
theorem dX12_water_85 : decode cX12_water 85 = .ok (.iconst 1, 1) := by decide +kernel
theorem dX12_water_86 : decode cX12_water 86 = .ok (.iadd, 1) := by decide +kernel
theorem dX12_water_87 : decode cX12_water 87 = .ok (.iload_n 2, 1) := by decide +kernel
theorem dX12_water_88 : decode cX12_water 88 = .ok (.iastore, 1) := by decide +kernel
theorem dX12_water_89 : decode cX12_water 89 = .ok (.aload_n 0, 1) := by decide +kernel
theorem dX12_water_90 : decode cX12_water 90 = .ok (.getfield 7, 3) := by decide +kernel
theorem dX12_water_93 : decode cX12_water 93 = .ok (.iload 4, 2) := by decide +kernel
theorem dX12_water_95 : decode cX12_water 95 = .ok (.iconst 2, 1) := by decide +kernel
theorem dX12_water_96 : decode cX12_water 96 = .ok (.iadd, 1) := by decide +kernel
theorem dX12_water_97 : decode cX12_water 97 = .ok (.iload_n 3, 1) := by decide +kernel
theorem dX12_water_98 : decode cX12_water 98 = .ok (.iastore, 1) := by decide +kernel
theorem dX12_water_99 : decode cX12_water 99 = .ok (.aload_n 0, 1) := by decide +kernel
theorem dX12_water_100 : decode cX12_water 100 = .ok (.getfield 7, 3) := by decide +kernel
theorem dX12_water_103 : decode cX12_water 103 = .ok (.iload 4, 2) := by decide +kernel
theorem dX12_water_105 : decode cX12_water 105 = .ok (.iconst 3, 1) := by decide +kernel
theorem dX12_water_106 : decode cX12_water 106 = .ok (.iadd, 1) := by decide +kernel
theorem dX12_water_107 : decode cX12_water 107 = .ok (.iconst 0, 1) := by decide +kernel
theorem dX12_water_108 : decode cX12_water 108 = .ok (.iastore, 1) := by decide +kernel
theorem dX12_water_109 : decode cX12_water 109 = .ok (.aload_n 0, 1) := by decide +kernel
theorem dX12_water_110 : decode cX12_water 110 = .ok (.getfield 7, 3) := by decide +kernel
theorem dX12_water_113 : decode cX12_water 113 = .ok (.bipush 16, 2) := by decide +kernel
theorem dX12_water_115 : decode cX12_water 115 = .ok (.dup2, 1) := by decide +kernel
theorem dX12_water_116 : decode cX12_water 116 = .ok (.iaload, 1) := by decide +kernel
theorem dX12_water_117 : decode cX12_water 117 = .ok (.iconst 1, 1) := by decide +kernel
theorem dX12_water_118 : decode cX12_water 118 = .ok (.iadd, 1) := by decide +kernel
theorem dX12_water_119 : decode cX12_water 119 = .ok (.iastore, 1) := by decide +kernel
theorem dX12_water_120 : decode cX12_water 120 = .ok (.aload_n 0, 1) := by decide +kernel
theorem dX12_water_121 : decode cX12_water 121 = .ok (.getfield 7, 3) := by decide +kernel
theorem dX12_water_124 : decode cX12_water 124 = .ok (.bipush 16, 2) := by decide +kernel
theorem dX12_water_126 : decode cX12_water 126 = .ok (.iaload, 1) := by decide +kernel
theorem dX12_water_127 : decode cX12_water 127 = .ok (.iconst 1, 1) := by decide +kernel
theorem dX12_water_128 : decode cX12_water 128 = .ok (.isub, 1) := by decide +kernel
theorem dX12_water_129 : decode cX12_water 129 = .ok (.ireturn, 1) := by decide +kernel
set_option maxRecDepth 20000 in
theorem ggX12_halfBy_X12_has : GoodIn wsX12_halfBy wsX12_has := goodIn_r _ [5, 6, 7, 8, 9, 10, 11, 12, 13, 14, 15, 16, 17, 18, 19, 20, 21, 22, 23, 24, 25] (by decide +kernel) (by decide +kernel)
set_option maxRecDepth 20000 in
theorem gX12_halfBy_X12_has : GoodIn wsX12_halfBy (wsV RX12 56 RX12 yX12_has wsX12_has) := goodIn_app (goodIn_of _ (by decide +kernel)) ggX12_halfBy_X12_has
theorem dX12_halfBy_0 : decode cX12_halfBy 0 = .ok (.aload_n 0, 1) := by decide +kernel
theorem dX12_halfBy_1 : decode cX12_halfBy 1 = .ok (.iconst 0, 1) := by decide +kernel
theorem dX12_halfBy_2 : decode cX12_halfBy 2 = .ok (.invokevirtual 56, 3) := by decide +kernel
theorem dX12_halfBy_5 : decode cX12_halfBy 5 = .ok (.ifCond .eq 9, 3) := by decide +kernel
theorem dX12_halfBy_8 : decode cX12_halfBy 8 = .ok (.iload_n 1, 1) := by decide +kernel
theorem dX12_halfBy_9 : decode cX12_halfBy 9 = .ok (.iconst 2, 1) := by decide +kernel
theorem dX12_halfBy_10 : decode cX12_halfBy 10 = .ok (.idiv, 1) := by decide +kernel
theorem dX12_halfBy_11 : decode cX12_halfBy 11 = .ok (.goto 4, 3) := by decide +kernel
theorem dX12_halfBy_14 : decode cX12_halfBy 14 = .ok (.iload_n 1, 1) := by decide +kernel
theorem dX12_halfBy_15 : decode cX12_halfBy 15 = .ok (.ireturn, 1) := by decide +kernel
set_option maxRecDepth 20000 in
theorem ggX12_comes_X12_its : GoodIn wsX12_comes wsX12_its := goodIn_r _ [6, 1, 15, 16, 17, 18, 19, 20, 21, 22, 23, 24, 25, 26, 27, 28, 29, 30, 31, 32, 33] (by decide +kernel) (by decide +kernel)
set_option maxRecDepth 20000 in
theorem gX12_comes_X12_its : GoodIn wsX12_comes (wsV RX12 60 RX12 yX12_its wsX12_its) := goodIn_app (goodIn_of _ (by decide +kernel)) ggX12_comes_X12_its
set_option maxRecDepth 20000 in
theorem ggX12_comes_X12_halfBy : GoodIn wsX12_comes wsX12_halfBy := goodIn_r _ [10, 11, 12, 13, 5, 14, 1, 15, 16, 17, 18, 19, 20, 21, 22, 23, 24, 25, 26, 27, 28, 29, 30, 31, 32, 33] (by decide +kernel) (by decide +kernel)
set_option maxRecDepth 20000 in
theorem gX12_comes_X12_halfBy : GoodIn wsX12_comes (wsV RX12 64 RX12 yX12_halfBy wsX12_halfBy) := goodIn_app (goodIn_of _ (by decide +kernel)) ggX12_comes_X12_halfBy
set_option maxRecDepth 20000 in
theorem ggX12_comes_X12_has : GoodIn wsX12_comes wsX12_has := goodIn_r _ [14, 1, 15, 16, 17, 18, 19, 20, 21, 22, 23, 24, 25, 26, 27, 28, 29, 30, 31, 32, 33] (by decide +kernel) (by decide +kernel)
set_option maxRecDepth 20000 in
theorem gX12_comes_X12_has : GoodIn wsX12_comes (wsV RX12 56 RX12 yX12_has wsX12_has) := goodIn_app (goodIn_of _ (by decide +kernel)) ggX12_comes_X12_has
theorem dX12_comes_0 : decode cX12_comes 0 = .ok (.aload_n 0, 1) := by decide +kernel
theorem dX12_comes_1 : decode cX12_comes 1 = .ok (.iload_n 1, 1) := by decide +kernel
theorem dX12_comes_2 : decode cX12_comes 2 = .ok (.iconst 1, 1) := by decide +kernel
theorem dX12_comes_3 : decode cX12_comes 3 = .ok (.invokevirtual 60, 3) := by decide +kernel
theorem dX12_comes_6 : decode cX12_comes 6 = .ok (.istore_n 2, 1) := by decide +kernel
theorem dX12_comes_7 : decode cX12_comes 7 = .ok (.iload_n 2, 1) := by decide +kernel
theorem dX12_comes_8 : decode cX12_comes 8 = .ok (.aload_n 0, 1) := by decide +kernel
theorem dX12_comes_9 : decode cX12_comes 9 = .ok (.getfield 7, 3) := by decide +kernel
theorem dX12_comes_12 : decode cX12_comes 12 = .ok (.iconst 1, 1) := by decide +kernel
theorem dX12_comes_13 : decode cX12_comes 13 = .ok (.iaload, 1) := by decide +kernel
theorem dX12_comes_14 : decode cX12_comes 14 = .ok (.imul, 1) := by decide +kernel
theorem dX12_comes_15 : decode cX12_comes 15 = .ok (.bipush 100, 2) := by decide +kernel
theorem dX12_comes_17 : decode cX12_comes 17 = .ok (.idiv, 1) := by decide +kernel
theorem dX12_comes_18 : decode cX12_comes 18 = .ok (.istore_n 3, 1) := by decide +kernel
theorem dX12_comes_19 : decode cX12_comes 19 = .ok (.aload_n 0, 1) := by decide +kernel
theorem dX12_comes_20 : decode cX12_comes 20 = .ok (.getfield 7, 3) := by decide +kernel
theorem dX12_comes_23 : decode cX12_comes 23 = .ok (.iconst 0, 1) := by decide +kernel
theorem dX12_comes_24 : decode cX12_comes 24 = .ok (.iaload, 1) := by decide +kernel
theorem dX12_comes_25 : decode cX12_comes 25 = .ok (.aload_n 0, 1) := by decide +kernel
theorem dX12_comes_26 : decode cX12_comes 26 = .ok (.iload_n 1, 1) := by decide +kernel
theorem dX12_comes_27 : decode cX12_comes 27 = .ok (.iconst 2, 1) := by decide +kernel
theorem dX12_comes_28 : decode cX12_comes 28 = .ok (.invokevirtual 60, 3) := by decide +kernel
theorem dX12_comes_31 : decode cX12_comes 31 = .ok (.isub, 1) := by decide +kernel
theorem dX12_comes_32 : decode cX12_comes 32 = .ok (.istore 4, 2) := by decide +kernel
theorem dX12_comes_34 : decode cX12_comes 34 = .ok (.iload 4, 2) := by decide +kernel
theorem dX12_comes_36 : decode cX12_comes 36 = .ok (.ifCond .le 10, 3) := by decide +kernel
theorem dX12_comes_39 : decode cX12_comes 39 = .ok (.iload_n 2, 1) := by decide +kernel
theorem dX12_comes_40 : decode cX12_comes 40 = .ok (.iload 4, 2) := by decide +kernel
theorem dX12_comes_42 : decode cX12_comes 42 = .ok (.imul, 1) := by decide +kernel
theorem dX12_comes_43 : decode cX12_comes 43 = .ok (.goto 4, 3) := by decide +kernel
theorem dX12_comes_46 : decode cX12_comes 46 = .ok (.iconst 0, 1) := by decide +kernel
theorem dX12_comes_47 : decode cX12_comes 47 = .ok (.istore 5, 2) := by decide +kernel
theorem dX12_comes_49 : decode cX12_comes 49 = .ok (.aload_n 0, 1) := by decide +kernel
theorem dX12_comes_50 : decode cX12_comes 50 = .ok (.iload_n 1, 1) := by decide +kernel
theorem dX12_comes_51 : decode cX12_comes 51 = .ok (.iconst 0, 1) := by decide +kernel
theorem dX12_comes_52 : decode cX12_comes 52 = .ok (.invokevirtual 60, 3) := by decide +kernel
theorem dX12_comes_55 : decode cX12_comes 55 = .ok (.tableswitch 116 1 6 #[37, 43, 46, 64, 72, 94], 37) := by decide +kernel
theorem dX12_comes_92 : decode cX12_comes 92 = .ok (.aload_n 0, 1) := by decide +kernel
theorem dX12_comes_93 : decode cX12_comes 93 = .ok (.iload_n 3, 1) := by decide +kernel
theorem dX12_comes_94 : decode cX12_comes 94 = .ok (.invokevirtual 64, 3) := by decide +kernel
theorem dX12_comes_97 : decode cX12_comes 97 = .ok (.ireturn, 1) := by decide +kernel
theorem dX12_comes_98 : decode cX12_comes 98 = .ok (.iload 5, 2) := by decide +kernel
theorem dX12_comes_100 : decode cX12_comes 100 = .ok (.ireturn, 1) := by decide +kernel
theorem dX12_comes_101 : decode cX12_comes 101 = .ok (.aload_n 0, 1) := by decide +kernel
theorem dX12_comes_102 : decode cX12_comes 102 = .ok (.getfield 7, 3) := by decide +kernel
theorem dX12_comes_105 : decode cX12_comes 105 = .ok (.bipush 15, 2) := by decide +kernel
theorem dX12_comes_107 : decode cX12_comes 107 = .ok (.iaload, 1) := by decide +kernel
theorem dX12_comes_108 : decode cX12_comes 108 = .ok (.iconst 1, 1) := by decide +kernel
theorem dX12_comes_109 : decode cX12_comes 109 = .ok (.if_icmp .ne 8, 3) := by decide +kernel
theorem dX12_comes_112 : decode cX12_comes 112 = .ok (.iload 5, 2) := by decide +kernel
theorem dX12_comes_114 : decode cX12_comes 114 = .ok (.goto 4, 3) := by decide +kernel
theorem dX12_comes_117 : decode cX12_comes 117 = .ok (.iconst 0, 1) := by decide +kernel
theorem dX12_comes_118 : decode cX12_comes 118 = .ok (.ireturn, 1) := by decide +kernel
theorem dX12_comes_119 : decode cX12_comes 119 = .ok (.aload_n 0, 1) := by decide +kernel
theorem dX12_comes_120 : decode cX12_comes 120 = .ok (.iload_n 3, 1) := by decide +kernel
theorem dX12_comes_121 : decode cX12_comes 121 = .ok (.iconst 2, 1) := by decide +kernel
theorem dX12_comes_122 : decode cX12_comes 122 = .ok (.idiv, 1) := by decide +kernel
theorem dX12_comes_123 : decode cX12_comes 123 = .ok (.invokevirtual 64, 3) := by decide +kernel
theorem dX12_comes_126 : decode cX12_comes 126 = .ok (.ireturn, 1) := by decide +kernel
theorem dX12_comes_127 : decode cX12_comes 127 = .ok (.aload_n 0, 1) := by decide +kernel
theorem dX12_comes_128 : decode cX12_comes 128 = .ok (.getfield 7, 3) := by decide +kernel
theorem dX12_comes_131 : decode cX12_comes 131 = .ok (.bipush 8, 2) := by decide +kernel
theorem dX12_comes_133 : decode cX12_comes 133 = .ok (.iaload, 1) := by decide +kernel
theorem dX12_comes_134 : decode cX12_comes 134 = .ok (.aload_n 0, 1) := by decide +kernel
theorem dX12_comes_135 : decode cX12_comes 135 = .ok (.iload_n 1, 1) := by decide +kernel
theorem dX12_comes_136 : decode cX12_comes 136 = .ok (.iconst 2, 1) := by decide +kernel
theorem dX12_comes_137 : decode cX12_comes 137 = .ok (.invokevirtual 60, 3) := by decide +kernel
theorem dX12_comes_140 : decode cX12_comes 140 = .ok (.if_icmp .lt 7, 3) := by decide +kernel
theorem dX12_comes_143 : decode cX12_comes 143 = .ok (.iload_n 2, 1) := by decide +kernel
theorem dX12_comes_144 : decode cX12_comes 144 = .ok (.goto 4, 3) := by decide +kernel
theorem dX12_comes_147 : decode cX12_comes 147 = .ok (.iconst 0, 1) := by decide +kernel
theorem dX12_comes_148 : decode cX12_comes 148 = .ok (.ireturn, 1) := by decide +kernel
theorem dX12_comes_149 : decode cX12_comes 149 = .ok (.aload_n 0, 1) := by decide +kernel
theorem dX12_comes_150 : decode cX12_comes 150 = .ok (.iload_n 3, 1) := by decide +kernel
theorem dX12_comes_151 : decode cX12_comes 151 = .ok (.iconst 2, 1) := by decide +kernel
theorem dX12_comes_152 : decode cX12_comes 152 = .ok (.idiv, 1) := by decide +kernel
theorem dX12_comes_153 : decode cX12_comes 153 = .ok (.invokevirtual 64, 3) := by decide +kernel
theorem dX12_comes_156 : decode cX12_comes 156 = .ok (.aload_n 0, 1) := by decide +kernel
theorem dX12_comes_157 : decode cX12_comes 157 = .ok (.iconst 0, 1) := by decide +kernel
theorem dX12_comes_158 : decode cX12_comes 158 = .ok (.invokevirtual 56, 3) := by decide +kernel
theorem dX12_comes_161 : decode cX12_comes 161 = .ok (.ifCond .eq 7, 3) := by decide +kernel
theorem dX12_comes_164 : decode cX12_comes 164 = .ok (.iload_n 2, 1) := by decide +kernel
theorem dX12_comes_165 : decode cX12_comes 165 = .ok (.goto 4, 3) := by decide +kernel
theorem dX12_comes_168 : decode cX12_comes 168 = .ok (.iconst 0, 1) := by decide +kernel
theorem dX12_comes_169 : decode cX12_comes 169 = .ok (.iadd, 1) := by decide +kernel
theorem dX12_comes_170 : decode cX12_comes 170 = .ok (.ireturn, 1) := by decide +kernel
theorem dX12_comes_171 : decode cX12_comes 171 = .ok (.iload_n 2, 1) := by decide +kernel
theorem dX12_comes_172 : decode cX12_comes 172 = .ok (.ireturn, 1) := by decide +kernel
set_option maxRecDepth 20000 in
theorem ggX12_waterOf_X12_isWater : GoodIn wsX12_waterOf wsX12_isWater := goodIn_r _ [5, 6, 7, 8, 4, 9, 32, 33, 34, 35, 36, 37, 38, 39, 40, 41, 42, 43, 44, 45, 46, 47, 48, 49, 50] (by decide +kernel) (by decide +kernel)
set_option maxRecDepth 20000 in
theorem gX12_waterOf_X12_isWater : GoodIn wsX12_waterOf (wsV RX12 67 RX12 yX12_isWater wsX12_isWater) := goodIn_app (goodIn_of _ (by decide +kernel)) ggX12_waterOf_X12_isWater
set_option maxRecDepth 20000 in
theorem ggX12_waterOf_X12_in : GoodIn wsX12_waterOf wsX12_in := goodIn_r _ [9] (by decide +kernel) (by decide +kernel)
set_option maxRecDepth 20000 in
theorem gX12_waterOf_X12_in : GoodIn wsX12_waterOf (va_wsS RX12 48 yX12_in wsX12_in) := goodIn_app (goodIn_of _ (by decide +kernel)) ggX12_waterOf_X12_in
set_option maxRecDepth 20000 in
theorem ggX12_waterOf_X12_finding : GoodIn wsX12_waterOf wsX12_finding := goodIn_r _ [13, 14, 15, 32, 33, 34, 35, 36, 37, 38, 39, 40, 41, 42, 43, 44, 45, 46, 47, 48, 49, 50] (by decide +kernel) (by decide +kernel)
set_option maxRecDepth 20000 in
theorem gX12_waterOf_X12_finding : GoodIn wsX12_waterOf (wsV RX12 52 RX12 yX12_finding wsX12_finding) := goodIn_app (goodIn_of _ (by decide +kernel)) ggX12_waterOf_X12_finding
set_option maxRecDepth 20000 in
theorem ggX12_waterOf_X12_comes : GoodIn wsX12_waterOf wsX12_comes := goodIn_r _ [19, 6, 20, 21, 22, 4, 23, 24, 25, 26, 27, 28, 29, 30, 31, 32, 33, 34, 35, 36, 37, 38, 39, 40, 41, 42, 43, 44, 45, 46, 47, 48, 49, 50] (by decide +kernel) (by decide +kernel)
set_option maxRecDepth 20000 in
theorem gX12_waterOf_X12_comes : GoodIn wsX12_waterOf (wsV RX12 70 RX12 yX12_comes wsX12_comes) := goodIn_app (goodIn_of _ (by decide +kernel)) ggX12_waterOf_X12_comes
set_option maxRecDepth 20000 in
theorem ggX12_waterOf_X12_its : GoodIn wsX12_waterOf wsX12_its := goodIn_r _ [23, 6, 32, 33, 34, 35, 36, 37, 38, 39, 40, 41, 42, 43, 44, 45, 46, 47, 48, 49, 50] (by decide +kernel) (by decide +kernel)
set_option maxRecDepth 20000 in
theorem gX12_waterOf_X12_its : GoodIn wsX12_waterOf (wsV RX12 60 RX12 yX12_its wsX12_its) := goodIn_app (goodIn_of _ (by decide +kernel)) ggX12_waterOf_X12_its
theorem dX12_waterOf_0 : decode cX12_waterOf 0 = .ok (.aload_n 0, 1) := by decide +kernel
theorem dX12_waterOf_1 : decode cX12_waterOf 1 = .ok (.iload_n 1, 1) := by decide +kernel
theorem dX12_waterOf_2 : decode cX12_waterOf 2 = .ok (.invokevirtual 67, 3) := by decide +kernel
theorem dX12_waterOf_5 : decode cX12_waterOf 5 = .ok (.ifCond .eq 12, 3) := by decide +kernel
theorem dX12_waterOf_8 : decode cX12_waterOf 8 = .ok (.iload_n 2, 1) := by decide +kernel
theorem dX12_waterOf_9 : decode cX12_waterOf 9 = .ok (.iconst 0, 1) := by decide +kernel
theorem dX12_waterOf_10 : decode cX12_waterOf 10 = .ok (.iconst 4, 1) := by decide +kernel
theorem dX12_waterOf_11 : decode cX12_waterOf 11 = .ok (.invokestatic 48, 3) := by decide +kernel
theorem dX12_waterOf_14 : decode cX12_waterOf 14 = .ok (.ifCond .ne 9, 3) := by decide +kernel
theorem dX12_waterOf_17 : decode cX12_waterOf 17 = .ok (.aload_n 0, 1) := by decide +kernel
theorem dX12_waterOf_18 : decode cX12_waterOf 18 = .ok (.iconst 0, 1) := by decide +kernel
theorem dX12_waterOf_19 : decode cX12_waterOf 19 = .ok (.invokevirtual 52, 3) := by decide +kernel
theorem dX12_waterOf_22 : decode cX12_waterOf 22 = .ok (.ireturn, 1) := by decide +kernel
theorem dX12_waterOf_23 : decode cX12_waterOf 23 = .ok (.iload_n 2, 1) := by decide +kernel
theorem dX12_waterOf_24 : decode cX12_waterOf 24 = .ok (.iconst 3, 1) := by decide +kernel
theorem dX12_waterOf_25 : decode cX12_waterOf 25 = .ok (.if_icmp .ne 11, 3) := by decide +kernel
theorem dX12_waterOf_28 : decode cX12_waterOf 28 = .ok (.aload_n 0, 1) := by decide +kernel
theorem dX12_waterOf_29 : decode cX12_waterOf 29 = .ok (.iload_n 1, 1) := by decide +kernel
theorem dX12_waterOf_30 : decode cX12_waterOf 30 = .ok (.invokevirtual 70, 3) := by decide +kernel
theorem dX12_waterOf_33 : decode cX12_waterOf 33 = .ok (.goto 18, 3) := by decide +kernel
theorem dX12_waterOf_36 : decode cX12_waterOf 36 = .ok (.aload_n 0, 1) := by decide +kernel
theorem dX12_waterOf_37 : decode cX12_waterOf 37 = .ok (.iload_n 1, 1) := by decide +kernel
theorem dX12_waterOf_38 : decode cX12_waterOf 38 = .ok (.iload_n 2, 1) := by decide +kernel
theorem dX12_waterOf_39 : decode cX12_waterOf 39 = .ok (.iconst 4, 1) := by decide +kernel
theorem dX12_waterOf_40 : decode cX12_waterOf 40 = .ok (.if_icmp .ne 7, 3) := by decide +kernel
theorem dX12_waterOf_43 : decode cX12_waterOf 43 = .ok (.iconst 3, 1) := by decide +kernel
theorem dX12_waterOf_44 : decode cX12_waterOf 44 = .ok (.goto 4, 3) := by decide +kernel
theorem dX12_waterOf_47 : decode cX12_waterOf 47 = .ok (.iload_n 2, 1) := by decide +kernel
theorem dX12_waterOf_48 : decode cX12_waterOf 48 = .ok (.invokevirtual 60, 3) := by decide +kernel
theorem dX12_waterOf_51 : decode cX12_waterOf 51 = .ok (.ireturn, 1) := by decide +kernel
set_option maxRecDepth 20000 in
theorem ggX12_change_X12_isWater : GoodIn wsX12_change wsX12_isWater := goodIn_r _ [6, 1, 7, 8, 5, 9, 16, 17, 18, 19, 20, 21, 22, 23, 24, 25, 26, 27, 28, 29, 30, 31, 32, 33, 34] (by decide +kernel) (by decide +kernel)
set_option maxRecDepth 20000 in
theorem gX12_change_X12_isWater : GoodIn wsX12_change (wsV RX12 67 RX12 yX12_isWater wsX12_isWater) := goodIn_app (goodIn_of _ (by decide +kernel)) ggX12_change_X12_isWater
set_option maxRecDepth 20000 in
theorem ggX12_change_X12_in : GoodIn wsX12_change wsX12_in := goodIn_r _ [9] (by decide +kernel) (by decide +kernel)
set_option maxRecDepth 20000 in
theorem gX12_change_X12_in : GoodIn wsX12_change (va_wsS RX12 48 yX12_in wsX12_in) := goodIn_app (goodIn_of _ (by decide +kernel)) ggX12_change_X12_in
set_option maxRecDepth 20000 in
theorem ggX12_change_X12_finding : GoodIn wsX12_change wsX12_finding := goodIn_r _ [13, 14, 15, 16, 17, 18, 19, 20, 21, 22, 23, 24, 25, 26, 27, 28, 29, 30, 31, 32, 33, 34] (by decide +kernel) (by decide +kernel)
set_option maxRecDepth 20000 in
theorem gX12_change_X12_finding : GoodIn wsX12_change (wsV RX12 52 RX12 yX12_finding wsX12_finding) := goodIn_app (goodIn_of _ (by decide +kernel)) ggX12_change_X12_finding
theorem dX12_change_0 : decode cX12_change 0 = .ok (.aload_n 0, 1) := by decide +kernel
theorem dX12_change_1 : decode cX12_change 1 = .ok (.iload_n 1, 1) := by decide +kernel
theorem dX12_change_2 : decode cX12_change 2 = .ok (.invokevirtual 67, 3) := by decide +kernel
theorem dX12_change_5 : decode cX12_change 5 = .ok (.ifCond .eq 42, 3) := by decide +kernel
theorem dX12_change_8 : decode cX12_change 8 = .ok (.iload_n 2, 1) := by decide +kernel
theorem dX12_change_9 : decode cX12_change 9 = .ok (.iconst 1, 1) := by decide +kernel
theorem dX12_change_10 : decode cX12_change 10 = .ok (.iconst 2, 1) := by decide +kernel
theorem dX12_change_11 : decode cX12_change 11 = .ok (.invokestatic 48, 3) := by decide +kernel
theorem dX12_change_14 : decode cX12_change 14 = .ok (.ifCond .eq 33, 3) := by decide +kernel
theorem dX12_change_17 : decode cX12_change 17 = .ok (.iload_n 3, 1) := by decide +kernel
theorem dX12_change_18 : decode cX12_change 18 = .ok (.iload_n 2, 1) := by decide +kernel
theorem dX12_change_19 : decode cX12_change 19 = .ok (.iconst 1, 1) := by decide +kernel
theorem dX12_change_20 : decode cX12_change 20 = .ok (.if_icmp .ne 7, 3) := by decide +kernel
theorem dX12_change_23 : decode cX12_change 23 = .ok (.iconst 1, 1) := by decide +kernel
theorem dX12_change_24 : decode cX12_change 24 = .ok (.goto 4, 3) := by decide +kernel
theorem dX12_change_27 : decode cX12_change 27 = .ok (.iconst 0, 1) := by decide +kernel
theorem dX12_change_28 : decode cX12_change 28 = .ok (.iload_n 2, 1) := by decide +kernel
theorem dX12_change_29 : decode cX12_change 29 = .ok (.iconst 1, 1) := by decide +kernel
theorem dX12_change_30 : decode cX12_change 30 = .ok (.if_icmp .ne 8, 3) := by decide +kernel
theorem dX12_change_33 : decode cX12_change 33 = .ok (.bipush 99, 2) := by decide +kernel
theorem dX12_change_35 : decode cX12_change 35 = .ok (.goto 6, 3) := by decide +kernel
theorem dX12_change_38 : decode cX12_change 38 = .ok (.sipush 999, 3) := by decide +kernel
theorem dX12_change_41 : decode cX12_change 41 = .ok (.invokestatic 48, 3) := by decide +kernel
theorem dX12_change_44 : decode cX12_change 44 = .ok (.ifCond .ne 9, 3) := by decide +kernel
theorem dX12_change_47 : decode cX12_change 47 = .ok (.aload_n 0, 1) := by decide +kernel
theorem dX12_change_48 : decode cX12_change 48 = .ok (.iconst 0, 1) := by decide +kernel
theorem dX12_change_49 : decode cX12_change 49 = .ok (.invokevirtual 52, 3) := by decide +kernel
theorem dX12_change_52 : decode cX12_change 52 = .ok (.ireturn, 1) := by decide +kernel
theorem dX12_change_53 : decode cX12_change 53 = .ok (.bipush 65, 2) := by decide +kernel
theorem dX12_change_55 : decode cX12_change 55 = .ok (.iconst 4, 1) := by decide +kernel
theorem dX12_change_56 : decode cX12_change 56 = .ok (.iload_n 1, 1) := by decide +kernel
theorem dX12_change_57 : decode cX12_change 57 = .ok (.imul, 1) := by decide +kernel
theorem dX12_change_58 : decode cX12_change 58 = .ok (.iadd, 1) := by decide +kernel
theorem dX12_change_59 : decode cX12_change 59 = .ok (.iload_n 2, 1) := by decide +kernel
theorem dX12_change_60 : decode cX12_change 60 = .ok (.iadd, 1) := by decide +kernel
theorem dX12_change_61 : decode cX12_change 61 = .ok (.istore 4, 2) := by decide +kernel
theorem dX12_change_63 : decode cX12_change 63 = .ok (.aload_n 0, 1) := by decide +kernel
theorem dX12_change_64 : decode cX12_change 64 = .ok (.getfield 7, 3) := by decide +kernel
theorem dX12_change_67 : decode cX12_change 67 = .ok (.iload 4, 2) := by decide +kernel
theorem dX12_change_69 : decode cX12_change 69 = .ok (.iaload, 1) := by decide +kernel
theorem dX12_change_70 : decode cX12_change 70 = .ok (.istore 5, 2) := by decide +kernel
theorem dX12_change_72 : decode cX12_change 72 = .ok (.aload_n 0, 1) := by decide +kernel
theorem dX12_change_73 : decode cX12_change 73 = .ok (.getfield 7, 3) := by decide +kernel
theorem dX12_change_76 : decode cX12_change 76 = .ok (.iload 4, 2) := by decide +kernel
theorem dX12_change_78 : decode cX12_change 78 = .ok (.iload_n 3, 1) := by decide +kernel
theorem dX12_change_79 : decode cX12_change 79 = .ok (.iastore, 1) := by decide +kernel
theorem dX12_change_80 : decode cX12_change 80 = .ok (.iload 5, 2) := by decide +kernel
theorem dX12_change_82 : decode cX12_change 82 = .ok (.ireturn, 1) := by decide +kernel
theorem dX12_leastOf_0 : decode cX12_leastOf 0 = .ok (.iload_n 0, 1) := by decide +kernel
theorem dX12_leastOf_1 : decode cX12_leastOf 1 = .ok (.iconst 3, 1) := by decide +kernel
theorem dX12_leastOf_2 : decode cX12_leastOf 2 = .ok (.if_icmp .eq 14, 3) := by decide +kernel
theorem dX12_leastOf_5 : decode cX12_leastOf 5 = .ok (.iload_n 0, 1) := by decide +kernel
theorem dX12_leastOf_6 : decode cX12_leastOf 6 = .ok (.iconst 5, 1) := by decide +kernel
theorem dX12_leastOf_7 : decode cX12_leastOf 7 = .ok (.if_icmp .eq 9, 3) := by decide +kernel
theorem dX12_leastOf_10 : decode cX12_leastOf 10 = .ok (.iload_n 0, 1) := by decide +kernel
theorem dX12_leastOf_11 : decode cX12_leastOf 11 = .ok (.bipush 6, 2) := by decide +kernel
theorem dX12_leastOf_13 : decode cX12_leastOf 13 = .ok (.if_icmp .ne 7, 3) := by decide +kernel
theorem dX12_leastOf_16 : decode cX12_leastOf 16 = .ok (.iconst 1, 1) := by decide +kernel
theorem dX12_leastOf_17 : decode cX12_leastOf 17 = .ok (.goto 4, 3) := by decide +kernel
theorem dX12_leastOf_20 : decode cX12_leastOf 20 = .ok (.iconst 0, 1) := by decide +kernel
theorem dX12_leastOf_21 : decode cX12_leastOf 21 = .ok (.ireturn, 1) := by decide +kernel
theorem dX12_mostOf_0 : decode cX12_mostOf 0 = .ok (.iload_n 0, 1) := by decide +kernel
theorem dX12_mostOf_1 : decode cX12_mostOf 1 = .ok (.ifCond .eq 8, 3) := by decide +kernel
theorem dX12_mostOf_4 : decode cX12_mostOf 4 = .ok (.iload_n 0, 1) := by decide +kernel
theorem dX12_mostOf_5 : decode cX12_mostOf 5 = .ok (.iconst 5, 1) := by decide +kernel
theorem dX12_mostOf_6 : decode cX12_mostOf 6 = .ok (.if_icmp .ne 8, 3) := by decide +kernel
theorem dX12_mostOf_9 : decode cX12_mostOf 9 = .ok (.bipush 99, 2) := by decide +kernel
theorem dX12_mostOf_11 : decode cX12_mostOf 11 = .ok (.goto 28, 3) := by decide +kernel
theorem dX12_mostOf_14 : decode cX12_mostOf 14 = .ok (.iload_n 0, 1) := by decide +kernel
theorem dX12_mostOf_15 : decode cX12_mostOf 15 = .ok (.iconst 2, 1) := by decide +kernel
theorem dX12_mostOf_16 : decode cX12_mostOf 16 = .ok (.if_icmp .ne 9, 3) := by decide +kernel
theorem dX12_mostOf_19 : decode cX12_mostOf 19 = .ok (.sipush 9999, 3) := by decide +kernel
theorem dX12_mostOf_22 : decode cX12_mostOf 22 = .ok (.goto 17, 3) := by decide +kernel
theorem dX12_mostOf_25 : decode cX12_mostOf 25 = .ok (.iload_n 0, 1) := by decide +kernel
theorem dX12_mostOf_26 : decode cX12_mostOf 26 = .ok (.iconst 4, 1) := by decide +kernel
theorem dX12_mostOf_27 : decode cX12_mostOf 27 = .ok (.if_icmp .ne 9, 3) := by decide +kernel
theorem dX12_mostOf_30 : decode cX12_mostOf 30 = .ok (.sipush 998, 3) := by decide +kernel
theorem dX12_mostOf_33 : decode cX12_mostOf 33 = .ok (.goto 6, 3) := by decide +kernel
theorem dX12_mostOf_36 : decode cX12_mostOf 36 = .ok (.sipush 999, 3) := by decide +kernel
theorem dX12_mostOf_39 : decode cX12_mostOf 39 = .ok (.ireturn, 1) := by decide +kernel
set_option maxRecDepth 20000 in
theorem ggX12_set_X12_in : GoodIn wsX12_set wsX12_in := goodIn_r _ [5] (by decide +kernel) (by decide +kernel)
set_option maxRecDepth 20000 in
theorem gX12_set_X12_in : GoodIn wsX12_set (va_wsS RX12 48 yX12_in wsX12_in) := goodIn_app (goodIn_of _ (by decide +kernel)) ggX12_set_X12_in
set_option maxRecDepth 20000 in
theorem ggX12_set_X12_leastOf : GoodIn wsX12_set wsX12_leastOf := goodIn_r _ [8] (by decide +kernel) (by decide +kernel)
set_option maxRecDepth 20000 in
theorem gX12_set_X12_leastOf : GoodIn wsX12_set (va_wsS RX12 73 yX12_leastOf wsX12_leastOf) := goodIn_app (goodIn_of _ (by decide +kernel)) ggX12_set_X12_leastOf
set_option maxRecDepth 20000 in
theorem ggX12_set_X12_mostOf : GoodIn wsX12_set wsX12_mostOf := goodIn_r _ [11] (by decide +kernel) (by decide +kernel)
set_option maxRecDepth 20000 in
theorem gX12_set_X12_mostOf : GoodIn wsX12_set (va_wsS RX12 76 yX12_mostOf wsX12_mostOf) := goodIn_app (goodIn_of _ (by decide +kernel)) ggX12_set_X12_mostOf
set_option maxRecDepth 20000 in
theorem ggX12_set_X12_finding : GoodIn wsX12_set wsX12_finding := goodIn_r _ [15, 16, 17, 18, 19, 20, 21, 22, 23, 24, 25, 26, 27, 28, 29, 30, 31, 32, 33, 34, 35, 36] (by decide +kernel) (by decide +kernel)
set_option maxRecDepth 20000 in
theorem gX12_set_X12_finding : GoodIn wsX12_set (wsV RX12 52 RX12 yX12_finding wsX12_finding) := goodIn_app (goodIn_of _ (by decide +kernel)) ggX12_set_X12_finding
theorem dX12_set_0 : decode cX12_set 0 = .ok (.iload_n 1, 1) := by decide +kernel
theorem dX12_set_1 : decode cX12_set 1 = .ok (.iconst 0, 1) := by decide +kernel
theorem dX12_set_2 : decode cX12_set 2 = .ok (.bipush 7, 2) := by decide +kernel
theorem dX12_set_4 : decode cX12_set 4 = .ok (.invokestatic 48, 3) := by decide +kernel
theorem dX12_set_7 : decode cX12_set 7 = .ok (.ifCond .eq 22, 3) := by decide +kernel
theorem dX12_set_10 : decode cX12_set 10 = .ok (.iload_n 2, 1) := by decide +kernel
theorem dX12_set_11 : decode cX12_set 11 = .ok (.iload_n 1, 1) := by decide +kernel
theorem dX12_set_12 : decode cX12_set 12 = .ok (.invokestatic 73, 3) := by decide +kernel
theorem dX12_set_15 : decode cX12_set 15 = .ok (.iload_n 1, 1) := by decide +kernel
theorem dX12_set_16 : decode cX12_set 16 = .ok (.invokestatic 76, 3) := by decide +kernel
theorem dX12_set_19 : decode cX12_set 19 = .ok (.invokestatic 48, 3) := by decide +kernel
theorem dX12_set_22 : decode cX12_set 22 = .ok (.ifCond .eq 7, 3) := by decide +kernel
theorem dX12_set_25 : decode cX12_set 25 = .ok (.iconst 1, 1) := by decide +kernel
theorem dX12_set_26 : decode cX12_set 26 = .ok (.goto 4, 3) := by decide +kernel
theorem dX12_set_29 : decode cX12_set 29 = .ok (.iconst 0, 1) := by decide +kernel
theorem dX12_set_30 : decode cX12_set 30 = .ok (.istore_n 3, 1) := by decide +kernel
theorem dX12_set_31 : decode cX12_set 31 = .ok (.iload_n 3, 1) := by decide +kernel
theorem dX12_set_32 : decode cX12_set 32 = .ok (.ifCond .eq 33, 3) := by decide +kernel
theorem dX12_set_35 : decode cX12_set 35 = .ok (.iload_n 1, 1) := by decide +kernel
theorem dX12_set_36 : decode cX12_set 36 = .ok (.iconst 3, 1) := by decide +kernel
theorem dX12_set_37 : decode cX12_set 37 = .ok (.if_icmp .ne 13, 3) := by decide +kernel
theorem dX12_set_40 : decode cX12_set 40 = .ok (.iload_n 2, 1) := by decide +kernel
theorem dX12_set_41 : decode cX12_set 41 = .ok (.aload_n 0, 1) := by decide +kernel
theorem dX12_set_42 : decode cX12_set 42 = .ok (.getfield 7, 3) := by decide +kernel
theorem dX12_set_45 : decode cX12_set 45 = .ok (.iconst 4, 1) := by decide +kernel
theorem dX12_set_46 : decode cX12_set 46 = .ok (.iaload, 1) := by decide +kernel
theorem dX12_set_47 : decode cX12_set 47 = .ok (.if_icmp .le 18, 3) := by decide +kernel
theorem dX12_set_50 : decode cX12_set 50 = .ok (.iload_n 1, 1) := by decide +kernel
theorem dX12_set_51 : decode cX12_set 51 = .ok (.iconst 4, 1) := by decide +kernel
theorem dX12_set_52 : decode cX12_set 52 = .ok (.if_icmp .ne 19, 3) := by decide +kernel
theorem dX12_set_55 : decode cX12_set 55 = .ok (.iload_n 2, 1) := by decide +kernel
theorem dX12_set_56 : decode cX12_set 56 = .ok (.aload_n 0, 1) := by decide +kernel
theorem dX12_set_57 : decode cX12_set 57 = .ok (.getfield 7, 3) := by decide +kernel
theorem dX12_set_60 : decode cX12_set 60 = .ok (.iconst 3, 1) := by decide +kernel
theorem dX12_set_61 : decode cX12_set 61 = .ok (.iaload, 1) := by decide +kernel
theorem dX12_set_62 : decode cX12_set 62 = .ok (.if_icmp .lt 9, 3) := by decide +kernel
theorem dX12_set_65 : decode cX12_set 65 = .ok (.aload_n 0, 1) := by decide +kernel
theorem dX12_set_66 : decode cX12_set 66 = .ok (.iconst 0, 1) := by decide +kernel
theorem dX12_set_67 : decode cX12_set 67 = .ok (.invokevirtual 52, 3) := by decide +kernel
theorem dX12_set_70 : decode cX12_set 70 = .ok (.ireturn, 1) := by decide +kernel
theorem dX12_set_71 : decode cX12_set 71 = .ok (.aload_n 0, 1) := by decide +kernel
theorem dX12_set_72 : decode cX12_set 72 = .ok (.getfield 7, 3) := by decide +kernel
theorem dX12_set_75 : decode cX12_set 75 = .ok (.iload_n 1, 1) := by decide +kernel
theorem dX12_set_76 : decode cX12_set 76 = .ok (.iaload, 1) := by decide +kernel
theorem dX12_set_77 : decode cX12_set 77 = .ok (.istore 4, 2) := by decide +kernel
theorem dX12_set_79 : decode cX12_set 79 = .ok (.aload_n 0, 1) := by decide +kernel
theorem dX12_set_80 : decode cX12_set 80 = .ok (.getfield 7, 3) := by decide +kernel
theorem dX12_set_83 : decode cX12_set 83 = .ok (.iload_n 1, 1) := by decide +kernel
theorem dX12_set_84 : decode cX12_set 84 = .ok (.iload_n 2, 1) := by decide +kernel
theorem dX12_set_85 : decode cX12_set 85 = .ok (.iastore, 1) := by decide +kernel
theorem dX12_set_86 : decode cX12_set 86 = .ok (.iload 4, 2) := by decide +kernel
theorem dX12_set_88 : decode cX12_set 88 = .ok (.ireturn, 1) := by decide +kernel
theorem dX12_current_0 : decode cX12_current 0 = .ok (.aload_n 0, 1) := by decide +kernel
theorem dX12_current_1 : decode cX12_current 1 = .ok (.getfield 7, 3) := by decide +kernel
theorem dX12_current_4 : decode cX12_current 4 = .ok (.bipush 14, 2) := by decide +kernel
theorem dX12_current_6 : decode cX12_current 6 = .ok (.iaload, 1) := by decide +kernel
theorem dX12_current_7 : decode cX12_current 7 = .ok (.istore_n 2, 1) := by decide +kernel
theorem dX12_current_8 : decode cX12_current 8 = .ok (.aload_n 0, 1) := by decide +kernel
theorem dX12_current_9 : decode cX12_current 9 = .ok (.getfield 7, 3) := by decide +kernel
theorem dX12_current_12 : decode cX12_current 12 = .ok (.bipush 14, 2) := by decide +kernel
theorem dX12_current_14 : decode cX12_current 14 = .ok (.iload_n 1, 1) := by decide +kernel
theorem dX12_current_15 : decode cX12_current 15 = .ok (.ifCond .eq 7, 3) := by decide +kernel
theorem dX12_current_18 : decode cX12_current 18 = .ok (.iconst 1, 1) := by decide +kernel
theorem dX12_current_19 : decode cX12_current 19 = .ok (.goto 4, 3) := by decide +kernel
theorem dX12_current_22 : decode cX12_current 22 = .ok (.iconst 0, 1) := by decide +kernel
theorem dX12_current_23 : decode cX12_current 23 = .ok (.iastore, 1) := by decide +kernel
theorem dX12_current_24 : decode cX12_current 24 = .ok (.iload_n 2, 1) := by decide +kernel
theorem dX12_current_25 : decode cX12_current 25 = .ok (.ireturn, 1) := by decide +kernel
set_option maxRecDepth 20000 in
theorem ggX12_flap_X12_has : GoodIn wsX12_flap wsX12_has := goodIn_r _ [6, 1, 13, 14, 15, 16, 17, 18, 19, 20, 21, 22, 23, 24, 25, 26, 27, 28, 29, 30, 31] (by decide +kernel) (by decide +kernel)
set_option maxRecDepth 20000 in
theorem gX12_flap_X12_has : GoodIn wsX12_flap (wsV RX12 56 RX12 yX12_has wsX12_has) := goodIn_app (goodIn_of _ (by decide +kernel)) ggX12_flap_X12_has
set_option maxRecDepth 20000 in
theorem ggX12_flap_X12_finding : GoodIn wsX12_flap wsX12_finding := goodIn_r _ [10, 11, 12, 13, 14, 15, 16, 17, 18, 19, 20, 21, 22, 23, 24, 25, 26, 27, 28, 29, 30, 31] (by decide +kernel) (by decide +kernel)
set_option maxRecDepth 20000 in
theorem gX12_flap_X12_finding : GoodIn wsX12_flap (wsV RX12 52 RX12 yX12_finding wsX12_finding) := goodIn_app (goodIn_of _ (by decide +kernel)) ggX12_flap_X12_finding
theorem dX12_flap_0 : decode cX12_flap 0 = .ok (.iload_n 1, 1) := by decide +kernel
theorem dX12_flap_1 : decode cX12_flap 1 = .ok (.ifCond .eq 17, 3) := by decide +kernel
theorem dX12_flap_4 : decode cX12_flap 4 = .ok (.aload_n 0, 1) := by decide +kernel
theorem dX12_flap_5 : decode cX12_flap 5 = .ok (.iconst 1, 1) := by decide +kernel
theorem dX12_flap_6 : decode cX12_flap 6 = .ok (.invokevirtual 56, 3) := by decide +kernel
theorem dX12_flap_9 : decode cX12_flap 9 = .ok (.ifCond .eq 9, 3) := by decide +kernel
theorem dX12_flap_12 : decode cX12_flap 12 = .ok (.aload_n 0, 1) := by decide +kernel
theorem dX12_flap_13 : decode cX12_flap 13 = .ok (.iconst 4, 1) := by decide +kernel
theorem dX12_flap_14 : decode cX12_flap 14 = .ok (.invokevirtual 52, 3) := by decide +kernel
theorem dX12_flap_17 : decode cX12_flap 17 = .ok (.ireturn, 1) := by decide +kernel
theorem dX12_flap_18 : decode cX12_flap 18 = .ok (.aload_n 0, 1) := by decide +kernel
theorem dX12_flap_19 : decode cX12_flap 19 = .ok (.getfield 7, 3) := by decide +kernel
theorem dX12_flap_22 : decode cX12_flap 22 = .ok (.bipush 15, 2) := by decide +kernel
theorem dX12_flap_24 : decode cX12_flap 24 = .ok (.iaload, 1) := by decide +kernel
theorem dX12_flap_25 : decode cX12_flap 25 = .ok (.istore_n 2, 1) := by decide +kernel
theorem dX12_flap_26 : decode cX12_flap 26 = .ok (.aload_n 0, 1) := by decide +kernel
theorem dX12_flap_27 : decode cX12_flap 27 = .ok (.getfield 7, 3) := by decide +kernel
theorem dX12_flap_30 : decode cX12_flap 30 = .ok (.bipush 15, 2) := by decide +kernel
theorem dX12_flap_32 : decode cX12_flap 32 = .ok (.iload_n 1, 1) := by decide +kernel
theorem dX12_flap_33 : decode cX12_flap 33 = .ok (.ifCond .eq 7, 3) := by decide +kernel
theorem dX12_flap_36 : decode cX12_flap 36 = .ok (.iconst 1, 1) := by decide +kernel
theorem dX12_flap_37 : decode cX12_flap 37 = .ok (.goto 4, 3) := by decide +kernel
theorem dX12_flap_40 : decode cX12_flap 40 = .ok (.iconst 0, 1) := by decide +kernel
theorem dX12_flap_41 : decode cX12_flap 41 = .ok (.iastore, 1) := by decide +kernel
theorem dX12_flap_42 : decode cX12_flap 42 = .ok (.iload_n 2, 1) := by decide +kernel
theorem dX12_flap_43 : decode cX12_flap 43 = .ok (.ireturn, 1) := by decide +kernel
set_option maxRecDepth 20000 in
theorem ggX12_rises_X12_comes : GoodIn wsX12_rises wsX12_comes := goodIn_r _ [6, 1, 7, 8, 9, 5, 10, 11, 12, 13, 14, 15, 16, 17, 18, 19, 20, 21, 22, 23, 24, 25, 26, 27, 28, 29, 30, 31, 32, 33, 34, 35, 36, 37] (by decide +kernel) (by decide +kernel)
set_option maxRecDepth 20000 in
theorem gX12_rises_X12_comes : GoodIn wsX12_rises (wsV RX12 70 RX12 yX12_comes wsX12_comes) := goodIn_app (goodIn_of _ (by decide +kernel)) ggX12_rises_X12_comes
theorem dX12_rises_0 : decode cX12_rises 0 = .ok (.aload_n 0, 1) := by decide +kernel
theorem dX12_rises_1 : decode cX12_rises 1 = .ok (.getfield 7, 3) := by decide +kernel
theorem dX12_rises_4 : decode cX12_rises 4 = .ok (.iconst 1, 1) := by decide +kernel
theorem dX12_rises_5 : decode cX12_rises 5 = .ok (.iaload, 1) := by decide +kernel
theorem dX12_rises_6 : decode cX12_rises 6 = .ok (.aload_n 0, 1) := by decide +kernel
theorem dX12_rises_7 : decode cX12_rises 7 = .ok (.getfield 7, 3) := by decide +kernel
theorem dX12_rises_10 : decode cX12_rises 10 = .ok (.iconst 0, 1) := by decide +kernel
theorem dX12_rises_11 : decode cX12_rises 11 = .ok (.iaload, 1) := by decide +kernel
theorem dX12_rises_12 : decode cX12_rises 12 = .ok (.iadd, 1) := by decide +kernel
theorem dX12_rises_13 : decode cX12_rises 13 = .ok (.istore_n 1, 1) := by decide +kernel
theorem dX12_rises_14 : decode cX12_rises 14 = .ok (.iload_n 1, 1) := by decide +kernel
theorem dX12_rises_15 : decode cX12_rises 15 = .ok (.iload_n 1, 1) := by decide +kernel
theorem dX12_rises_16 : decode cX12_rises 16 = .ok (.bipush 50, 2) := by decide +kernel
theorem dX12_rises_18 : decode cX12_rises 18 = .ok (.idiv, 1) := by decide +kernel
theorem dX12_rises_19 : decode cX12_rises 19 = .ok (.isub, 1) := by decide +kernel
theorem dX12_rises_20 : decode cX12_rises 20 = .ok (.istore_n 1, 1) := by decide +kernel
theorem dX12_rises_21 : decode cX12_rises 21 = .ok (.aload_n 0, 1) := by decide +kernel
theorem dX12_rises_22 : decode cX12_rises 22 = .ok (.getfield 7, 3) := by decide +kernel
theorem dX12_rises_25 : decode cX12_rises 25 = .ok (.iconst 1, 1) := by decide +kernel
theorem dX12_rises_26 : decode cX12_rises 26 = .ok (.iload_n 1, 1) := by decide +kernel
theorem dX12_rises_27 : decode cX12_rises 27 = .ok (.sipush 999, 3) := by decide +kernel
theorem dX12_rises_30 : decode cX12_rises 30 = .ok (.if_icmp .le 9, 3) := by decide +kernel
theorem dX12_rises_33 : decode cX12_rises 33 = .ok (.sipush 999, 3) := by decide +kernel
theorem dX12_rises_36 : decode cX12_rises 36 = .ok (.goto 4, 3) := by decide +kernel
theorem dX12_rises_39 : decode cX12_rises 39 = .ok (.iload_n 1, 1) := by decide +kernel
theorem dX12_rises_40 : decode cX12_rises 40 = .ok (.iastore, 1) := by decide +kernel
theorem dX12_rises_41 : decode cX12_rises 41 = .ok (.iconst 0, 1) := by decide +kernel
theorem dX12_rises_42 : decode cX12_rises 42 = .ok (.istore_n 2, 1) := by decide +kernel
theorem dX12_rises_43 : decode cX12_rises 43 = .ok (.iconst 0, 1) := by decide +kernel
theorem dX12_rises_44 : decode cX12_rises 44 = .ok (.istore_n 3, 1) := by decide +kernel
theorem dX12_rises_45 : decode cX12_rises 45 = .ok (.iload_n 3, 1) := by decide +kernel
theorem dX12_rises_46 : decode cX12_rises 46 = .ok (.aload_n 0, 1) := by decide +kernel
theorem dX12_rises_47 : decode cX12_rises 47 = .ok (.getfield 7, 3) := by decide +kernel
theorem dX12_rises_50 : decode cX12_rises 50 = .ok (.bipush 16, 2) := by decide +kernel
theorem dX12_rises_52 : decode cX12_rises 52 = .ok (.iaload, 1) := by decide +kernel
theorem dX12_rises_53 : decode cX12_rises 53 = .ok (.if_icmp .ge 39, 3) := by decide +kernel
theorem dX12_rises_56 : decode cX12_rises 56 = .ok (.aload_n 0, 1) := by decide +kernel
theorem dX12_rises_57 : decode cX12_rises 57 = .ok (.iload_n 3, 1) := by decide +kernel
theorem dX12_rises_58 : decode cX12_rises 58 = .ok (.invokevirtual 70, 3) := by decide +kernel
theorem dX12_rises_61 : decode cX12_rises 61 = .ok (.istore 4, 2) := by decide +kernel
theorem dX12_rises_63 : decode cX12_rises 63 = .ok (.aload_n 0, 1) := by decide +kernel
theorem dX12_rises_64 : decode cX12_rises 64 = .ok (.getfield 7, 3) := by decide +kernel
theorem dX12_rises_67 : decode cX12_rises 67 = .ok (.bipush 65, 2) := by decide +kernel
theorem dX12_rises_69 : decode cX12_rises 69 = .ok (.iconst 4, 1) := by decide +kernel
theorem dX12_rises_70 : decode cX12_rises 70 = .ok (.iload_n 3, 1) := by decide +kernel
theorem dX12_rises_71 : decode cX12_rises 71 = .ok (.imul, 1) := by decide +kernel
theorem dX12_rises_72 : decode cX12_rises 72 = .ok (.iadd, 1) := by decide +kernel
theorem dX12_rises_73 : decode cX12_rises 73 = .ok (.iconst 3, 1) := by decide +kernel
theorem dX12_rises_74 : decode cX12_rises 74 = .ok (.iadd, 1) := by decide +kernel
theorem dX12_rises_75 : decode cX12_rises 75 = .ok (.dup2, 1) := by decide +kernel
theorem dX12_rises_76 : decode cX12_rises 76 = .ok (.iaload, 1) := by decide +kernel
theorem dX12_rises_77 : decode cX12_rises 77 = .ok (.iload 4, 2) := by decide +kernel
theorem dX12_rises_79 : decode cX12_rises 79 = .ok (.iadd, 1) := by decide +kernel
theorem dX12_rises_80 : decode cX12_rises 80 = .ok (.iastore, 1) := by decide +kernel
theorem dX12_rises_81 : decode cX12_rises 81 = .ok (.iload_n 2, 1) := by decide +kernel
theorem dX12_rises_82 : decode cX12_rises 82 = .ok (.iload 4, 2) := by decide +kernel
theorem dX12_rises_84 : decode cX12_rises 84 = .ok (.iadd, 1) := by decide +kernel
theorem dX12_rises_85 : decode cX12_rises 85 = .ok (.istore_n 2, 1) := by decide +kernel
theorem dX12_rises_86 : decode cX12_rises 86 = .ok (.iinc 3 1, 3) := by decide +kernel
theorem dX12_rises_89 : decode cX12_rises 89 = .ok (.goto (-44), 3) := by decide +kernel
theorem dX12_rises_92 : decode cX12_rises 92 = .ok (.aload_n 0, 1) := by decide +kernel
theorem dX12_rises_93 : decode cX12_rises 93 = .ok (.getfield 7, 3) := by decide +kernel
theorem dX12_rises_96 : decode cX12_rises 96 = .ok (.bipush 11, 2) := by decide +kernel
theorem dX12_rises_98 : decode cX12_rises 98 = .ok (.dup2, 1) := by decide +kernel
theorem dX12_rises_99 : decode cX12_rises 99 = .ok (.iaload, 1) := by decide +kernel
theorem dX12_rises_100 : decode cX12_rises 100 = .ok (.iload_n 2, 1) := by decide +kernel
theorem dX12_rises_101 : decode cX12_rises 101 = .ok (.iadd, 1) := by decide +kernel
theorem dX12_rises_102 : decode cX12_rises 102 = .ok (.iastore, 1) := by decide +kernel
theorem dX12_rises_103 : decode cX12_rises 103 = .ok (.aload_n 0, 1) := by decide +kernel
theorem dX12_rises_104 : decode cX12_rises 104 = .ok (.getfield 7, 3) := by decide +kernel
theorem dX12_rises_107 : decode cX12_rises 107 = .ok (.iconst 2, 1) := by decide +kernel
theorem dX12_rises_108 : decode cX12_rises 108 = .ok (.dup2, 1) := by decide +kernel
theorem dX12_rises_109 : decode cX12_rises 109 = .ok (.iaload, 1) := by decide +kernel
theorem dX12_rises_110 : decode cX12_rises 110 = .ok (.iload_n 2, 1) := by decide +kernel
theorem dX12_rises_111 : decode cX12_rises 111 = .ok (.iadd, 1) := by decide +kernel
theorem dX12_rises_112 : decode cX12_rises 112 = .ok (.iastore, 1) := by decide +kernel
theorem dX12_rises_113 : decode cX12_rises 113 = .ok (.aload_n 0, 1) := by decide +kernel
theorem dX12_rises_114 : decode cX12_rises 114 = .ok (.getfield 7, 3) := by decide +kernel
theorem dX12_rises_117 : decode cX12_rises 117 = .ok (.iconst 2, 1) := by decide +kernel
theorem dX12_rises_118 : decode cX12_rises 118 = .ok (.iaload, 1) := by decide +kernel
theorem dX12_rises_119 : decode cX12_rises 119 = .ok (.sipush 9999, 3) := by decide +kernel
theorem dX12_rises_122 : decode cX12_rises 122 = .ok (.if_icmp .le 32, 3) := by decide +kernel
theorem dX12_rises_125 : decode cX12_rises 125 = .ok (.aload_n 0, 1) := by decide +kernel
theorem dX12_rises_126 : decode cX12_rises 126 = .ok (.getfield 7, 3) := by decide +kernel
theorem dX12_rises_129 : decode cX12_rises 129 = .ok (.bipush 13, 2) := by decide +kernel
theorem dX12_rises_131 : decode cX12_rises 131 = .ok (.dup2, 1) := by decide +kernel
theorem dX12_rises_132 : decode cX12_rises 132 = .ok (.iaload, 1) := by decide +kernel
theorem dX12_rises_133 : decode cX12_rises 133 = .ok (.aload_n 0, 1) := by decide +kernel
theorem dX12_rises_134 : decode cX12_rises 134 = .ok (.getfield 7, 3) := by decide +kernel
theorem dX12_rises_137 : decode cX12_rises 137 = .ok (.iconst 2, 1) := by decide +kernel
theorem dX12_rises_138 : decode cX12_rises 138 = .ok (.iaload, 1) := by decide +kernel
theorem dX12_rises_139 : decode cX12_rises 139 = .ok (.sipush 9999, 3) := by decide +kernel
theorem dX12_rises_142 : decode cX12_rises 142 = .ok (.isub, 1) := by decide +kernel
theorem dX12_rises_143 : decode cX12_rises 143 = .ok (.iadd, 1) := by decide +kernel
theorem dX12_rises_144 : decode cX12_rises 144 = .ok (.iastore, 1) := by decide +kernel
theorem dX12_rises_145 : decode cX12_rises 145 = .ok (.aload_n 0, 1) := by decide +kernel
theorem dX12_rises_146 : decode cX12_rises 146 = .ok (.getfield 7, 3) := by decide +kernel
theorem dX12_rises_149 : decode cX12_rises 149 = .ok (.iconst 2, 1) := by decide +kernel
theorem dX12_rises_150 : decode cX12_rises 150 = .ok (.sipush 9999, 3) := by decide +kernel
theorem dX12_rises_153 : decode cX12_rises 153 = .ok (.iastore, 1) := by decide +kernel
theorem dX12_rises_154 : decode cX12_rises 154 = .ok (.return_, 1) := by decide +kernel
theorem dX12_isDead_0 : decode cX12_isDead 0 = .ok (.aload_n 0, 1) := by decide +kernel
theorem dX12_isDead_1 : decode cX12_isDead 1 = .ok (.getfield 7, 3) := by decide +kernel
theorem dX12_isDead_4 : decode cX12_isDead 4 = .ok (.bipush 9, 2) := by decide +kernel
theorem dX12_isDead_6 : decode cX12_isDead 6 = .ok (.iaload, 1) := by decide +kernel
theorem dX12_isDead_7 : decode cX12_isDead 7 = .ok (.aload_n 0, 1) := by decide +kernel
theorem dX12_isDead_8 : decode cX12_isDead 8 = .ok (.getfield 7, 3) := by decide +kernel
theorem dX12_isDead_11 : decode cX12_isDead 11 = .ok (.bipush 6, 2) := by decide +kernel
theorem dX12_isDead_13 : decode cX12_isDead 13 = .ok (.iaload, 1) := by decide +kernel
theorem dX12_isDead_14 : decode cX12_isDead 14 = .ok (.if_icmp .le 7, 3) := by decide +kernel
theorem dX12_isDead_17 : decode cX12_isDead 17 = .ok (.iconst 1, 1) := by decide +kernel
theorem dX12_isDead_18 : decode cX12_isDead 18 = .ok (.goto 4, 3) := by decide +kernel
theorem dX12_isDead_21 : decode cX12_isDead 21 = .ok (.iconst 0, 1) := by decide +kernel
theorem dX12_isDead_22 : decode cX12_isDead 22 = .ok (.ireturn, 1) := by decide +kernel
set_option maxRecDepth 20000 in
theorem ggX12_pumps_X12_isDead : GoodIn wsX12_pumps wsX12_isDead := goodIn_r _ [6, 1, 11, 12, 13, 14, 15, 16, 17, 18, 19, 20, 21, 22, 23, 24, 25, 26, 27, 28, 29] (by decide +kernel) (by decide +kernel)
set_option maxRecDepth 20000 in
theorem gX12_pumps_X12_isDead : GoodIn wsX12_pumps (wsV RX12 79 RX12 yX12_isDead wsX12_isDead) := goodIn_app (goodIn_of _ (by decide +kernel)) ggX12_pumps_X12_isDead
set_option maxRecDepth 20000 in
theorem ggX12_pumps_X12_has : GoodIn wsX12_pumps wsX12_has := goodIn_r _ [10, 1, 11, 12, 13, 14, 15, 16, 17, 18, 19, 20, 21, 22, 23, 24, 25, 26, 27, 28, 29] (by decide +kernel) (by decide +kernel)
set_option maxRecDepth 20000 in
theorem gX12_pumps_X12_has : GoodIn wsX12_pumps (wsV RX12 56 RX12 yX12_has wsX12_has) := goodIn_app (goodIn_of _ (by decide +kernel)) ggX12_pumps_X12_has
theorem dX12_pumps_0 : decode cX12_pumps 0 = .ok (.aload_n 0, 1) := by decide +kernel
theorem dX12_pumps_1 : decode cX12_pumps 1 = .ok (.getfield 7, 3) := by decide +kernel
theorem dX12_pumps_4 : decode cX12_pumps 4 = .ok (.bipush 14, 2) := by decide +kernel
theorem dX12_pumps_6 : decode cX12_pumps 6 = .ok (.iaload, 1) := by decide +kernel
theorem dX12_pumps_7 : decode cX12_pumps 7 = .ok (.iconst 1, 1) := by decide +kernel
theorem dX12_pumps_8 : decode cX12_pumps 8 = .ok (.if_icmp .eq 13, 3) := by decide +kernel
theorem dX12_pumps_11 : decode cX12_pumps 11 = .ok (.aload_n 0, 1) := by decide +kernel
theorem dX12_pumps_12 : decode cX12_pumps 12 = .ok (.getfield 7, 3) := by decide +kernel
theorem dX12_pumps_15 : decode cX12_pumps 15 = .ok (.bipush 7, 2) := by decide +kernel
theorem dX12_pumps_17 : decode cX12_pumps 17 = .ok (.iaload, 1) := by decide +kernel
theorem dX12_pumps_18 : decode cX12_pumps 18 = .ok (.ifCond .le 7, 3) := by decide +kernel
theorem dX12_pumps_21 : decode cX12_pumps 21 = .ok (.iconst 1, 1) := by decide +kernel
theorem dX12_pumps_22 : decode cX12_pumps 22 = .ok (.goto 4, 3) := by decide +kernel
theorem dX12_pumps_25 : decode cX12_pumps 25 = .ok (.iconst 0, 1) := by decide +kernel
theorem dX12_pumps_26 : decode cX12_pumps 26 = .ok (.istore_n 1, 1) := by decide +kernel
theorem dX12_pumps_27 : decode cX12_pumps 27 = .ok (.aload_n 0, 1) := by decide +kernel
theorem dX12_pumps_28 : decode cX12_pumps 28 = .ok (.getfield 7, 3) := by decide +kernel
theorem dX12_pumps_31 : decode cX12_pumps 31 = .ok (.bipush 10, 2) := by decide +kernel
theorem dX12_pumps_33 : decode cX12_pumps 33 = .ok (.iaload, 1) := by decide +kernel
theorem dX12_pumps_34 : decode cX12_pumps 34 = .ok (.ifCond .ne 93, 3) := by decide +kernel
theorem dX12_pumps_37 : decode cX12_pumps 37 = .ok (.aload_n 0, 1) := by decide +kernel
theorem dX12_pumps_38 : decode cX12_pumps 38 = .ok (.invokevirtual 79, 3) := by decide +kernel
theorem dX12_pumps_41 : decode cX12_pumps 41 = .ok (.ifCond .ne 86, 3) := by decide +kernel
theorem dX12_pumps_44 : decode cX12_pumps 44 = .ok (.aload_n 0, 1) := by decide +kernel
theorem dX12_pumps_45 : decode cX12_pumps 45 = .ok (.getfield 7, 3) := by decide +kernel
theorem dX12_pumps_48 : decode cX12_pumps 48 = .ok (.iconst 2, 1) := by decide +kernel
theorem dX12_pumps_49 : decode cX12_pumps 49 = .ok (.iaload, 1) := by decide +kernel
theorem dX12_pumps_50 : decode cX12_pumps 50 = .ok (.aload_n 0, 1) := by decide +kernel
theorem dX12_pumps_51 : decode cX12_pumps 51 = .ok (.getfield 7, 3) := by decide +kernel
theorem dX12_pumps_54 : decode cX12_pumps 54 = .ok (.iconst 3, 1) := by decide +kernel
theorem dX12_pumps_55 : decode cX12_pumps 55 = .ok (.iaload, 1) := by decide +kernel
theorem dX12_pumps_56 : decode cX12_pumps 56 = .ok (.if_icmp .lt 71, 3) := by decide +kernel
theorem dX12_pumps_59 : decode cX12_pumps 59 = .ok (.iload_n 1, 1) := by decide +kernel
theorem dX12_pumps_60 : decode cX12_pumps 60 = .ok (.ifCond .eq 67, 3) := by decide +kernel
theorem dX12_pumps_63 : decode cX12_pumps 63 = .ok (.aload_n 0, 1) := by decide +kernel
theorem dX12_pumps_64 : decode cX12_pumps 64 = .ok (.getfield 7, 3) := by decide +kernel
theorem dX12_pumps_67 : decode cX12_pumps 67 = .ok (.bipush 9, 2) := by decide +kernel
theorem dX12_pumps_69 : decode cX12_pumps 69 = .ok (.iaload, 1) := by decide +kernel
theorem dX12_pumps_70 : decode cX12_pumps 70 = .ok (.bipush 40, 2) := by decide +kernel
theorem dX12_pumps_72 : decode cX12_pumps 72 = .ok (.if_icmp .ge 25, 3) := by decide +kernel
theorem dX12_pumps_75 : decode cX12_pumps 75 = .ok (.aload_n 0, 1) := by decide +kernel
theorem dX12_pumps_76 : decode cX12_pumps 76 = .ok (.getfield 7, 3) := by decide +kernel
theorem dX12_pumps_79 : decode cX12_pumps 79 = .ok (.bipush 25, 2) := by decide +kernel
theorem dX12_pumps_81 : decode cX12_pumps 81 = .ok (.aload_n 0, 1) := by decide +kernel
theorem dX12_pumps_82 : decode cX12_pumps 82 = .ok (.getfield 7, 3) := by decide +kernel
theorem dX12_pumps_85 : decode cX12_pumps 85 = .ok (.bipush 9, 2) := by decide +kernel
theorem dX12_pumps_87 : decode cX12_pumps 87 = .ok (.iaload, 1) := by decide +kernel
theorem dX12_pumps_88 : decode cX12_pumps 88 = .ok (.iadd, 1) := by decide +kernel
theorem dX12_pumps_89 : decode cX12_pumps 89 = .ok (.aload_n 0, 1) := by decide +kernel
theorem dX12_pumps_90 : decode cX12_pumps 90 = .ok (.getfield 7, 3) := by decide +kernel
theorem dX12_pumps_93 : decode cX12_pumps 93 = .ok (.bipush 8, 2) := by decide +kernel
theorem dX12_pumps_95 : decode cX12_pumps 95 = .ok (.iaload, 1) := by decide +kernel
theorem dX12_pumps_96 : decode cX12_pumps 96 = .ok (.iastore, 1) := by decide +kernel
theorem dX12_pumps_97 : decode cX12_pumps 97 = .ok (.aload_n 0, 1) := by decide +kernel
theorem dX12_pumps_98 : decode cX12_pumps 98 = .ok (.getfield 7, 3) := by decide +kernel
theorem dX12_pumps_101 : decode cX12_pumps 101 = .ok (.bipush 9, 2) := by decide +kernel
theorem dX12_pumps_103 : decode cX12_pumps 103 = .ok (.dup2, 1) := by decide +kernel
theorem dX12_pumps_104 : decode cX12_pumps 104 = .ok (.iaload, 1) := by decide +kernel
theorem dX12_pumps_105 : decode cX12_pumps 105 = .ok (.iconst 1, 1) := by decide +kernel
theorem dX12_pumps_106 : decode cX12_pumps 106 = .ok (.iadd, 1) := by decide +kernel
theorem dX12_pumps_107 : decode cX12_pumps 107 = .ok (.iastore, 1) := by decide +kernel
theorem dX12_pumps_108 : decode cX12_pumps 108 = .ok (.aload_n 0, 1) := by decide +kernel
theorem dX12_pumps_109 : decode cX12_pumps 109 = .ok (.getfield 7, 3) := by decide +kernel
theorem dX12_pumps_112 : decode cX12_pumps 112 = .ok (.bipush 10, 2) := by decide +kernel
theorem dX12_pumps_114 : decode cX12_pumps 114 = .ok (.aload_n 0, 1) := by decide +kernel
theorem dX12_pumps_115 : decode cX12_pumps 115 = .ok (.invokevirtual 79, 3) := by decide +kernel
theorem dX12_pumps_118 : decode cX12_pumps 118 = .ok (.ifCond .eq 7, 3) := by decide +kernel
theorem dX12_pumps_121 : decode cX12_pumps 121 = .ok (.iconst 0, 1) := by decide +kernel
theorem dX12_pumps_122 : decode cX12_pumps 122 = .ok (.goto 4, 3) := by decide +kernel
theorem dX12_pumps_125 : decode cX12_pumps 125 = .ok (.iconst 1, 1) := by decide +kernel
theorem dX12_pumps_126 : decode cX12_pumps 126 = .ok (.iastore, 1) := by decide +kernel
theorem dX12_pumps_127 : decode cX12_pumps 127 = .ok (.aload_n 0, 1) := by decide +kernel
theorem dX12_pumps_128 : decode cX12_pumps 128 = .ok (.getfield 7, 3) := by decide +kernel
theorem dX12_pumps_131 : decode cX12_pumps 131 = .ok (.bipush 10, 2) := by decide +kernel
theorem dX12_pumps_133 : decode cX12_pumps 133 = .ok (.iaload, 1) := by decide +kernel
theorem dX12_pumps_134 : decode cX12_pumps 134 = .ok (.ifCond .ne 4, 3) := by decide +kernel
theorem dX12_pumps_137 : decode cX12_pumps 137 = .ok (.return_, 1) := by decide +kernel
theorem dX12_pumps_138 : decode cX12_pumps 138 = .ok (.iload_n 1, 1) := by decide +kernel
theorem dX12_pumps_139 : decode cX12_pumps 139 = .ok (.ifCond .ne 12, 3) := by decide +kernel
theorem dX12_pumps_142 : decode cX12_pumps 142 = .ok (.aload_n 0, 1) := by decide +kernel
theorem dX12_pumps_143 : decode cX12_pumps 143 = .ok (.getfield 7, 3) := by decide +kernel
theorem dX12_pumps_146 : decode cX12_pumps 146 = .ok (.bipush 10, 2) := by decide +kernel
theorem dX12_pumps_148 : decode cX12_pumps 148 = .ok (.iconst 0, 1) := by decide +kernel
theorem dX12_pumps_149 : decode cX12_pumps 149 = .ok (.iastore, 1) := by decide +kernel
theorem dX12_pumps_150 : decode cX12_pumps 150 = .ok (.return_, 1) := by decide +kernel
theorem dX12_pumps_151 : decode cX12_pumps 151 = .ok (.aload_n 0, 1) := by decide +kernel
theorem dX12_pumps_152 : decode cX12_pumps 152 = .ok (.getfield 7, 3) := by decide +kernel
theorem dX12_pumps_155 : decode cX12_pumps 155 = .ok (.bipush 7, 2) := by decide +kernel
theorem dX12_pumps_157 : decode cX12_pumps 157 = .ok (.dup2, 1) := by decide +kernel
theorem dX12_pumps_158 : decode cX12_pumps 158 = .ok (.iaload, 1) := by decide +kernel
theorem dX12_pumps_159 : decode cX12_pumps 159 = .ok (.aload_n 0, 1) := by decide +kernel
theorem dX12_pumps_160 : decode cX12_pumps 160 = .ok (.getfield 7, 3) := by decide +kernel
theorem dX12_pumps_163 : decode cX12_pumps 163 = .ok (.bipush 14, 2) := by decide +kernel
theorem dX12_pumps_165 : decode cX12_pumps 165 = .ok (.iaload, 1) := by decide +kernel
theorem dX12_pumps_166 : decode cX12_pumps 166 = .ok (.iconst 1, 1) := by decide +kernel
theorem dX12_pumps_167 : decode cX12_pumps 167 = .ok (.if_icmp .ne 7, 3) := by decide +kernel
theorem dX12_pumps_170 : decode cX12_pumps 170 = .ok (.iconst 0, 1) := by decide +kernel
theorem dX12_pumps_171 : decode cX12_pumps 171 = .ok (.goto 4, 3) := by decide +kernel
theorem dX12_pumps_174 : decode cX12_pumps 174 = .ok (.iconst 1, 1) := by decide +kernel
theorem dX12_pumps_175 : decode cX12_pumps 175 = .ok (.isub, 1) := by decide +kernel
theorem dX12_pumps_176 : decode cX12_pumps 176 = .ok (.iastore, 1) := by decide +kernel
theorem dX12_pumps_177 : decode cX12_pumps 177 = .ok (.aload_n 0, 1) := by decide +kernel
theorem dX12_pumps_178 : decode cX12_pumps 178 = .ok (.iconst 2, 1) := by decide +kernel
theorem dX12_pumps_179 : decode cX12_pumps 179 = .ok (.invokevirtual 56, 3) := by decide +kernel
theorem dX12_pumps_182 : decode cX12_pumps 182 = .ok (.ifCond .eq 14, 3) := by decide +kernel
theorem dX12_pumps_185 : decode cX12_pumps 185 = .ok (.iconst 2, 1) := by decide +kernel
theorem dX12_pumps_186 : decode cX12_pumps 186 = .ok (.aload_n 0, 1) := by decide +kernel
theorem dX12_pumps_187 : decode cX12_pumps 187 = .ok (.getfield 7, 3) := by decide +kernel
theorem dX12_pumps_190 : decode cX12_pumps 190 = .ok (.iconst 5, 1) := by decide +kernel
theorem dX12_pumps_191 : decode cX12_pumps 191 = .ok (.iaload, 1) := by decide +kernel
theorem dX12_pumps_192 : decode cX12_pumps 192 = .ok (.imul, 1) := by decide +kernel
theorem dX12_pumps_193 : decode cX12_pumps 193 = .ok (.goto 9, 3) := by decide +kernel
theorem dX12_pumps_196 : decode cX12_pumps 196 = .ok (.aload_n 0, 1) := by decide +kernel
theorem dX12_pumps_197 : decode cX12_pumps 197 = .ok (.getfield 7, 3) := by decide +kernel
theorem dX12_pumps_200 : decode cX12_pumps 200 = .ok (.iconst 5, 1) := by decide +kernel
theorem dX12_pumps_201 : decode cX12_pumps 201 = .ok (.iaload, 1) := by decide +kernel
theorem dX12_pumps_202 : decode cX12_pumps 202 = .ok (.istore_n 2, 1) := by decide +kernel
theorem dX12_pumps_203 : decode cX12_pumps 203 = .ok (.iload_n 2, 1) := by decide +kernel
theorem dX12_pumps_204 : decode cX12_pumps 204 = .ok (.aload_n 0, 1) := by decide +kernel
theorem dX12_pumps_205 : decode cX12_pumps 205 = .ok (.getfield 7, 3) := by decide +kernel
theorem dX12_pumps_208 : decode cX12_pumps 208 = .ok (.iconst 2, 1) := by decide +kernel
theorem dX12_pumps_209 : decode cX12_pumps 209 = .ok (.iaload, 1) := by decide +kernel
theorem dX12_pumps_210 : decode cX12_pumps 210 = .ok (.if_icmp .ge 7, 3) := by decide +kernel
theorem dX12_pumps_213 : decode cX12_pumps 213 = .ok (.iload_n 2, 1) := by decide +kernel
theorem dX12_pumps_214 : decode cX12_pumps 214 = .ok (.goto 9, 3) := by decide +kernel
theorem dX12_pumps_217 : decode cX12_pumps 217 = .ok (.aload_n 0, 1) := by decide +kernel
theorem dX12_pumps_218 : decode cX12_pumps 218 = .ok (.getfield 7, 3) := by decide +kernel
theorem dX12_pumps_221 : decode cX12_pumps 221 = .ok (.iconst 2, 1) := by decide +kernel
theorem dX12_pumps_222 : decode cX12_pumps 222 = .ok (.iaload, 1) := by decide +kernel
theorem dX12_pumps_223 : decode cX12_pumps 223 = .ok (.istore_n 3, 1) := by decide +kernel
theorem dX12_pumps_224 : decode cX12_pumps 224 = .ok (.aload_n 0, 1) := by decide +kernel
theorem dX12_pumps_225 : decode cX12_pumps 225 = .ok (.getfield 7, 3) := by decide +kernel
theorem dX12_pumps_228 : decode cX12_pumps 228 = .ok (.iconst 2, 1) := by decide +kernel
theorem dX12_pumps_229 : decode cX12_pumps 229 = .ok (.dup2, 1) := by decide +kernel
theorem dX12_pumps_230 : decode cX12_pumps 230 = .ok (.iaload, 1) := by decide +kernel
theorem dX12_pumps_231 : decode cX12_pumps 231 = .ok (.iload_n 3, 1) := by decide +kernel
theorem dX12_pumps_232 : decode cX12_pumps 232 = .ok (.isub, 1) := by decide +kernel
theorem dX12_pumps_233 : decode cX12_pumps 233 = .ok (.iastore, 1) := by decide +kernel
theorem dX12_pumps_234 : decode cX12_pumps 234 = .ok (.aload_n 0, 1) := by decide +kernel
theorem dX12_pumps_235 : decode cX12_pumps 235 = .ok (.getfield 7, 3) := by decide +kernel
theorem dX12_pumps_238 : decode cX12_pumps 238 = .ok (.bipush 12, 2) := by decide +kernel
theorem dX12_pumps_240 : decode cX12_pumps 240 = .ok (.dup2, 1) := by decide +kernel
theorem dX12_pumps_241 : decode cX12_pumps 241 = .ok (.iaload, 1) := by decide +kernel
theorem dX12_pumps_242 : decode cX12_pumps 242 = .ok (.iload_n 3, 1) := by decide +kernel
theorem dX12_pumps_243 : decode cX12_pumps 243 = .ok (.iadd, 1) := by decide +kernel
theorem dX12_pumps_244 : decode cX12_pumps 244 = .ok (.iastore, 1) := by decide +kernel
theorem dX12_pumps_245 : decode cX12_pumps 245 = .ok (.aload_n 0, 1) := by decide +kernel
theorem dX12_pumps_246 : decode cX12_pumps 246 = .ok (.getfield 7, 3) := by decide +kernel
theorem dX12_pumps_249 : decode cX12_pumps 249 = .ok (.bipush 10, 2) := by decide +kernel
theorem dX12_pumps_251 : decode cX12_pumps 251 = .ok (.aload_n 0, 1) := by decide +kernel
theorem dX12_pumps_252 : decode cX12_pumps 252 = .ok (.getfield 7, 3) := by decide +kernel
theorem dX12_pumps_255 : decode cX12_pumps 255 = .ok (.iconst 2, 1) := by decide +kernel
theorem dX12_pumps_256 : decode cX12_pumps 256 = .ok (.iaload, 1) := by decide +kernel
theorem dX12_pumps_257 : decode cX12_pumps 257 = .ok (.aload_n 0, 1) := by decide +kernel
theorem dX12_pumps_258 : decode cX12_pumps 258 = .ok (.getfield 7, 3) := by decide +kernel
theorem dX12_pumps_261 : decode cX12_pumps 261 = .ok (.iconst 4, 1) := by decide +kernel
theorem dX12_pumps_262 : decode cX12_pumps 262 = .ok (.iaload, 1) := by decide +kernel
theorem dX12_pumps_263 : decode cX12_pumps 263 = .ok (.if_icmp .gt 7, 3) := by decide +kernel
theorem dX12_pumps_266 : decode cX12_pumps 266 = .ok (.iconst 0, 1) := by decide +kernel
theorem dX12_pumps_267 : decode cX12_pumps 267 = .ok (.goto 4, 3) := by decide +kernel
theorem dX12_pumps_270 : decode cX12_pumps 270 = .ok (.iconst 1, 1) := by decide +kernel
theorem dX12_pumps_271 : decode cX12_pumps 271 = .ok (.iastore, 1) := by decide +kernel
theorem dX12_pumps_272 : decode cX12_pumps 272 = .ok (.return_, 1) := by decide +kernel
theorem dX12_thingIts_0 : decode cX12_thingIts 0 = .ok (.aload_n 0, 1) := by decide +kernel
theorem dX12_thingIts_1 : decode cX12_thingIts 1 = .ok (.getfield 7, 3) := by decide +kernel
theorem dX12_thingIts_4 : decode cX12_thingIts 4 = .ok (.bipush 97, 2) := by decide +kernel
theorem dX12_thingIts_6 : decode cX12_thingIts 6 = .ok (.iconst 5, 1) := by decide +kernel
theorem dX12_thingIts_7 : decode cX12_thingIts 7 = .ok (.iload_n 1, 1) := by decide +kernel
theorem dX12_thingIts_8 : decode cX12_thingIts 8 = .ok (.imul, 1) := by decide +kernel
theorem dX12_thingIts_9 : decode cX12_thingIts 9 = .ok (.iadd, 1) := by decide +kernel
theorem dX12_thingIts_10 : decode cX12_thingIts 10 = .ok (.iload_n 2, 1) := by decide +kernel
theorem dX12_thingIts_11 : decode cX12_thingIts 11 = .ok (.iadd, 1) := by decide +kernel
theorem dX12_thingIts_12 : decode cX12_thingIts 12 = .ok (.iaload, 1) := by decide +kernel
theorem dX12_thingIts_13 : decode cX12_thingIts 13 = .ok (.ireturn, 1) := by decide +kernel
set_option maxRecDepth 20000 in
theorem ggX12_goes_X12_rises : GoodIn wsX12_goes wsX12_rises := goodIn_r _ [6, 1, 7, 8, 9, 5, 10, 11, 12, 13, 14, 15, 16, 17, 18, 19, 20, 21, 22, 35, 36, 37, 38, 39, 40, 41, 42, 43, 44, 45, 46, 47, 48, 49, 50, 51, 52, 53] (by decide +kernel) (by decide +kernel)
set_option maxRecDepth 20000 in
theorem gX12_goes_X12_rises : GoodIn wsX12_goes (wsV RX12 83 RX12 yX12_rises wsX12_rises) := goodIn_app (goodIn_of _ (by decide +kernel)) ggX12_goes_X12_rises
set_option maxRecDepth 20000 in
theorem ggX12_goes_X12_pumps : GoodIn wsX12_goes wsX12_pumps := goodIn_r _ [26, 1, 27, 28, 29, 5, 30, 19, 20, 21, 22, 35, 36, 37, 38, 39, 40, 41, 42, 43, 44, 45, 46, 47, 48, 49, 50, 51, 52, 53] (by decide +kernel) (by decide +kernel)
set_option maxRecDepth 20000 in
theorem gX12_goes_X12_pumps : GoodIn wsX12_goes (wsV RX12 86 RX12 yX12_pumps wsX12_pumps) := goodIn_app (goodIn_of _ (by decide +kernel)) ggX12_goes_X12_pumps
set_option maxRecDepth 20000 in
theorem ggX12_goes_X12_thingIts : GoodIn wsX12_goes wsX12_thingIts := goodIn_r _ [34, 1, 35, 36, 37, 38, 39, 40, 41, 42, 43, 44, 45, 46, 47, 48, 49, 50, 51, 52, 53] (by decide +kernel) (by decide +kernel)
set_option maxRecDepth 20000 in
theorem gX12_goes_X12_thingIts : GoodIn wsX12_goes (wsV RX12 89 RX12 yX12_thingIts wsX12_thingIts) := goodIn_app (goodIn_of _ (by decide +kernel)) ggX12_goes_X12_thingIts
theorem dX12_goes_0 : decode cX12_goes 0 = .ok (.aload_n 0, 1) := by decide +kernel
theorem dX12_goes_1 : decode cX12_goes 1 = .ok (.invokevirtual 83, 3) := by decide +kernel
theorem dX12_goes_4 : decode cX12_goes 4 = .ok (.aload_n 0, 1) := by decide +kernel
theorem dX12_goes_5 : decode cX12_goes 5 = .ok (.invokevirtual 86, 3) := by decide +kernel
theorem dX12_goes_8 : decode cX12_goes 8 = .ok (.aload_n 0, 1) := by decide +kernel
theorem dX12_goes_9 : decode cX12_goes 9 = .ok (.getfield 7, 3) := by decide +kernel
theorem dX12_goes_12 : decode cX12_goes 12 = .ok (.bipush 8, 2) := by decide +kernel
theorem dX12_goes_14 : decode cX12_goes 14 = .ok (.dup2, 1) := by decide +kernel
theorem dX12_goes_15 : decode cX12_goes 15 = .ok (.iaload, 1) := by decide +kernel
theorem dX12_goes_16 : decode cX12_goes 16 = .ok (.iconst 1, 1) := by decide +kernel
theorem dX12_goes_17 : decode cX12_goes 17 = .ok (.iadd, 1) := by decide +kernel
theorem dX12_goes_18 : decode cX12_goes 18 = .ok (.iastore, 1) := by decide +kernel
theorem dX12_goes_19 : decode cX12_goes 19 = .ok (.iconst 0, 1) := by decide +kernel
theorem dX12_goes_20 : decode cX12_goes 20 = .ok (.istore_n 1, 1) := by decide +kernel
theorem dX12_goes_21 : decode cX12_goes 21 = .ok (.iload_n 1, 1) := by decide +kernel
theorem dX12_goes_22 : decode cX12_goes 22 = .ok (.aload_n 0, 1) := by decide +kernel
theorem dX12_goes_23 : decode cX12_goes 23 = .ok (.getfield 7, 3) := by decide +kernel
theorem dX12_goes_26 : decode cX12_goes 26 = .ok (.bipush 17, 2) := by decide +kernel
theorem dX12_goes_28 : decode cX12_goes 28 = .ok (.iaload, 1) := by decide +kernel
theorem dX12_goes_29 : decode cX12_goes 29 = .ok (.if_icmp .ge 47, 3) := by decide +kernel
theorem dX12_goes_32 : decode cX12_goes 32 = .ok (.aload_n 0, 1) := by decide +kernel
theorem dX12_goes_33 : decode cX12_goes 33 = .ok (.iload_n 1, 1) := by decide +kernel
theorem dX12_goes_34 : decode cX12_goes 34 = .ok (.iconst 3, 1) := by decide +kernel
theorem dX12_goes_35 : decode cX12_goes 35 = .ok (.invokevirtual 89, 3) := by decide +kernel
theorem dX12_goes_38 : decode cX12_goes 38 = .ok (.ifCond .ne 32, 3) := by decide +kernel
theorem dX12_goes_41 : decode cX12_goes 41 = .ok (.aload_n 0, 1) := by decide +kernel
theorem dX12_goes_42 : decode cX12_goes 42 = .ok (.getfield 7, 3) := by decide +kernel
theorem dX12_goes_45 : decode cX12_goes 45 = .ok (.iconst 2, 1) := by decide +kernel
theorem dX12_goes_46 : decode cX12_goes 46 = .ok (.iaload, 1) := by decide +kernel
theorem dX12_goes_47 : decode cX12_goes 47 = .ok (.aload_n 0, 1) := by decide +kernel
theorem dX12_goes_48 : decode cX12_goes 48 = .ok (.iload_n 1, 1) := by decide +kernel
theorem dX12_goes_49 : decode cX12_goes 49 = .ok (.iconst 2, 1) := by decide +kernel
theorem dX12_goes_50 : decode cX12_goes 50 = .ok (.invokevirtual 89, 3) := by decide +kernel
theorem dX12_goes_53 : decode cX12_goes 53 = .ok (.if_icmp .le 17, 3) := by decide +kernel
theorem dX12_goes_56 : decode cX12_goes 56 = .ok (.aload_n 0, 1) := by decide +kernel
theorem dX12_goes_57 : decode cX12_goes 57 = .ok (.getfield 7, 3) := by decide +kernel
theorem dX12_goes_60 : decode cX12_goes 60 = .ok (.bipush 97, 2) := by decide +kernel
theorem dX12_goes_62 : decode cX12_goes 62 = .ok (.iconst 5, 1) := by decide +kernel
theorem dX12_goes_63 : decode cX12_goes 63 = .ok (.iload_n 1, 1) := by decide +kernel
theorem dX12_goes_64 : decode cX12_goes 64 = .ok (.imul, 1) := by decide +kernel
theorem dX12_goes_65 : decode cX12_goes 65 = .ok (.iadd, 1) := by decide +kernel
theorem dX12_goes_66 : decode cX12_goes 66 = .ok (.iconst 4, 1) := by decide +kernel
theorem dX12_goes_67 : decode cX12_goes 67 = .ok (.iadd, 1) := by decide +kernel
theorem dX12_goes_68 : decode cX12_goes 68 = .ok (.iconst 1, 1) := by decide +kernel
theorem dX12_goes_69 : decode cX12_goes 69 = .ok (.iastore, 1) := by decide +kernel
theorem dX12_goes_70 : decode cX12_goes 70 = .ok (.iinc 1 1, 3) := by decide +kernel
theorem dX12_goes_73 : decode cX12_goes 73 = .ok (.goto (-52), 3) := by decide +kernel
theorem dX12_goes_76 : decode cX12_goes 76 = .ok (.return_, 1) := by decide +kernel
set_option maxRecDepth 20000 in
theorem ggX12_goesOn_X12_goes : GoodIn wsX12_goesOn wsX12_goes := goodIn_r _ [7, 1, 8, 9, 10, 6, 11, 12, 13, 14, 15, 16, 17, 18, 19, 20, 21, 22, 23, 24, 25, 26, 27, 28, 29, 30, 31, 32, 33, 34, 35, 36, 37, 38, 39, 40, 41, 42, 43, 44, 45, 46, 47, 48, 49, 50, 51, 52, 53, 54, 55, 56, 57, 58] (by decide +kernel) (by decide +kernel)
set_option maxRecDepth 20000 in
theorem gX12_goesOn_X12_goes : GoodIn wsX12_goesOn (wsV RX12 92 RX12 yX12_goes wsX12_goes) := goodIn_app (goodIn_of _ (by decide +kernel)) ggX12_goesOn_X12_goes
theorem dX12_goesOn_0 : decode cX12_goesOn 0 = .ok (.iconst 0, 1) := by decide +kernel
theorem dX12_goesOn_1 : decode cX12_goesOn 1 = .ok (.istore_n 2, 1) := by decide +kernel
theorem dX12_goesOn_2 : decode cX12_goesOn 2 = .ok (.iload_n 2, 1) := by decide +kernel
theorem dX12_goesOn_3 : decode cX12_goesOn 3 = .ok (.iload_n 1, 1) := by decide +kernel
theorem dX12_goesOn_4 : decode cX12_goesOn 4 = .ok (.if_icmp .ge 43, 3) := by decide +kernel
theorem dX12_goesOn_7 : decode cX12_goesOn 7 = .ok (.aload_n 0, 1) := by decide +kernel
theorem dX12_goesOn_8 : decode cX12_goesOn 8 = .ok (.invokevirtual 92, 3) := by decide +kernel
theorem dX12_goesOn_11 : decode cX12_goesOn 11 = .ok (.aload_n 0, 1) := by decide +kernel
theorem dX12_goesOn_12 : decode cX12_goesOn 12 = .ok (.aload_n 0, 1) := by decide +kernel
theorem dX12_goesOn_13 : decode cX12_goesOn 13 = .ok (.getfield 7, 3) := by decide +kernel
theorem dX12_goesOn_16 : decode cX12_goesOn 16 = .ok (.iconst 2, 1) := by decide +kernel
theorem dX12_goesOn_17 : decode cX12_goesOn 17 = .ok (.iaload, 1) := by decide +kernel
theorem dX12_goesOn_18 : decode cX12_goesOn 18 = .ok (.aload_n 0, 1) := by decide +kernel
theorem dX12_goesOn_19 : decode cX12_goesOn 19 = .ok (.getfield 95, 3) := by decide +kernel
theorem dX12_goesOn_22 : decode cX12_goesOn 22 = .ok (.if_icmp .le 12, 3) := by decide +kernel
theorem dX12_goesOn_25 : decode cX12_goesOn 25 = .ok (.aload_n 0, 1) := by decide +kernel
theorem dX12_goesOn_26 : decode cX12_goesOn 26 = .ok (.getfield 7, 3) := by decide +kernel
theorem dX12_goesOn_29 : decode cX12_goesOn 29 = .ok (.iconst 2, 1) := by decide +kernel
theorem dX12_goesOn_30 : decode cX12_goesOn 30 = .ok (.iaload, 1) := by decide +kernel
theorem dX12_goesOn_31 : decode cX12_goesOn 31 = .ok (.goto 7, 3) := by decide +kernel
theorem dX12_goesOn_34 : decode cX12_goesOn 34 = .ok (.aload_n 0, 1) := by decide +kernel
theorem dX12_goesOn_35 : decode cX12_goesOn 35 = .ok (.getfield 95, 3) := by decide +kernel
theorem dX12_goesOn_38 : decode cX12_goesOn 38 = .ok (.putfield 95, 3) := by decide +kernel
theorem dX12_goesOn_41 : decode cX12_goesOn 41 = .ok (.iinc 2 1, 3) := by decide +kernel
theorem dX12_goesOn_44 : decode cX12_goesOn 44 = .ok (.goto (-42), 3) := by decide +kernel
theorem dX12_goesOn_47 : decode cX12_goesOn 47 = .ok (.return_, 1) := by decide +kernel
set_option maxRecDepth 20000 in
theorem ggX12_minutes_X12_in : GoodIn wsX12_minutes wsX12_in := goodIn_r _ [5] (by decide +kernel) (by decide +kernel)
set_option maxRecDepth 20000 in
theorem gX12_minutes_X12_in : GoodIn wsX12_minutes (va_wsS RX12 48 yX12_in wsX12_in) := goodIn_app (goodIn_of _ (by decide +kernel)) ggX12_minutes_X12_in
set_option maxRecDepth 20000 in
theorem ggX12_minutes_X12_finding : GoodIn wsX12_minutes wsX12_finding := goodIn_r _ [9, 10, 11, 53, 54, 55, 56, 57, 58, 59, 60, 61, 62, 63, 64, 65, 66, 67, 68, 69, 70, 71] (by decide +kernel) (by decide +kernel)
set_option maxRecDepth 20000 in
theorem gX12_minutes_X12_finding : GoodIn wsX12_minutes (wsV RX12 52 RX12 yX12_finding wsX12_finding) := goodIn_app (goodIn_of _ (by decide +kernel)) ggX12_minutes_X12_finding
set_option maxRecDepth 20000 in
theorem ggX12_minutes_X12_goesOn : GoodIn wsX12_minutes wsX12_goesOn := goodIn_r _ [15, 1, 16, 17, 18, 19, 4, 20, 21, 22, 23, 24, 25, 26, 27, 28, 29, 30, 31, 32, 33, 34, 35, 36, 37, 38, 39, 40, 41, 42, 43, 44, 45, 46, 47, 48, 49, 50, 51, 52, 53, 54, 55, 56, 57, 58, 59, 60, 61, 62, 63, 64, 65, 66, 67, 68, 69, 70, 71] (by decide +kernel) (by decide +kernel)
set_option maxRecDepth 20000 in
theorem gX12_minutes_X12_goesOn : GoodIn wsX12_minutes (wsV RX12 99 RX12 yX12_goesOn wsX12_goesOn) := goodIn_app (goodIn_of _ (by decide +kernel)) ggX12_minutes_X12_goesOn
theorem dX12_minutes_0 : decode cX12_minutes 0 = .ok (.iload_n 1, 1) := by decide +kernel
theorem dX12_minutes_1 : decode cX12_minutes 1 = .ok (.iconst 1, 1) := by decide +kernel
theorem dX12_minutes_2 : decode cX12_minutes 2 = .ok (.sipush 200, 3) := by decide +kernel
theorem dX12_minutes_5 : decode cX12_minutes 5 = .ok (.invokestatic 48, 3) := by decide +kernel
theorem dX12_minutes_8 : decode cX12_minutes 8 = .ok (.ifCond .ne 9, 3) := by decide +kernel
theorem dX12_minutes_11 : decode cX12_minutes 11 = .ok (.aload_n 0, 1) := by decide +kernel
theorem dX12_minutes_12 : decode cX12_minutes 12 = .ok (.iconst 0, 1) := by decide +kernel
theorem dX12_minutes_13 : decode cX12_minutes 13 = .ok (.invokevirtual 52, 3) := by decide +kernel
theorem dX12_minutes_16 : decode cX12_minutes 16 = .ok (.ireturn, 1) := by decide +kernel
theorem dX12_minutes_17 : decode cX12_minutes 17 = .ok (.aload_n 0, 1) := by decide +kernel
theorem dX12_minutes_18 : decode cX12_minutes 18 = .ok (.iload_n 1, 1) := by decide +kernel
theorem dX12_minutes_19 : decode cX12_minutes 19 = .ok (.invokevirtual 99, 3) := by decide +kernel
theorem dX12_minutes_22 : decode cX12_minutes 22 = .ok (.aload_n 0, 1) := by decide +kernel
theorem dX12_minutes_23 : decode cX12_minutes 23 = .ok (.getfield 7, 3) := by decide +kernel
theorem dX12_minutes_26 : decode cX12_minutes 26 = .ok (.iconst 2, 1) := by decide +kernel
theorem dX12_minutes_27 : decode cX12_minutes 27 = .ok (.iaload, 1) := by decide +kernel
theorem dX12_minutes_28 : decode cX12_minutes 28 = .ok (.ireturn, 1) := by decide +kernel
set_option maxRecDepth 20000 in
theorem ggX12_now_X12_isDead : GoodIn wsX12_now wsX12_isDead := goodIn_r _ [6, 1, 16, 17, 18, 19, 20, 21, 22, 23, 24, 25, 26, 27, 28, 29, 30, 31, 32, 33, 34] (by decide +kernel) (by decide +kernel)
set_option maxRecDepth 20000 in
theorem gX12_now_X12_isDead : GoodIn wsX12_now (wsV RX12 79 RX12 yX12_isDead wsX12_isDead) := goodIn_app (goodIn_of _ (by decide +kernel)) ggX12_now_X12_isDead
set_option maxRecDepth 20000 in
theorem ggX12_now_X12_in : GoodIn wsX12_now wsX12_in := goodIn_r _ [9] (by decide +kernel) (by decide +kernel)
set_option maxRecDepth 20000 in
theorem gX12_now_X12_in : GoodIn wsX12_now (va_wsS RX12 48 yX12_in wsX12_in) := goodIn_app (goodIn_of _ (by decide +kernel)) ggX12_now_X12_in
set_option maxRecDepth 20000 in
theorem ggX12_now_X12_finding : GoodIn wsX12_now wsX12_finding := goodIn_r _ [13, 14, 15, 16, 17, 18, 19, 20, 21, 22, 23, 24, 25, 26, 27, 28, 29, 30, 31, 32, 33, 34] (by decide +kernel) (by decide +kernel)
set_option maxRecDepth 20000 in
theorem gX12_now_X12_finding : GoodIn wsX12_now (wsV RX12 52 RX12 yX12_finding wsX12_finding) := goodIn_app (goodIn_of _ (by decide +kernel)) ggX12_now_X12_finding
theorem dX12_now_0 : decode cX12_now 0 = .ok (.iload_n 1, 1) := by decide +kernel
theorem dX12_now_1 : decode cX12_now 1 = .ok (.tableswitch 92 11 16 #[39, 52, 60, 68, 76, 84], 39) := by decide +kernel
theorem dX12_now_40 : decode cX12_now 40 = .ok (.aload_n 0, 1) := by decide +kernel
theorem dX12_now_41 : decode cX12_now 41 = .ok (.invokevirtual 79, 3) := by decide +kernel
theorem dX12_now_44 : decode cX12_now 44 = .ok (.ifCond .eq 7, 3) := by decide +kernel
theorem dX12_now_47 : decode cX12_now 47 = .ok (.iconst 1, 1) := by decide +kernel
theorem dX12_now_48 : decode cX12_now 48 = .ok (.goto 4, 3) := by decide +kernel
theorem dX12_now_51 : decode cX12_now 51 = .ok (.iconst 0, 1) := by decide +kernel
theorem dX12_now_52 : decode cX12_now 52 = .ok (.ireturn, 1) := by decide +kernel
theorem dX12_now_53 : decode cX12_now 53 = .ok (.aload_n 0, 1) := by decide +kernel
theorem dX12_now_54 : decode cX12_now 54 = .ok (.getfield 7, 3) := by decide +kernel
theorem dX12_now_57 : decode cX12_now 57 = .ok (.bipush 11, 2) := by decide +kernel
theorem dX12_now_59 : decode cX12_now 59 = .ok (.iaload, 1) := by decide +kernel
theorem dX12_now_60 : decode cX12_now 60 = .ok (.ireturn, 1) := by decide +kernel
theorem dX12_now_61 : decode cX12_now 61 = .ok (.aload_n 0, 1) := by decide +kernel
theorem dX12_now_62 : decode cX12_now 62 = .ok (.getfield 7, 3) := by decide +kernel
theorem dX12_now_65 : decode cX12_now 65 = .ok (.bipush 12, 2) := by decide +kernel
theorem dX12_now_67 : decode cX12_now 67 = .ok (.iaload, 1) := by decide +kernel
theorem dX12_now_68 : decode cX12_now 68 = .ok (.ireturn, 1) := by decide +kernel
theorem dX12_now_69 : decode cX12_now 69 = .ok (.aload_n 0, 1) := by decide +kernel
theorem dX12_now_70 : decode cX12_now 70 = .ok (.getfield 7, 3) := by decide +kernel
theorem dX12_now_73 : decode cX12_now 73 = .ok (.bipush 13, 2) := by decide +kernel
theorem dX12_now_75 : decode cX12_now 75 = .ok (.iaload, 1) := by decide +kernel
theorem dX12_now_76 : decode cX12_now 76 = .ok (.ireturn, 1) := by decide +kernel
theorem dX12_now_77 : decode cX12_now 77 = .ok (.aload_n 0, 1) := by decide +kernel
theorem dX12_now_78 : decode cX12_now 78 = .ok (.getfield 7, 3) := by decide +kernel
theorem dX12_now_81 : decode cX12_now 81 = .ok (.bipush 14, 2) := by decide +kernel
theorem dX12_now_83 : decode cX12_now 83 = .ok (.iaload, 1) := by decide +kernel
theorem dX12_now_84 : decode cX12_now 84 = .ok (.ireturn, 1) := by decide +kernel
theorem dX12_now_85 : decode cX12_now 85 = .ok (.aload_n 0, 1) := by decide +kernel
theorem dX12_now_86 : decode cX12_now 86 = .ok (.getfield 7, 3) := by decide +kernel
theorem dX12_now_89 : decode cX12_now 89 = .ok (.bipush 15, 2) := by decide +kernel
theorem dX12_now_91 : decode cX12_now 91 = .ok (.iaload, 1) := by decide +kernel
theorem dX12_now_92 : decode cX12_now 92 = .ok (.ireturn, 1) := by decide +kernel
theorem dX12_now_93 : decode cX12_now 93 = .ok (.iload_n 1, 1) := by decide +kernel
theorem dX12_now_94 : decode cX12_now 94 = .ok (.iconst 0, 1) := by decide +kernel
theorem dX12_now_95 : decode cX12_now 95 = .ok (.bipush 10, 2) := by decide +kernel
theorem dX12_now_97 : decode cX12_now 97 = .ok (.invokestatic 48, 3) := by decide +kernel
theorem dX12_now_100 : decode cX12_now 100 = .ok (.ifCond .eq 12, 3) := by decide +kernel
theorem dX12_now_103 : decode cX12_now 103 = .ok (.aload_n 0, 1) := by decide +kernel
theorem dX12_now_104 : decode cX12_now 104 = .ok (.getfield 7, 3) := by decide +kernel
theorem dX12_now_107 : decode cX12_now 107 = .ok (.iload_n 1, 1) := by decide +kernel
theorem dX12_now_108 : decode cX12_now 108 = .ok (.iaload, 1) := by decide +kernel
theorem dX12_now_109 : decode cX12_now 109 = .ok (.goto 8, 3) := by decide +kernel
theorem dX12_now_112 : decode cX12_now 112 = .ok (.aload_n 0, 1) := by decide +kernel
theorem dX12_now_113 : decode cX12_now 113 = .ok (.iconst 0, 1) := by decide +kernel
theorem dX12_now_114 : decode cX12_now 114 = .ok (.invokevirtual 52, 3) := by decide +kernel
theorem dX12_now_117 : decode cX12_now 117 = .ok (.ireturn, 1) := by decide +kernel
theorem dX12_renew_0 : decode cX12_renew 0 = .ok (.aload_n 0, 1) := by decide +kernel
theorem dX12_renew_1 : decode cX12_renew 1 = .ok (.getfield 7, 3) := by decide +kernel
theorem dX12_renew_4 : decode cX12_renew 4 = .ok (.bipush 9, 2) := by decide +kernel
theorem dX12_renew_6 : decode cX12_renew 6 = .ok (.iaload, 1) := by decide +kernel
theorem dX12_renew_7 : decode cX12_renew 7 = .ok (.istore_n 1, 1) := by decide +kernel
theorem dX12_renew_8 : decode cX12_renew 8 = .ok (.aload_n 0, 1) := by decide +kernel
theorem dX12_renew_9 : decode cX12_renew 9 = .ok (.getfield 7, 3) := by decide +kernel
theorem dX12_renew_12 : decode cX12_renew 12 = .ok (.bipush 9, 2) := by decide +kernel
theorem dX12_renew_14 : decode cX12_renew 14 = .ok (.iconst 0, 1) := by decide +kernel
theorem dX12_renew_15 : decode cX12_renew 15 = .ok (.iastore, 1) := by decide +kernel
theorem dX12_renew_16 : decode cX12_renew 16 = .ok (.aload_n 0, 1) := by decide +kernel
theorem dX12_renew_17 : decode cX12_renew 17 = .ok (.getfield 7, 3) := by decide +kernel
theorem dX12_renew_20 : decode cX12_renew 20 = .ok (.bipush 10, 2) := by decide +kernel
theorem dX12_renew_22 : decode cX12_renew 22 = .ok (.iconst 0, 1) := by decide +kernel
theorem dX12_renew_23 : decode cX12_renew 23 = .ok (.iastore, 1) := by decide +kernel
theorem dX12_renew_24 : decode cX12_renew 24 = .ok (.iload_n 1, 1) := by decide +kernel
theorem dX12_renew_25 : decode cX12_renew 25 = .ok (.ireturn, 1) := by decide +kernel
theorem dX12_logged_0 : decode cX12_logged 0 = .ok (.aload_n 0, 1) := by decide +kernel
theorem dX12_logged_1 : decode cX12_logged 1 = .ok (.getfield 7, 3) := by decide +kernel
theorem dX12_logged_4 : decode cX12_logged 4 = .ok (.bipush 9, 2) := by decide +kernel
theorem dX12_logged_6 : decode cX12_logged 6 = .ok (.iaload, 1) := by decide +kernel
theorem dX12_logged_7 : decode cX12_logged 7 = .ok (.bipush 40, 2) := by decide +kernel
theorem dX12_logged_9 : decode cX12_logged 9 = .ok (.if_icmp .ge 13, 3) := by decide +kernel
theorem dX12_logged_12 : decode cX12_logged 12 = .ok (.aload_n 0, 1) := by decide +kernel
theorem dX12_logged_13 : decode cX12_logged 13 = .ok (.getfield 7, 3) := by decide +kernel
theorem dX12_logged_16 : decode cX12_logged 16 = .ok (.bipush 9, 2) := by decide +kernel
theorem dX12_logged_18 : decode cX12_logged 18 = .ok (.iaload, 1) := by decide +kernel
theorem dX12_logged_19 : decode cX12_logged 19 = .ok (.goto 5, 3) := by decide +kernel
theorem dX12_logged_22 : decode cX12_logged 22 = .ok (.bipush 40, 2) := by decide +kernel
theorem dX12_logged_24 : decode cX12_logged 24 = .ok (.ireturn, 1) := by decide +kernel
set_option maxRecDepth 20000 in
theorem ggX12_start_X12_logged : GoodIn wsX12_start wsX12_logged := goodIn_r _ [6, 1, 16, 17, 18, 19, 20, 21, 22, 23, 24, 25, 26, 27, 28, 29, 30, 31, 32, 33, 34] (by decide +kernel) (by decide +kernel)
set_option maxRecDepth 20000 in
theorem gX12_start_X12_logged : GoodIn wsX12_start (wsV RX12 103 RX12 yX12_logged wsX12_logged) := goodIn_app (goodIn_of _ (by decide +kernel)) ggX12_start_X12_logged
set_option maxRecDepth 20000 in
theorem ggX12_start_X12_in : GoodIn wsX12_start wsX12_in := goodIn_r _ [9] (by decide +kernel) (by decide +kernel)
set_option maxRecDepth 20000 in
theorem gX12_start_X12_in : GoodIn wsX12_start (va_wsS RX12 48 yX12_in wsX12_in) := goodIn_app (goodIn_of _ (by decide +kernel)) ggX12_start_X12_in
set_option maxRecDepth 20000 in
theorem ggX12_start_X12_finding : GoodIn wsX12_start wsX12_finding := goodIn_r _ [13, 14, 15, 16, 17, 18, 19, 20, 21, 22, 23, 24, 25, 26, 27, 28, 29, 30, 31, 32, 33, 34] (by decide +kernel) (by decide +kernel)
set_option maxRecDepth 20000 in
theorem gX12_start_X12_finding : GoodIn wsX12_start (wsV RX12 52 RX12 yX12_finding wsX12_finding) := goodIn_app (goodIn_of _ (by decide +kernel)) ggX12_start_X12_finding
theorem dX12_start_0 : decode cX12_start 0 = .ok (.iload_n 1, 1) := by decide +kernel
theorem dX12_start_1 : decode cX12_start 1 = .ok (.iconst 0, 1) := by decide +kernel
theorem dX12_start_2 : decode cX12_start 2 = .ok (.aload_n 0, 1) := by decide +kernel
theorem dX12_start_3 : decode cX12_start 3 = .ok (.invokevirtual 103, 3) := by decide +kernel
theorem dX12_start_6 : decode cX12_start 6 = .ok (.iconst 1, 1) := by decide +kernel
theorem dX12_start_7 : decode cX12_start 7 = .ok (.isub, 1) := by decide +kernel
theorem dX12_start_8 : decode cX12_start 8 = .ok (.invokestatic 48, 3) := by decide +kernel
theorem dX12_start_11 : decode cX12_start 11 = .ok (.ifCond .eq 15, 3) := by decide +kernel
theorem dX12_start_14 : decode cX12_start 14 = .ok (.aload_n 0, 1) := by decide +kernel
theorem dX12_start_15 : decode cX12_start 15 = .ok (.getfield 7, 3) := by decide +kernel
theorem dX12_start_18 : decode cX12_start 18 = .ok (.bipush 25, 2) := by decide +kernel
theorem dX12_start_20 : decode cX12_start 20 = .ok (.iload_n 1, 1) := by decide +kernel
theorem dX12_start_21 : decode cX12_start 21 = .ok (.iadd, 1) := by decide +kernel
theorem dX12_start_22 : decode cX12_start 22 = .ok (.iaload, 1) := by decide +kernel
theorem dX12_start_23 : decode cX12_start 23 = .ok (.goto 8, 3) := by decide +kernel
theorem dX12_start_26 : decode cX12_start 26 = .ok (.aload_n 0, 1) := by decide +kernel
theorem dX12_start_27 : decode cX12_start 27 = .ok (.iconst 0, 1) := by decide +kernel
theorem dX12_start_28 : decode cX12_start 28 = .ok (.invokevirtual 52, 3) := by decide +kernel
theorem dX12_start_31 : decode cX12_start 31 = .ok (.ireturn, 1) := by decide +kernel
set_option maxRecDepth 20000 in
theorem ggX12_quickest_X12_logged : GoodIn wsX12_quickest wsX12_logged := goodIn_r _ [6, 1, 13, 14, 15, 16, 17, 18, 19, 20, 21, 22, 23, 24, 25, 26, 27, 28, 29, 30, 31] (by decide +kernel) (by decide +kernel)
set_option maxRecDepth 20000 in
theorem gX12_quickest_X12_logged : GoodIn wsX12_quickest (wsV RX12 103 RX12 yX12_logged wsX12_logged) := goodIn_app (goodIn_of _ (by decide +kernel)) ggX12_quickest_X12_logged
set_option maxRecDepth 20000 in
theorem ggX12_quickest_X12_finding : GoodIn wsX12_quickest wsX12_finding := goodIn_r _ [10, 11, 12, 13, 14, 15, 16, 17, 18, 19, 20, 21, 22, 23, 24, 25, 26, 27, 28, 29, 30, 31] (by decide +kernel) (by decide +kernel)
set_option maxRecDepth 20000 in
theorem gX12_quickest_X12_finding : GoodIn wsX12_quickest (wsV RX12 52 RX12 yX12_finding wsX12_finding) := goodIn_app (goodIn_of _ (by decide +kernel)) ggX12_quickest_X12_finding
theorem dX12_quickest_0 : decode cX12_quickest 0 = .ok (.aload_n 0, 1) := by decide +kernel
theorem dX12_quickest_1 : decode cX12_quickest 1 = .ok (.invokevirtual 103, 3) := by decide +kernel
theorem dX12_quickest_4 : decode cX12_quickest 4 = .ok (.iconst 2, 1) := by decide +kernel
theorem dX12_quickest_5 : decode cX12_quickest 5 = .ok (.if_icmp .ge 9, 3) := by decide +kernel
theorem dX12_quickest_8 : decode cX12_quickest 8 = .ok (.aload_n 0, 1) := by decide +kernel
theorem dX12_quickest_9 : decode cX12_quickest 9 = .ok (.iconst 3, 1) := by decide +kernel
theorem dX12_quickest_10 : decode cX12_quickest 10 = .ok (.invokevirtual 52, 3) := by decide +kernel
theorem dX12_quickest_13 : decode cX12_quickest 13 = .ok (.ireturn, 1) := by decide +kernel
theorem dX12_quickest_14 : decode cX12_quickest 14 = .ok (.aload_n 0, 1) := by decide +kernel
theorem dX12_quickest_15 : decode cX12_quickest 15 = .ok (.getfield 7, 3) := by decide +kernel
theorem dX12_quickest_18 : decode cX12_quickest 18 = .ok (.bipush 26, 2) := by decide +kernel
theorem dX12_quickest_20 : decode cX12_quickest 20 = .ok (.iaload, 1) := by decide +kernel
theorem dX12_quickest_21 : decode cX12_quickest 21 = .ok (.aload_n 0, 1) := by decide +kernel
theorem dX12_quickest_22 : decode cX12_quickest 22 = .ok (.getfield 7, 3) := by decide +kernel
theorem dX12_quickest_25 : decode cX12_quickest 25 = .ok (.bipush 25, 2) := by decide +kernel
theorem dX12_quickest_27 : decode cX12_quickest 27 = .ok (.iaload, 1) := by decide +kernel
theorem dX12_quickest_28 : decode cX12_quickest 28 = .ok (.isub, 1) := by decide +kernel
theorem dX12_quickest_29 : decode cX12_quickest 29 = .ok (.istore_n 1, 1) := by decide +kernel
theorem dX12_quickest_30 : decode cX12_quickest 30 = .ok (.iconst 2, 1) := by decide +kernel
theorem dX12_quickest_31 : decode cX12_quickest 31 = .ok (.istore_n 2, 1) := by decide +kernel
theorem dX12_quickest_32 : decode cX12_quickest 32 = .ok (.iload_n 2, 1) := by decide +kernel
theorem dX12_quickest_33 : decode cX12_quickest 33 = .ok (.aload_n 0, 1) := by decide +kernel
theorem dX12_quickest_34 : decode cX12_quickest 34 = .ok (.invokevirtual 103, 3) := by decide +kernel
theorem dX12_quickest_37 : decode cX12_quickest 37 = .ok (.if_icmp .ge 42, 3) := by decide +kernel
theorem dX12_quickest_40 : decode cX12_quickest 40 = .ok (.aload_n 0, 1) := by decide +kernel
theorem dX12_quickest_41 : decode cX12_quickest 41 = .ok (.getfield 7, 3) := by decide +kernel
theorem dX12_quickest_44 : decode cX12_quickest 44 = .ok (.bipush 25, 2) := by decide +kernel
theorem dX12_quickest_46 : decode cX12_quickest 46 = .ok (.iload_n 2, 1) := by decide +kernel
theorem dX12_quickest_47 : decode cX12_quickest 47 = .ok (.iadd, 1) := by decide +kernel
theorem dX12_quickest_48 : decode cX12_quickest 48 = .ok (.iaload, 1) := by decide +kernel
theorem dX12_quickest_49 : decode cX12_quickest 49 = .ok (.aload_n 0, 1) := by decide +kernel
theorem dX12_quickest_50 : decode cX12_quickest 50 = .ok (.getfield 7, 3) := by decide +kernel
theorem dX12_quickest_53 : decode cX12_quickest 53 = .ok (.bipush 25, 2) := by decide +kernel
theorem dX12_quickest_55 : decode cX12_quickest 55 = .ok (.iload_n 2, 1) := by decide +kernel
theorem dX12_quickest_56 : decode cX12_quickest 56 = .ok (.iadd, 1) := by decide +kernel
theorem dX12_quickest_57 : decode cX12_quickest 57 = .ok (.iconst 1, 1) := by decide +kernel
theorem dX12_quickest_58 : decode cX12_quickest 58 = .ok (.isub, 1) := by decide +kernel
theorem dX12_quickest_59 : decode cX12_quickest 59 = .ok (.iaload, 1) := by decide +kernel
theorem dX12_quickest_60 : decode cX12_quickest 60 = .ok (.isub, 1) := by decide +kernel
theorem dX12_quickest_61 : decode cX12_quickest 61 = .ok (.istore_n 3, 1) := by decide +kernel
theorem dX12_quickest_62 : decode cX12_quickest 62 = .ok (.iload_n 3, 1) := by decide +kernel
theorem dX12_quickest_63 : decode cX12_quickest 63 = .ok (.iload_n 1, 1) := by decide +kernel
theorem dX12_quickest_64 : decode cX12_quickest 64 = .ok (.if_icmp .ge 7, 3) := by decide +kernel
theorem dX12_quickest_67 : decode cX12_quickest 67 = .ok (.iload_n 3, 1) := by decide +kernel
theorem dX12_quickest_68 : decode cX12_quickest 68 = .ok (.goto 4, 3) := by decide +kernel
theorem dX12_quickest_71 : decode cX12_quickest 71 = .ok (.iload_n 1, 1) := by decide +kernel
theorem dX12_quickest_72 : decode cX12_quickest 72 = .ok (.istore_n 1, 1) := by decide +kernel
theorem dX12_quickest_73 : decode cX12_quickest 73 = .ok (.iinc 2 1, 3) := by decide +kernel
theorem dX12_quickest_76 : decode cX12_quickest 76 = .ok (.goto (-44), 3) := by decide +kernel
theorem dX12_quickest_79 : decode cX12_quickest 79 = .ok (.iload_n 1, 1) := by decide +kernel
theorem dX12_quickest_80 : decode cX12_quickest 80 = .ok (.ireturn, 1) := by decide +kernel
set_option maxRecDepth 20000 in
theorem ggX12_came_X12_finding : GoodIn wsX12_came wsX12_finding := goodIn_r _ [6, 7, 8, 13, 14, 15, 16, 17, 18, 19, 20, 21, 22, 23, 24, 25, 26, 27, 28, 29, 30, 31] (by decide +kernel) (by decide +kernel)
set_option maxRecDepth 20000 in
theorem gX12_came_X12_finding : GoodIn wsX12_came (wsV RX12 52 RX12 yX12_finding wsX12_finding) := goodIn_app (goodIn_of _ (by decide +kernel)) ggX12_came_X12_finding
set_option maxRecDepth 20000 in
theorem ggX12_came_X12_its : GoodIn wsX12_came wsX12_its := goodIn_r _ [12, 1, 13, 14, 15, 16, 17, 18, 19, 20, 21, 22, 23, 24, 25, 26, 27, 28, 29, 30, 31] (by decide +kernel) (by decide +kernel)
set_option maxRecDepth 20000 in
theorem gX12_came_X12_its : GoodIn wsX12_came (wsV RX12 60 RX12 yX12_its wsX12_its) := goodIn_app (goodIn_of _ (by decide +kernel)) ggX12_came_X12_its
theorem dX12_came_0 : decode cX12_came 0 = .ok (.aload_n 0, 1) := by decide +kernel
theorem dX12_came_1 : decode cX12_came 1 = .ok (.getfield 7, 3) := by decide +kernel
theorem dX12_came_4 : decode cX12_came 4 = .ok (.bipush 16, 2) := by decide +kernel
theorem dX12_came_6 : decode cX12_came 6 = .ok (.iaload, 1) := by decide +kernel
theorem dX12_came_7 : decode cX12_came 7 = .ok (.ifCond .ne 9, 3) := by decide +kernel
theorem dX12_came_10 : decode cX12_came 10 = .ok (.aload_n 0, 1) := by decide +kernel
theorem dX12_came_11 : decode cX12_came 11 = .ok (.iconst 3, 1) := by decide +kernel
theorem dX12_came_12 : decode cX12_came 12 = .ok (.invokevirtual 52, 3) := by decide +kernel
theorem dX12_came_15 : decode cX12_came 15 = .ok (.ireturn, 1) := by decide +kernel
theorem dX12_came_16 : decode cX12_came 16 = .ok (.iconst 0, 1) := by decide +kernel
theorem dX12_came_17 : decode cX12_came 17 = .ok (.istore_n 1, 1) := by decide +kernel
theorem dX12_came_18 : decode cX12_came 18 = .ok (.iconst 1, 1) := by decide +kernel
theorem dX12_came_19 : decode cX12_came 19 = .ok (.istore_n 2, 1) := by decide +kernel
theorem dX12_came_20 : decode cX12_came 20 = .ok (.iload_n 2, 1) := by decide +kernel
theorem dX12_came_21 : decode cX12_came 21 = .ok (.aload_n 0, 1) := by decide +kernel
theorem dX12_came_22 : decode cX12_came 22 = .ok (.getfield 7, 3) := by decide +kernel
theorem dX12_came_25 : decode cX12_came 25 = .ok (.bipush 16, 2) := by decide +kernel
theorem dX12_came_27 : decode cX12_came 27 = .ok (.iaload, 1) := by decide +kernel
theorem dX12_came_28 : decode cX12_came 28 = .ok (.if_icmp .ge 30, 3) := by decide +kernel
theorem dX12_came_31 : decode cX12_came 31 = .ok (.aload_n 0, 1) := by decide +kernel
theorem dX12_came_32 : decode cX12_came 32 = .ok (.iload_n 2, 1) := by decide +kernel
theorem dX12_came_33 : decode cX12_came 33 = .ok (.iconst 3, 1) := by decide +kernel
theorem dX12_came_34 : decode cX12_came 34 = .ok (.invokevirtual 60, 3) := by decide +kernel
theorem dX12_came_37 : decode cX12_came 37 = .ok (.aload_n 0, 1) := by decide +kernel
theorem dX12_came_38 : decode cX12_came 38 = .ok (.iload_n 1, 1) := by decide +kernel
theorem dX12_came_39 : decode cX12_came 39 = .ok (.iconst 3, 1) := by decide +kernel
theorem dX12_came_40 : decode cX12_came 40 = .ok (.invokevirtual 60, 3) := by decide +kernel
theorem dX12_came_43 : decode cX12_came 43 = .ok (.if_icmp .le 7, 3) := by decide +kernel
theorem dX12_came_46 : decode cX12_came 46 = .ok (.iload_n 2, 1) := by decide +kernel
theorem dX12_came_47 : decode cX12_came 47 = .ok (.goto 4, 3) := by decide +kernel
theorem dX12_came_50 : decode cX12_came 50 = .ok (.iload_n 1, 1) := by decide +kernel
theorem dX12_came_51 : decode cX12_came 51 = .ok (.istore_n 1, 1) := by decide +kernel
theorem dX12_came_52 : decode cX12_came 52 = .ok (.iinc 2 1, 3) := by decide +kernel
theorem dX12_came_55 : decode cX12_came 55 = .ok (.goto (-35), 3) := by decide +kernel
theorem dX12_came_58 : decode cX12_came 58 = .ok (.iload_n 1, 1) := by decide +kernel
theorem dX12_came_59 : decode cX12_came 59 = .ok (.ireturn, 1) := by decide +kernel
set_option maxRecDepth 20000 in
theorem ggX12_isThing_X12_in : GoodIn wsX12_isThing wsX12_in := goodIn_r _ [5] (by decide +kernel) (by decide +kernel)
set_option maxRecDepth 20000 in
theorem gX12_isThing_X12_in : GoodIn wsX12_isThing (va_wsS RX12 48 yX12_in wsX12_in) := goodIn_app (goodIn_of _ (by decide +kernel)) ggX12_isThing_X12_in
theorem dX12_isThing_0 : decode cX12_isThing 0 = .ok (.iload_n 1, 1) := by decide +kernel
theorem dX12_isThing_1 : decode cX12_isThing 1 = .ok (.iconst 0, 1) := by decide +kernel
theorem dX12_isThing_2 : decode cX12_isThing 2 = .ok (.aload_n 0, 1) := by decide +kernel
theorem dX12_isThing_3 : decode cX12_isThing 3 = .ok (.getfield 7, 3) := by decide +kernel
theorem dX12_isThing_6 : decode cX12_isThing 6 = .ok (.bipush 17, 2) := by decide +kernel
theorem dX12_isThing_8 : decode cX12_isThing 8 = .ok (.iaload, 1) := by decide +kernel
theorem dX12_isThing_9 : decode cX12_isThing 9 = .ok (.iconst 1, 1) := by decide +kernel
theorem dX12_isThing_10 : decode cX12_isThing 10 = .ok (.isub, 1) := by decide +kernel
theorem dX12_isThing_11 : decode cX12_isThing 11 = .ok (.invokestatic 48, 3) := by decide +kernel
theorem dX12_isThing_14 : decode cX12_isThing 14 = .ok (.ireturn, 1) := by decide +kernel
set_option maxRecDepth 20000 in
theorem ggX12_thing_X12_in : GoodIn wsX12_thing wsX12_in := goodIn_r _ [5] (by decide +kernel) (by decide +kernel)
set_option maxRecDepth 20000 in
theorem gX12_thing_X12_in : GoodIn wsX12_thing (va_wsS RX12 48 yX12_in wsX12_in) := goodIn_app (goodIn_of _ (by decide +kernel)) ggX12_thing_X12_in
set_option maxRecDepth 20000 in
theorem ggX12_thing_X12_finding : GoodIn wsX12_thing wsX12_finding := goodIn_r _ [9, 10, 11, 12, 13, 14, 15, 16, 17, 18, 19, 20, 21, 22, 23, 24, 25, 26, 27, 28, 29, 30] (by decide +kernel) (by decide +kernel)
set_option maxRecDepth 20000 in
theorem gX12_thing_X12_finding : GoodIn wsX12_thing (wsV RX12 52 RX12 yX12_finding wsX12_finding) := goodIn_app (goodIn_of _ (by decide +kernel)) ggX12_thing_X12_finding
theorem dX12_thing_0 : decode cX12_thing 0 = .ok (.iload_n 1, 1) := by decide +kernel
theorem dX12_thing_1 : decode cX12_thing 1 = .ok (.iconst 1, 1) := by decide +kernel
theorem dX12_thing_2 : decode cX12_thing 2 = .ok (.bipush 99, 2) := by decide +kernel
theorem dX12_thing_4 : decode cX12_thing 4 = .ok (.invokestatic 48, 3) := by decide +kernel
theorem dX12_thing_7 : decode cX12_thing 7 = .ok (.ifCond .eq 24, 3) := by decide +kernel
theorem dX12_thing_10 : decode cX12_thing 10 = .ok (.iload_n 2, 1) := by decide +kernel
theorem dX12_thing_11 : decode cX12_thing 11 = .ok (.iconst 1, 1) := by decide +kernel
theorem dX12_thing_12 : decode cX12_thing 12 = .ok (.bipush 60, 2) := by decide +kernel
theorem dX12_thing_14 : decode cX12_thing 14 = .ok (.invokestatic 48, 3) := by decide +kernel
theorem dX12_thing_17 : decode cX12_thing 17 = .ok (.ifCond .eq 14, 3) := by decide +kernel
theorem dX12_thing_20 : decode cX12_thing 20 = .ok (.iload_n 3, 1) := by decide +kernel
theorem dX12_thing_21 : decode cX12_thing 21 = .ok (.iconst 0, 1) := by decide +kernel
theorem dX12_thing_22 : decode cX12_thing 22 = .ok (.sipush 999, 3) := by decide +kernel
theorem dX12_thing_25 : decode cX12_thing 25 = .ok (.invokestatic 48, 3) := by decide +kernel
theorem dX12_thing_28 : decode cX12_thing 28 = .ok (.ifCond .ne 9, 3) := by decide +kernel
theorem dX12_thing_31 : decode cX12_thing 31 = .ok (.aload_n 0, 1) := by decide +kernel
theorem dX12_thing_32 : decode cX12_thing 32 = .ok (.iconst 0, 1) := by decide +kernel
theorem dX12_thing_33 : decode cX12_thing 33 = .ok (.invokevirtual 52, 3) := by decide +kernel
theorem dX12_thing_36 : decode cX12_thing 36 = .ok (.ireturn, 1) := by decide +kernel
theorem dX12_thing_37 : decode cX12_thing 37 = .ok (.aload_n 0, 1) := by decide +kernel
theorem dX12_thing_38 : decode cX12_thing 38 = .ok (.getfield 7, 3) := by decide +kernel
theorem dX12_thing_41 : decode cX12_thing 41 = .ok (.bipush 17, 2) := by decide +kernel
theorem dX12_thing_43 : decode cX12_thing 43 = .ok (.iaload, 1) := by decide +kernel
theorem dX12_thing_44 : decode cX12_thing 44 = .ok (.bipush 10, 2) := by decide +kernel
theorem dX12_thing_46 : decode cX12_thing 46 = .ok (.if_icmp .ne 9, 3) := by decide +kernel
theorem dX12_thing_49 : decode cX12_thing 49 = .ok (.aload_n 0, 1) := by decide +kernel
theorem dX12_thing_50 : decode cX12_thing 50 = .ok (.iconst 1, 1) := by decide +kernel
theorem dX12_thing_51 : decode cX12_thing 51 = .ok (.invokevirtual 52, 3) := by decide +kernel
theorem dX12_thing_54 : decode cX12_thing 54 = .ok (.ireturn, 1) := by decide +kernel
theorem dX12_thing_55 : decode cX12_thing 55 = .ok (.bipush 97, 2) := by decide +kernel
theorem dX12_thing_57 : decode cX12_thing 57 = .ok (.iconst 5, 1) := by decide +kernel
theorem dX12_thing_58 : decode cX12_thing 58 = .ok (.aload_n 0, 1) := by decide +kernel
theorem dX12_thing_59 : decode cX12_thing 59 = .ok (.getfield 7, 3) := by decide +kernel
theorem dX12_thing_62 : decode cX12_thing 62 = .ok (.bipush 17, 2) := by decide +kernel
theorem dX12_thing_64 : decode cX12_thing 64 = .ok (.iaload, 1) := by decide +kernel
theorem dX12_thing_65 : decode cX12_thing 65 = .ok (.imul, 1) := by decide +kernel
theorem dX12_thing_66 : decode cX12_thing 66 = .ok (.iadd, 1) := by decide +kernel
theorem dX12_thing_67 : decode cX12_thing 67 = .ok (.istore 4, 2) := by decide +kernel
theorem dX12_thing_69 : decode cX12_thing 69 = .ok (.aload_n 0, 1) := by decide +kernel
theorem dX12_thing_70 : decode cX12_thing 70 = .ok (.getfield 7, 3) := by decide +kernel
theorem dX12_thing_73 : decode cX12_thing 73 = .ok (.iload 4, 2) := by decide +kernel
theorem dX12_thing_75 : decode cX12_thing 75 = .ok (.iconst 0, 1) := by decide +kernel
theorem dX12_thing_76 : decode cX12_thing 76 = .ok (.iadd, 1) := by decide +kernel
theorem dX12_thing_77 : decode cX12_thing 77 = .ok (.iload_n 1, 1) := by decide +kernel
theorem dX12_thing_78 : decode cX12_thing 78 = .ok (.iastore, 1) := by decide +kernel
theorem dX12_thing_79 : decode cX12_thing 79 = .ok (.aload_n 0, 1) := by decide +kernel
theorem dX12_thing_80 : decode cX12_thing 80 = .ok (.getfield 7, 3) := by decide +kernel
theorem dX12_thing_83 : decode cX12_thing 83 = .ok (.iload 4, 2) := by decide +kernel
theorem dX12_thing_85 : decode cX12_thing 85 = .ok (.iconst 1, 1) := by decide +kernel
theorem dX12_thing_86 : decode cX12_thing 86 = .ok (.iadd, 1) := by decide +kernel
theorem dX12_thing_87 : decode cX12_thing 87 = .ok (.iload_n 2, 1) := by decide +kernel
theorem dX12_thing_88 : decode cX12_thing 88 = .ok (.iastore, 1) := by decide +kernel
theorem dX12_thing_89 : decode cX12_thing 89 = .ok (.aload_n 0, 1) := by decide +kernel
theorem dX12_thing_90 : decode cX12_thing 90 = .ok (.getfield 7, 3) := by decide +kernel
theorem dX12_thing_93 : decode cX12_thing 93 = .ok (.iload 4, 2) := by decide +kernel
theorem dX12_thing_95 : decode cX12_thing 95 = .ok (.iconst 2, 1) := by decide +kernel
theorem dX12_thing_96 : decode cX12_thing 96 = .ok (.iadd, 1) := by decide +kernel
theorem dX12_thing_97 : decode cX12_thing 97 = .ok (.iload_n 3, 1) := by decide +kernel
theorem dX12_thing_98 : decode cX12_thing 98 = .ok (.iastore, 1) := by decide +kernel
theorem dX12_thing_99 : decode cX12_thing 99 = .ok (.aload_n 0, 1) := by decide +kernel
theorem dX12_thing_100 : decode cX12_thing 100 = .ok (.getfield 7, 3) := by decide +kernel
theorem dX12_thing_103 : decode cX12_thing 103 = .ok (.iload 4, 2) := by decide +kernel
theorem dX12_thing_105 : decode cX12_thing 105 = .ok (.iconst 3, 1) := by decide +kernel
theorem dX12_thing_106 : decode cX12_thing 106 = .ok (.iadd, 1) := by decide +kernel
theorem dX12_thing_107 : decode cX12_thing 107 = .ok (.iconst 0, 1) := by decide +kernel
theorem dX12_thing_108 : decode cX12_thing 108 = .ok (.iastore, 1) := by decide +kernel
theorem dX12_thing_109 : decode cX12_thing 109 = .ok (.aload_n 0, 1) := by decide +kernel
theorem dX12_thing_110 : decode cX12_thing 110 = .ok (.getfield 7, 3) := by decide +kernel
theorem dX12_thing_113 : decode cX12_thing 113 = .ok (.iload 4, 2) := by decide +kernel
theorem dX12_thing_115 : decode cX12_thing 115 = .ok (.iconst 4, 1) := by decide +kernel
theorem dX12_thing_116 : decode cX12_thing 116 = .ok (.iadd, 1) := by decide +kernel
theorem dX12_thing_117 : decode cX12_thing 117 = .ok (.iconst 0, 1) := by decide +kernel
theorem dX12_thing_118 : decode cX12_thing 118 = .ok (.iastore, 1) := by decide +kernel
theorem dX12_thing_119 : decode cX12_thing 119 = .ok (.aload_n 0, 1) := by decide +kernel
theorem dX12_thing_120 : decode cX12_thing 120 = .ok (.getfield 7, 3) := by decide +kernel
theorem dX12_thing_123 : decode cX12_thing 123 = .ok (.bipush 17, 2) := by decide +kernel
theorem dX12_thing_125 : decode cX12_thing 125 = .ok (.dup2, 1) := by decide +kernel
theorem dX12_thing_126 : decode cX12_thing 126 = .ok (.iaload, 1) := by decide +kernel
