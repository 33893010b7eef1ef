theorem dX0_constructAll_8 : decode cX0_constructAll 8 = .ok (.iconst 1, 1) := by decide +kernel
theorem dX0_constructAll_9 : decode cX0_constructAll 9 = .ok (.iload_n 2, 1) := by decide +kernel
theorem dX0_constructAll_10 : decode cX0_constructAll 10 = .ok (.ishl, 1) := by decide +kernel
theorem dX0_constructAll_11 : decode cX0_constructAll 11 = .ok (.iand, 1) := by decide +kernel
theorem dX0_constructAll_12 : decode cX0_constructAll 12 = .ok (.ifCond .eq 8, 3) := by decide +kernel
theorem dX0_constructAll_15 : decode cX0_constructAll 15 = .ok (.aload_n 0, 1) := by decide +kernel
theorem dX0_constructAll_16 : decode cX0_constructAll 16 = .ok (.iload_n 2, 1) := by decide +kernel
theorem dX0_constructAll_17 : decode cX0_constructAll 17 = .ok (.invokevirtual 59, 3) := by decide +kernel
theorem dX0_constructAll_20 : decode cX0_constructAll 20 = .ok (.iinc 2 1, 3) := by decide +kernel
theorem dX0_constructAll_23 : decode cX0_constructAll 23 = .ok (.goto (-21), 3) := by decide +kernel
theorem dX0_constructAll_26 : decode cX0_constructAll 26 = .ok (.return_, 1) := by decide +kernel
theorem dX0_costOf_0 : decode cX0_costOf 0 = .ok (.iconst 0, 1) := by decide +kernel
theorem dX0_costOf_1 : decode cX0_costOf 1 = .ok (.istore_n 2, 1) := by decide +kernel
theorem dX0_costOf_2 : decode cX0_costOf 2 = .ok (.iconst 0, 1) := by decide +kernel
theorem dX0_costOf_3 : decode cX0_costOf 3 = .ok (.istore_n 3, 1) := by decide +kernel
theorem dX0_costOf_4 : decode cX0_costOf 4 = .ok (.iload_n 3, 1) := by decide +kernel
theorem dX0_costOf_5 : decode cX0_costOf 5 = .ok (.iconst 4, 1) := by decide +kernel
theorem dX0_costOf_6 : decode cX0_costOf 6 = .ok (.if_icmp .ge 26, 3) := by decide +kernel
theorem dX0_costOf_9 : decode cX0_costOf 9 = .ok (.iload_n 1, 1) := by decide +kernel
theorem dX0_costOf_10 : decode cX0_costOf 10 = .ok (.iconst 1, 1) := by decide +kernel
theorem dX0_costOf_11 : decode cX0_costOf 11 = .ok (.iload_n 3, 1) := by decide +kernel
theorem dX0_costOf_12 : decode cX0_costOf 12 = .ok (.ishl, 1) := by decide +kernel
theorem dX0_costOf_13 : decode cX0_costOf 13 = .ok (.iand, 1) := by decide +kernel
theorem dX0_costOf_14 : decode cX0_costOf 14 = .ok (.ifCond .eq 12, 3) := by decide +kernel
theorem dX0_costOf_17 : decode cX0_costOf 17 = .ok (.iload_n 2, 1) := by decide +kernel
theorem dX0_costOf_18 : decode cX0_costOf 18 = .ok (.aload_n 0, 1) := by decide +kernel
theorem dX0_costOf_19 : decode cX0_costOf 19 = .ok (.getfield 32, 3) := by decide +kernel
theorem dX0_costOf_22 : decode cX0_costOf 22 = .ok (.iload_n 3, 1) := by decide +kernel
theorem dX0_costOf_23 : decode cX0_costOf 23 = .ok (.iaload, 1) := by decide +kernel
theorem dX0_costOf_24 : decode cX0_costOf 24 = .ok (.iadd, 1) := by decide +kernel
theorem dX0_costOf_25 : decode cX0_costOf 25 = .ok (.istore_n 2, 1) := by decide +kernel
theorem dX0_costOf_26 : decode cX0_costOf 26 = .ok (.iinc 3 1, 3) := by decide +kernel
theorem dX0_costOf_29 : decode cX0_costOf 29 = .ok (.goto (-25), 3) := by decide +kernel
theorem dX0_costOf_32 : decode cX0_costOf 32 = .ok (.iload_n 2, 1) := by decide +kernel
theorem dX0_costOf_33 : decode cX0_costOf 33 = .ok (.ireturn, 1) := by decide +kernel
theorem dX0_measure_0 : decode cX0_measure 0 = .ok (.iload_n 1, 1) := by decide +kernel
theorem dX0_measure_1 : decode cX0_measure 1 = .ok (.tableswitch 90 0 6 #[43, 48, 53, 58, 66, 74, 82], 43) := by decide +kernel
theorem dX0_measure_44 : decode cX0_measure 44 = .ok (.aload_n 0, 1) := by decide +kernel
theorem dX0_measure_45 : decode cX0_measure 45 = .ok (.getfield 63, 3) := by decide +kernel
theorem dX0_measure_48 : decode cX0_measure 48 = .ok (.ireturn, 1) := by decide +kernel
theorem dX0_measure_49 : decode cX0_measure 49 = .ok (.aload_n 0, 1) := by decide +kernel
theorem dX0_measure_50 : decode cX0_measure 50 = .ok (.getfield 36, 3) := by decide +kernel
theorem dX0_measure_53 : decode cX0_measure 53 = .ok (.ireturn, 1) := by decide +kernel
theorem dX0_measure_54 : decode cX0_measure 54 = .ok (.aload_n 0, 1) := by decide +kernel
theorem dX0_measure_55 : decode cX0_measure 55 = .ok (.getfield 66, 3) := by decide +kernel
theorem dX0_measure_58 : decode cX0_measure 58 = .ok (.ireturn, 1) := by decide +kernel
theorem dX0_measure_59 : decode cX0_measure 59 = .ok (.aload_n 0, 1) := by decide +kernel
theorem dX0_measure_60 : decode cX0_measure 60 = .ok (.getfield 21, 3) := by decide +kernel
theorem dX0_measure_63 : decode cX0_measure 63 = .ok (.getfield 69, 3) := by decide +kernel
theorem dX0_measure_66 : decode cX0_measure 66 = .ok (.ireturn, 1) := by decide +kernel
theorem dX0_measure_67 : decode cX0_measure 67 = .ok (.aload_n 0, 1) := by decide +kernel
theorem dX0_measure_68 : decode cX0_measure 68 = .ok (.getfield 21, 3) := by decide +kernel
theorem dX0_measure_71 : decode cX0_measure 71 = .ok (.getfield 72, 3) := by decide +kernel
theorem dX0_measure_74 : decode cX0_measure 74 = .ok (.ireturn, 1) := by decide +kernel
theorem dX0_measure_75 : decode cX0_measure 75 = .ok (.aload_n 0, 1) := by decide +kernel
theorem dX0_measure_76 : decode cX0_measure 76 = .ok (.getfield 21, 3) := by decide +kernel
theorem dX0_measure_79 : decode cX0_measure 79 = .ok (.getfield 75, 3) := by decide +kernel
theorem dX0_measure_82 : decode cX0_measure 82 = .ok (.ireturn, 1) := by decide +kernel
theorem dX0_measure_83 : decode cX0_measure 83 = .ok (.aload_n 0, 1) := by decide +kernel
theorem dX0_measure_84 : decode cX0_measure 84 = .ok (.getfield 21, 3) := by decide +kernel
theorem dX0_measure_87 : decode cX0_measure 87 = .ok (.getfield 78, 3) := by decide +kernel
theorem dX0_measure_90 : decode cX0_measure 90 = .ok (.ireturn, 1) := by decide +kernel
theorem dX0_measure_91 : decode cX0_measure 91 = .ok (.aload_n 0, 1) := by decide +kernel
theorem dX0_measure_92 : decode cX0_measure 92 = .ok (.getfield 21, 3) := by decide +kernel
theorem dX0_measure_95 : decode cX0_measure 95 = .ok (.getfield 50, 3) := by decide +kernel
theorem dX0_measure_98 : decode cX0_measure 98 = .ok (.ireturn, 1) := by decide +kernel
theorem dX0_putMeasure_0 : decode cX0_putMeasure 0 = .ok (.iload_n 1, 1) := by decide +kernel
theorem dX0_putMeasure_1 : decode cX0_putMeasure 1 = .ok (.tableswitch 111 0 6 #[43, 51, 59, 67, 78, 89, 100], 43) := by decide +kernel
theorem dX0_putMeasure_44 : decode cX0_putMeasure 44 = .ok (.aload_n 0, 1) := by decide +kernel
theorem dX0_putMeasure_45 : decode cX0_putMeasure 45 = .ok (.iload_n 2, 1) := by decide +kernel
theorem dX0_putMeasure_46 : decode cX0_putMeasure 46 = .ok (.putfield 63, 3) := by decide +kernel
theorem dX0_putMeasure_49 : decode cX0_putMeasure 49 = .ok (.goto 71, 3) := by decide +kernel
theorem dX0_putMeasure_52 : decode cX0_putMeasure 52 = .ok (.aload_n 0, 1) := by decide +kernel
theorem dX0_putMeasure_53 : decode cX0_putMeasure 53 = .ok (.iload_n 2, 1) := by decide +kernel
theorem dX0_putMeasure_54 : decode cX0_putMeasure 54 = .ok (.putfield 36, 3) := by decide +kernel
theorem dX0_putMeasure_57 : decode cX0_putMeasure 57 = .ok (.goto 63, 3) := by decide +kernel
theorem dX0_putMeasure_60 : decode cX0_putMeasure 60 = .ok (.aload_n 0, 1) := by decide +kernel
theorem dX0_putMeasure_61 : decode cX0_putMeasure 61 = .ok (.iload_n 2, 1) := by decide +kernel
theorem dX0_putMeasure_62 : decode cX0_putMeasure 62 = .ok (.putfield 66, 3) := by decide +kernel
theorem dX0_putMeasure_65 : decode cX0_putMeasure 65 = .ok (.goto 55, 3) := by decide +kernel
theorem dX0_putMeasure_68 : decode cX0_putMeasure 68 = .ok (.aload_n 0, 1) := by decide +kernel
theorem dX0_putMeasure_69 : decode cX0_putMeasure 69 = .ok (.getfield 21, 3) := by decide +kernel
theorem dX0_putMeasure_72 : decode cX0_putMeasure 72 = .ok (.iload_n 2, 1) := by decide +kernel
theorem dX0_putMeasure_73 : decode cX0_putMeasure 73 = .ok (.putfield 69, 3) := by decide +kernel
theorem dX0_putMeasure_76 : decode cX0_putMeasure 76 = .ok (.goto 44, 3) := by decide +kernel
theorem dX0_putMeasure_79 : decode cX0_putMeasure 79 = .ok (.aload_n 0, 1) := by decide +kernel
theorem dX0_putMeasure_80 : decode cX0_putMeasure 80 = .ok (.getfield 21, 3) := by decide +kernel
theorem dX0_putMeasure_83 : decode cX0_putMeasure 83 = .ok (.iload_n 2, 1) := by decide +kernel
theorem dX0_putMeasure_84 : decode cX0_putMeasure 84 = .ok (.putfield 72, 3) := by decide +kernel
theorem dX0_putMeasure_87 : decode cX0_putMeasure 87 = .ok (.goto 33, 3) := by decide +kernel
theorem dX0_putMeasure_90 : decode cX0_putMeasure 90 = .ok (.aload_n 0, 1) := by decide +kernel
theorem dX0_putMeasure_91 : decode cX0_putMeasure 91 = .ok (.getfield 21, 3) := by decide +kernel
theorem dX0_putMeasure_94 : decode cX0_putMeasure 94 = .ok (.iload_n 2, 1) := by decide +kernel
theorem dX0_putMeasure_95 : decode cX0_putMeasure 95 = .ok (.putfield 75, 3) := by decide +kernel
theorem dX0_putMeasure_98 : decode cX0_putMeasure 98 = .ok (.goto 22, 3) := by decide +kernel
theorem dX0_putMeasure_101 : decode cX0_putMeasure 101 = .ok (.aload_n 0, 1) := by decide +kernel
theorem dX0_putMeasure_102 : decode cX0_putMeasure 102 = .ok (.getfield 21, 3) := by decide +kernel
theorem dX0_putMeasure_105 : decode cX0_putMeasure 105 = .ok (.iload_n 2, 1) := by decide +kernel
theorem dX0_putMeasure_106 : decode cX0_putMeasure 106 = .ok (.putfield 78, 3) := by decide +kernel
theorem dX0_putMeasure_109 : decode cX0_putMeasure 109 = .ok (.goto 11, 3) := by decide +kernel
theorem dX0_putMeasure_112 : decode cX0_putMeasure 112 = .ok (.aload_n 0, 1) := by decide +kernel
theorem dX0_putMeasure_113 : decode cX0_putMeasure 113 = .ok (.getfield 21, 3) := by decide +kernel
theorem dX0_putMeasure_116 : decode cX0_putMeasure 116 = .ok (.iload_n 2, 1) := by decide +kernel
theorem dX0_putMeasure_117 : decode cX0_putMeasure 117 = .ok (.putfield 50, 3) := by decide +kernel
theorem dX0_putMeasure_120 : decode cX0_putMeasure 120 = .ok (.return_, 1) := by decide +kernel
set_option maxRecDepth 20000 in
theorem ggX0_comesOf_X0_has : GoodIn wsX0_comesOf wsX0_has := goodIn_r _ [17, 18, 19, 20, 21, 22, 23, 24, 25, 26, 27, 28, 29, 30, 31] (by decide +kernel) (by decide +kernel)
set_option maxRecDepth 20000 in
theorem gX0_comesOf_X0_has : GoodIn wsX0_comesOf (wsV RX0 87 RX0 yX0_has wsX0_has) := goodIn_app (goodIn_of _ (by decide +kernel)) ggX0_comesOf_X0_has
theorem dX0_comesOf_0 : decode cX0_comesOf 0 = .ok (.aload_n 0, 1) := by decide +kernel
theorem dX0_comesOf_1 : decode cX0_comesOf 1 = .ok (.getfield 12, 3) := by decide +kernel
theorem dX0_comesOf_4 : decode cX0_comesOf 4 = .ok (.getfield 81, 3) := by decide +kernel
theorem dX0_comesOf_7 : decode cX0_comesOf 7 = .ok (.iload_n 1, 1) := by decide +kernel
theorem dX0_comesOf_8 : decode cX0_comesOf 8 = .ok (.iaload, 1) := by decide +kernel
theorem dX0_comesOf_9 : decode cX0_comesOf 9 = .ok (.istore_n 2, 1) := by decide +kernel
theorem dX0_comesOf_10 : decode cX0_comesOf 10 = .ok (.aload_n 0, 1) := by decide +kernel
theorem dX0_comesOf_11 : decode cX0_comesOf 11 = .ok (.getfield 12, 3) := by decide +kernel
theorem dX0_comesOf_14 : decode cX0_comesOf 14 = .ok (.getfield 84, 3) := by decide +kernel
theorem dX0_comesOf_17 : decode cX0_comesOf 17 = .ok (.iload_n 1, 1) := by decide +kernel
theorem dX0_comesOf_18 : decode cX0_comesOf 18 = .ok (.iaload, 1) := by decide +kernel
theorem dX0_comesOf_19 : decode cX0_comesOf 19 = .ok (.istore_n 3, 1) := by decide +kernel
theorem dX0_comesOf_20 : decode cX0_comesOf 20 = .ok (.aload_n 0, 1) := by decide +kernel
theorem dX0_comesOf_21 : decode cX0_comesOf 21 = .ok (.iconst 0, 1) := by decide +kernel
theorem dX0_comesOf_22 : decode cX0_comesOf 22 = .ok (.invokevirtual 87, 3) := by decide +kernel
theorem dX0_comesOf_25 : decode cX0_comesOf 25 = .ok (.istore 4, 2) := by decide +kernel
theorem dX0_comesOf_27 : decode cX0_comesOf 27 = .ok (.iload 4, 2) := by decide +kernel
theorem dX0_comesOf_29 : decode cX0_comesOf 29 = .ok (.ifCond .eq 17, 3) := by decide +kernel
theorem dX0_comesOf_32 : decode cX0_comesOf 32 = .ok (.iload_n 2, 1) := by decide +kernel
theorem dX0_comesOf_33 : decode cX0_comesOf 33 = .ok (.aload_n 0, 1) := by decide +kernel
theorem dX0_comesOf_34 : decode cX0_comesOf 34 = .ok (.getfield 36, 3) := by decide +kernel
theorem dX0_comesOf_37 : decode cX0_comesOf 37 = .ok (.imul, 1) := by decide +kernel
theorem dX0_comesOf_38 : decode cX0_comesOf 38 = .ok (.bipush 100, 2) := by decide +kernel
theorem dX0_comesOf_40 : decode cX0_comesOf 40 = .ok (.idiv, 1) := by decide +kernel
theorem dX0_comesOf_41 : decode cX0_comesOf 41 = .ok (.iconst 2, 1) := by decide +kernel
theorem dX0_comesOf_42 : decode cX0_comesOf 42 = .ok (.idiv, 1) := by decide +kernel
theorem dX0_comesOf_43 : decode cX0_comesOf 43 = .ok (.goto 12, 3) := by decide +kernel
theorem dX0_comesOf_46 : decode cX0_comesOf 46 = .ok (.iload_n 2, 1) := by decide +kernel
theorem dX0_comesOf_47 : decode cX0_comesOf 47 = .ok (.aload_n 0, 1) := by decide +kernel
theorem dX0_comesOf_48 : decode cX0_comesOf 48 = .ok (.getfield 36, 3) := by decide +kernel
theorem dX0_comesOf_51 : decode cX0_comesOf 51 = .ok (.imul, 1) := by decide +kernel
theorem dX0_comesOf_52 : decode cX0_comesOf 52 = .ok (.bipush 100, 2) := by decide +kernel
theorem dX0_comesOf_54 : decode cX0_comesOf 54 = .ok (.idiv, 1) := by decide +kernel
theorem dX0_comesOf_55 : decode cX0_comesOf 55 = .ok (.istore 5, 2) := by decide +kernel
theorem dX0_comesOf_57 : decode cX0_comesOf 57 = .ok (.aload_n 0, 1) := by decide +kernel
theorem dX0_comesOf_58 : decode cX0_comesOf 58 = .ok (.getfield 12, 3) := by decide +kernel
theorem dX0_comesOf_61 : decode cX0_comesOf 61 = .ok (.getfield 91, 3) := by decide +kernel
theorem dX0_comesOf_64 : decode cX0_comesOf 64 = .ok (.iload_n 1, 1) := by decide +kernel
theorem dX0_comesOf_65 : decode cX0_comesOf 65 = .ok (.iaload, 1) := by decide +kernel
theorem dX0_comesOf_66 : decode cX0_comesOf 66 = .ok (.tableswitch 113 1 6 #[38, 41, 54, 78, 83, 97], 38) := by decide +kernel
theorem dX0_comesOf_104 : decode cX0_comesOf 104 = .ok (.iload 5, 2) := by decide +kernel
theorem dX0_comesOf_106 : decode cX0_comesOf 106 = .ok (.ireturn, 1) := by decide +kernel
theorem dX0_comesOf_107 : decode cX0_comesOf 107 = .ok (.iload_n 2, 1) := by decide +kernel
theorem dX0_comesOf_108 : decode cX0_comesOf 108 = .ok (.iconst 0, 1) := by decide +kernel
theorem dX0_comesOf_109 : decode cX0_comesOf 109 = .ok (.aload_n 0, 1) := by decide +kernel
theorem dX0_comesOf_110 : decode cX0_comesOf 110 = .ok (.getfield 63, 3) := by decide +kernel
theorem dX0_comesOf_113 : decode cX0_comesOf 113 = .ok (.iload_n 3, 1) := by decide +kernel
theorem dX0_comesOf_114 : decode cX0_comesOf 114 = .ok (.isub, 1) := by decide +kernel
theorem dX0_comesOf_115 : decode cX0_comesOf 115 = .ok (.invokestatic 94, 3) := by decide +kernel
theorem dX0_comesOf_118 : decode cX0_comesOf 118 = .ok (.imul, 1) := by decide +kernel
theorem dX0_comesOf_119 : decode cX0_comesOf 119 = .ok (.ireturn, 1) := by decide +kernel
theorem dX0_comesOf_120 : decode cX0_comesOf 120 = .ok (.aload_n 0, 1) := by decide +kernel
theorem dX0_comesOf_121 : decode cX0_comesOf 121 = .ok (.getfield 43, 3) := by decide +kernel
theorem dX0_comesOf_124 : decode cX0_comesOf 124 = .ok (.ifCond .eq 18, 3) := by decide +kernel
theorem dX0_comesOf_127 : decode cX0_comesOf 127 = .ok (.iload_n 2, 1) := by decide +kernel
theorem dX0_comesOf_128 : decode cX0_comesOf 128 = .ok (.iconst 0, 1) := by decide +kernel
theorem dX0_comesOf_129 : decode cX0_comesOf 129 = .ok (.aload_n 0, 1) := by decide +kernel
theorem dX0_comesOf_130 : decode cX0_comesOf 130 = .ok (.getfield 63, 3) := by decide +kernel
theorem dX0_comesOf_133 : decode cX0_comesOf 133 = .ok (.iload_n 3, 1) := by decide +kernel
theorem dX0_comesOf_134 : decode cX0_comesOf 134 = .ok (.isub, 1) := by decide +kernel
theorem dX0_comesOf_135 : decode cX0_comesOf 135 = .ok (.invokestatic 94, 3) := by decide +kernel
theorem dX0_comesOf_138 : decode cX0_comesOf 138 = .ok (.imul, 1) := by decide +kernel
theorem dX0_comesOf_139 : decode cX0_comesOf 139 = .ok (.goto 4, 3) := by decide +kernel
theorem dX0_comesOf_142 : decode cX0_comesOf 142 = .ok (.iconst 0, 1) := by decide +kernel
theorem dX0_comesOf_143 : decode cX0_comesOf 143 = .ok (.ireturn, 1) := by decide +kernel
theorem dX0_comesOf_144 : decode cX0_comesOf 144 = .ok (.iload 5, 2) := by decide +kernel
theorem dX0_comesOf_146 : decode cX0_comesOf 146 = .ok (.iconst 2, 1) := by decide +kernel
theorem dX0_comesOf_147 : decode cX0_comesOf 147 = .ok (.idiv, 1) := by decide +kernel
theorem dX0_comesOf_148 : decode cX0_comesOf 148 = .ok (.ireturn, 1) := by decide +kernel
theorem dX0_comesOf_149 : decode cX0_comesOf 149 = .ok (.aload_n 0, 1) := by decide +kernel
theorem dX0_comesOf_150 : decode cX0_comesOf 150 = .ok (.getfield 97, 3) := by decide +kernel
theorem dX0_comesOf_153 : decode cX0_comesOf 153 = .ok (.iload_n 3, 1) := by decide +kernel
theorem dX0_comesOf_154 : decode cX0_comesOf 154 = .ok (.if_icmp .lt 7, 3) := by decide +kernel
theorem dX0_comesOf_157 : decode cX0_comesOf 157 = .ok (.iload_n 2, 1) := by decide +kernel
theorem dX0_comesOf_158 : decode cX0_comesOf 158 = .ok (.goto 4, 3) := by decide +kernel
theorem dX0_comesOf_161 : decode cX0_comesOf 161 = .ok (.iconst 0, 1) := by decide +kernel
theorem dX0_comesOf_162 : decode cX0_comesOf 162 = .ok (.ireturn, 1) := by decide +kernel
theorem dX0_comesOf_163 : decode cX0_comesOf 163 = .ok (.iload 5, 2) := by decide +kernel
theorem dX0_comesOf_165 : decode cX0_comesOf 165 = .ok (.iconst 2, 1) := by decide +kernel
theorem dX0_comesOf_166 : decode cX0_comesOf 166 = .ok (.idiv, 1) := by decide +kernel
theorem dX0_comesOf_167 : decode cX0_comesOf 167 = .ok (.iload 4, 2) := by decide +kernel
theorem dX0_comesOf_169 : decode cX0_comesOf 169 = .ok (.ifCond .eq 7, 3) := by decide +kernel
theorem dX0_comesOf_172 : decode cX0_comesOf 172 = .ok (.iload_n 2, 1) := by decide +kernel
theorem dX0_comesOf_173 : decode cX0_comesOf 173 = .ok (.goto 4, 3) := by decide +kernel
theorem dX0_comesOf_176 : decode cX0_comesOf 176 = .ok (.iconst 0, 1) := by decide +kernel
theorem dX0_comesOf_177 : decode cX0_comesOf 177 = .ok (.iadd, 1) := by decide +kernel
theorem dX0_comesOf_178 : decode cX0_comesOf 178 = .ok (.ireturn, 1) := by decide +kernel
theorem dX0_comesOf_179 : decode cX0_comesOf 179 = .ok (.iload_n 2, 1) := by decide +kernel
theorem dX0_comesOf_180 : decode cX0_comesOf 180 = .ok (.ireturn, 1) := by decide +kernel
set_option maxRecDepth 20000 in
theorem ggX0_passMinutes_X0_passMinute : GoodIn wsX0_passMinutes wsX0_passMinute := goodIn_r _ [5, 6, 7, 8, 9, 10, 11, 12, 13, 14, 15, 16, 17, 18, 4, 19, 20, 21, 22, 23, 24, 25, 26, 27, 28, 29, 30, 31, 32, 33, 34, 35, 36, 37, 38, 39, 40, 41, 42, 43, 44, 45, 46, 47, 48, 49, 50, 51, 52, 53, 54, 55, 56, 57, 58, 59, 60, 61, 62, 63, 64, 65, 66, 67, 68, 69, 70, 71, 72, 73, 74, 75, 76, 77, 78, 79, 80, 81, 82, 83, 84, 85, 86, 87, 88, 89, 90, 91, 92, 93, 94, 95, 96, 97, 98, 99, 100, 101, 102, 103, 104, 105, 106, 107, 108, 109, 110, 111, 112, 113, 114, 115, 116, 117, 118] (by decide +kernel) (by decide +kernel)
set_option maxRecDepth 20000 in
theorem gX0_passMinutes_X0_passMinute : GoodIn wsX0_passMinutes (wsV RX0 100 RX0 yX0_passMinute wsX0_passMinute) := goodIn_app (goodIn_of _ (by decide +kernel)) ggX0_passMinutes_X0_passMinute
theorem dX0_passMinutes_0 : decode cX0_passMinutes 0 = .ok (.iconst 0, 1) := by decide +kernel
theorem dX0_passMinutes_1 : decode cX0_passMinutes 1 = .ok (.istore_n 2, 1) := by decide +kernel
theorem dX0_passMinutes_2 : decode cX0_passMinutes 2 = .ok (.iload_n 2, 1) := by decide +kernel
theorem dX0_passMinutes_3 : decode cX0_passMinutes 3 = .ok (.iload_n 1, 1) := by decide +kernel
theorem dX0_passMinutes_4 : decode cX0_passMinutes 4 = .ok (.if_icmp .ge 13, 3) := by decide +kernel
theorem dX0_passMinutes_7 : decode cX0_passMinutes 7 = .ok (.aload_n 0, 1) := by decide +kernel
theorem dX0_passMinutes_8 : decode cX0_passMinutes 8 = .ok (.invokevirtual 100, 3) := by decide +kernel
theorem dX0_passMinutes_11 : decode cX0_passMinutes 11 = .ok (.iinc 2 1, 3) := by decide +kernel
theorem dX0_passMinutes_14 : decode cX0_passMinutes 14 = .ok (.goto (-12), 3) := by decide +kernel
theorem dX0_passMinutes_17 : decode cX0_passMinutes 17 = .ok (.return_, 1) := by decide +kernel
set_option maxRecDepth 20000 in
theorem ggX0_passMinute_X0_soakGround : GoodIn wsX0_passMinute wsX0_soakGround := goodIn_r _ [15, 16, 17, 18, 19, 9, 20, 80, 81, 82, 83, 84, 85, 86, 87, 88, 89, 90, 91, 92] (by decide +kernel) (by decide +kernel)
set_option maxRecDepth 20000 in
theorem gX0_passMinute_X0_soakGround : GoodIn wsX0_passMinute (wsV RX0 103 RX0 yX0_soakGround wsX0_soakGround) := goodIn_app (goodIn_of _ (by decide +kernel)) ggX0_passMinute_X0_soakGround
set_option maxRecDepth 20000 in
theorem ggX0_passMinute_X0_takeIn : GoodIn wsX0_passMinute wsX0_takeIn := goodIn_r _ [24, 25, 26, 27, 28, 29, 30, 31, 14, 32, 33, 34, 16, 35, 17, 7, 8, 9, 10, 36, 4, 37, 38, 39, 40, 41, 80, 81, 82, 83, 84, 85, 86, 87, 88, 89, 90, 91, 92, 93, 94, 95, 96, 97] (by decide +kernel) (by decide +kernel)
set_option maxRecDepth 20000 in
theorem gX0_passMinute_X0_takeIn : GoodIn wsX0_passMinute (wsV RX0 106 RX0 yX0_takeIn wsX0_takeIn) := goodIn_app (goodIn_of _ (by decide +kernel)) ggX0_passMinute_X0_takeIn
set_option maxRecDepth 20000 in
theorem ggX0_passMinute_X4_leaves : GoodIn wsX0_passMinute wsX4_leaves := goodIn_r _ [46, 47, 48, 49, 50, 51, 52, 53, 19, 9, 20, 54, 55, 56, 57, 58, 45, 59, 60, 61, 62, 63, 64, 65, 66, 67, 68, 69, 70, 98, 99, 100, 101, 102, 103, 104, 105, 106, 107, 108] (by decide +kernel) (by decide +kernel)
set_option maxRecDepth 20000 in
theorem gX0_passMinute_X4_leaves : GoodIn wsX0_passMinute (wsV RX0 113 RX4 yX4_leaves wsX4_leaves) := goodIn_app (goodIn_of _ (by decide +kernel)) ggX0_passMinute_X4_leaves
set_option maxRecDepth 20000 in
theorem ggX0_passMinute_X9_standIn : GoodIn wsX0_passMinute wsX9_standIn := goodIn_r _ [75, 76, 77, 78, 79, 109, 110, 111, 112, 113, 114] (by decide +kernel) (by decide +kernel)
set_option maxRecDepth 20000 in
theorem gX0_passMinute_X9_standIn : GoodIn wsX0_passMinute (wsV RX0 116 RX9 yX9_standIn wsX9_standIn) := goodIn_app (goodIn_of _ (by decide +kernel)) ggX0_passMinute_X9_standIn
theorem dX0_passMinute_0 : decode cX0_passMinute 0 = .ok (.aload_n 0, 1) := by decide +kernel
theorem dX0_passMinute_1 : decode cX0_passMinute 1 = .ok (.invokevirtual 103, 3) := by decide +kernel
theorem dX0_passMinute_4 : decode cX0_passMinute 4 = .ok (.aload_n 0, 1) := by decide +kernel
theorem dX0_passMinute_5 : decode cX0_passMinute 5 = .ok (.dup, 1) := by decide +kernel
theorem dX0_passMinute_6 : decode cX0_passMinute 6 = .ok (.getfield 66, 3) := by decide +kernel
theorem dX0_passMinute_9 : decode cX0_passMinute 9 = .ok (.aload_n 0, 1) := by decide +kernel
theorem dX0_passMinute_10 : decode cX0_passMinute 10 = .ok (.invokevirtual 106, 3) := by decide +kernel
theorem dX0_passMinute_13 : decode cX0_passMinute 13 = .ok (.iadd, 1) := by decide +kernel
theorem dX0_passMinute_14 : decode cX0_passMinute 14 = .ok (.putfield 66, 3) := by decide +kernel
theorem dX0_passMinute_17 : decode cX0_passMinute 17 = .ok (.aload_n 0, 1) := by decide +kernel
theorem dX0_passMinute_18 : decode cX0_passMinute 18 = .ok (.getfield 66, 3) := by decide +kernel
theorem dX0_passMinute_21 : decode cX0_passMinute 21 = .ok (.sipush 9999, 3) := by decide +kernel
theorem dX0_passMinute_24 : decode cX0_passMinute 24 = .ok (.if_icmp .le 27, 3) := by decide +kernel
theorem dX0_passMinute_27 : decode cX0_passMinute 27 = .ok (.aload_n 0, 1) := by decide +kernel
theorem dX0_passMinute_28 : decode cX0_passMinute 28 = .ok (.dup, 1) := by decide +kernel
theorem dX0_passMinute_29 : decode cX0_passMinute 29 = .ok (.getfield 110, 3) := by decide +kernel
theorem dX0_passMinute_32 : decode cX0_passMinute 32 = .ok (.aload_n 0, 1) := by decide +kernel
theorem dX0_passMinute_33 : decode cX0_passMinute 33 = .ok (.getfield 66, 3) := by decide +kernel
theorem dX0_passMinute_36 : decode cX0_passMinute 36 = .ok (.sipush 9999, 3) := by decide +kernel
theorem dX0_passMinute_39 : decode cX0_passMinute 39 = .ok (.isub, 1) := by decide +kernel
theorem dX0_passMinute_40 : decode cX0_passMinute 40 = .ok (.iadd, 1) := by decide +kernel
theorem dX0_passMinute_41 : decode cX0_passMinute 41 = .ok (.putfield 110, 3) := by decide +kernel
theorem dX0_passMinute_44 : decode cX0_passMinute 44 = .ok (.aload_n 0, 1) := by decide +kernel
theorem dX0_passMinute_45 : decode cX0_passMinute 45 = .ok (.sipush 9999, 3) := by decide +kernel
theorem dX0_passMinute_48 : decode cX0_passMinute 48 = .ok (.putfield 66, 3) := by decide +kernel
theorem dX0_passMinute_51 : decode cX0_passMinute 51 = .ok (.aload_n 0, 1) := by decide +kernel
theorem dX0_passMinute_52 : decode cX0_passMinute 52 = .ok (.aload_n 0, 1) := by decide +kernel
theorem dX0_passMinute_53 : decode cX0_passMinute 53 = .ok (.getfield 21, 3) := by decide +kernel
theorem dX0_passMinute_56 : decode cX0_passMinute 56 = .ok (.aload_n 0, 1) := by decide +kernel
theorem dX0_passMinute_57 : decode cX0_passMinute 57 = .ok (.getfield 66, 3) := by decide +kernel
theorem dX0_passMinute_60 : decode cX0_passMinute 60 = .ok (.aload_n 0, 1) := by decide +kernel
theorem dX0_passMinute_61 : decode cX0_passMinute 61 = .ok (.getfield 97, 3) := by decide +kernel
theorem dX0_passMinute_64 : decode cX0_passMinute 64 = .ok (.invokevirtual 113, 3) := by decide +kernel
theorem dX0_passMinute_67 : decode cX0_passMinute 67 = .ok (.putfield 66, 3) := by decide +kernel
theorem dX0_passMinute_70 : decode cX0_passMinute 70 = .ok (.aload_n 0, 1) := by decide +kernel
theorem dX0_passMinute_71 : decode cX0_passMinute 71 = .ok (.dup, 1) := by decide +kernel
theorem dX0_passMinute_72 : decode cX0_passMinute 72 = .ok (.getfield 97, 3) := by decide +kernel
theorem dX0_passMinute_75 : decode cX0_passMinute 75 = .ok (.iconst 1, 1) := by decide +kernel
theorem dX0_passMinute_76 : decode cX0_passMinute 76 = .ok (.iadd, 1) := by decide +kernel
theorem dX0_passMinute_77 : decode cX0_passMinute 77 = .ok (.putfield 97, 3) := by decide +kernel
theorem dX0_passMinute_80 : decode cX0_passMinute 80 = .ok (.aload_n 0, 1) := by decide +kernel
theorem dX0_passMinute_81 : decode cX0_passMinute 81 = .ok (.getfield 28, 3) := by decide +kernel
theorem dX0_passMinute_84 : decode cX0_passMinute 84 = .ok (.aload_n 0, 1) := by decide +kernel
theorem dX0_passMinute_85 : decode cX0_passMinute 85 = .ok (.getfield 66, 3) := by decide +kernel
theorem dX0_passMinute_88 : decode cX0_passMinute 88 = .ok (.invokevirtual 116, 3) := by decide +kernel
theorem dX0_passMinute_91 : decode cX0_passMinute 91 = .ok (.aload_n 0, 1) := by decide +kernel
theorem dX0_passMinute_92 : decode cX0_passMinute 92 = .ok (.aload_n 0, 1) := by decide +kernel
theorem dX0_passMinute_93 : decode cX0_passMinute 93 = .ok (.getfield 119, 3) := by decide +kernel
theorem dX0_passMinute_96 : decode cX0_passMinute 96 = .ok (.aload_n 0, 1) := by decide +kernel
theorem dX0_passMinute_97 : decode cX0_passMinute 97 = .ok (.getfield 66, 3) := by decide +kernel
theorem dX0_passMinute_100 : decode cX0_passMinute 100 = .ok (.invokestatic 94, 3) := by decide +kernel
theorem dX0_passMinute_103 : decode cX0_passMinute 103 = .ok (.putfield 119, 3) := by decide +kernel
theorem dX0_passMinute_106 : decode cX0_passMinute 106 = .ok (.return_, 1) := by decide +kernel
theorem dX0_soakGround_0 : decode cX0_soakGround 0 = .ok (.aload_n 0, 1) := by decide +kernel
theorem dX0_soakGround_1 : decode cX0_soakGround 1 = .ok (.dup, 1) := by decide +kernel
theorem dX0_soakGround_2 : decode cX0_soakGround 2 = .ok (.getfield 36, 3) := by decide +kernel
theorem dX0_soakGround_5 : decode cX0_soakGround 5 = .ok (.aload_n 0, 1) := by decide +kernel
theorem dX0_soakGround_6 : decode cX0_soakGround 6 = .ok (.getfield 63, 3) := by decide +kernel
theorem dX0_soakGround_9 : decode cX0_soakGround 9 = .ok (.iadd, 1) := by decide +kernel
theorem dX0_soakGround_10 : decode cX0_soakGround 10 = .ok (.putfield 36, 3) := by decide +kernel
theorem dX0_soakGround_13 : decode cX0_soakGround 13 = .ok (.aload_n 0, 1) := by decide +kernel
theorem dX0_soakGround_14 : decode cX0_soakGround 14 = .ok (.dup, 1) := by decide +kernel
theorem dX0_soakGround_15 : decode cX0_soakGround 15 = .ok (.getfield 36, 3) := by decide +kernel
theorem dX0_soakGround_18 : decode cX0_soakGround 18 = .ok (.aload_n 0, 1) := by decide +kernel
theorem dX0_soakGround_19 : decode cX0_soakGround 19 = .ok (.getfield 36, 3) := by decide +kernel
theorem dX0_soakGround_22 : decode cX0_soakGround 22 = .ok (.bipush 50, 2) := by decide +kernel
theorem dX0_soakGround_24 : decode cX0_soakGround 24 = .ok (.idiv, 1) := by decide +kernel
theorem dX0_soakGround_25 : decode cX0_soakGround 25 = .ok (.isub, 1) := by decide +kernel
theorem dX0_soakGround_26 : decode cX0_soakGround 26 = .ok (.putfield 36, 3) := by decide +kernel
theorem dX0_soakGround_29 : decode cX0_soakGround 29 = .ok (.aload_n 0, 1) := by decide +kernel
theorem dX0_soakGround_30 : decode cX0_soakGround 30 = .ok (.aload_n 0, 1) := by decide +kernel
theorem dX0_soakGround_31 : decode cX0_soakGround 31 = .ok (.getfield 36, 3) := by decide +kernel
theorem dX0_soakGround_34 : decode cX0_soakGround 34 = .ok (.getstatic 122, 3) := by decide +kernel
theorem dX0_soakGround_37 : decode cX0_soakGround 37 = .ok (.iconst 1, 1) := by decide +kernel
theorem dX0_soakGround_38 : decode cX0_soakGround 38 = .ok (.iaload, 1) := by decide +kernel
theorem dX0_soakGround_39 : decode cX0_soakGround 39 = .ok (.invokestatic 53, 3) := by decide +kernel
theorem dX0_soakGround_42 : decode cX0_soakGround 42 = .ok (.putfield 36, 3) := by decide +kernel
theorem dX0_soakGround_45 : decode cX0_soakGround 45 = .ok (.return_, 1) := by decide +kernel
set_option maxRecDepth 20000 in
theorem ggX0_takeIn_X0_comesOf : GoodIn wsX0_takeIn wsX0_comesOf := goodIn_r _ [9, 1, 10, 11, 12, 13, 14, 15, 16, 17, 18, 19, 20, 21, 22, 23, 8, 24, 25, 26, 27, 28, 29, 30, 31, 32, 33, 34, 35, 36, 37, 38, 39, 40, 41, 42, 43] (by decide +kernel) (by decide +kernel)
set_option maxRecDepth 20000 in
theorem gX0_takeIn_X0_comesOf : GoodIn wsX0_takeIn (wsV RX0 128 RX0 yX0_comesOf wsX0_comesOf) := goodIn_app (goodIn_of _ (by decide +kernel)) ggX0_takeIn_X0_comesOf
theorem dX0_takeIn_0 : decode cX0_takeIn 0 = .ok (.iconst 0, 1) := by decide +kernel
theorem dX0_takeIn_1 : decode cX0_takeIn 1 = .ok (.istore_n 1, 1) := by decide +kernel
theorem dX0_takeIn_2 : decode cX0_takeIn 2 = .ok (.iconst 0, 1) := by decide +kernel
theorem dX0_takeIn_3 : decode cX0_takeIn 3 = .ok (.istore_n 2, 1) := by decide +kernel
theorem dX0_takeIn_4 : decode cX0_takeIn 4 = .ok (.iload_n 2, 1) := by decide +kernel
theorem dX0_takeIn_5 : decode cX0_takeIn 5 = .ok (.aload_n 0, 1) := by decide +kernel
theorem dX0_takeIn_6 : decode cX0_takeIn 6 = .ok (.getfield 12, 3) := by decide +kernel
theorem dX0_takeIn_9 : decode cX0_takeIn 9 = .ok (.getfield 125, 3) := by decide +kernel
theorem dX0_takeIn_12 : decode cX0_takeIn 12 = .ok (.if_icmp .ge 32, 3) := by decide +kernel
theorem dX0_takeIn_15 : decode cX0_takeIn 15 = .ok (.aload_n 0, 1) := by decide +kernel
theorem dX0_takeIn_16 : decode cX0_takeIn 16 = .ok (.iload_n 2, 1) := by decide +kernel
theorem dX0_takeIn_17 : decode cX0_takeIn 17 = .ok (.invokevirtual 128, 3) := by decide +kernel
theorem dX0_takeIn_20 : decode cX0_takeIn 20 = .ok (.istore_n 3, 1) := by decide +kernel
theorem dX0_takeIn_21 : decode cX0_takeIn 21 = .ok (.aload_n 0, 1) := by decide +kernel
theorem dX0_takeIn_22 : decode cX0_takeIn 22 = .ok (.getfield 12, 3) := by decide +kernel
theorem dX0_takeIn_25 : decode cX0_takeIn 25 = .ok (.getfield 132, 3) := by decide +kernel
theorem dX0_takeIn_28 : decode cX0_takeIn 28 = .ok (.iload_n 2, 1) := by decide +kernel
theorem dX0_takeIn_29 : decode cX0_takeIn 29 = .ok (.dup2, 1) := by decide +kernel
theorem dX0_takeIn_30 : decode cX0_takeIn 30 = .ok (.iaload, 1) := by decide +kernel
theorem dX0_takeIn_31 : decode cX0_takeIn 31 = .ok (.iload_n 3, 1) := by decide +kernel
theorem dX0_takeIn_32 : decode cX0_takeIn 32 = .ok (.iadd, 1) := by decide +kernel
theorem dX0_takeIn_33 : decode cX0_takeIn 33 = .ok (.iastore, 1) := by decide +kernel
theorem dX0_takeIn_34 : decode cX0_takeIn 34 = .ok (.iload_n 1, 1) := by decide +kernel
theorem dX0_takeIn_35 : decode cX0_takeIn 35 = .ok (.iload_n 3, 1) := by decide +kernel
theorem dX0_takeIn_36 : decode cX0_takeIn 36 = .ok (.iadd, 1) := by decide +kernel
theorem dX0_takeIn_37 : decode cX0_takeIn 37 = .ok (.istore_n 1, 1) := by decide +kernel
theorem dX0_takeIn_38 : decode cX0_takeIn 38 = .ok (.iinc 2 1, 3) := by decide +kernel
theorem dX0_takeIn_41 : decode cX0_takeIn 41 = .ok (.goto (-37), 3) := by decide +kernel
theorem dX0_takeIn_44 : decode cX0_takeIn 44 = .ok (.aload_n 0, 1) := by decide +kernel
theorem dX0_takeIn_45 : decode cX0_takeIn 45 = .ok (.dup, 1) := by decide +kernel
theorem dX0_takeIn_46 : decode cX0_takeIn 46 = .ok (.getfield 135, 3) := by decide +kernel
theorem dX0_takeIn_49 : decode cX0_takeIn 49 = .ok (.iload_n 1, 1) := by decide +kernel
theorem dX0_takeIn_50 : decode cX0_takeIn 50 = .ok (.iadd, 1) := by decide +kernel
theorem dX0_takeIn_51 : decode cX0_takeIn 51 = .ok (.putfield 135, 3) := by decide +kernel
theorem dX0_takeIn_54 : decode cX0_takeIn 54 = .ok (.iload_n 1, 1) := by decide +kernel
theorem dX0_takeIn_55 : decode cX0_takeIn 55 = .ok (.ireturn, 1) := by decide +kernel
set_option maxRecDepth 20000 in
theorem ggX0_undergo_X0_has : GoodIn wsX0_undergo wsX0_has := goodIn_r _ [15, 16, 17, 18, 19, 20, 21, 22, 23, 24, 25, 26, 27, 28, 29] (by decide +kernel) (by decide +kernel)
set_option maxRecDepth 20000 in
theorem gX0_undergo_X0_has : GoodIn wsX0_undergo (wsV RX0 87 RX0 yX0_has wsX0_has) := goodIn_app (goodIn_of _ (by decide +kernel)) ggX0_undergo_X0_has
theorem dX0_undergo_0 : decode cX0_undergo 0 = .ok (.iload_n 1, 1) := by decide +kernel
theorem dX0_undergo_1 : decode cX0_undergo 1 = .ok (.tableswitch 120 0 5 #[39, 120, 47, 67, 92, 103], 39) := by decide +kernel
theorem dX0_undergo_40 : decode cX0_undergo 40 = .ok (.aload_n 0, 1) := by decide +kernel
theorem dX0_undergo_41 : decode cX0_undergo 41 = .ok (.iload_n 2, 1) := by decide +kernel
theorem dX0_undergo_42 : decode cX0_undergo 42 = .ok (.putfield 63, 3) := by decide +kernel
theorem dX0_undergo_45 : decode cX0_undergo 45 = .ok (.goto 76, 3) := by decide +kernel
theorem dX0_undergo_48 : decode cX0_undergo 48 = .ok (.aload_n 0, 1) := by decide +kernel
theorem dX0_undergo_49 : decode cX0_undergo 49 = .ok (.getfield 21, 3) := by decide +kernel
theorem dX0_undergo_52 : decode cX0_undergo 52 = .ok (.iload_n 2, 1) := by decide +kernel
theorem dX0_undergo_53 : decode cX0_undergo 53 = .ok (.iconst 1, 1) := by decide +kernel
theorem dX0_undergo_54 : decode cX0_undergo 54 = .ok (.if_icmp .ne 7, 3) := by decide +kernel
theorem dX0_undergo_57 : decode cX0_undergo 57 = .ok (.iconst 1, 1) := by decide +kernel
theorem dX0_undergo_58 : decode cX0_undergo 58 = .ok (.goto 4, 3) := by decide +kernel
theorem dX0_undergo_61 : decode cX0_undergo 61 = .ok (.iconst 0, 1) := by decide +kernel
theorem dX0_undergo_62 : decode cX0_undergo 62 = .ok (.putfield 138, 3) := by decide +kernel
theorem dX0_undergo_65 : decode cX0_undergo 65 = .ok (.goto 56, 3) := by decide +kernel
theorem dX0_undergo_68 : decode cX0_undergo 68 = .ok (.aload_n 0, 1) := by decide +kernel
theorem dX0_undergo_69 : decode cX0_undergo 69 = .ok (.iload_n 2, 1) := by decide +kernel
theorem dX0_undergo_70 : decode cX0_undergo 70 = .ok (.iconst 1, 1) := by decide +kernel
theorem dX0_undergo_71 : decode cX0_undergo 71 = .ok (.if_icmp .ne 15, 3) := by decide +kernel
theorem dX0_undergo_74 : decode cX0_undergo 74 = .ok (.aload_n 0, 1) := by decide +kernel
theorem dX0_undergo_75 : decode cX0_undergo 75 = .ok (.iconst 1, 1) := by decide +kernel
theorem dX0_undergo_76 : decode cX0_undergo 76 = .ok (.invokevirtual 87, 3) := by decide +kernel
theorem dX0_undergo_79 : decode cX0_undergo 79 = .ok (.ifCond .ne 7, 3) := by decide +kernel
theorem dX0_undergo_82 : decode cX0_undergo 82 = .ok (.iconst 1, 1) := by decide +kernel
theorem dX0_undergo_83 : decode cX0_undergo 83 = .ok (.goto 4, 3) := by decide +kernel
theorem dX0_undergo_86 : decode cX0_undergo 86 = .ok (.iconst 0, 1) := by decide +kernel
theorem dX0_undergo_87 : decode cX0_undergo 87 = .ok (.putfield 43, 3) := by decide +kernel
theorem dX0_undergo_90 : decode cX0_undergo 90 = .ok (.goto 31, 3) := by decide +kernel
theorem dX0_undergo_93 : decode cX0_undergo 93 = .ok (.aload_n 0, 1) := by decide +kernel
theorem dX0_undergo_94 : decode cX0_undergo 94 = .ok (.getfield 21, 3) := by decide +kernel
theorem dX0_undergo_97 : decode cX0_undergo 97 = .ok (.iload_n 2, 1) := by decide +kernel
theorem dX0_undergo_98 : decode cX0_undergo 98 = .ok (.putfield 50, 3) := by decide +kernel
theorem dX0_undergo_101 : decode cX0_undergo 101 = .ok (.goto 20, 3) := by decide +kernel
theorem dX0_undergo_104 : decode cX0_undergo 104 = .ok (.aload_n 0, 1) := by decide +kernel
theorem dX0_undergo_105 : decode cX0_undergo 105 = .ok (.iconst 0, 1) := by decide +kernel
theorem dX0_undergo_106 : decode cX0_undergo 106 = .ok (.aload_n 0, 1) := by decide +kernel
theorem dX0_undergo_107 : decode cX0_undergo 107 = .ok (.getfield 66, 3) := by decide +kernel
theorem dX0_undergo_110 : decode cX0_undergo 110 = .ok (.iload_n 2, 1) := by decide +kernel
theorem dX0_undergo_111 : decode cX0_undergo 111 = .ok (.isub, 1) := by decide +kernel
theorem dX0_undergo_112 : decode cX0_undergo 112 = .ok (.invokestatic 94, 3) := by decide +kernel
theorem dX0_undergo_115 : decode cX0_undergo 115 = .ok (.putfield 66, 3) := by decide +kernel
theorem dX0_undergo_118 : decode cX0_undergo 118 = .ok (.goto 3, 3) := by decide +kernel
theorem dX0_undergo_121 : decode cX0_undergo 121 = .ok (.return_, 1) := by decide +kernel
set_option maxRecDepth 20000 in
theorem ggX0_becomeLike_X10_becomeLike : GoodIn wsX0_becomeLike wsX10_becomeLike := goodIn_r _ [22, 23, 24, 25, 6, 7, 8, 26, 27, 28, 79, 80, 81, 82, 83] (by decide +kernel) (by decide +kernel)
set_option maxRecDepth 20000 in
theorem gX0_becomeLike_X10_becomeLike : GoodIn wsX0_becomeLike (wsV RX0 141 RX10 yX10_becomeLike wsX10_becomeLike) := goodIn_app (goodIn_of _ (by decide +kernel)) ggX0_becomeLike_X10_becomeLike
set_option maxRecDepth 20000 in
theorem ggX0_becomeLike_X4_becomeLike : GoodIn wsX0_becomeLike wsX4_becomeLike := goodIn_r _ [33, 34, 35, 36, 37, 38, 39, 40, 41, 42, 43, 44, 45, 6, 7, 8, 46, 47, 48, 32, 49, 50, 51, 52, 53, 84, 85, 86, 87, 88, 89, 90, 91, 92, 93, 94] (by decide +kernel) (by decide +kernel)
set_option maxRecDepth 20000 in
theorem gX0_becomeLike_X4_becomeLike : GoodIn wsX0_becomeLike (wsV RX0 145 RX4 yX4_becomeLike wsX4_becomeLike) := goodIn_app (goodIn_of _ (by decide +kernel)) ggX0_becomeLike_X4_becomeLike
set_option maxRecDepth 20000 in
theorem ggX0_becomeLike_X9_becomeLike : GoodIn wsX0_becomeLike wsX9_becomeLike := goodIn_r _ [58, 59, 60, 61, 6, 7, 8, 62, 63, 64, 65, 95, 96, 97, 98, 99, 100] (by decide +kernel) (by decide +kernel)
set_option maxRecDepth 20000 in
theorem gX0_becomeLike_X9_becomeLike : GoodIn wsX0_becomeLike (wsV RX0 148 RX9 yX9_becomeLike wsX9_becomeLike) := goodIn_app (goodIn_of _ (by decide +kernel)) ggX0_becomeLike_X9_becomeLike
theorem dX0_becomeLike_0 : decode cX0_becomeLike 0 = .ok (.aload_n 0, 1) := by decide +kernel
theorem dX0_becomeLike_1 : decode cX0_becomeLike 1 = .ok (.getfield 12, 3) := by decide +kernel
theorem dX0_becomeLike_4 : decode cX0_becomeLike 4 = .ok (.aload_n 1, 1) := by decide +kernel
theorem dX0_becomeLike_5 : decode cX0_becomeLike 5 = .ok (.getfield 12, 3) := by decide +kernel
theorem dX0_becomeLike_8 : decode cX0_becomeLike 8 = .ok (.invokevirtual 141, 3) := by decide +kernel
theorem dX0_becomeLike_11 : decode cX0_becomeLike 11 = .ok (.aload_n 0, 1) := by decide +kernel
theorem dX0_becomeLike_12 : decode cX0_becomeLike 12 = .ok (.getfield 21, 3) := by decide +kernel
theorem dX0_becomeLike_15 : decode cX0_becomeLike 15 = .ok (.aload_n 1, 1) := by decide +kernel
theorem dX0_becomeLike_16 : decode cX0_becomeLike 16 = .ok (.getfield 21, 3) := by decide +kernel
theorem dX0_becomeLike_19 : decode cX0_becomeLike 19 = .ok (.invokevirtual 145, 3) := by decide +kernel
theorem dX0_becomeLike_22 : decode cX0_becomeLike 22 = .ok (.aload_n 0, 1) := by decide +kernel
theorem dX0_becomeLike_23 : decode cX0_becomeLike 23 = .ok (.getfield 28, 3) := by decide +kernel
theorem dX0_becomeLike_26 : decode cX0_becomeLike 26 = .ok (.aload_n 1, 1) := by decide +kernel
theorem dX0_becomeLike_27 : decode cX0_becomeLike 27 = .ok (.getfield 28, 3) := by decide +kernel
theorem dX0_becomeLike_30 : decode cX0_becomeLike 30 = .ok (.invokevirtual 148, 3) := by decide +kernel
theorem dX0_becomeLike_33 : decode cX0_becomeLike 33 = .ok (.aload_n 1, 1) := by decide +kernel
theorem dX0_becomeLike_34 : decode cX0_becomeLike 34 = .ok (.getfield 32, 3) := by decide +kernel
theorem dX0_becomeLike_37 : decode cX0_becomeLike 37 = .ok (.iconst 0, 1) := by decide +kernel
theorem dX0_becomeLike_38 : decode cX0_becomeLike 38 = .ok (.aload_n 0, 1) := by decide +kernel
theorem dX0_becomeLike_39 : decode cX0_becomeLike 39 = .ok (.getfield 32, 3) := by decide +kernel
theorem dX0_becomeLike_42 : decode cX0_becomeLike 42 = .ok (.iconst 0, 1) := by decide +kernel
theorem dX0_becomeLike_43 : decode cX0_becomeLike 43 = .ok (.iconst 4, 1) := by decide +kernel
theorem dX0_becomeLike_44 : decode cX0_becomeLike 44 = .ok (.invokestatic 151, 3) := by decide +kernel
theorem dX0_becomeLike_47 : decode cX0_becomeLike 47 = .ok (.aload_n 0, 1) := by decide +kernel
theorem dX0_becomeLike_48 : decode cX0_becomeLike 48 = .ok (.aload_n 1, 1) := by decide +kernel
theorem dX0_becomeLike_49 : decode cX0_becomeLike 49 = .ok (.getfield 40, 3) := by decide +kernel
theorem dX0_becomeLike_52 : decode cX0_becomeLike 52 = .ok (.putfield 40, 3) := by decide +kernel
theorem dX0_becomeLike_55 : decode cX0_becomeLike 55 = .ok (.aload_n 0, 1) := by decide +kernel
theorem dX0_becomeLike_56 : decode cX0_becomeLike 56 = .ok (.aload_n 1, 1) := by decide +kernel
theorem dX0_becomeLike_57 : decode cX0_becomeLike 57 = .ok (.getfield 43, 3) := by decide +kernel
theorem dX0_becomeLike_60 : decode cX0_becomeLike 60 = .ok (.putfield 43, 3) := by decide +kernel
theorem dX0_becomeLike_63 : decode cX0_becomeLike 63 = .ok (.aload_n 0, 1) := by decide +kernel
theorem dX0_becomeLike_64 : decode cX0_becomeLike 64 = .ok (.aload_n 1, 1) := by decide +kernel
theorem dX0_becomeLike_65 : decode cX0_becomeLike 65 = .ok (.getfield 63, 3) := by decide +kernel
theorem dX0_becomeLike_68 : decode cX0_becomeLike 68 = .ok (.putfield 63, 3) := by decide +kernel
theorem dX0_becomeLike_71 : decode cX0_becomeLike 71 = .ok (.aload_n 0, 1) := by decide +kernel
theorem dX0_becomeLike_72 : decode cX0_becomeLike 72 = .ok (.aload_n 1, 1) := by decide +kernel
theorem dX0_becomeLike_73 : decode cX0_becomeLike 73 = .ok (.getfield 36, 3) := by decide +kernel
theorem dX0_becomeLike_76 : decode cX0_becomeLike 76 = .ok (.putfield 36, 3) := by decide +kernel
theorem dX0_becomeLike_79 : decode cX0_becomeLike 79 = .ok (.aload_n 0, 1) := by decide +kernel
theorem dX0_becomeLike_80 : decode cX0_becomeLike 80 = .ok (.aload_n 1, 1) := by decide +kernel
theorem dX0_becomeLike_81 : decode cX0_becomeLike 81 = .ok (.getfield 66, 3) := by decide +kernel
theorem dX0_becomeLike_84 : decode cX0_becomeLike 84 = .ok (.putfield 66, 3) := by decide +kernel
theorem dX0_becomeLike_87 : decode cX0_becomeLike 87 = .ok (.aload_n 0, 1) := by decide +kernel
theorem dX0_becomeLike_88 : decode cX0_becomeLike 88 = .ok (.aload_n 1, 1) := by decide +kernel
theorem dX0_becomeLike_89 : decode cX0_becomeLike 89 = .ok (.getfield 97, 3) := by decide +kernel
theorem dX0_becomeLike_92 : decode cX0_becomeLike 92 = .ok (.putfield 97, 3) := by decide +kernel
theorem dX0_becomeLike_95 : decode cX0_becomeLike 95 = .ok (.aload_n 0, 1) := by decide +kernel
theorem dX0_becomeLike_96 : decode cX0_becomeLike 96 = .ok (.aload_n 1, 1) := by decide +kernel
theorem dX0_becomeLike_97 : decode cX0_becomeLike 97 = .ok (.getfield 135, 3) := by decide +kernel
theorem dX0_becomeLike_100 : decode cX0_becomeLike 100 = .ok (.putfield 135, 3) := by decide +kernel
theorem dX0_becomeLike_103 : decode cX0_becomeLike 103 = .ok (.aload_n 0, 1) := by decide +kernel
theorem dX0_becomeLike_104 : decode cX0_becomeLike 104 = .ok (.aload_n 1, 1) := by decide +kernel
theorem dX0_becomeLike_105 : decode cX0_becomeLike 105 = .ok (.getfield 110, 3) := by decide +kernel
theorem dX0_becomeLike_108 : decode cX0_becomeLike 108 = .ok (.putfield 110, 3) := by decide +kernel
theorem dX0_becomeLike_111 : decode cX0_becomeLike 111 = .ok (.aload_n 0, 1) := by decide +kernel
theorem dX0_becomeLike_112 : decode cX0_becomeLike 112 = .ok (.aload_n 1, 1) := by decide +kernel
theorem dX0_becomeLike_113 : decode cX0_becomeLike 113 = .ok (.getfield 119, 3) := by decide +kernel
theorem dX0_becomeLike_116 : decode cX0_becomeLike 116 = .ok (.putfield 119, 3) := by decide +kernel
theorem dX0_becomeLike_119 : decode cX0_becomeLike 119 = .ok (.return_, 1) := by decide +kernel
theorem dX1_init_0 : decode cX1_init 0 = .ok (.aload_n 0, 1) := by decide +kernel
theorem dX1_init_1 : decode cX1_init 1 = .ok (.invokespecial 3, 3) := by decide +kernel
theorem dX1_init_4 : decode cX1_init 4 = .ok (.aload_n 0, 1) := by decide +kernel
theorem dX1_init_5 : decode cX1_init 5 = .ok (.bipush 10, 2) := by decide +kernel
theorem dX1_init_7 : decode cX1_init 7 = .ok (.newarray .int, 2) := by decide +kernel
theorem dX1_init_9 : decode cX1_init 9 = .ok (.putfield 9, 3) := by decide +kernel
theorem dX1_init_12 : decode cX1_init 12 = .ok (.aload_n 0, 1) := by decide +kernel
theorem dX1_init_13 : decode cX1_init 13 = .ok (.sipush 1024, 3) := by decide +kernel
theorem dX1_init_16 : decode cX1_init 16 = .ok (.newarray .int, 2) := by decide +kernel
theorem dX1_init_18 : decode cX1_init 18 = .ok (.putfield 15, 3) := by decide +kernel
theorem dX1_init_21 : decode cX1_init 21 = .ok (.aload_n 0, 1) := by decide +kernel
theorem dX1_init_22 : decode cX1_init 22 = .ok (.sipush 1024, 3) := by decide +kernel
theorem dX1_init_25 : decode cX1_init 25 = .ok (.newarray .int, 2) := by decide +kernel
theorem dX1_init_27 : decode cX1_init 27 = .ok (.putfield 18, 3) := by decide +kernel
theorem dX1_init_30 : decode cX1_init 30 = .ok (.aload_n 0, 1) := by decide +kernel
theorem dX1_init_31 : decode cX1_init 31 = .ok (.sipush 1024, 3) := by decide +kernel
theorem dX1_init_34 : decode cX1_init 34 = .ok (.newarray .boolean, 2) := by decide +kernel
theorem dX1_init_36 : decode cX1_init 36 = .ok (.putfield 21, 3) := by decide +kernel
theorem dX1_init_39 : decode cX1_init 39 = .ok (.aload_n 0, 1) := by decide +kernel
theorem dX1_init_40 : decode cX1_init 40 = .ok (.aload_n 1, 1) := by decide +kernel
theorem dX1_init_41 : decode cX1_init 41 = .ok (.putfield 25, 3) := by decide +kernel
theorem dX1_init_44 : decode cX1_init 44 = .ok (.return_, 1) := by decide +kernel
theorem dX1_addUp_0 : decode cX1_addUp 0 = .ok (.iconst 0, 1) := by decide +kernel
theorem dX1_addUp_1 : decode cX1_addUp 1 = .ok (.istore_n 1, 1) := by decide +kernel
theorem dX1_addUp_2 : decode cX1_addUp 2 = .ok (.iload_n 1, 1) := by decide +kernel
theorem dX1_addUp_3 : decode cX1_addUp 3 = .ok (.aload_n 0, 1) := by decide +kernel
theorem dX1_addUp_4 : decode cX1_addUp 4 = .ok (.getfield 25, 3) := by decide +kernel
theorem dX1_addUp_7 : decode cX1_addUp 7 = .ok (.getfield 29, 3) := by decide +kernel
theorem dX1_addUp_10 : decode cX1_addUp 10 = .ok (.if_icmp .ge 76, 3) := by decide +kernel
theorem dX1_addUp_13 : decode cX1_addUp 13 = .ok (.iconst 1, 1) := by decide +kernel
theorem dX1_addUp_14 : decode cX1_addUp 14 = .ok (.iload_n 1, 1) := by decide +kernel
theorem dX1_addUp_15 : decode cX1_addUp 15 = .ok (.ishl, 1) := by decide +kernel
theorem dX1_addUp_16 : decode cX1_addUp 16 = .ok (.istore_n 2, 1) := by decide +kernel
theorem dX1_addUp_17 : decode cX1_addUp 17 = .ok (.iload_n 2, 1) := by decide +kernel
theorem dX1_addUp_18 : decode cX1_addUp 18 = .ok (.istore_n 3, 1) := by decide +kernel
theorem dX1_addUp_19 : decode cX1_addUp 19 = .ok (.iload_n 3, 1) := by decide +kernel
theorem dX1_addUp_20 : decode cX1_addUp 20 = .ok (.iconst 2, 1) := by decide +kernel
theorem dX1_addUp_21 : decode cX1_addUp 21 = .ok (.iload_n 2, 1) := by decide +kernel
theorem dX1_addUp_22 : decode cX1_addUp 22 = .ok (.imul, 1) := by decide +kernel
theorem dX1_addUp_23 : decode cX1_addUp 23 = .ok (.if_icmp .ge 57, 3) := by decide +kernel
theorem dX1_addUp_26 : decode cX1_addUp 26 = .ok (.aload_n 0, 1) := by decide +kernel
theorem dX1_addUp_27 : decode cX1_addUp 27 = .ok (.getfield 15, 3) := by decide +kernel
theorem dX1_addUp_30 : decode cX1_addUp 30 = .ok (.iload_n 3, 1) := by decide +kernel
theorem dX1_addUp_31 : decode cX1_addUp 31 = .ok (.aload_n 0, 1) := by decide +kernel
theorem dX1_addUp_32 : decode cX1_addUp 32 = .ok (.getfield 15, 3) := by decide +kernel
theorem dX1_addUp_35 : decode cX1_addUp 35 = .ok (.iload_n 3, 1) := by decide +kernel
theorem dX1_addUp_36 : decode cX1_addUp 36 = .ok (.iload_n 2, 1) := by decide +kernel
theorem dX1_addUp_37 : decode cX1_addUp 37 = .ok (.isub, 1) := by decide +kernel
theorem dX1_addUp_38 : decode cX1_addUp 38 = .ok (.iaload, 1) := by decide +kernel
theorem dX1_addUp_39 : decode cX1_addUp 39 = .ok (.aload_n 0, 1) := by decide +kernel
theorem dX1_addUp_40 : decode cX1_addUp 40 = .ok (.getfield 25, 3) := by decide +kernel
theorem dX1_addUp_43 : decode cX1_addUp 43 = .ok (.getfield 35, 3) := by decide +kernel
theorem dX1_addUp_46 : decode cX1_addUp 46 = .ok (.iload_n 1, 1) := by decide +kernel
theorem dX1_addUp_47 : decode cX1_addUp 47 = .ok (.iaload, 1) := by decide +kernel
theorem dX1_addUp_48 : decode cX1_addUp 48 = .ok (.iadd, 1) := by decide +kernel
theorem dX1_addUp_49 : decode cX1_addUp 49 = .ok (.iastore, 1) := by decide +kernel
theorem dX1_addUp_50 : decode cX1_addUp 50 = .ok (.aload_n 0, 1) := by decide +kernel
theorem dX1_addUp_51 : decode cX1_addUp 51 = .ok (.getfield 18, 3) := by decide +kernel
theorem dX1_addUp_54 : decode cX1_addUp 54 = .ok (.iload_n 3, 1) := by decide +kernel
theorem dX1_addUp_55 : decode cX1_addUp 55 = .ok (.aload_n 0, 1) := by decide +kernel
theorem dX1_addUp_56 : decode cX1_addUp 56 = .ok (.getfield 18, 3) := by decide +kernel
theorem dX1_addUp_59 : decode cX1_addUp 59 = .ok (.iload_n 3, 1) := by decide +kernel
theorem dX1_addUp_60 : decode cX1_addUp 60 = .ok (.iload_n 2, 1) := by decide +kernel
theorem dX1_addUp_61 : decode cX1_addUp 61 = .ok (.isub, 1) := by decide +kernel
theorem dX1_addUp_62 : decode cX1_addUp 62 = .ok (.iaload, 1) := by decide +kernel
theorem dX1_addUp_63 : decode cX1_addUp 63 = .ok (.aload_n 0, 1) := by decide +kernel
theorem dX1_addUp_64 : decode cX1_addUp 64 = .ok (.getfield 25, 3) := by decide +kernel
theorem dX1_addUp_67 : decode cX1_addUp 67 = .ok (.getfield 38, 3) := by decide +kernel
theorem dX1_addUp_70 : decode cX1_addUp 70 = .ok (.iload_n 1, 1) := by decide +kernel
theorem dX1_addUp_71 : decode cX1_addUp 71 = .ok (.iaload, 1) := by decide +kernel
theorem dX1_addUp_72 : decode cX1_addUp 72 = .ok (.iadd, 1) := by decide +kernel
theorem dX1_addUp_73 : decode cX1_addUp 73 = .ok (.iastore, 1) := by decide +kernel
theorem dX1_addUp_74 : decode cX1_addUp 74 = .ok (.iinc 3 1, 3) := by decide +kernel
theorem dX1_addUp_77 : decode cX1_addUp 77 = .ok (.goto (-58), 3) := by decide +kernel
theorem dX1_addUp_80 : decode cX1_addUp 80 = .ok (.iinc 1 1, 3) := by decide +kernel
theorem dX1_addUp_83 : decode cX1_addUp 83 = .ok (.goto (-81), 3) := by decide +kernel
theorem dX1_addUp_86 : decode cX1_addUp 86 = .ok (.return_, 1) := by decide +kernel
set_option maxRecDepth 20000 in
theorem ggX1_shelved_X1_addUp : GoodIn wsX1_shelved wsX1_addUp := goodIn_r _ [9, 1, 2, 3, 10, 4, 11, 12, 13, 14, 15, 16, 17, 18, 19, 20, 21, 22] (by decide +kernel) (by decide +kernel)
set_option maxRecDepth 20000 in
theorem gX1_shelved_X1_addUp : GoodIn wsX1_shelved (wsV RX1 41 RX1 yX1_addUp wsX1_addUp) := goodIn_app (goodIn_of _ (by decide +kernel)) ggX1_shelved_X1_addUp
theorem dX1_shelved_0 : decode cX1_shelved 0 = .ok (.aload_n 0, 1) := by decide +kernel
theorem dX1_shelved_1 : decode cX1_shelved 1 = .ok (.invokevirtual 41, 3) := by decide +kernel
theorem dX1_shelved_4 : decode cX1_shelved 4 = .ok (.iconst 0, 1) := by decide +kernel
theorem dX1_shelved_5 : decode cX1_shelved 5 = .ok (.istore_n 3, 1) := by decide +kernel
theorem dX1_shelved_6 : decode cX1_shelved 6 = .ok (.iconst 1, 1) := by decide +kernel
theorem dX1_shelved_7 : decode cX1_shelved 7 = .ok (.istore 4, 2) := by decide +kernel
theorem dX1_shelved_9 : decode cX1_shelved 9 = .ok (.iload 4, 2) := by decide +kernel
theorem dX1_shelved_11 : decode cX1_shelved 11 = .ok (.iconst 1, 1) := by decide +kernel
theorem dX1_shelved_12 : decode cX1_shelved 12 = .ok (.aload_n 0, 1) := by decide +kernel
theorem dX1_shelved_13 : decode cX1_shelved 13 = .ok (.getfield 25, 3) := by decide +kernel
theorem dX1_shelved_16 : decode cX1_shelved 16 = .ok (.getfield 29, 3) := by decide +kernel
theorem dX1_shelved_19 : decode cX1_shelved 19 = .ok (.ishl, 1) := by decide +kernel
theorem dX1_shelved_20 : decode cX1_shelved 20 = .ok (.if_icmp .ge 39, 3) := by decide +kernel
theorem dX1_shelved_23 : decode cX1_shelved 23 = .ok (.aload_n 0, 1) := by decide +kernel
theorem dX1_shelved_24 : decode cX1_shelved 24 = .ok (.getfield 15, 3) := by decide +kernel
theorem dX1_shelved_27 : decode cX1_shelved 27 = .ok (.iload 4, 2) := by decide +kernel
theorem dX1_shelved_29 : decode cX1_shelved 29 = .ok (.iaload, 1) := by decide +kernel
theorem dX1_shelved_30 : decode cX1_shelved 30 = .ok (.iload_n 1, 1) := by decide +kernel
theorem dX1_shelved_31 : decode cX1_shelved 31 = .ok (.if_icmp .gt 22, 3) := by decide +kernel
theorem dX1_shelved_34 : decode cX1_shelved 34 = .ok (.aload_n 0, 1) := by decide +kernel
theorem dX1_shelved_35 : decode cX1_shelved 35 = .ok (.getfield 18, 3) := by decide +kernel
theorem dX1_shelved_38 : decode cX1_shelved 38 = .ok (.iload 4, 2) := by decide +kernel
theorem dX1_shelved_40 : decode cX1_shelved 40 = .ok (.iaload, 1) := by decide +kernel
theorem dX1_shelved_41 : decode cX1_shelved 41 = .ok (.aload_n 0, 1) := by decide +kernel
theorem dX1_shelved_42 : decode cX1_shelved 42 = .ok (.getfield 18, 3) := by decide +kernel
theorem dX1_shelved_45 : decode cX1_shelved 45 = .ok (.iload_n 3, 1) := by decide +kernel
theorem dX1_shelved_46 : decode cX1_shelved 46 = .ok (.iaload, 1) := by decide +kernel
theorem dX1_shelved_47 : decode cX1_shelved 47 = .ok (.if_icmp .le 6, 3) := by decide +kernel
theorem dX1_shelved_50 : decode cX1_shelved 50 = .ok (.iload 4, 2) := by decide +kernel
theorem dX1_shelved_52 : decode cX1_shelved 52 = .ok (.istore_n 3, 1) := by decide +kernel
theorem dX1_shelved_53 : decode cX1_shelved 53 = .ok (.iinc 4 1, 3) := by decide +kernel
theorem dX1_shelved_56 : decode cX1_shelved 56 = .ok (.goto (-47), 3) := by decide +kernel
theorem dX1_shelved_59 : decode cX1_shelved 59 = .ok (.iload_n 2, 1) := by decide +kernel
theorem dX1_shelved_60 : decode cX1_shelved 60 = .ok (.ifCond .ne 7, 3) := by decide +kernel
theorem dX1_shelved_63 : decode cX1_shelved 63 = .ok (.iload_n 3, 1) := by decide +kernel
theorem dX1_shelved_64 : decode cX1_shelved 64 = .ok (.goto 9, 3) := by decide +kernel
theorem dX1_shelved_67 : decode cX1_shelved 67 = .ok (.aload_n 0, 1) := by decide +kernel
theorem dX1_shelved_68 : decode cX1_shelved 68 = .ok (.getfield 18, 3) := by decide +kernel
theorem dX1_shelved_71 : decode cX1_shelved 71 = .ok (.iload_n 3, 1) := by decide +kernel
theorem dX1_shelved_72 : decode cX1_shelved 72 = .ok (.iaload, 1) := by decide +kernel
theorem dX1_shelved_73 : decode cX1_shelved 73 = .ok (.ireturn, 1) := by decide +kernel
set_option maxRecDepth 20000 in
theorem ggX1_liftable_X1_addUp : GoodIn wsX1_liftable wsX1_addUp := goodIn_r _ [9, 2, 3, 10, 11, 4, 12, 30, 31, 32, 33, 34, 35, 36, 37, 38, 39, 40] (by decide +kernel) (by decide +kernel)
set_option maxRecDepth 20000 in
theorem gX1_liftable_X1_addUp : GoodIn wsX1_liftable (wsV RX1 41 RX1 yX1_addUp wsX1_addUp) := goodIn_app (goodIn_of _ (by decide +kernel)) ggX1_liftable_X1_addUp
set_option maxRecDepth 20000 in
theorem ggX1_liftable_X1_hasLast : GoodIn wsX1_liftable wsX1_hasLast := goodIn_r _ [16, 2, 3, 10, 17, 1, 30, 31, 32, 33, 34, 35, 36, 37, 38, 39, 40] (by decide +kernel) (by decide +kernel)
set_option maxRecDepth 20000 in
theorem gX1_liftable_X1_hasLast : GoodIn wsX1_liftable (wsV RX1 44 RX1 yX1_hasLast wsX1_hasLast) := goodIn_app (goodIn_of _ (by decide +kernel)) ggX1_liftable_X1_hasLast
set_option maxRecDepth 20000 in
theorem ggX1_liftable_X1_firstOf : GoodIn wsX1_liftable wsX1_firstOf := goodIn_r _ [21, 2, 3, 22, 23, 24, 8, 25, 11, 17, 26, 27, 28, 29, 30, 31, 32, 33, 34, 35, 36, 37, 38, 39, 40] (by decide +kernel) (by decide +kernel)
set_option maxRecDepth 20000 in
theorem gX1_liftable_X1_firstOf : GoodIn wsX1_liftable (wsV RX1 48 RX1 yX1_firstOf wsX1_firstOf) := goodIn_app (goodIn_of _ (by decide +kernel)) ggX1_liftable_X1_firstOf
theorem dX1_liftable_0 : decode cX1_liftable 0 = .ok (.aload_n 0, 1) := by decide +kernel
theorem dX1_liftable_1 : decode cX1_liftable 1 = .ok (.invokevirtual 41, 3) := by decide +kernel
theorem dX1_liftable_4 : decode cX1_liftable 4 = .ok (.aload_n 0, 1) := by decide +kernel
theorem dX1_liftable_5 : decode cX1_liftable 5 = .ok (.getfield 21, 3) := by decide +kernel
theorem dX1_liftable_8 : decode cX1_liftable 8 = .ok (.iconst 0, 1) := by decide +kernel
theorem dX1_liftable_9 : decode cX1_liftable 9 = .ok (.iconst 1, 1) := by decide +kernel
theorem dX1_liftable_10 : decode cX1_liftable 10 = .ok (.bastore, 1) := by decide +kernel
theorem dX1_liftable_11 : decode cX1_liftable 11 = .ok (.iconst 0, 1) := by decide +kernel
theorem dX1_liftable_12 : decode cX1_liftable 12 = .ok (.istore_n 2, 1) := by decide +kernel
theorem dX1_liftable_13 : decode cX1_liftable 13 = .ok (.iconst 1, 1) := by decide +kernel
theorem dX1_liftable_14 : decode cX1_liftable 14 = .ok (.istore_n 3, 1) := by decide +kernel
theorem dX1_liftable_15 : decode cX1_liftable 15 = .ok (.iload_n 3, 1) := by decide +kernel
theorem dX1_liftable_16 : decode cX1_liftable 16 = .ok (.iconst 1, 1) := by decide +kernel
theorem dX1_liftable_17 : decode cX1_liftable 17 = .ok (.aload_n 0, 1) := by decide +kernel
theorem dX1_liftable_18 : decode cX1_liftable 18 = .ok (.getfield 25, 3) := by decide +kernel
theorem dX1_liftable_21 : decode cX1_liftable 21 = .ok (.getfield 29, 3) := by decide +kernel
theorem dX1_liftable_24 : decode cX1_liftable 24 = .ok (.ishl, 1) := by decide +kernel
theorem dX1_liftable_25 : decode cX1_liftable 25 = .ok (.if_icmp .ge 46, 3) := by decide +kernel
theorem dX1_liftable_28 : decode cX1_liftable 28 = .ok (.aload_n 0, 1) := by decide +kernel
theorem dX1_liftable_29 : decode cX1_liftable 29 = .ok (.getfield 21, 3) := by decide +kernel
theorem dX1_liftable_32 : decode cX1_liftable 32 = .ok (.iload_n 3, 1) := by decide +kernel
theorem dX1_liftable_33 : decode cX1_liftable 33 = .ok (.aload_n 0, 1) := by decide +kernel
theorem dX1_liftable_34 : decode cX1_liftable 34 = .ok (.iload_n 3, 1) := by decide +kernel
theorem dX1_liftable_35 : decode cX1_liftable 35 = .ok (.invokevirtual 44, 3) := by decide +kernel
theorem dX1_liftable_38 : decode cX1_liftable 38 = .ok (.bastore, 1) := by decide +kernel
theorem dX1_liftable_39 : decode cX1_liftable 39 = .ok (.aload_n 0, 1) := by decide +kernel
theorem dX1_liftable_40 : decode cX1_liftable 40 = .ok (.getfield 21, 3) := by decide +kernel
theorem dX1_liftable_43 : decode cX1_liftable 43 = .ok (.iload_n 3, 1) := by decide +kernel
theorem dX1_liftable_44 : decode cX1_liftable 44 = .ok (.baload, 1) := by decide +kernel
theorem dX1_liftable_45 : decode cX1_liftable 45 = .ok (.ifCond .eq 20, 3) := by decide +kernel
theorem dX1_liftable_48 : decode cX1_liftable 48 = .ok (.aload_n 0, 1) := by decide +kernel
theorem dX1_liftable_49 : decode cX1_liftable 49 = .ok (.getfield 18, 3) := by decide +kernel
theorem dX1_liftable_52 : decode cX1_liftable 52 = .ok (.iload_n 3, 1) := by decide +kernel
theorem dX1_liftable_53 : decode cX1_liftable 53 = .ok (.iaload, 1) := by decide +kernel
theorem dX1_liftable_54 : decode cX1_liftable 54 = .ok (.aload_n 0, 1) := by decide +kernel
theorem dX1_liftable_55 : decode cX1_liftable 55 = .ok (.getfield 18, 3) := by decide +kernel
theorem dX1_liftable_58 : decode cX1_liftable 58 = .ok (.iload_n 2, 1) := by decide +kernel
theorem dX1_liftable_59 : decode cX1_liftable 59 = .ok (.iaload, 1) := by decide +kernel
theorem dX1_liftable_60 : decode cX1_liftable 60 = .ok (.if_icmp .le 5, 3) := by decide +kernel
theorem dX1_liftable_63 : decode cX1_liftable 63 = .ok (.iload_n 3, 1) := by decide +kernel
theorem dX1_liftable_64 : decode cX1_liftable 64 = .ok (.istore_n 2, 1) := by decide +kernel
theorem dX1_liftable_65 : decode cX1_liftable 65 = .ok (.iinc 3 1, 3) := by decide +kernel
theorem dX1_liftable_68 : decode cX1_liftable 68 = .ok (.goto (-53), 3) := by decide +kernel
theorem dX1_liftable_71 : decode cX1_liftable 71 = .ok (.iload_n 1, 1) := by decide +kernel
theorem dX1_liftable_72 : decode cX1_liftable 72 = .ok (.lookupswitch 37 #[(0, 28), (1, 30)], 28) := by decide +kernel
theorem dX1_liftable_100 : decode cX1_liftable 100 = .ok (.iload_n 2, 1) := by decide +kernel
theorem dX1_liftable_101 : decode cX1_liftable 101 = .ok (.ireturn, 1) := by decide +kernel
theorem dX1_liftable_102 : decode cX1_liftable 102 = .ok (.aload_n 0, 1) := by decide +kernel
theorem dX1_liftable_103 : decode cX1_liftable 103 = .ok (.getfield 18, 3) := by decide +kernel
theorem dX1_liftable_106 : decode cX1_liftable 106 = .ok (.iload_n 2, 1) := by decide +kernel
theorem dX1_liftable_107 : decode cX1_liftable 107 = .ok (.iaload, 1) := by decide +kernel
theorem dX1_liftable_108 : decode cX1_liftable 108 = .ok (.ireturn, 1) := by decide +kernel
theorem dX1_liftable_109 : decode cX1_liftable 109 = .ok (.aload_n 0, 1) := by decide +kernel
theorem dX1_liftable_110 : decode cX1_liftable 110 = .ok (.iload_n 2, 1) := by decide +kernel
theorem dX1_liftable_111 : decode cX1_liftable 111 = .ok (.invokevirtual 48, 3) := by decide +kernel
theorem dX1_liftable_114 : decode cX1_liftable 114 = .ok (.ireturn, 1) := by decide +kernel
theorem dX1_hasLast_0 : decode cX1_hasLast 0 = .ok (.iconst 0, 1) := by decide +kernel
theorem dX1_hasLast_1 : decode cX1_hasLast 1 = .ok (.istore_n 2, 1) := by decide +kernel
theorem dX1_hasLast_2 : decode cX1_hasLast 2 = .ok (.iload_n 2, 1) := by decide +kernel
theorem dX1_hasLast_3 : decode cX1_hasLast 3 = .ok (.aload_n 0, 1) := by decide +kernel
theorem dX1_hasLast_4 : decode cX1_hasLast 4 = .ok (.getfield 25, 3) := by decide +kernel
theorem dX1_hasLast_7 : decode cX1_hasLast 7 = .ok (.getfield 29, 3) := by decide +kernel
theorem dX1_hasLast_10 : decode cX1_hasLast 10 = .ok (.if_icmp .ge 47, 3) := by decide +kernel
theorem dX1_hasLast_13 : decode cX1_hasLast 13 = .ok (.iconst 1, 1) := by decide +kernel
theorem dX1_hasLast_14 : decode cX1_hasLast 14 = .ok (.iload_n 2, 1) := by decide +kernel
theorem dX1_hasLast_15 : decode cX1_hasLast 15 = .ok (.ishl, 1) := by decide +kernel
theorem dX1_hasLast_16 : decode cX1_hasLast 16 = .ok (.istore_n 3, 1) := by decide +kernel
theorem dX1_hasLast_17 : decode cX1_hasLast 17 = .ok (.iload_n 1, 1) := by decide +kernel
theorem dX1_hasLast_18 : decode cX1_hasLast 18 = .ok (.iload_n 3, 1) := by decide +kernel
theorem dX1_hasLast_19 : decode cX1_hasLast 19 = .ok (.iand, 1) := by decide +kernel
theorem dX1_hasLast_20 : decode cX1_hasLast 20 = .ok (.ifCond .eq 31, 3) := by decide +kernel
theorem dX1_hasLast_23 : decode cX1_hasLast 23 = .ok (.aload_n 0, 1) := by decide +kernel
theorem dX1_hasLast_24 : decode cX1_hasLast 24 = .ok (.getfield 15, 3) := by decide +kernel
theorem dX1_hasLast_27 : decode cX1_hasLast 27 = .ok (.iload_n 1, 1) := by decide +kernel
theorem dX1_hasLast_28 : decode cX1_hasLast 28 = .ok (.iaload, 1) := by decide +kernel
theorem dX1_hasLast_29 : decode cX1_hasLast 29 = .ok (.aload_n 0, 1) := by decide +kernel
theorem dX1_hasLast_30 : decode cX1_hasLast 30 = .ok (.getfield 9, 3) := by decide +kernel
theorem dX1_hasLast_33 : decode cX1_hasLast 33 = .ok (.iload_n 2, 1) := by decide +kernel
theorem dX1_hasLast_34 : decode cX1_hasLast 34 = .ok (.iaload, 1) := by decide +kernel
theorem dX1_hasLast_35 : decode cX1_hasLast 35 = .ok (.if_icmp .gt 16, 3) := by decide +kernel
theorem dX1_hasLast_38 : decode cX1_hasLast 38 = .ok (.aload_n 0, 1) := by decide +kernel
theorem dX1_hasLast_39 : decode cX1_hasLast 39 = .ok (.getfield 21, 3) := by decide +kernel
theorem dX1_hasLast_42 : decode cX1_hasLast 42 = .ok (.iload_n 1, 1) := by decide +kernel
theorem dX1_hasLast_43 : decode cX1_hasLast 43 = .ok (.iload_n 3, 1) := by decide +kernel
theorem dX1_hasLast_44 : decode cX1_hasLast 44 = .ok (.isub, 1) := by decide +kernel
theorem dX1_hasLast_45 : decode cX1_hasLast 45 = .ok (.baload, 1) := by decide +kernel
theorem dX1_hasLast_46 : decode cX1_hasLast 46 = .ok (.ifCond .eq 5, 3) := by decide +kernel
theorem dX1_hasLast_49 : decode cX1_hasLast 49 = .ok (.iconst 1, 1) := by decide +kernel
theorem dX1_hasLast_50 : decode cX1_hasLast 50 = .ok (.ireturn, 1) := by decide +kernel
theorem dX1_hasLast_51 : decode cX1_hasLast 51 = .ok (.iinc 2 1, 3) := by decide +kernel
theorem dX1_hasLast_54 : decode cX1_hasLast 54 = .ok (.goto (-52), 3) := by decide +kernel
theorem dX1_hasLast_57 : decode cX1_hasLast 57 = .ok (.iconst 0, 1) := by decide +kernel
theorem dX1_hasLast_58 : decode cX1_hasLast 58 = .ok (.ireturn, 1) := by decide +kernel
set_option maxRecDepth 20000 in
theorem ggX1_firstOf_X1_canBeFirst : GoodIn wsX1_firstOf wsX1_canBeFirst := goodIn_r _ [7, 1, 2, 8, 9, 10, 11, 12, 6, 13, 14, 15, 16, 17, 18, 19, 20, 21, 22, 23, 24] (by decide +kernel) (by decide +kernel)
set_option maxRecDepth 20000 in
theorem gX1_firstOf_X1_canBeFirst : GoodIn wsX1_firstOf (wsV RX1 52 RX1 yX1_canBeFirst wsX1_canBeFirst) := goodIn_app (goodIn_of _ (by decide +kernel)) ggX1_firstOf_X1_canBeFirst
theorem dX1_firstOf_0 : decode cX1_firstOf 0 = .ok (.iconst 0, 1) := by decide +kernel
theorem dX1_firstOf_1 : decode cX1_firstOf 1 = .ok (.istore_n 2, 1) := by decide +kernel
theorem dX1_firstOf_2 : decode cX1_firstOf 2 = .ok (.iload_n 2, 1) := by decide +kernel
theorem dX1_firstOf_3 : decode cX1_firstOf 3 = .ok (.aload_n 0, 1) := by decide +kernel
theorem dX1_firstOf_4 : decode cX1_firstOf 4 = .ok (.getfield 25, 3) := by decide +kernel
theorem dX1_firstOf_7 : decode cX1_firstOf 7 = .ok (.getfield 29, 3) := by decide +kernel
theorem dX1_firstOf_10 : decode cX1_firstOf 10 = .ok (.if_icmp .ge 28, 3) := by decide +kernel
theorem dX1_firstOf_13 : decode cX1_firstOf 13 = .ok (.iload_n 1, 1) := by decide +kernel
theorem dX1_firstOf_14 : decode cX1_firstOf 14 = .ok (.iconst 1, 1) := by decide +kernel
theorem dX1_firstOf_15 : decode cX1_firstOf 15 = .ok (.iload_n 2, 1) := by decide +kernel
theorem dX1_firstOf_16 : decode cX1_firstOf 16 = .ok (.ishl, 1) := by decide +kernel
theorem dX1_firstOf_17 : decode cX1_firstOf 17 = .ok (.iand, 1) := by decide +kernel
theorem dX1_firstOf_18 : decode cX1_firstOf 18 = .ok (.ifCond .eq 14, 3) := by decide +kernel
theorem dX1_firstOf_21 : decode cX1_firstOf 21 = .ok (.aload_n 0, 1) := by decide +kernel
theorem dX1_firstOf_22 : decode cX1_firstOf 22 = .ok (.iload_n 2, 1) := by decide +kernel
theorem dX1_firstOf_23 : decode cX1_firstOf 23 = .ok (.iload_n 1, 1) := by decide +kernel
theorem dX1_firstOf_24 : decode cX1_firstOf 24 = .ok (.invokevirtual 52, 3) := by decide +kernel
theorem dX1_firstOf_27 : decode cX1_firstOf 27 = .ok (.ifCond .eq 5, 3) := by decide +kernel
theorem dX1_firstOf_30 : decode cX1_firstOf 30 = .ok (.iload_n 2, 1) := by decide +kernel
theorem dX1_firstOf_31 : decode cX1_firstOf 31 = .ok (.ireturn, 1) := by decide +kernel
theorem dX1_firstOf_32 : decode cX1_firstOf 32 = .ok (.iinc 2 1, 3) := by decide +kernel
theorem dX1_firstOf_35 : decode cX1_firstOf 35 = .ok (.goto (-33), 3) := by decide +kernel
theorem dX1_firstOf_38 : decode cX1_firstOf 38 = .ok (.iconst (-1), 1) := by decide +kernel
theorem dX1_firstOf_39 : decode cX1_firstOf 39 = .ok (.ireturn, 1) := by decide +kernel
set_option maxRecDepth 20000 in
theorem ggX1_canBeFirst_X1_weightUpTo : GoodIn wsX1_canBeFirst wsX1_weightUpTo := goodIn_r _ [9, 1, 2, 4, 3, 10, 11, 12, 13, 14, 15, 16, 17, 18, 19, 20] (by decide +kernel) (by decide +kernel)
set_option maxRecDepth 20000 in
theorem gX1_canBeFirst_X1_weightUpTo : GoodIn wsX1_canBeFirst (wsV RX1 56 RX1 yX1_weightUpTo wsX1_weightUpTo) := goodIn_app (goodIn_of _ (by decide +kernel)) ggX1_canBeFirst_X1_weightUpTo
theorem dX1_canBeFirst_0 : decode cX1_canBeFirst 0 = .ok (.iload_n 2, 1) := by decide +kernel
theorem dX1_canBeFirst_1 : decode cX1_canBeFirst 1 = .ok (.iconst 1, 1) := by decide +kernel
theorem dX1_canBeFirst_2 : decode cX1_canBeFirst 2 = .ok (.iload_n 1, 1) := by decide +kernel
theorem dX1_canBeFirst_3 : decode cX1_canBeFirst 3 = .ok (.ishl, 1) := by decide +kernel
theorem dX1_canBeFirst_4 : decode cX1_canBeFirst 4 = .ok (.iconst (-1), 1) := by decide +kernel
theorem dX1_canBeFirst_5 : decode cX1_canBeFirst 5 = .ok (.ixor, 1) := by decide +kernel
theorem dX1_canBeFirst_6 : decode cX1_canBeFirst 6 = .ok (.iand, 1) := by decide +kernel
theorem dX1_canBeFirst_7 : decode cX1_canBeFirst 7 = .ok (.istore_n 3, 1) := by decide +kernel
theorem dX1_canBeFirst_8 : decode cX1_canBeFirst 8 = .ok (.iconst 0, 1) := by decide +kernel
theorem dX1_canBeFirst_9 : decode cX1_canBeFirst 9 = .ok (.istore 4, 2) := by decide +kernel
theorem dX1_canBeFirst_11 : decode cX1_canBeFirst 11 = .ok (.iload 4, 2) := by decide +kernel
theorem dX1_canBeFirst_13 : decode cX1_canBeFirst 13 = .ok (.aload_n 0, 1) := by decide +kernel
theorem dX1_canBeFirst_14 : decode cX1_canBeFirst 14 = .ok (.getfield 25, 3) := by decide +kernel
theorem dX1_canBeFirst_17 : decode cX1_canBeFirst 17 = .ok (.getfield 29, 3) := by decide +kernel
theorem dX1_canBeFirst_20 : decode cX1_canBeFirst 20 = .ok (.if_icmp .ge 52, 3) := by decide +kernel
theorem dX1_canBeFirst_23 : decode cX1_canBeFirst 23 = .ok (.iload_n 3, 1) := by decide +kernel
theorem dX1_canBeFirst_24 : decode cX1_canBeFirst 24 = .ok (.iconst 1, 1) := by decide +kernel
theorem dX1_canBeFirst_25 : decode cX1_canBeFirst 25 = .ok (.iload 4, 2) := by decide +kernel
theorem dX1_canBeFirst_27 : decode cX1_canBeFirst 27 = .ok (.ishl, 1) := by decide +kernel
theorem dX1_canBeFirst_28 : decode cX1_canBeFirst 28 = .ok (.iand, 1) := by decide +kernel
theorem dX1_canBeFirst_29 : decode cX1_canBeFirst 29 = .ok (.ifCond .eq 37, 3) := by decide +kernel
theorem dX1_canBeFirst_32 : decode cX1_canBeFirst 32 = .ok (.aload_n 0, 1) := by decide +kernel
theorem dX1_canBeFirst_33 : decode cX1_canBeFirst 33 = .ok (.getfield 25, 3) := by decide +kernel
theorem dX1_canBeFirst_36 : decode cX1_canBeFirst 36 = .ok (.getfield 35, 3) := by decide +kernel
theorem dX1_canBeFirst_39 : decode cX1_canBeFirst 39 = .ok (.iload_n 1, 1) := by decide +kernel
theorem dX1_canBeFirst_40 : decode cX1_canBeFirst 40 = .ok (.iaload, 1) := by decide +kernel
theorem dX1_canBeFirst_41 : decode cX1_canBeFirst 41 = .ok (.aload_n 0, 1) := by decide +kernel
theorem dX1_canBeFirst_42 : decode cX1_canBeFirst 42 = .ok (.aload_n 0, 1) := by decide +kernel
theorem dX1_canBeFirst_43 : decode cX1_canBeFirst 43 = .ok (.getfield 9, 3) := by decide +kernel
theorem dX1_canBeFirst_46 : decode cX1_canBeFirst 46 = .ok (.iload 4, 2) := by decide +kernel
theorem dX1_canBeFirst_48 : decode cX1_canBeFirst 48 = .ok (.iaload, 1) := by decide +kernel
theorem dX1_canBeFirst_49 : decode cX1_canBeFirst 49 = .ok (.iload_n 3, 1) := by decide +kernel
theorem dX1_canBeFirst_50 : decode cX1_canBeFirst 50 = .ok (.invokevirtual 56, 3) := by decide +kernel
theorem dX1_canBeFirst_53 : decode cX1_canBeFirst 53 = .ok (.iadd, 1) := by decide +kernel
theorem dX1_canBeFirst_54 : decode cX1_canBeFirst 54 = .ok (.aload_n 0, 1) := by decide +kernel
theorem dX1_canBeFirst_55 : decode cX1_canBeFirst 55 = .ok (.getfield 9, 3) := by decide +kernel
theorem dX1_canBeFirst_58 : decode cX1_canBeFirst 58 = .ok (.iload 4, 2) := by decide +kernel
theorem dX1_canBeFirst_60 : decode cX1_canBeFirst 60 = .ok (.iaload, 1) := by decide +kernel
theorem dX1_canBeFirst_61 : decode cX1_canBeFirst 61 = .ok (.if_icmp .le 5, 3) := by decide +kernel
theorem dX1_canBeFirst_64 : decode cX1_canBeFirst 64 = .ok (.iconst 0, 1) := by decide +kernel
theorem dX1_canBeFirst_65 : decode cX1_canBeFirst 65 = .ok (.ireturn, 1) := by decide +kernel
theorem dX1_canBeFirst_66 : decode cX1_canBeFirst 66 = .ok (.iinc 4 1, 3) := by decide +kernel
theorem dX1_canBeFirst_69 : decode cX1_canBeFirst 69 = .ok (.goto (-58), 3) := by decide +kernel
theorem dX1_canBeFirst_72 : decode cX1_canBeFirst 72 = .ok (.iconst 1, 1) := by decide +kernel
theorem dX1_canBeFirst_73 : decode cX1_canBeFirst 73 = .ok (.ireturn, 1) := by decide +kernel
theorem dX1_weightUpTo_0 : decode cX1_weightUpTo 0 = .ok (.iconst 0, 1) := by decide +kernel
theorem dX1_weightUpTo_1 : decode cX1_weightUpTo 1 = .ok (.istore_n 3, 1) := by decide +kernel
theorem dX1_weightUpTo_2 : decode cX1_weightUpTo 2 = .ok (.iconst 0, 1) := by decide +kernel
theorem dX1_weightUpTo_3 : decode cX1_weightUpTo 3 = .ok (.istore 4, 2) := by decide +kernel
theorem dX1_weightUpTo_5 : decode cX1_weightUpTo 5 = .ok (.iload 4, 2) := by decide +kernel
theorem dX1_weightUpTo_7 : decode cX1_weightUpTo 7 = .ok (.aload_n 0, 1) := by decide +kernel
theorem dX1_weightUpTo_8 : decode cX1_weightUpTo 8 = .ok (.getfield 25, 3) := by decide +kernel
theorem dX1_weightUpTo_11 : decode cX1_weightUpTo 11 = .ok (.getfield 29, 3) := by decide +kernel
theorem dX1_weightUpTo_14 : decode cX1_weightUpTo 14 = .ok (.if_icmp .ge 42, 3) := by decide +kernel
theorem dX1_weightUpTo_17 : decode cX1_weightUpTo 17 = .ok (.iload_n 2, 1) := by decide +kernel
theorem dX1_weightUpTo_18 : decode cX1_weightUpTo 18 = .ok (.iconst 1, 1) := by decide +kernel
theorem dX1_weightUpTo_19 : decode cX1_weightUpTo 19 = .ok (.iload 4, 2) := by decide +kernel
theorem dX1_weightUpTo_21 : decode cX1_weightUpTo 21 = .ok (.ishl, 1) := by decide +kernel
theorem dX1_weightUpTo_22 : decode cX1_weightUpTo 22 = .ok (.iand, 1) := by decide +kernel
theorem dX1_weightUpTo_23 : decode cX1_weightUpTo 23 = .ok (.ifCond .eq 27, 3) := by decide +kernel
theorem dX1_weightUpTo_26 : decode cX1_weightUpTo 26 = .ok (.aload_n 0, 1) := by decide +kernel
theorem dX1_weightUpTo_27 : decode cX1_weightUpTo 27 = .ok (.getfield 9, 3) := by decide +kernel
theorem dX1_weightUpTo_30 : decode cX1_weightUpTo 30 = .ok (.iload 4, 2) := by decide +kernel
theorem dX1_weightUpTo_32 : decode cX1_weightUpTo 32 = .ok (.iaload, 1) := by decide +kernel
theorem dX1_weightUpTo_33 : decode cX1_weightUpTo 33 = .ok (.iload_n 1, 1) := by decide +kernel
theorem dX1_weightUpTo_34 : decode cX1_weightUpTo 34 = .ok (.if_icmp .gt 16, 3) := by decide +kernel
theorem dX1_weightUpTo_37 : decode cX1_weightUpTo 37 = .ok (.iload_n 3, 1) := by decide +kernel
theorem dX1_weightUpTo_38 : decode cX1_weightUpTo 38 = .ok (.aload_n 0, 1) := by decide +kernel
theorem dX1_weightUpTo_39 : decode cX1_weightUpTo 39 = .ok (.getfield 25, 3) := by decide +kernel
theorem dX1_weightUpTo_42 : decode cX1_weightUpTo 42 = .ok (.getfield 35, 3) := by decide +kernel
theorem dX1_weightUpTo_45 : decode cX1_weightUpTo 45 = .ok (.iload 4, 2) := by decide +kernel
theorem dX1_weightUpTo_47 : decode cX1_weightUpTo 47 = .ok (.iaload, 1) := by decide +kernel
theorem dX1_weightUpTo_48 : decode cX1_weightUpTo 48 = .ok (.iadd, 1) := by decide +kernel
theorem dX1_weightUpTo_49 : decode cX1_weightUpTo 49 = .ok (.istore_n 3, 1) := by decide +kernel
theorem dX1_weightUpTo_50 : decode cX1_weightUpTo 50 = .ok (.iinc 4 1, 3) := by decide +kernel
theorem dX1_weightUpTo_53 : decode cX1_weightUpTo 53 = .ok (.goto (-48), 3) := by decide +kernel
theorem dX1_weightUpTo_56 : decode cX1_weightUpTo 56 = .ok (.iload_n 3, 1) := by decide +kernel
theorem dX1_weightUpTo_57 : decode cX1_weightUpTo 57 = .ok (.ireturn, 1) := by decide +kernel
set_option maxRecDepth 20000 in
theorem ggX2_init_X0_init : GoodIn wsX2_init wsX0_init := goodIn_r _ [16, 17, 2, 3, 18, 19, 20, 21, 22, 23, 24, 25, 26, 27, 28, 29, 12, 30, 31, 32, 33, 34, 35, 36, 37, 38, 39, 40, 41, 42, 43, 44, 45, 46, 47, 48, 49, 50, 51, 52, 53, 85, 86, 87, 88, 89, 64, 65, 66, 67, 68, 69, 70, 71, 72, 73, 74, 75, 76, 90, 91, 92, 93, 94, 95, 96, 97, 98, 99, 100, 101, 102, 103, 104, 105, 106] (by decide +kernel) (by decide +kernel)
set_option maxRecDepth 20000 in
theorem gX2_init_X0_init_n11 : GoodIn wsX2_init (wsX0_init) := ggX2_init_X0_init
set_option maxRecDepth 20000 in
theorem ggX2_init_X7_init : GoodIn wsX2_init wsX7_init := goodIn_r _ [55, 56, 2, 3, 12, 57, 58, 59, 81, 82, 83, 84] (by decide +kernel) (by decide +kernel)
set_option maxRecDepth 20000 in
theorem gX2_init_X7_init_n20 : GoodIn wsX2_init (wsX7_init) := ggX2_init_X7_init
set_option maxRecDepth 20000 in
theorem ggX2_init_J7_fill_53178 : GoodIn wsX2_init wsJ7_fill_53178 := goodIn_r _ [63] (by decide +kernel) (by decide +kernel)
set_option maxRecDepth 20000 in
theorem gX2_init_J7_fill_53178 : GoodIn wsX2_init (va_wsS RX2 33 yJ7_fill_53178 wsJ7_fill_53178) := goodIn_app (goodIn_of _ (by decide +kernel)) ggX2_init_J7_fill_53178
theorem dX2_init_0 : decode cX2_init 0 = .ok (.aload_n 0, 1) := by decide +kernel
theorem dX2_init_1 : decode cX2_init 1 = .ok (.invokespecial 3, 3) := by decide +kernel
theorem dX2_init_4 : decode cX2_init 4 = .ok (.aload_n 0, 1) := by decide +kernel
theorem dX2_init_5 : decode cX2_init 5 = .ok (.new 9, 3) := by decide +kernel
theorem dX2_init_8 : decode cX2_init 8 = .ok (.dup, 1) := by decide +kernel
theorem dX2_init_9 : decode cX2_init 9 = .ok (.invokespecial 11, 3) := by decide +kernel
theorem dX2_init_12 : decode cX2_init 12 = .ok (.putfield 12, 3) := by decide +kernel
theorem dX2_init_15 : decode cX2_init 15 = .ok (.aload_n 0, 1) := by decide +kernel
theorem dX2_init_16 : decode cX2_init 16 = .ok (.new 18, 3) := by decide +kernel
theorem dX2_init_19 : decode cX2_init 19 = .ok (.dup, 1) := by decide +kernel
theorem dX2_init_20 : decode cX2_init 20 = .ok (.invokespecial 20, 3) := by decide +kernel
theorem dX2_init_23 : decode cX2_init 23 = .ok (.putfield 21, 3) := by decide +kernel
theorem dX2_init_26 : decode cX2_init 26 = .ok (.aload_n 0, 1) := by decide +kernel
theorem dX2_init_27 : decode cX2_init 27 = .ok (.bipush 10, 2) := by decide +kernel
theorem dX2_init_29 : decode cX2_init 29 = .ok (.newarray .int, 2) := by decide +kernel
theorem dX2_init_31 : decode cX2_init 31 = .ok (.putfield 25, 3) := by decide +kernel
theorem dX2_init_34 : decode cX2_init 34 = .ok (.aload_n 0, 1) := by decide +kernel
theorem dX2_init_35 : decode cX2_init 35 = .ok (.iconst 1, 1) := by decide +kernel
theorem dX2_init_36 : decode cX2_init 36 = .ok (.putfield 29, 3) := by decide +kernel
theorem dX2_init_39 : decode cX2_init 39 = .ok (.aload_n 0, 1) := by decide +kernel
theorem dX2_init_40 : decode cX2_init 40 = .ok (.getfield 25, 3) := by decide +kernel
theorem dX2_init_43 : decode cX2_init 43 = .ok (.iconst (-1), 1) := by decide +kernel
theorem dX2_init_44 : decode cX2_init 44 = .ok (.invokestatic 33, 3) := by decide +kernel
theorem dX2_init_47 : decode cX2_init 47 = .ok (.return_, 1) := by decide +kernel
theorem dX2_draw_0 : decode cX2_draw 0 = .ok (.aload_n 0, 1) := by decide +kernel
theorem dX2_draw_1 : decode cX2_draw 1 = .ok (.aload_n 0, 1) := by decide +kernel
theorem dX2_draw_2 : decode cX2_draw 2 = .ok (.getfield 29, 3) := by decide +kernel
theorem dX2_draw_5 : decode cX2_draw 5 = .ok (.ldc 39, 2) := by decide +kernel
theorem dX2_draw_7 : decode cX2_draw 7 = .ok (.imul, 1) := by decide +kernel
theorem dX2_draw_8 : decode cX2_draw 8 = .ok (.sipush 12345, 3) := by decide +kernel
theorem dX2_draw_11 : decode cX2_draw 11 = .ok (.iadd, 1) := by decide +kernel
theorem dX2_draw_12 : decode cX2_draw 12 = .ok (.putfield 29, 3) := by decide +kernel
theorem dX2_draw_15 : decode cX2_draw 15 = .ok (.aload_n 0, 1) := by decide +kernel
theorem dX2_draw_16 : decode cX2_draw 16 = .ok (.getfield 29, 3) := by decide +kernel
theorem dX2_draw_19 : decode cX2_draw 19 = .ok (.bipush 8, 2) := by decide +kernel
theorem dX2_draw_21 : decode cX2_draw 21 = .ok (.iushr, 1) := by decide +kernel
theorem dX2_draw_22 : decode cX2_draw 22 = .ok (.ireturn, 1) := by decide +kernel
set_option maxRecDepth 20000 in
theorem ggX2_becomeLike_X0_becomeLike : GoodIn wsX2_becomeLike wsX0_becomeLike := goodIn_r _ [13, 14, 15, 16, 17, 18, 5, 6, 7, 19, 20, 21, 22, 23, 24, 25, 26, 27, 28, 29, 30, 31, 32, 33, 34, 35, 36, 37, 38, 39, 40, 41, 42, 43, 44, 45, 46, 47, 48, 49, 50, 51, 52, 53, 54, 55, 56, 57, 58, 59, 60, 61, 62, 63, 64, 65, 66, 67, 68, 69, 70, 71, 72, 73, 74, 75, 90, 91, 92, 93, 94, 95, 96, 97, 98, 99, 100, 101, 102, 103, 104, 105, 106, 107, 108, 109, 110, 111, 112, 113, 114, 115, 116, 117, 118, 119, 120, 121, 122, 123, 124] (by decide +kernel) (by decide +kernel)
set_option maxRecDepth 20000 in
theorem gX2_becomeLike_X0_becomeLike : GoodIn wsX2_becomeLike (wsV RX2 40 RX0 yX0_becomeLike wsX0_becomeLike) := goodIn_app (goodIn_of _ (by decide +kernel)) ggX2_becomeLike_X0_becomeLike
set_option maxRecDepth 20000 in
theorem ggX2_becomeLike_X7_becomeLike : GoodIn wsX2_becomeLike wsX7_becomeLike := goodIn_r _ [80, 81, 82, 83, 5, 6, 7, 84, 85, 125, 126, 127, 128] (by decide +kernel) (by decide +kernel)
set_option maxRecDepth 20000 in
theorem gX2_becomeLike_X7_becomeLike : GoodIn wsX2_becomeLike (wsV RX2 44 RX7 yX7_becomeLike wsX7_becomeLike) := goodIn_app (goodIn_of _ (by decide +kernel)) ggX2_becomeLike_X7_becomeLike
theorem dX2_becomeLike_0 : decode cX2_becomeLike 0 = .ok (.aload_n 0, 1) := by decide +kernel
theorem dX2_becomeLike_1 : decode cX2_becomeLike 1 = .ok (.getfield 12, 3) := by decide +kernel
theorem dX2_becomeLike_4 : decode cX2_becomeLike 4 = .ok (.aload_n 1, 1) := by decide +kernel
theorem dX2_becomeLike_5 : decode cX2_becomeLike 5 = .ok (.getfield 12, 3) := by decide +kernel
theorem dX2_becomeLike_8 : decode cX2_becomeLike 8 = .ok (.invokevirtual 40, 3) := by decide +kernel
theorem dX2_becomeLike_11 : decode cX2_becomeLike 11 = .ok (.aload_n 0, 1) := by decide +kernel
theorem dX2_becomeLike_12 : decode cX2_becomeLike 12 = .ok (.getfield 21, 3) := by decide +kernel
theorem dX2_becomeLike_15 : decode cX2_becomeLike 15 = .ok (.aload_n 1, 1) := by decide +kernel
theorem dX2_becomeLike_16 : decode cX2_becomeLike 16 = .ok (.getfield 21, 3) := by decide +kernel
theorem dX2_becomeLike_19 : decode cX2_becomeLike 19 = .ok (.invokevirtual 44, 3) := by decide +kernel
theorem dX2_becomeLike_22 : decode cX2_becomeLike 22 = .ok (.aload_n 1, 1) := by decide +kernel
theorem dX2_becomeLike_23 : decode cX2_becomeLike 23 = .ok (.getfield 25, 3) := by decide +kernel
theorem dX2_becomeLike_26 : decode cX2_becomeLike 26 = .ok (.iconst 0, 1) := by decide +kernel
theorem dX2_becomeLike_27 : decode cX2_becomeLike 27 = .ok (.aload_n 0, 1) := by decide +kernel
theorem dX2_becomeLike_28 : decode cX2_becomeLike 28 = .ok (.getfield 25, 3) := by decide +kernel
theorem dX2_becomeLike_31 : decode cX2_becomeLike 31 = .ok (.iconst 0, 1) := by decide +kernel
theorem dX2_becomeLike_32 : decode cX2_becomeLike 32 = .ok (.bipush 10, 2) := by decide +kernel
theorem dX2_becomeLike_34 : decode cX2_becomeLike 34 = .ok (.invokestatic 47, 3) := by decide +kernel
theorem dX2_becomeLike_37 : decode cX2_becomeLike 37 = .ok (.aload_n 0, 1) := by decide +kernel
theorem dX2_becomeLike_38 : decode cX2_becomeLike 38 = .ok (.aload_n 1, 1) := by decide +kernel
theorem dX2_becomeLike_39 : decode cX2_becomeLike 39 = .ok (.getfield 29, 3) := by decide +kernel
theorem dX2_becomeLike_42 : decode cX2_becomeLike 42 = .ok (.putfield 29, 3) := by decide +kernel
theorem dX2_becomeLike_45 : decode cX2_becomeLike 45 = .ok (.return_, 1) := by decide +kernel
set_option maxRecDepth 20000 in
theorem ggX3_init_X0_init : GoodIn wsX3_init wsX0_init := goodIn_r _ [12, 13, 2, 3, 14, 15, 16, 17, 18, 19, 20, 21, 22, 23, 24, 25, 8, 26, 27, 28, 29, 30, 31, 32, 33, 34, 35, 36, 37, 38, 39, 40, 41, 42, 43, 44, 45, 46, 47, 48, 49, 66, 67, 68, 69, 70, 50, 51, 52, 53, 54, 55, 56, 57, 58, 59, 60, 61, 62, 71, 72, 73, 74, 75, 76, 77, 78, 79, 80, 81, 82, 83, 84, 85, 86, 87] (by decide +kernel) (by decide +kernel)
set_option maxRecDepth 20000 in
theorem gX3_init_X0_init_n11 : GoodIn wsX3_init (wsX0_init) := ggX3_init_X0_init
theorem dX3_init_0 : decode cX3_init 0 = .ok (.aload_n 0, 1) := by decide +kernel
theorem dX3_init_1 : decode cX3_init 1 = .ok (.invokespecial 3, 3) := by decide +kernel
theorem dX3_init_4 : decode cX3_init 4 = .ok (.aload_n 0, 1) := by decide +kernel
theorem dX3_init_5 : decode cX3_init 5 = .ok (.new 9, 3) := by decide +kernel
theorem dX3_init_8 : decode cX3_init 8 = .ok (.dup, 1) := by decide +kernel
theorem dX3_init_9 : decode cX3_init 9 = .ok (.invokespecial 11, 3) := by decide +kernel
theorem dX3_init_12 : decode cX3_init 12 = .ok (.putfield 12, 3) := by decide +kernel
theorem dX3_init_15 : decode cX3_init 15 = .ok (.aload_n 0, 1) := by decide +kernel
theorem dX3_init_16 : decode cX3_init 16 = .ok (.sipush 200, 3) := by decide +kernel
theorem dX3_init_19 : decode cX3_init 19 = .ok (.newarray .int, 2) := by decide +kernel
theorem dX3_init_21 : decode cX3_init 21 = .ok (.putfield 18, 3) := by decide +kernel
theorem dX3_init_24 : decode cX3_init 24 = .ok (.aload_n 0, 1) := by decide +kernel
theorem dX3_init_25 : decode cX3_init 25 = .ok (.aload_n 1, 1) := by decide +kernel
theorem dX3_init_26 : decode cX3_init 26 = .ok (.putfield 22, 3) := by decide +kernel
theorem dX3_init_29 : decode cX3_init 29 = .ok (.return_, 1) := by decide +kernel
set_option maxRecDepth 20000 in
theorem ggX3_begin_X0_becomeLike : GoodIn wsX3_begin wsX0_becomeLike := goodIn_r _ [8, 9, 10, 11, 12, 13, 14, 15, 16, 17, 18, 19, 20, 21, 22, 23, 24, 25, 26, 27, 28, 29, 30, 31, 32, 33, 34, 35, 36, 37, 38, 39, 40, 41, 42, 43, 44, 45, 46, 47, 48, 49, 50, 51, 52, 53, 54, 55, 56, 57, 58, 59, 60, 61, 62, 63, 64, 65, 66, 67, 68, 69, 70, 71, 72, 73, 77, 78, 79, 80, 81, 82, 83, 84, 85, 86, 87, 88, 89, 90, 91, 92, 93, 94, 95, 96, 97, 98, 99, 100, 101, 102, 103, 104, 105, 106, 107, 108, 109, 110, 111] (by decide +kernel) (by decide +kernel)
set_option maxRecDepth 20000 in
theorem gX3_begin_X0_becomeLike : GoodIn wsX3_begin (wsV RX3 25 RX0 yX0_becomeLike wsX0_becomeLike) := goodIn_app (goodIn_of _ (by decide +kernel)) ggX3_begin_X0_becomeLike
theorem dX3_begin_0 : decode cX3_begin 0 = .ok (.aload_n 0, 1) := by decide +kernel
theorem dX3_begin_1 : decode cX3_begin 1 = .ok (.getfield 12, 3) := by decide +kernel
theorem dX3_begin_4 : decode cX3_begin 4 = .ok (.aload_n 0, 1) := by decide +kernel
theorem dX3_begin_5 : decode cX3_begin 5 = .ok (.getfield 22, 3) := by decide +kernel
theorem dX3_begin_8 : decode cX3_begin 8 = .ok (.invokevirtual 25, 3) := by decide +kernel
theorem dX3_begin_11 : decode cX3_begin 11 = .ok (.aload_n 0, 1) := by decide +kernel
theorem dX3_begin_12 : decode cX3_begin 12 = .ok (.getfield 12, 3) := by decide +kernel
theorem dX3_begin_15 : decode cX3_begin 15 = .ok (.iconst 0, 1) := by decide +kernel
theorem dX3_begin_16 : decode cX3_begin 16 = .ok (.putfield 29, 3) := by decide +kernel
theorem dX3_begin_19 : decode cX3_begin 19 = .ok (.return_, 1) := by decide +kernel
set_option maxRecDepth 20000 in
theorem ggX3_outcome_X9_harmedWorth : GoodIn wsX3_outcome wsX9_harmedWorth := goodIn_r _ [12, 13, 14, 15, 16, 17, 11, 18, 19, 47, 48, 49, 50, 51, 52] (by decide +kernel) (by decide +kernel)
set_option maxRecDepth 20000 in
theorem gX3_outcome_X9_harmedWorth : GoodIn wsX3_outcome (wsV RX3 49 RX9 yX9_harmedWorth wsX9_harmedWorth) := goodIn_app (goodIn_of _ (by decide +kernel)) ggX3_outcome_X9_harmedWorth
theorem dX3_outcome_0 : decode cX3_outcome 0 = .ok (.iload_n 1, 1) := by decide +kernel
theorem dX3_outcome_1 : decode cX3_outcome 1 = .ok (.tableswitch 65 0 2 #[27, 35, 43], 27) := by decide +kernel
theorem dX3_outcome_28 : decode cX3_outcome 28 = .ok (.aload_n 0, 1) := by decide +kernel
theorem dX3_outcome_29 : decode cX3_outcome 29 = .ok (.getfield 12, 3) := by decide +kernel
theorem dX3_outcome_32 : decode cX3_outcome 32 = .ok (.getfield 33, 3) := by decide +kernel
theorem dX3_outcome_35 : decode cX3_outcome 35 = .ok (.ireturn, 1) := by decide +kernel
theorem dX3_outcome_36 : decode cX3_outcome 36 = .ok (.aload_n 0, 1) := by decide +kernel
theorem dX3_outcome_37 : decode cX3_outcome 37 = .ok (.getfield 12, 3) := by decide +kernel
theorem dX3_outcome_40 : decode cX3_outcome 40 = .ok (.getfield 29, 3) := by decide +kernel
theorem dX3_outcome_43 : decode cX3_outcome 43 = .ok (.ireturn, 1) := by decide +kernel
theorem dX3_outcome_44 : decode cX3_outcome 44 = .ok (.aload_n 0, 1) := by decide +kernel
theorem dX3_outcome_45 : decode cX3_outcome 45 = .ok (.getfield 12, 3) := by decide +kernel
theorem dX3_outcome_48 : decode cX3_outcome 48 = .ok (.getfield 36, 3) := by decide +kernel
theorem dX3_outcome_51 : decode cX3_outcome 51 = .ok (.getfield 40, 3) := by decide +kernel
theorem dX3_outcome_54 : decode cX3_outcome 54 = .ok (.aload_n 0, 1) := by decide +kernel
theorem dX3_outcome_55 : decode cX3_outcome 55 = .ok (.getfield 22, 3) := by decide +kernel
theorem dX3_outcome_58 : decode cX3_outcome 58 = .ok (.getfield 36, 3) := by decide +kernel
theorem dX3_outcome_61 : decode cX3_outcome 61 = .ok (.getfield 40, 3) := by decide +kernel
theorem dX3_outcome_64 : decode cX3_outcome 64 = .ok (.isub, 1) := by decide +kernel
theorem dX3_outcome_65 : decode cX3_outcome 65 = .ok (.ireturn, 1) := by decide +kernel
theorem dX3_outcome_66 : decode cX3_outcome 66 = .ok (.aload_n 0, 1) := by decide +kernel
theorem dX3_outcome_67 : decode cX3_outcome 67 = .ok (.getfield 12, 3) := by decide +kernel
theorem dX3_outcome_70 : decode cX3_outcome 70 = .ok (.getfield 45, 3) := by decide +kernel
theorem dX3_outcome_73 : decode cX3_outcome 73 = .ok (.invokevirtual 49, 3) := by decide +kernel
theorem dX3_outcome_76 : decode cX3_outcome 76 = .ok (.ireturn, 1) := by decide +kernel
set_option maxRecDepth 20000 in
theorem ggX3_behindMinutes_X3_begin : GoodIn wsX3_behindMinutes wsX3_begin := goodIn_r _ [6, 1, 7, 8, 9, 10, 11, 12, 13, 14, 15, 16, 17, 18, 19, 20, 21, 22, 23, 24, 25, 26, 27, 28, 29, 30, 31, 32, 33, 34, 35, 36, 37, 38, 39, 40, 41, 42, 43, 44, 45, 46, 47, 48, 49, 50, 51, 52, 53, 54, 55, 56, 57, 58, 59, 60, 61, 62, 63, 64, 65, 66, 67, 68, 69, 70, 71, 72, 73, 74, 75, 76, 77, 78, 148, 149, 150, 151, 152, 153, 154, 155, 156, 157, 158, 159, 160, 161, 162, 163, 164, 165, 166, 167, 168, 169, 170, 171, 172, 173, 174, 175, 176, 177, 178, 179, 180, 181, 182, 183, 184, 185] (by decide +kernel) (by decide +kernel)
set_option maxRecDepth 20000 in
theorem gX3_behindMinutes_X3_begin : GoodIn wsX3_behindMinutes (wsV RX3 55 RX3 yX3_begin wsX3_begin) := goodIn_app (goodIn_of _ (by decide +kernel)) ggX3_behindMinutes_X3_begin
set_option maxRecDepth 20000 in
theorem ggX3_behindMinutes_X0_passMinutes : GoodIn wsX3_behindMinutes wsX0_passMinutes := goodIn_r _ [82, 83, 84, 85, 12, 86, 26, 29, 15, 27, 16, 30, 87, 88, 65, 89, 90, 91, 92, 93, 25, 24, 94, 64, 66, 95, 96, 97, 98, 14, 99, 100, 28, 101, 102, 103, 104, 105, 106, 107, 23, 108, 109, 110, 111, 22, 112, 113, 114, 45, 115, 54, 47, 52, 51, 53, 49, 63, 56, 48, 116, 117, 118, 119, 120, 121, 122, 123, 55, 50, 124, 125, 126, 127, 57, 128, 129, 130, 70, 131, 72, 76, 77, 78, 151, 152, 153, 154, 155, 156, 157, 158, 159, 160, 161, 162, 163, 164, 165, 166, 167, 168, 169, 170, 171, 172, 173, 174, 175, 176, 177, 178, 179, 180, 181, 182, 183, 184, 185] (by decide +kernel) (by decide +kernel)
set_option maxRecDepth 20000 in
theorem gX3_behindMinutes_X0_passMinutes : GoodIn wsX3_behindMinutes (wsV RX3 58 RX0 yX0_passMinutes wsX0_passMinutes) := goodIn_app (goodIn_of _ (by decide +kernel)) ggX3_behindMinutes_X0_passMinutes
set_option maxRecDepth 20000 in
theorem ggX3_behindMinutes_X3_outcome : GoodIn wsX3_behindMinutes wsX3_outcome := goodIn_r _ [135, 1, 136, 8, 137, 138, 7, 139, 140, 141, 142, 70, 143, 72, 73, 144, 145, 146, 147, 78, 148, 149, 150, 151, 152, 153, 154, 155, 156, 157, 158, 159, 160, 161, 162, 163, 169, 170, 171, 172, 173, 174, 175, 176, 177, 178, 179, 180, 181, 182, 183, 184, 185] (by decide +kernel) (by decide +kernel)
set_option maxRecDepth 20000 in
theorem gX3_behindMinutes_X3_outcome : GoodIn wsX3_behindMinutes (wsV RX3 62 RX3 yX3_outcome wsX3_outcome) := goodIn_app (goodIn_of _ (by decide +kernel)) ggX3_behindMinutes_X3_outcome
theorem dX3_behindMinutes_0 : decode cX3_behindMinutes 0 = .ok (.aload_n 0, 1) := by decide +kernel
theorem dX3_behindMinutes_1 : decode cX3_behindMinutes 1 = .ok (.invokevirtual 55, 3) := by decide +kernel
theorem dX3_behindMinutes_4 : decode cX3_behindMinutes 4 = .ok (.aload_n 0, 1) := by decide +kernel
theorem dX3_behindMinutes_5 : decode cX3_behindMinutes 5 = .ok (.getfield 12, 3) := by decide +kernel
theorem dX3_behindMinutes_8 : decode cX3_behindMinutes 8 = .ok (.iload_n 1, 1) := by decide +kernel
theorem dX3_behindMinutes_9 : decode cX3_behindMinutes 9 = .ok (.invokevirtual 58, 3) := by decide +kernel
theorem dX3_behindMinutes_12 : decode cX3_behindMinutes 12 = .ok (.aload_n 0, 1) := by decide +kernel
theorem dX3_behindMinutes_13 : decode cX3_behindMinutes 13 = .ok (.iload_n 2, 1) := by decide +kernel
theorem dX3_behindMinutes_14 : decode cX3_behindMinutes 14 = .ok (.invokevirtual 62, 3) := by decide +kernel
theorem dX3_behindMinutes_17 : decode cX3_behindMinutes 17 = .ok (.ireturn, 1) := by decide +kernel
set_option maxRecDepth 20000 in
theorem ggX3_behindSky_X3_begin : GoodIn wsX3_behindSky wsX3_begin := goodIn_r _ [6, 1, 7, 8, 9, 10, 11, 12, 13, 14, 15, 16, 17, 18, 19, 20, 21, 22, 23, 24, 25, 26, 27, 28, 29, 30, 31, 32, 33, 34, 35, 36, 37, 38, 39, 40, 41, 42, 43, 44, 45, 46, 47, 48, 49, 50, 51, 52, 53, 54, 55, 56, 57, 58, 59, 60, 61, 62, 63, 64, 65, 66, 67, 68, 69, 70, 71, 72, 73, 74, 75, 76, 77, 78, 158, 159, 160, 161, 162, 163, 164, 165, 166, 167, 168, 169, 170, 171, 172, 173, 174, 175, 176, 177, 178, 179, 180, 181, 182, 183, 184, 185, 186, 187, 188, 189, 190, 191, 192, 193, 194, 195] (by decide +kernel) (by decide +kernel)
set_option maxRecDepth 20000 in
theorem gX3_behindSky_X3_begin : GoodIn wsX3_behindSky (wsV RX3 55 RX3 yX3_begin wsX3_begin) := goodIn_app (goodIn_of _ (by decide +kernel)) ggX3_behindSky_X3_begin
set_option maxRecDepth 20000 in
theorem ggX3_behindSky_X7_perform : GoodIn wsX3_behindSky wsX7_perform := goodIn_r _ [83, 84, 85, 86, 87, 88, 89, 12, 90, 26, 29, 15, 27, 16, 30, 91, 92, 65, 93, 94, 95, 96, 97, 25, 24, 98, 64, 66, 99, 100, 101, 102, 14, 103, 104, 28, 105, 106, 107, 108, 109, 110, 111, 23, 112, 113, 114, 115, 22, 116, 117, 118, 45, 119, 54, 47, 52, 51, 53, 49, 63, 56, 48, 120, 121, 122, 123, 124, 125, 126, 127, 55, 50, 128, 129, 130, 131, 57, 132, 133, 134, 70, 135, 72, 76, 77, 78, 136, 137, 138, 139, 140, 141, 196, 197, 198, 199, 161, 162, 163, 164, 165, 166, 167, 168, 169, 170, 171, 172, 173, 174, 175, 176, 177, 178, 179, 180, 181, 182, 183, 184, 185, 186, 187, 188, 189, 190, 191, 192, 193, 194, 195] (by decide +kernel) (by decide +kernel)
set_option maxRecDepth 20000 in
theorem gX3_behindSky_X7_perform : GoodIn wsX3_behindSky (wsV RX3 66 RX7 yX7_perform wsX7_perform) := goodIn_app (goodIn_of _ (by decide +kernel)) ggX3_behindSky_X7_perform
set_option maxRecDepth 20000 in
theorem ggX3_behindSky_X3_outcome : GoodIn wsX3_behindSky wsX3_outcome := goodIn_r _ [145, 1, 146, 8, 147, 148, 7, 149, 150, 151, 152, 70, 153, 72, 73, 154, 155, 156, 157, 78, 158, 159, 160, 161, 162, 163, 164, 165, 166, 167, 168, 169, 170, 171, 172, 173, 179, 180, 181, 182, 183, 184, 185, 186, 187, 188, 189, 190, 191, 192, 193, 194, 195] (by decide +kernel) (by decide +kernel)
set_option maxRecDepth 20000 in
theorem gX3_behindSky_X3_outcome : GoodIn wsX3_behindSky (wsV RX3 62 RX3 yX3_outcome wsX3_outcome) := goodIn_app (goodIn_of _ (by decide +kernel)) ggX3_behindSky_X3_outcome
theorem dX3_behindSky_0 : decode cX3_behindSky 0 = .ok (.aload_n 0, 1) := by decide +kernel
theorem dX3_behindSky_1 : decode cX3_behindSky 1 = .ok (.invokevirtual 55, 3) := by decide +kernel
theorem dX3_behindSky_4 : decode cX3_behindSky 4 = .ok (.aload_n 1, 1) := by decide +kernel
theorem dX3_behindSky_5 : decode cX3_behindSky 5 = .ok (.iload_n 2, 1) := by decide +kernel
theorem dX3_behindSky_6 : decode cX3_behindSky 6 = .ok (.aload_n 0, 1) := by decide +kernel
theorem dX3_behindSky_7 : decode cX3_behindSky 7 = .ok (.getfield 12, 3) := by decide +kernel
theorem dX3_behindSky_10 : decode cX3_behindSky 10 = .ok (.invokevirtual 66, 3) := by decide +kernel
theorem dX3_behindSky_13 : decode cX3_behindSky 13 = .ok (.aload_n 0, 1) := by decide +kernel
theorem dX3_behindSky_14 : decode cX3_behindSky 14 = .ok (.iload_n 3, 1) := by decide +kernel
theorem dX3_behindSky_15 : decode cX3_behindSky 15 = .ok (.invokevirtual 62, 3) := by decide +kernel
theorem dX3_behindSky_18 : decode cX3_behindSky 18 = .ok (.ireturn, 1) := by decide +kernel
set_option maxRecDepth 20000 in
theorem ggX3_firstMinuteAbove_X3_begin : GoodIn wsX3_firstMinuteAbove wsX3_begin := goodIn_r _ [7, 1, 8, 9, 10, 11, 12, 13, 14, 15, 16, 17, 18, 19, 20, 21, 22, 23, 24, 25, 26, 27, 28, 29, 30, 31, 32, 33, 34, 35, 36, 37, 38, 39, 40, 41, 42, 43, 44, 45, 46, 47, 48, 49, 50, 51, 52, 53, 54, 55, 56, 57, 58, 59, 60, 61, 62, 63, 64, 65, 66, 67, 68, 69, 70, 71, 72, 73, 74, 75, 76, 77, 78, 79, 129, 130, 131, 132, 133, 134, 135, 136, 137, 138, 139, 140, 141, 142, 143, 144, 145, 146, 147, 148, 149, 150, 151, 152, 153, 154, 155, 156, 157, 158, 159, 160, 161, 162, 163, 164, 165, 166] (by decide +kernel) (by decide +kernel)
set_option maxRecDepth 20000 in
theorem gX3_firstMinuteAbove_X3_begin : GoodIn wsX3_firstMinuteAbove (wsV RX3 55 RX3 yX3_begin wsX3_begin) := goodIn_app (goodIn_of _ (by decide +kernel)) ggX3_firstMinuteAbove_X3_begin
set_option maxRecDepth 20000 in
theorem ggX3_firstMinuteAbove_X0_passMinute : GoodIn wsX3_firstMinuteAbove wsX0_passMinute := goodIn_r _ [83, 27, 30, 16, 28, 17, 31, 84, 85, 66, 86, 87, 88, 89, 13, 90, 26, 25, 91, 65, 67, 92, 93, 94, 95, 15, 96, 97, 29, 98, 99, 100, 101, 102, 103, 104, 24, 105, 106, 107, 108, 23, 109, 110, 111, 46, 112, 55, 48, 53, 52, 54, 50, 64, 57, 49, 113, 114, 115, 116, 117, 118, 119, 120, 56, 51, 121, 122, 123, 124, 58, 125, 126, 127, 71, 128, 73, 77, 78, 79, 132, 133, 134, 135, 136, 137, 138, 139, 140, 141, 142, 143, 144, 145, 146, 147, 148, 149, 150, 151, 152, 153, 154, 155, 156, 157, 158, 159, 160, 161, 162, 163, 164, 165, 166] (by decide +kernel) (by decide +kernel)
set_option maxRecDepth 20000 in
theorem gX3_firstMinuteAbove_X0_passMinute : GoodIn wsX3_firstMinuteAbove (wsV RX3 72 RX0 yX0_passMinute wsX0_passMinute) := goodIn_app (goodIn_of _ (by decide +kernel)) ggX3_firstMinuteAbove_X0_passMinute
theorem dX3_firstMinuteAbove_0 : decode cX3_firstMinuteAbove 0 = .ok (.aload_n 0, 1) := by decide +kernel
theorem dX3_firstMinuteAbove_1 : decode cX3_firstMinuteAbove 1 = .ok (.invokevirtual 55, 3) := by decide +kernel
theorem dX3_firstMinuteAbove_4 : decode cX3_firstMinuteAbove 4 = .ok (.iconst 1, 1) := by decide +kernel
theorem dX3_firstMinuteAbove_5 : decode cX3_firstMinuteAbove 5 = .ok (.istore_n 2, 1) := by decide +kernel
theorem dX3_firstMinuteAbove_6 : decode cX3_firstMinuteAbove 6 = .ok (.iload_n 2, 1) := by decide +kernel
theorem dX3_firstMinuteAbove_7 : decode cX3_firstMinuteAbove 7 = .ok (.sipush 400, 3) := by decide +kernel
theorem dX3_firstMinuteAbove_10 : decode cX3_firstMinuteAbove 10 = .ok (.if_icmp .gt 29, 3) := by decide +kernel
theorem dX3_firstMinuteAbove_13 : decode cX3_firstMinuteAbove 13 = .ok (.aload_n 0, 1) := by decide +kernel
theorem dX3_firstMinuteAbove_14 : decode cX3_firstMinuteAbove 14 = .ok (.getfield 12, 3) := by decide +kernel
theorem dX3_firstMinuteAbove_17 : decode cX3_firstMinuteAbove 17 = .ok (.invokevirtual 72, 3) := by decide +kernel
theorem dX3_firstMinuteAbove_20 : decode cX3_firstMinuteAbove 20 = .ok (.aload_n 0, 1) := by decide +kernel
theorem dX3_firstMinuteAbove_21 : decode cX3_firstMinuteAbove 21 = .ok (.getfield 12, 3) := by decide +kernel
theorem dX3_firstMinuteAbove_24 : decode cX3_firstMinuteAbove 24 = .ok (.getfield 33, 3) := by decide +kernel
theorem dX3_firstMinuteAbove_27 : decode cX3_firstMinuteAbove 27 = .ok (.iload_n 1, 1) := by decide +kernel
theorem dX3_firstMinuteAbove_28 : decode cX3_firstMinuteAbove 28 = .ok (.if_icmp .le 5, 3) := by decide +kernel
theorem dX3_firstMinuteAbove_31 : decode cX3_firstMinuteAbove 31 = .ok (.iload_n 2, 1) := by decide +kernel
theorem dX3_firstMinuteAbove_32 : decode cX3_firstMinuteAbove 32 = .ok (.ireturn, 1) := by decide +kernel
theorem dX3_firstMinuteAbove_33 : decode cX3_firstMinuteAbove 33 = .ok (.iinc 2 1, 3) := by decide +kernel
theorem dX3_firstMinuteAbove_36 : decode cX3_firstMinuteAbove 36 = .ok (.goto (-30), 3) := by decide +kernel
theorem dX3_firstMinuteAbove_39 : decode cX3_firstMinuteAbove 39 = .ok (.iconst (-1), 1) := by decide +kernel
theorem dX3_firstMinuteAbove_40 : decode cX3_firstMinuteAbove 40 = .ok (.ireturn, 1) := by decide +kernel
set_option maxRecDepth 20000 in
theorem ggX3_risesAbove_X3_begin : GoodIn wsX3_risesAbove wsX3_begin := goodIn_r _ [10, 1, 11, 12, 13, 14, 15, 16, 17, 18, 19, 20, 21, 22, 23, 24, 25, 26, 27, 28, 29, 30, 31, 32, 33, 34, 35, 36, 37, 38, 39, 40, 41, 42, 43, 44, 45, 46, 47, 48, 49, 50, 51, 52, 53, 54, 55, 56, 57, 58, 59, 60, 61, 62, 63, 64, 65, 66, 67, 68, 69, 70, 71, 72, 73, 74, 75, 76, 77, 78, 79, 80, 81, 82, 132, 133, 134, 135, 136, 137, 138, 139, 140, 141, 142, 143, 144, 145, 146, 147, 159, 160, 161, 162, 163, 148, 149, 150, 151, 152, 153, 154, 155, 156, 157, 158, 164, 165, 166, 167, 168, 169] (by decide +kernel) (by decide +kernel)
set_option maxRecDepth 20000 in
theorem gX3_risesAbove_X3_begin : GoodIn wsX3_risesAbove (wsV RX3 55 RX3 yX3_begin wsX3_begin) := goodIn_app (goodIn_of _ (by decide +kernel)) ggX3_risesAbove_X3_begin
set_option maxRecDepth 20000 in
theorem ggX3_risesAbove_X0_passMinute : GoodIn wsX3_risesAbove wsX0_passMinute := goodIn_r _ [86, 30, 33, 19, 31, 20, 34, 87, 88, 69, 89, 90, 91, 92, 16, 93, 29, 28, 94, 68, 70, 95, 96, 97, 98, 18, 99, 100, 32, 101, 102, 103, 104, 105, 106, 107, 27, 108, 109, 110, 111, 26, 112, 113, 114, 49, 115, 58, 51, 56, 55, 57, 53, 67, 60, 52, 116, 117, 118, 119, 120, 121, 122, 123, 59, 54, 124, 125, 126, 127, 61, 128, 129, 130, 74, 131, 76, 80, 81, 82, 135, 136, 137, 138, 139, 140, 141, 142, 143, 144, 145, 146, 147, 159, 160, 161, 162, 163, 148, 149, 150, 151, 152, 153, 154, 155, 156, 157, 158, 164, 165, 166, 167, 168, 169] (by decide +kernel) (by decide +kernel)
set_option maxRecDepth 20000 in
theorem gX3_risesAbove_X0_passMinute : GoodIn wsX3_risesAbove (wsV RX3 72 RX0 yX0_passMinute wsX0_passMinute) := goodIn_app (goodIn_of _ (by decide +kernel)) ggX3_risesAbove_X0_passMinute
theorem dX3_risesAbove_0 : decode cX3_risesAbove 0 = .ok (.aload_n 0, 1) := by decide +kernel
theorem dX3_risesAbove_1 : decode cX3_risesAbove 1 = .ok (.invokevirtual 55, 3) := by decide +kernel
theorem dX3_risesAbove_4 : decode cX3_risesAbove 4 = .ok (.aload_n 0, 1) := by decide +kernel
theorem dX3_risesAbove_5 : decode cX3_risesAbove 5 = .ok (.getfield 12, 3) := by decide +kernel
theorem dX3_risesAbove_8 : decode cX3_risesAbove 8 = .ok (.iload_n 1, 1) := by decide +kernel
theorem dX3_risesAbove_9 : decode cX3_risesAbove 9 = .ok (.putfield 75, 3) := by decide +kernel
theorem dX3_risesAbove_12 : decode cX3_risesAbove 12 = .ok (.iload_n 2, 1) := by decide +kernel
theorem dX3_risesAbove_13 : decode cX3_risesAbove 13 = .ok (.ifCond .eq 14, 3) := by decide +kernel
theorem dX3_risesAbove_16 : decode cX3_risesAbove 16 = .ok (.aload_n 0, 1) := by decide +kernel
theorem dX3_risesAbove_17 : decode cX3_risesAbove 17 = .ok (.getfield 12, 3) := by decide +kernel
theorem dX3_risesAbove_20 : decode cX3_risesAbove 20 = .ok (.getfield 36, 3) := by decide +kernel
theorem dX3_risesAbove_23 : decode cX3_risesAbove 23 = .ok (.iconst 0, 1) := by decide +kernel
theorem dX3_risesAbove_24 : decode cX3_risesAbove 24 = .ok (.putfield 78, 3) := by decide +kernel
theorem dX3_risesAbove_27 : decode cX3_risesAbove 27 = .ok (.iconst 0, 1) := by decide +kernel
theorem dX3_risesAbove_28 : decode cX3_risesAbove 28 = .ok (.istore 5, 2) := by decide +kernel
theorem dX3_risesAbove_30 : decode cX3_risesAbove 30 = .ok (.iload 5, 2) := by decide +kernel
theorem dX3_risesAbove_32 : decode cX3_risesAbove 32 = .ok (.iload_n 3, 1) := by decide +kernel
theorem dX3_risesAbove_33 : decode cX3_risesAbove 33 = .ok (.if_icmp .ge 30, 3) := by decide +kernel
theorem dX3_risesAbove_36 : decode cX3_risesAbove 36 = .ok (.aload_n 0, 1) := by decide +kernel
theorem dX3_risesAbove_37 : decode cX3_risesAbove 37 = .ok (.getfield 12, 3) := by decide +kernel
theorem dX3_risesAbove_40 : decode cX3_risesAbove 40 = .ok (.invokevirtual 72, 3) := by decide +kernel
theorem dX3_risesAbove_43 : decode cX3_risesAbove 43 = .ok (.aload_n 0, 1) := by decide +kernel
theorem dX3_risesAbove_44 : decode cX3_risesAbove 44 = .ok (.getfield 12, 3) := by decide +kernel
theorem dX3_risesAbove_47 : decode cX3_risesAbove 47 = .ok (.getfield 33, 3) := by decide +kernel
theorem dX3_risesAbove_50 : decode cX3_risesAbove 50 = .ok (.iload 4, 2) := by decide +kernel
theorem dX3_risesAbove_52 : decode cX3_risesAbove 52 = .ok (.if_icmp .le 5, 3) := by decide +kernel
theorem dX3_risesAbove_55 : decode cX3_risesAbove 55 = .ok (.iconst 1, 1) := by decide +kernel
theorem dX3_risesAbove_56 : decode cX3_risesAbove 56 = .ok (.ireturn, 1) := by decide +kernel
theorem dX3_risesAbove_57 : decode cX3_risesAbove 57 = .ok (.iinc 5 1, 3) := by decide +kernel
theorem dX3_risesAbove_60 : decode cX3_risesAbove 60 = .ok (.goto (-30), 3) := by decide +kernel
theorem dX3_risesAbove_63 : decode cX3_risesAbove 63 = .ok (.iconst 0, 1) := by decide +kernel
theorem dX3_risesAbove_64 : decode cX3_risesAbove 64 = .ok (.ireturn, 1) := by decide +kernel
set_option maxRecDepth 20000 in
theorem ggX3_firstMisjudged_X3_begin : GoodIn wsX3_firstMisjudged wsX3_begin := goodIn_r _ [9, 2, 10, 11, 12, 13, 14, 15, 16, 17, 18, 19, 20, 21, 22, 23, 24, 25, 26, 27, 28, 29, 30, 31, 32, 33, 34, 35, 36, 37, 38, 39, 40, 41, 42, 43, 44, 45, 46, 47, 48, 49, 50, 51, 52, 53, 54, 55, 56, 57, 58, 59, 60, 61, 62, 63, 64, 65, 66, 67, 68, 69, 70, 71, 72, 73, 74, 75, 76, 77, 78, 79, 80, 81, 134, 135, 136, 137, 138, 139, 140, 141, 142, 143, 144, 145, 146, 147, 148, 149, 150, 151, 152, 153, 154, 155, 156, 157, 158, 159, 160, 161, 162, 163, 164, 165, 166, 167, 168, 169, 170, 171] (by decide +kernel) (by decide +kernel)
set_option maxRecDepth 20000 in
theorem gX3_firstMisjudged_X3_begin : GoodIn wsX3_firstMisjudged (wsV RX3 55 RX3 yX3_begin wsX3_begin) := goodIn_app (goodIn_of _ (by decide +kernel)) ggX3_firstMisjudged_X3_begin
set_option maxRecDepth 20000 in
theorem ggX3_firstMisjudged_X0_passMinute : GoodIn wsX3_firstMisjudged wsX0_passMinute := goodIn_r _ [85, 29, 32, 18, 30, 19, 33, 86, 87, 68, 88, 89, 90, 91, 15, 92, 28, 27, 93, 67, 69, 94, 95, 96, 97, 17, 98, 99, 31, 100, 101, 102, 103, 104, 105, 106, 26, 107, 108, 109, 110, 25, 111, 112, 113, 48, 114, 57, 50, 55, 54, 56, 52, 66, 59, 51, 115, 116, 117, 118, 119, 120, 121, 122, 58, 53, 123, 124, 125, 126, 60, 127, 128, 129, 73, 130, 75, 79, 80, 81, 137, 138, 139, 140, 141, 142, 143, 144, 145, 146, 147, 148, 149, 150, 151, 152, 153, 154, 155, 156, 157, 158, 159, 160, 161, 162, 163, 164, 165, 166, 167, 168, 169, 170, 171] (by decide +kernel) (by decide +kernel)
set_option maxRecDepth 20000 in
theorem gX3_firstMisjudged_X0_passMinute : GoodIn wsX3_firstMisjudged (wsV RX3 72 RX0 yX0_passMinute wsX0_passMinute) := goodIn_app (goodIn_of _ (by decide +kernel)) ggX3_firstMisjudged_X0_passMinute
theorem dX3_firstMisjudged_0 : decode cX3_firstMisjudged 0 = .ok (.aload_n 0, 1) := by decide +kernel
theorem dX3_firstMisjudged_1 : decode cX3_firstMisjudged 1 = .ok (.invokevirtual 55, 3) := by decide +kernel
theorem dX3_firstMisjudged_4 : decode cX3_firstMisjudged 4 = .ok (.iconst 0, 1) := by decide +kernel
theorem dX3_firstMisjudged_5 : decode cX3_firstMisjudged 5 = .ok (.istore_n 2, 1) := by decide +kernel
theorem dX3_firstMisjudged_6 : decode cX3_firstMisjudged 6 = .ok (.iload_n 2, 1) := by decide +kernel
theorem dX3_firstMisjudged_7 : decode cX3_firstMisjudged 7 = .ok (.aload_n 1, 1) := by decide +kernel
theorem dX3_firstMisjudged_8 : decode cX3_firstMisjudged 8 = .ok (.getfield 82, 3) := by decide +kernel
theorem dX3_firstMisjudged_11 : decode cX3_firstMisjudged 11 = .ok (.if_icmp .ge 36, 3) := by decide +kernel
theorem dX3_firstMisjudged_14 : decode cX3_firstMisjudged 14 = .ok (.aload_n 0, 1) := by decide +kernel
theorem dX3_firstMisjudged_15 : decode cX3_firstMisjudged 15 = .ok (.getfield 12, 3) := by decide +kernel
theorem dX3_firstMisjudged_18 : decode cX3_firstMisjudged 18 = .ok (.invokevirtual 72, 3) := by decide +kernel
theorem dX3_firstMisjudged_21 : decode cX3_firstMisjudged 21 = .ok (.aload_n 0, 1) := by decide +kernel
theorem dX3_firstMisjudged_22 : decode cX3_firstMisjudged 22 = .ok (.getfield 12, 3) := by decide +kernel
theorem dX3_firstMisjudged_25 : decode cX3_firstMisjudged 25 = .ok (.getfield 33, 3) := by decide +kernel
theorem dX3_firstMisjudged_28 : decode cX3_firstMisjudged 28 = .ok (.aload_n 1, 1) := by decide +kernel
theorem dX3_firstMisjudged_29 : decode cX3_firstMisjudged 29 = .ok (.getfield 87, 3) := by decide +kernel
theorem dX3_firstMisjudged_32 : decode cX3_firstMisjudged 32 = .ok (.iload_n 2, 1) := by decide +kernel
theorem dX3_firstMisjudged_33 : decode cX3_firstMisjudged 33 = .ok (.iaload, 1) := by decide +kernel
theorem dX3_firstMisjudged_34 : decode cX3_firstMisjudged 34 = .ok (.if_icmp .eq 7, 3) := by decide +kernel
theorem dX3_firstMisjudged_37 : decode cX3_firstMisjudged 37 = .ok (.iconst 1, 1) := by decide +kernel
theorem dX3_firstMisjudged_38 : decode cX3_firstMisjudged 38 = .ok (.iload_n 2, 1) := by decide +kernel
theorem dX3_firstMisjudged_39 : decode cX3_firstMisjudged 39 = .ok (.iadd, 1) := by decide +kernel
theorem dX3_firstMisjudged_40 : decode cX3_firstMisjudged 40 = .ok (.ireturn, 1) := by decide +kernel
theorem dX3_firstMisjudged_41 : decode cX3_firstMisjudged 41 = .ok (.iinc 2 1, 3) := by decide +kernel
theorem dX3_firstMisjudged_44 : decode cX3_firstMisjudged 44 = .ok (.goto (-38), 3) := by decide +kernel
theorem dX3_firstMisjudged_47 : decode cX3_firstMisjudged 47 = .ok (.iconst 0, 1) := by decide +kernel
theorem dX3_firstMisjudged_48 : decode cX3_firstMisjudged 48 = .ok (.ireturn, 1) := by decide +kernel
set_option maxRecDepth 20000 in
theorem ggX3_bestOnMark_X3_foreseeInflow : GoodIn wsX3_bestOnMark wsX3_foreseeInflow := goodIn_r _ [11, 4, 12, 13, 14, 15, 16, 10, 17, 1, 18, 19, 20, 21, 22, 23, 24, 25, 26, 27, 28, 29, 30, 31, 32, 33, 34, 35, 36, 37, 38, 39, 40, 41, 42, 43, 44, 45, 46, 47, 48, 49, 50, 51, 52, 53, 54, 55, 56, 57, 58, 59, 60, 61, 62, 63, 64, 65, 66, 67, 68, 69, 70, 71, 72, 73, 74, 75, 76, 77, 78, 79, 80, 81, 82, 83, 84, 85, 86, 87, 88, 89, 90, 91, 92, 93, 94, 95, 96, 97, 98, 99, 100, 101, 102, 103, 104, 105, 106, 107, 108, 109, 110, 111, 112, 113, 137, 138, 139, 140, 141, 142, 143, 144, 145, 146, 147, 148, 149, 150, 151, 152, 164, 165, 166, 167, 168, 153, 154, 155, 156, 157, 158, 159, 160, 161, 162, 163, 169, 170, 171, 172, 173, 174] (by decide +kernel) (by decide +kernel)
set_option maxRecDepth 20000 in
theorem gX3_bestOnMark_X3_foreseeInflow : GoodIn wsX3_bestOnMark (wsV RX3 90 RX3 yX3_foreseeInflow wsX3_foreseeInflow) := goodIn_app (goodIn_of _ (by decide +kernel)) ggX3_bestOnMark_X3_foreseeInflow
set_option maxRecDepth 20000 in
theorem ggX3_bestOnMark_X4_becomeLike : GoodIn wsX3_bestOnMark wsX4_becomeLike := goodIn_r _ [56, 57, 58, 59, 60, 61, 62, 63, 64, 65, 66, 67, 68, 29, 30, 31, 69, 70, 71, 55, 72, 73, 74, 75, 76, 153, 154, 155, 156, 157, 158, 159, 160, 161, 162, 163] (by decide +kernel) (by decide +kernel)
set_option maxRecDepth 20000 in
theorem gX3_bestOnMark_X4_becomeLike : GoodIn wsX3_bestOnMark (wsV RX3 96 RX4 yX4_becomeLike wsX4_becomeLike) := goodIn_app (goodIn_of _ (by decide +kernel)) ggX3_bestOnMark_X4_becomeLike
set_option maxRecDepth 20000 in
theorem ggX3_bestOnMark_X3_staysWithin : GoodIn wsX3_bestOnMark wsX3_staysWithin := goodIn_r _ [118, 1, 119, 4, 2, 12, 120, 74, 75, 76, 13, 121, 122, 123, 55, 124, 64, 57, 62, 61, 63, 59, 73, 66, 58, 125, 126, 127, 128, 129, 130, 131, 132, 65, 60, 133, 134, 135, 136, 67, 137, 138, 139, 140, 141, 142, 143, 144, 145, 146, 147, 148, 149, 150, 151, 152, 153, 154, 155, 156, 157, 158, 159, 160, 161, 162, 163] (by decide +kernel) (by decide +kernel)
set_option maxRecDepth 20000 in
theorem gX3_bestOnMark_X3_staysWithin : GoodIn wsX3_bestOnMark (wsV RX3 102 RX3 yX3_staysWithin wsX3_staysWithin) := goodIn_app (goodIn_of _ (by decide +kernel)) ggX3_bestOnMark_X3_staysWithin
theorem dX3_bestOnMark_0 : decode cX3_bestOnMark 0 = .ok (.aload_n 0, 1) := by decide +kernel
theorem dX3_bestOnMark_1 : decode cX3_bestOnMark 1 = .ok (.iload_n 1, 1) := by decide +kernel
theorem dX3_bestOnMark_2 : decode cX3_bestOnMark 2 = .ok (.invokevirtual 90, 3) := by decide +kernel
theorem dX3_bestOnMark_5 : decode cX3_bestOnMark 5 = .ok (.iconst (-1), 1) := by decide +kernel
theorem dX3_bestOnMark_6 : decode cX3_bestOnMark 6 = .ok (.istore_n 3, 1) := by decide +kernel
theorem dX3_bestOnMark_7 : decode cX3_bestOnMark 7 = .ok (.sipush 201, 3) := by decide +kernel
theorem dX3_bestOnMark_10 : decode cX3_bestOnMark 10 = .ok (.istore 4, 2) := by decide +kernel
theorem dX3_bestOnMark_12 : decode cX3_bestOnMark 12 = .ok (.aload_n 0, 1) := by decide +kernel
theorem dX3_bestOnMark_13 : decode cX3_bestOnMark 13 = .ok (.getfield 22, 3) := by decide +kernel
theorem dX3_bestOnMark_16 : decode cX3_bestOnMark 16 = .ok (.getfield 36, 3) := by decide +kernel
theorem dX3_bestOnMark_19 : decode cX3_bestOnMark 19 = .ok (.getfield 93, 3) := by decide +kernel
theorem dX3_bestOnMark_22 : decode cX3_bestOnMark 22 = .ok (.iconst 1, 1) := by decide +kernel
theorem dX3_bestOnMark_23 : decode cX3_bestOnMark 23 = .ok (.iadd, 1) := by decide +kernel
theorem dX3_bestOnMark_24 : decode cX3_bestOnMark 24 = .ok (.istore 5, 2) := by decide +kernel
theorem dX3_bestOnMark_26 : decode cX3_bestOnMark 26 = .ok (.iload 5, 2) := by decide +kernel
theorem dX3_bestOnMark_28 : decode cX3_bestOnMark 28 = .ok (.sipush 200, 3) := by decide +kernel
theorem dX3_bestOnMark_31 : decode cX3_bestOnMark 31 = .ok (.if_icmp .gt 99, 3) := by decide +kernel
theorem dX3_bestOnMark_34 : decode cX3_bestOnMark 34 = .ok (.aload_n 0, 1) := by decide +kernel
theorem dX3_bestOnMark_35 : decode cX3_bestOnMark 35 = .ok (.getfield 12, 3) := by decide +kernel
theorem dX3_bestOnMark_38 : decode cX3_bestOnMark 38 = .ok (.getfield 36, 3) := by decide +kernel
theorem dX3_bestOnMark_41 : decode cX3_bestOnMark 41 = .ok (.aload_n 0, 1) := by decide +kernel
theorem dX3_bestOnMark_42 : decode cX3_bestOnMark 42 = .ok (.getfield 22, 3) := by decide +kernel
theorem dX3_bestOnMark_45 : decode cX3_bestOnMark 45 = .ok (.getfield 36, 3) := by decide +kernel
theorem dX3_bestOnMark_48 : decode cX3_bestOnMark 48 = .ok (.invokevirtual 96, 3) := by decide +kernel
theorem dX3_bestOnMark_51 : decode cX3_bestOnMark 51 = .ok (.aload_n 0, 1) := by decide +kernel
theorem dX3_bestOnMark_52 : decode cX3_bestOnMark 52 = .ok (.getfield 12, 3) := by decide +kernel
theorem dX3_bestOnMark_55 : decode cX3_bestOnMark 55 = .ok (.getfield 36, 3) := by decide +kernel
theorem dX3_bestOnMark_58 : decode cX3_bestOnMark 58 = .ok (.iload 5, 2) := by decide +kernel
theorem dX3_bestOnMark_60 : decode cX3_bestOnMark 60 = .ok (.putfield 99, 3) := by decide +kernel
theorem dX3_bestOnMark_63 : decode cX3_bestOnMark 63 = .ok (.aload_n 0, 1) := by decide +kernel
theorem dX3_bestOnMark_64 : decode cX3_bestOnMark 64 = .ok (.iload_n 1, 1) := by decide +kernel
theorem dX3_bestOnMark_65 : decode cX3_bestOnMark 65 = .ok (.iload_n 2, 1) := by decide +kernel
theorem dX3_bestOnMark_66 : decode cX3_bestOnMark 66 = .ok (.invokevirtual 102, 3) := by decide +kernel
theorem dX3_bestOnMark_69 : decode cX3_bestOnMark 69 = .ok (.ifCond .eq 55, 3) := by decide +kernel
theorem dX3_bestOnMark_72 : decode cX3_bestOnMark 72 = .ok (.aload_n 0, 1) := by decide +kernel
theorem dX3_bestOnMark_73 : decode cX3_bestOnMark 73 = .ok (.getfield 12, 3) := by decide +kernel
theorem dX3_bestOnMark_76 : decode cX3_bestOnMark 76 = .ok (.getfield 36, 3) := by decide +kernel
theorem dX3_bestOnMark_79 : decode cX3_bestOnMark 79 = .ok (.getfield 40, 3) := by decide +kernel
theorem dX3_bestOnMark_82 : decode cX3_bestOnMark 82 = .ok (.aload_n 0, 1) := by decide +kernel
theorem dX3_bestOnMark_83 : decode cX3_bestOnMark 83 = .ok (.getfield 22, 3) := by decide +kernel
theorem dX3_bestOnMark_86 : decode cX3_bestOnMark 86 = .ok (.getfield 36, 3) := by decide +kernel
theorem dX3_bestOnMark_89 : decode cX3_bestOnMark 89 = .ok (.getfield 40, 3) := by decide +kernel
theorem dX3_bestOnMark_92 : decode cX3_bestOnMark 92 = .ok (.isub, 1) := by decide +kernel
theorem dX3_bestOnMark_93 : decode cX3_bestOnMark 93 = .ok (.iload 4, 2) := by decide +kernel
theorem dX3_bestOnMark_95 : decode cX3_bestOnMark 95 = .ok (.if_icmp .ge 29, 3) := by decide +kernel
theorem dX3_bestOnMark_98 : decode cX3_bestOnMark 98 = .ok (.iload 5, 2) := by decide +kernel
theorem dX3_bestOnMark_100 : decode cX3_bestOnMark 100 = .ok (.istore_n 3, 1) := by decide +kernel
theorem dX3_bestOnMark_101 : decode cX3_bestOnMark 101 = .ok (.aload_n 0, 1) := by decide +kernel
theorem dX3_bestOnMark_102 : decode cX3_bestOnMark 102 = .ok (.getfield 12, 3) := by decide +kernel
theorem dX3_bestOnMark_105 : decode cX3_bestOnMark 105 = .ok (.getfield 36, 3) := by decide +kernel
theorem dX3_bestOnMark_108 : decode cX3_bestOnMark 108 = .ok (.getfield 40, 3) := by decide +kernel
theorem dX3_bestOnMark_111 : decode cX3_bestOnMark 111 = .ok (.aload_n 0, 1) := by decide +kernel
theorem dX3_bestOnMark_112 : decode cX3_bestOnMark 112 = .ok (.getfield 22, 3) := by decide +kernel
theorem dX3_bestOnMark_115 : decode cX3_bestOnMark 115 = .ok (.getfield 36, 3) := by decide +kernel
theorem dX3_bestOnMark_118 : decode cX3_bestOnMark 118 = .ok (.getfield 40, 3) := by decide +kernel
theorem dX3_bestOnMark_121 : decode cX3_bestOnMark 121 = .ok (.isub, 1) := by decide +kernel
theorem dX3_bestOnMark_122 : decode cX3_bestOnMark 122 = .ok (.istore 4, 2) := by decide +kernel
theorem dX3_bestOnMark_124 : decode cX3_bestOnMark 124 = .ok (.iinc 5 1, 3) := by decide +kernel
theorem dX3_bestOnMark_127 : decode cX3_bestOnMark 127 = .ok (.goto (-101), 3) := by decide +kernel
theorem dX3_bestOnMark_130 : decode cX3_bestOnMark 130 = .ok (.iload_n 3, 1) := by decide +kernel
theorem dX3_bestOnMark_131 : decode cX3_bestOnMark 131 = .ok (.ireturn, 1) := by decide +kernel
set_option maxRecDepth 20000 in
theorem ggX3_leastRate_X3_foreseeInflow : GoodIn wsX3_leastRate wsX3_foreseeInflow := goodIn_r _ [9, 1, 10, 11, 12, 13, 14, 8, 15, 3, 16, 17, 18, 19, 20, 21, 22, 23, 24, 25, 26, 27, 28, 29, 30, 31, 32, 33, 34, 35, 36, 37, 38, 39, 40, 41, 42, 43, 44, 45, 46, 47, 48, 49, 50, 51, 52, 53, 54, 55, 56, 57, 58, 59, 60, 61, 62, 63, 64, 65, 66, 67, 68, 69, 70, 71, 72, 73, 74, 75, 76, 77, 78, 79, 80, 81, 82, 83, 84, 85, 86, 87, 88, 89, 90, 91, 92, 93, 94, 95, 96, 97, 98, 99, 100, 101, 102, 103, 104, 105, 106, 107, 108, 109, 110, 111, 135, 136, 137, 138, 139, 140, 141, 142, 143, 144, 145, 146, 147, 148, 149, 150, 162, 163, 164, 165, 166, 151, 152, 153, 154, 155, 156, 157, 158, 159, 160, 161, 167, 168, 169, 170, 171, 172] (by decide +kernel) (by decide +kernel)
set_option maxRecDepth 20000 in
theorem gX3_leastRate_X3_foreseeInflow : GoodIn wsX3_leastRate (wsV RX3 90 RX3 yX3_foreseeInflow wsX3_foreseeInflow) := goodIn_app (goodIn_of _ (by decide +kernel)) ggX3_leastRate_X3_foreseeInflow
set_option maxRecDepth 20000 in
theorem ggX3_leastRate_X4_becomeLike : GoodIn wsX3_leastRate wsX4_becomeLike := goodIn_r _ [54, 55, 56, 57, 58, 59, 60, 61, 62, 63, 64, 65, 66, 27, 28, 29, 67, 68, 69, 53, 70, 71, 72, 73, 74, 151, 152, 153, 154, 155, 156, 157, 158, 159, 160, 161] (by decide +kernel) (by decide +kernel)
set_option maxRecDepth 20000 in
theorem gX3_leastRate_X4_becomeLike : GoodIn wsX3_leastRate (wsV RX3 96 RX4 yX4_becomeLike wsX4_becomeLike) := goodIn_app (goodIn_of _ (by decide +kernel)) ggX3_leastRate_X4_becomeLike
set_option maxRecDepth 20000 in
theorem ggX3_leastRate_X3_staysWithin : GoodIn wsX3_leastRate wsX3_staysWithin := goodIn_r _ [116, 3, 117, 1, 2, 10, 118, 72, 73, 74, 11, 119, 120, 121, 53, 122, 62, 55, 60, 59, 61, 57, 71, 64, 56, 123, 124, 125, 126, 127, 128, 129, 130, 63, 58, 131, 132, 133, 134, 65, 135, 136, 137, 138, 139, 140, 141, 142, 143, 144, 145, 146, 147, 148, 149, 150, 151, 152, 153, 154, 155, 156, 157, 158, 159, 160, 161] (by decide +kernel) (by decide +kernel)
set_option maxRecDepth 20000 in
theorem gX3_leastRate_X3_staysWithin : GoodIn wsX3_leastRate (wsV RX3 102 RX3 yX3_staysWithin wsX3_staysWithin) := goodIn_app (goodIn_of _ (by decide +kernel)) ggX3_leastRate_X3_staysWithin
theorem dX3_leastRate_0 : decode cX3_leastRate 0 = .ok (.aload_n 0, 1) := by decide +kernel
theorem dX3_leastRate_1 : decode cX3_leastRate 1 = .ok (.iload_n 1, 1) := by decide +kernel
theorem dX3_leastRate_2 : decode cX3_leastRate 2 = .ok (.invokevirtual 90, 3) := by decide +kernel
theorem dX3_leastRate_5 : decode cX3_leastRate 5 = .ok (.iconst 1, 1) := by decide +kernel
theorem dX3_leastRate_6 : decode cX3_leastRate 6 = .ok (.istore_n 3, 1) := by decide +kernel
theorem dX3_leastRate_7 : decode cX3_leastRate 7 = .ok (.iload_n 3, 1) := by decide +kernel
theorem dX3_leastRate_8 : decode cX3_leastRate 8 = .ok (.bipush 99, 2) := by decide +kernel
theorem dX3_leastRate_10 : decode cX3_leastRate 10 = .ok (.if_icmp .gt 48, 3) := by decide +kernel
theorem dX3_leastRate_13 : decode cX3_leastRate 13 = .ok (.aload_n 0, 1) := by decide +kernel
theorem dX3_leastRate_14 : decode cX3_leastRate 14 = .ok (.getfield 12, 3) := by decide +kernel
theorem dX3_leastRate_17 : decode cX3_leastRate 17 = .ok (.getfield 36, 3) := by decide +kernel
theorem dX3_leastRate_20 : decode cX3_leastRate 20 = .ok (.aload_n 0, 1) := by decide +kernel
theorem dX3_leastRate_21 : decode cX3_leastRate 21 = .ok (.getfield 22, 3) := by decide +kernel
theorem dX3_leastRate_24 : decode cX3_leastRate 24 = .ok (.getfield 36, 3) := by decide +kernel
theorem dX3_leastRate_27 : decode cX3_leastRate 27 = .ok (.invokevirtual 96, 3) := by decide +kernel
theorem dX3_leastRate_30 : decode cX3_leastRate 30 = .ok (.aload_n 0, 1) := by decide +kernel
theorem dX3_leastRate_31 : decode cX3_leastRate 31 = .ok (.getfield 12, 3) := by decide +kernel
theorem dX3_leastRate_34 : decode cX3_leastRate 34 = .ok (.getfield 36, 3) := by decide +kernel
theorem dX3_leastRate_37 : decode cX3_leastRate 37 = .ok (.iload_n 3, 1) := by decide +kernel
theorem dX3_leastRate_38 : decode cX3_leastRate 38 = .ok (.putfield 106, 3) := by decide +kernel
theorem dX3_leastRate_41 : decode cX3_leastRate 41 = .ok (.aload_n 0, 1) := by decide +kernel
theorem dX3_leastRate_42 : decode cX3_leastRate 42 = .ok (.iload_n 1, 1) := by decide +kernel
theorem dX3_leastRate_43 : decode cX3_leastRate 43 = .ok (.iload_n 2, 1) := by decide +kernel
theorem dX3_leastRate_44 : decode cX3_leastRate 44 = .ok (.invokevirtual 102, 3) := by decide +kernel
theorem dX3_leastRate_47 : decode cX3_leastRate 47 = .ok (.ifCond .eq 5, 3) := by decide +kernel
theorem dX3_leastRate_50 : decode cX3_leastRate 50 = .ok (.iload_n 3, 1) := by decide +kernel
theorem dX3_leastRate_51 : decode cX3_leastRate 51 = .ok (.ireturn, 1) := by decide +kernel
theorem dX3_leastRate_52 : decode cX3_leastRate 52 = .ok (.iinc 3 1, 3) := by decide +kernel
theorem dX3_leastRate_55 : decode cX3_leastRate 55 = .ok (.goto (-48), 3) := by decide +kernel
theorem dX3_leastRate_58 : decode cX3_leastRate 58 = .ok (.iconst (-1), 1) := by decide +kernel
theorem dX3_leastRate_59 : decode cX3_leastRate 59 = .ok (.ireturn, 1) := by decide +kernel
set_option maxRecDepth 20000 in
theorem ggX3_leastBattery_X3_foreseeInflow : GoodIn wsX3_leastBattery wsX3_foreseeInflow := goodIn_r _ [10, 1, 11, 12, 13, 14, 15, 9, 16, 3, 17, 18, 19, 20, 21, 22, 23, 24, 25, 26, 27, 28, 29, 30, 31, 32, 33, 34, 35, 36, 37, 38, 39, 40, 41, 42, 43, 44, 45, 46, 47, 48, 49, 50, 51, 52, 53, 54, 55, 56, 57, 58, 59, 60, 61, 62, 63, 64, 65, 66, 67, 68, 69, 70, 71, 72, 73, 74, 75, 76, 77, 78, 79, 80, 81, 82, 83, 84, 85, 86, 87, 88, 89, 90, 91, 92, 93, 94, 95, 96, 97, 98, 99, 100, 101, 102, 103, 104, 105, 106, 107, 108, 109, 110, 111, 112, 136, 137, 138, 139, 140, 141, 142, 143, 144, 145, 146, 147, 148, 149, 150, 151, 163, 164, 165, 166, 167, 152, 153, 154, 155, 156, 157, 158, 159, 160, 161, 162, 168, 169, 170, 171, 172, 173] (by decide +kernel) (by decide +kernel)
set_option maxRecDepth 20000 in
theorem gX3_leastBattery_X3_foreseeInflow : GoodIn wsX3_leastBattery (wsV RX3 90 RX3 yX3_foreseeInflow wsX3_foreseeInflow) := goodIn_app (goodIn_of _ (by decide +kernel)) ggX3_leastBattery_X3_foreseeInflow
set_option maxRecDepth 20000 in
theorem ggX3_leastBattery_X4_becomeLike : GoodIn wsX3_leastBattery wsX4_becomeLike := goodIn_r _ [55, 56, 57, 58, 59, 60, 61, 62, 63, 64, 65, 66, 67, 28, 29, 30, 68, 69, 70, 54, 71, 72, 73, 74, 75, 152, 153, 154, 155, 156, 157, 158, 159, 160, 161, 162] (by decide +kernel) (by decide +kernel)
set_option maxRecDepth 20000 in
theorem gX3_leastBattery_X4_becomeLike : GoodIn wsX3_leastBattery (wsV RX3 96 RX4 yX4_becomeLike wsX4_becomeLike) := goodIn_app (goodIn_of _ (by decide +kernel)) ggX3_leastBattery_X4_becomeLike
set_option maxRecDepth 20000 in
theorem ggX3_leastBattery_X3_staysWithin : GoodIn wsX3_leastBattery wsX3_staysWithin := goodIn_r _ [117, 3, 118, 1, 2, 11, 119, 73, 74, 75, 12, 120, 121, 122, 54, 123, 63, 56, 61, 60, 62, 58, 72, 65, 57, 124, 125, 126, 127, 128, 129, 130, 131, 64, 59, 132, 133, 134, 135, 66, 136, 137, 138, 139, 140, 141, 142, 143, 144, 145, 146, 147, 148, 149, 150, 151, 152, 153, 154, 155, 156, 157, 158, 159, 160, 161, 162] (by decide +kernel) (by decide +kernel)
set_option maxRecDepth 20000 in
theorem gX3_leastBattery_X3_staysWithin : GoodIn wsX3_leastBattery (wsV RX3 102 RX3 yX3_staysWithin wsX3_staysWithin) := goodIn_app (goodIn_of _ (by decide +kernel)) ggX3_leastBattery_X3_staysWithin
theorem dX3_leastBattery_0 : decode cX3_leastBattery 0 = .ok (.aload_n 0, 1) := by decide +kernel
theorem dX3_leastBattery_1 : decode cX3_leastBattery 1 = .ok (.iload_n 1, 1) := by decide +kernel
theorem dX3_leastBattery_2 : decode cX3_leastBattery 2 = .ok (.invokevirtual 90, 3) := by decide +kernel
theorem dX3_leastBattery_5 : decode cX3_leastBattery 5 = .ok (.iconst 0, 1) := by decide +kernel
theorem dX3_leastBattery_6 : decode cX3_leastBattery 6 = .ok (.istore_n 3, 1) := by decide +kernel
theorem dX3_leastBattery_7 : decode cX3_leastBattery 7 = .ok (.iload_n 3, 1) := by decide +kernel
theorem dX3_leastBattery_8 : decode cX3_leastBattery 8 = .ok (.iload_n 1, 1) := by decide +kernel
theorem dX3_leastBattery_9 : decode cX3_leastBattery 9 = .ok (.if_icmp .gt 59, 3) := by decide +kernel
theorem dX3_leastBattery_12 : decode cX3_leastBattery 12 = .ok (.aload_n 0, 1) := by decide +kernel
theorem dX3_leastBattery_13 : decode cX3_leastBattery 13 = .ok (.getfield 12, 3) := by decide +kernel
theorem dX3_leastBattery_16 : decode cX3_leastBattery 16 = .ok (.getfield 36, 3) := by decide +kernel
theorem dX3_leastBattery_19 : decode cX3_leastBattery 19 = .ok (.aload_n 0, 1) := by decide +kernel
theorem dX3_leastBattery_20 : decode cX3_leastBattery 20 = .ok (.getfield 22, 3) := by decide +kernel
theorem dX3_leastBattery_23 : decode cX3_leastBattery 23 = .ok (.getfield 36, 3) := by decide +kernel
theorem dX3_leastBattery_26 : decode cX3_leastBattery 26 = .ok (.invokevirtual 96, 3) := by decide +kernel
theorem dX3_leastBattery_29 : decode cX3_leastBattery 29 = .ok (.aload_n 0, 1) := by decide +kernel
theorem dX3_leastBattery_30 : decode cX3_leastBattery 30 = .ok (.getfield 12, 3) := by decide +kernel
theorem dX3_leastBattery_33 : decode cX3_leastBattery 33 = .ok (.getfield 36, 3) := by decide +kernel
theorem dX3_leastBattery_36 : decode cX3_leastBattery 36 = .ok (.iconst 0, 1) := by decide +kernel
theorem dX3_leastBattery_37 : decode cX3_leastBattery 37 = .ok (.putfield 78, 3) := by decide +kernel
theorem dX3_leastBattery_40 : decode cX3_leastBattery 40 = .ok (.aload_n 0, 1) := by decide +kernel
theorem dX3_leastBattery_41 : decode cX3_leastBattery 41 = .ok (.getfield 12, 3) := by decide +kernel
theorem dX3_leastBattery_44 : decode cX3_leastBattery 44 = .ok (.getfield 36, 3) := by decide +kernel
theorem dX3_leastBattery_47 : decode cX3_leastBattery 47 = .ok (.iload_n 3, 1) := by decide +kernel
theorem dX3_leastBattery_48 : decode cX3_leastBattery 48 = .ok (.putfield 109, 3) := by decide +kernel
theorem dX3_leastBattery_51 : decode cX3_leastBattery 51 = .ok (.aload_n 0, 1) := by decide +kernel
theorem dX3_leastBattery_52 : decode cX3_leastBattery 52 = .ok (.iload_n 1, 1) := by decide +kernel
theorem dX3_leastBattery_53 : decode cX3_leastBattery 53 = .ok (.iload_n 2, 1) := by decide +kernel
theorem dX3_leastBattery_54 : decode cX3_leastBattery 54 = .ok (.invokevirtual 102, 3) := by decide +kernel
theorem dX3_leastBattery_57 : decode cX3_leastBattery 57 = .ok (.ifCond .eq 5, 3) := by decide +kernel
theorem dX3_leastBattery_60 : decode cX3_leastBattery 60 = .ok (.iload_n 3, 1) := by decide +kernel
theorem dX3_leastBattery_61 : decode cX3_leastBattery 61 = .ok (.ireturn, 1) := by decide +kernel
theorem dX3_leastBattery_62 : decode cX3_leastBattery 62 = .ok (.iinc 3 1, 3) := by decide +kernel
theorem dX3_leastBattery_65 : decode cX3_leastBattery 65 = .ok (.goto (-58), 3) := by decide +kernel
theorem dX3_leastBattery_68 : decode cX3_leastBattery 68 = .ok (.iconst (-1), 1) := by decide +kernel
theorem dX3_leastBattery_69 : decode cX3_leastBattery 69 = .ok (.ireturn, 1) := by decide +kernel
set_option maxRecDepth 20000 in
theorem ggX3_foreseeInflow_X3_begin : GoodIn wsX3_foreseeInflow wsX3_begin := goodIn_r _ [8, 1, 9, 10, 11, 12, 13, 14, 15, 16, 17, 18, 19, 20, 21, 22, 23, 24, 25, 26, 27, 28, 29, 30, 31, 32, 33, 34, 35, 36, 37, 38, 39, 40, 41, 42, 43, 44, 45, 46, 47, 48, 49, 50, 51, 52, 53, 54, 55, 56, 57, 58, 59, 60, 61, 62, 63, 64, 65, 66, 67, 68, 69, 70, 71, 72, 73, 74, 75, 76, 77, 78, 79, 80, 106, 107, 108, 109, 110, 111, 112, 113, 114, 115, 116, 117, 118, 119, 120, 121, 122, 123, 124, 125, 126, 127, 128, 129, 130, 131, 132, 133, 134, 135, 136, 137, 138, 139, 140, 141, 142, 143] (by decide +kernel) (by decide +kernel)
set_option maxRecDepth 20000 in
theorem gX3_foreseeInflow_X3_begin : GoodIn wsX3_foreseeInflow (wsV RX3 55 RX3 yX3_begin wsX3_begin) := goodIn_app (goodIn_of _ (by decide +kernel)) ggX3_foreseeInflow_X3_begin
set_option maxRecDepth 20000 in
theorem ggX3_foreseeInflow_X0_soakGround : GoodIn wsX3_foreseeInflow wsX0_soakGround := goodIn_r _ [84, 27, 26, 85, 66, 67, 68, 109, 110, 111, 112, 113, 114, 115, 116, 117, 118, 119, 120, 121] (by decide +kernel) (by decide +kernel)
set_option maxRecDepth 20000 in
theorem gX3_foreseeInflow_X0_soakGround : GoodIn wsX3_foreseeInflow (wsV RX3 112 RX0 yX0_soakGround wsX0_soakGround) := goodIn_app (goodIn_of _ (by decide +kernel)) ggX3_foreseeInflow_X0_soakGround
set_option maxRecDepth 20000 in
theorem ggX3_foreseeInflow_X0_takeIn : GoodIn wsX3_foreseeInflow wsX0_takeIn := goodIn_r _ [89, 16, 90, 91, 30, 92, 93, 94, 14, 95, 96, 97, 27, 98, 26, 99, 100, 67, 101, 25, 29, 102, 103, 104, 105, 24, 109, 110, 111, 112, 113, 114, 115, 116, 117, 118, 119, 120, 121, 122, 123, 124, 125, 126] (by decide +kernel) (by decide +kernel)
set_option maxRecDepth 20000 in
theorem gX3_foreseeInflow_X0_takeIn : GoodIn wsX3_foreseeInflow (wsV RX3 115 RX0 yX0_takeIn wsX0_takeIn) := goodIn_app (goodIn_of _ (by decide +kernel)) ggX3_foreseeInflow_X0_takeIn
theorem dX3_foreseeInflow_0 : decode cX3_foreseeInflow 0 = .ok (.aload_n 0, 1) := by decide +kernel
theorem dX3_foreseeInflow_1 : decode cX3_foreseeInflow 1 = .ok (.invokevirtual 55, 3) := by decide +kernel
theorem dX3_foreseeInflow_4 : decode cX3_foreseeInflow 4 = .ok (.iconst 0, 1) := by decide +kernel
theorem dX3_foreseeInflow_5 : decode cX3_foreseeInflow 5 = .ok (.istore_n 2, 1) := by decide +kernel
theorem dX3_foreseeInflow_6 : decode cX3_foreseeInflow 6 = .ok (.iload_n 2, 1) := by decide +kernel
theorem dX3_foreseeInflow_7 : decode cX3_foreseeInflow 7 = .ok (.iload_n 1, 1) := by decide +kernel
theorem dX3_foreseeInflow_8 : decode cX3_foreseeInflow 8 = .ok (.if_icmp .ge 42, 3) := by decide +kernel
theorem dX3_foreseeInflow_11 : decode cX3_foreseeInflow 11 = .ok (.aload_n 0, 1) := by decide +kernel
theorem dX3_foreseeInflow_12 : decode cX3_foreseeInflow 12 = .ok (.getfield 12, 3) := by decide +kernel
theorem dX3_foreseeInflow_15 : decode cX3_foreseeInflow 15 = .ok (.invokevirtual 112, 3) := by decide +kernel
theorem dX3_foreseeInflow_18 : decode cX3_foreseeInflow 18 = .ok (.aload_n 0, 1) := by decide +kernel
theorem dX3_foreseeInflow_19 : decode cX3_foreseeInflow 19 = .ok (.getfield 18, 3) := by decide +kernel
theorem dX3_foreseeInflow_22 : decode cX3_foreseeInflow 22 = .ok (.iload_n 2, 1) := by decide +kernel
theorem dX3_foreseeInflow_23 : decode cX3_foreseeInflow 23 = .ok (.aload_n 0, 1) := by decide +kernel
theorem dX3_foreseeInflow_24 : decode cX3_foreseeInflow 24 = .ok (.getfield 12, 3) := by decide +kernel
theorem dX3_foreseeInflow_27 : decode cX3_foreseeInflow 27 = .ok (.invokevirtual 115, 3) := by decide +kernel
theorem dX3_foreseeInflow_30 : decode cX3_foreseeInflow 30 = .ok (.iastore, 1) := by decide +kernel
theorem dX3_foreseeInflow_31 : decode cX3_foreseeInflow 31 = .ok (.aload_n 0, 1) := by decide +kernel
theorem dX3_foreseeInflow_32 : decode cX3_foreseeInflow 32 = .ok (.getfield 12, 3) := by decide +kernel
theorem dX3_foreseeInflow_35 : decode cX3_foreseeInflow 35 = .ok (.dup, 1) := by decide +kernel
theorem dX3_foreseeInflow_36 : decode cX3_foreseeInflow 36 = .ok (.getfield 118, 3) := by decide +kernel
theorem dX3_foreseeInflow_39 : decode cX3_foreseeInflow 39 = .ok (.iconst 1, 1) := by decide +kernel
theorem dX3_foreseeInflow_40 : decode cX3_foreseeInflow 40 = .ok (.iadd, 1) := by decide +kernel
theorem dX3_foreseeInflow_41 : decode cX3_foreseeInflow 41 = .ok (.putfield 118, 3) := by decide +kernel
theorem dX3_foreseeInflow_44 : decode cX3_foreseeInflow 44 = .ok (.iinc 2 1, 3) := by decide +kernel
theorem dX3_foreseeInflow_47 : decode cX3_foreseeInflow 47 = .ok (.goto (-41), 3) := by decide +kernel
theorem dX3_foreseeInflow_50 : decode cX3_foreseeInflow 50 = .ok (.return_, 1) := by decide +kernel
set_option maxRecDepth 20000 in
theorem ggX3_staysWithin_X4_leaves : GoodIn wsX3_staysWithin wsX4_leaves := goodIn_r _ [15, 16, 17, 18, 19, 20, 21, 22, 7, 8, 9, 23, 24, 25, 26, 27, 14, 28, 29, 30, 31, 32, 33, 34, 35, 36, 37, 38, 39, 56, 57, 58, 59, 60, 61, 62, 63, 64, 65, 66] (by decide +kernel) (by decide +kernel)
set_option maxRecDepth 20000 in
theorem gX3_staysWithin_X4_leaves : GoodIn wsX3_staysWithin (wsV RX3 127 RX4 yX4_leaves wsX4_leaves) := goodIn_app (goodIn_of _ (by decide +kernel)) ggX3_staysWithin_X4_leaves
theorem dX3_staysWithin_0 : decode cX3_staysWithin 0 = .ok (.aload_n 0, 1) := by decide +kernel
theorem dX3_staysWithin_1 : decode cX3_staysWithin 1 = .ok (.getfield 22, 3) := by decide +kernel
theorem dX3_staysWithin_4 : decode cX3_staysWithin 4 = .ok (.getfield 33, 3) := by decide +kernel
theorem dX3_staysWithin_7 : decode cX3_staysWithin 7 = .ok (.istore_n 3, 1) := by decide +kernel
theorem dX3_staysWithin_8 : decode cX3_staysWithin 8 = .ok (.iconst 0, 1) := by decide +kernel
theorem dX3_staysWithin_9 : decode cX3_staysWithin 9 = .ok (.istore 4, 2) := by decide +kernel
theorem dX3_staysWithin_11 : decode cX3_staysWithin 11 = .ok (.iload 4, 2) := by decide +kernel
theorem dX3_staysWithin_13 : decode cX3_staysWithin 13 = .ok (.iload_n 1, 1) := by decide +kernel
theorem dX3_staysWithin_14 : decode cX3_staysWithin 14 = .ok (.if_icmp .ge 52, 3) := by decide +kernel
theorem dX3_staysWithin_17 : decode cX3_staysWithin 17 = .ok (.aload_n 0, 1) := by decide +kernel
theorem dX3_staysWithin_18 : decode cX3_staysWithin 18 = .ok (.getfield 12, 3) := by decide +kernel
theorem dX3_staysWithin_21 : decode cX3_staysWithin 21 = .ok (.getfield 36, 3) := by decide +kernel
theorem dX3_staysWithin_24 : decode cX3_staysWithin 24 = .ok (.sipush 9999, 3) := by decide +kernel
theorem dX3_staysWithin_27 : decode cX3_staysWithin 27 = .ok (.iload_n 3, 1) := by decide +kernel
theorem dX3_staysWithin_28 : decode cX3_staysWithin 28 = .ok (.aload_n 0, 1) := by decide +kernel
theorem dX3_staysWithin_29 : decode cX3_staysWithin 29 = .ok (.getfield 18, 3) := by decide +kernel
theorem dX3_staysWithin_32 : decode cX3_staysWithin 32 = .ok (.iload 4, 2) := by decide +kernel
theorem dX3_staysWithin_34 : decode cX3_staysWithin 34 = .ok (.iaload, 1) := by decide +kernel
theorem dX3_staysWithin_35 : decode cX3_staysWithin 35 = .ok (.iadd, 1) := by decide +kernel
theorem dX3_staysWithin_36 : decode cX3_staysWithin 36 = .ok (.invokestatic 121, 3) := by decide +kernel
theorem dX3_staysWithin_39 : decode cX3_staysWithin 39 = .ok (.aload_n 0, 1) := by decide +kernel
theorem dX3_staysWithin_40 : decode cX3_staysWithin 40 = .ok (.getfield 22, 3) := by decide +kernel
theorem dX3_staysWithin_43 : decode cX3_staysWithin 43 = .ok (.getfield 118, 3) := by decide +kernel
theorem dX3_staysWithin_46 : decode cX3_staysWithin 46 = .ok (.iload 4, 2) := by decide +kernel
theorem dX3_staysWithin_48 : decode cX3_staysWithin 48 = .ok (.iadd, 1) := by decide +kernel
theorem dX3_staysWithin_49 : decode cX3_staysWithin 49 = .ok (.invokevirtual 127, 3) := by decide +kernel
theorem dX3_staysWithin_52 : decode cX3_staysWithin 52 = .ok (.istore_n 3, 1) := by decide +kernel
theorem dX3_staysWithin_53 : decode cX3_staysWithin 53 = .ok (.iload_n 3, 1) := by decide +kernel
theorem dX3_staysWithin_54 : decode cX3_staysWithin 54 = .ok (.iload_n 2, 1) := by decide +kernel
theorem dX3_staysWithin_55 : decode cX3_staysWithin 55 = .ok (.if_icmp .le 5, 3) := by decide +kernel
theorem dX3_staysWithin_58 : decode cX3_staysWithin 58 = .ok (.iconst 0, 1) := by decide +kernel
theorem dX3_staysWithin_59 : decode cX3_staysWithin 59 = .ok (.ireturn, 1) := by decide +kernel
theorem dX3_staysWithin_60 : decode cX3_staysWithin 60 = .ok (.iinc 4 1, 3) := by decide +kernel
theorem dX3_staysWithin_63 : decode cX3_staysWithin 63 = .ok (.goto (-52), 3) := by decide +kernel
theorem dX3_staysWithin_66 : decode cX3_staysWithin 66 = .ok (.iconst 1, 1) := by decide +kernel
theorem dX3_staysWithin_67 : decode cX3_staysWithin 67 = .ok (.ireturn, 1) := by decide +kernel
set_option maxRecDepth 20000 in
theorem ggX3_bestWorks_X0_costOf : GoodIn wsX3_bestWorks wsX0_costOf := goodIn_r _ [9, 10, 168, 169, 170, 171, 172, 173, 174, 175, 176, 177, 178, 179, 180] (by decide +kernel) (by decide +kernel)
set_option maxRecDepth 20000 in
theorem gX3_bestWorks_X0_costOf : GoodIn wsX3_bestWorks (wsV RX3 130 RX0 yX0_costOf wsX0_costOf) := goodIn_app (goodIn_of _ (by decide +kernel)) ggX3_bestWorks_X0_costOf
set_option maxRecDepth 20000 in
theorem ggX3_bestWorks_X3_begin : GoodIn wsX3_bestWorks wsX3_begin := goodIn_r _ [15, 3, 1, 16, 17, 18, 19, 8, 20, 21, 22, 23, 10, 24, 25, 26, 27, 28, 29, 30, 31, 32, 33, 34, 35, 36, 37, 38, 39, 40, 41, 42, 43, 44, 45, 46, 47, 48, 49, 50, 51, 52, 53, 54, 55, 56, 57, 58, 59, 60, 61, 62, 63, 64, 65, 66, 67, 68, 69, 70, 71, 72, 73, 74, 75, 76, 77, 78, 79, 80, 81, 82, 83, 84, 165, 166, 167, 168, 169, 170, 171, 172, 173, 174, 175, 176, 177, 178, 179, 180, 181, 182, 183, 184, 185, 186, 187, 188, 189, 190, 191, 192, 193, 194, 195, 196, 197, 198, 199, 200, 201, 202] (by decide +kernel) (by decide +kernel)
set_option maxRecDepth 20000 in
theorem gX3_bestWorks_X3_begin : GoodIn wsX3_bestWorks (wsV RX3 55 RX3 yX3_begin wsX3_begin) := goodIn_app (goodIn_of _ (by decide +kernel)) ggX3_bestWorks_X3_begin
set_option maxRecDepth 20000 in
theorem ggX3_bestWorks_X0_constructAll : GoodIn wsX3_bestWorks wsX0_constructAll := goodIn_r _ [88, 89, 90, 91, 8, 92, 28, 29, 22, 93, 94, 95, 70, 71, 72, 168, 169, 170, 171, 172, 173, 174, 175, 176, 177, 178, 179, 180, 186, 187, 188, 189, 190, 191, 192, 193, 194, 195, 196] (by decide +kernel) (by decide +kernel)
set_option maxRecDepth 20000 in
theorem gX3_bestWorks_X0_constructAll : GoodIn wsX3_bestWorks (wsV RX3 136 RX0 yX0_constructAll wsX0_constructAll) := goodIn_app (goodIn_of _ (by decide +kernel)) ggX3_bestWorks_X0_constructAll
set_option maxRecDepth 20000 in
theorem ggX3_bestWorks_X7_perform : GoodIn wsX3_bestWorks wsX7_perform := goodIn_r _ [100, 101, 102, 103, 104, 105, 106, 8, 107, 32, 35, 22, 33, 23, 36, 108, 109, 71, 110, 111, 112, 113, 114, 31, 30, 95, 70, 72, 115, 116, 117, 118, 21, 119, 120, 34, 121, 122, 123, 124, 125, 126, 127, 29, 128, 129, 130, 131, 28, 132, 133, 134, 51, 135, 60, 53, 58, 57, 59, 55, 69, 62, 54, 136, 137, 138, 139, 140, 141, 142, 143, 61, 56, 144, 145, 146, 147, 63, 148, 149, 150, 76, 151, 78, 82, 83, 84, 152, 153, 154, 155, 156, 94, 203, 204, 205, 206, 168, 169, 170, 171, 172, 173, 174, 175, 176, 177, 178, 179, 180, 181, 182, 183, 184, 185, 186, 187, 188, 189, 190, 191, 192, 193, 194, 195, 196, 197, 198, 199, 200, 201, 202] (by decide +kernel) (by decide +kernel)
set_option maxRecDepth 20000 in
theorem gX3_bestWorks_X7_perform : GoodIn wsX3_bestWorks (wsV RX3 66 RX7 yX7_perform wsX7_perform) := goodIn_app (goodIn_of _ (by decide +kernel)) ggX3_bestWorks_X7_perform
set_option maxRecDepth 20000 in
theorem ggX3_bestWorks_X9_harmedWorth : GoodIn wsX3_bestWorks wsX9_harmedWorth := goodIn_r _ [160, 78, 79, 161, 162, 163, 76, 164, 84, 197, 198, 199, 200, 201, 202] (by decide +kernel) (by decide +kernel)
set_option maxRecDepth 20000 in
theorem gX3_bestWorks_X9_harmedWorth : GoodIn wsX3_bestWorks (wsV RX3 49 RX9 yX9_harmedWorth wsX9_harmedWorth) := goodIn_app (goodIn_of _ (by decide +kernel)) ggX3_bestWorks_X9_harmedWorth
theorem dX3_bestWorks_0 : decode cX3_bestWorks 0 = .ok (.iconst 0, 1) := by decide +kernel
theorem dX3_bestWorks_1 : decode cX3_bestWorks 1 = .ok (.istore 5, 2) := by decide +kernel
theorem dX3_bestWorks_3 : decode cX3_bestWorks 3 = .ok (.sipush 991, 3) := by decide +kernel
theorem dX3_bestWorks_6 : decode cX3_bestWorks 6 = .ok (.istore 6, 2) := by decide +kernel
theorem dX3_bestWorks_8 : decode cX3_bestWorks 8 = .ok (.sipush 10000, 3) := by decide +kernel
theorem dX3_bestWorks_11 : decode cX3_bestWorks 11 = .ok (.istore 7, 2) := by decide +kernel
theorem dX3_bestWorks_13 : decode cX3_bestWorks 13 = .ok (.iconst 0, 1) := by decide +kernel
theorem dX3_bestWorks_14 : decode cX3_bestWorks 14 = .ok (.istore 8, 2) := by decide +kernel
theorem dX3_bestWorks_16 : decode cX3_bestWorks 16 = .ok (.iload 8, 2) := by decide +kernel
theorem dX3_bestWorks_18 : decode cX3_bestWorks 18 = .ok (.bipush 16, 2) := by decide +kernel
theorem dX3_bestWorks_20 : decode cX3_bestWorks 20 = .ok (.if_icmp .ge 109, 3) := by decide +kernel
theorem dX3_bestWorks_23 : decode cX3_bestWorks 23 = .ok (.aload_n 0, 1) := by decide +kernel
theorem dX3_bestWorks_24 : decode cX3_bestWorks 24 = .ok (.getfield 22, 3) := by decide +kernel
theorem dX3_bestWorks_27 : decode cX3_bestWorks 27 = .ok (.iload 8, 2) := by decide +kernel
theorem dX3_bestWorks_29 : decode cX3_bestWorks 29 = .ok (.invokevirtual 130, 3) := by decide +kernel
theorem dX3_bestWorks_32 : decode cX3_bestWorks 32 = .ok (.istore 9, 2) := by decide +kernel
theorem dX3_bestWorks_34 : decode cX3_bestWorks 34 = .ok (.iload 8, 2) := by decide +kernel
theorem dX3_bestWorks_36 : decode cX3_bestWorks 36 = .ok (.aload_n 0, 1) := by decide +kernel
theorem dX3_bestWorks_37 : decode cX3_bestWorks 37 = .ok (.getfield 22, 3) := by decide +kernel
theorem dX3_bestWorks_40 : decode cX3_bestWorks 40 = .ok (.getfield 133, 3) := by decide +kernel
theorem dX3_bestWorks_43 : decode cX3_bestWorks 43 = .ok (.iand, 1) := by decide +kernel
theorem dX3_bestWorks_44 : decode cX3_bestWorks 44 = .ok (.ifCond .ne 79, 3) := by decide +kernel
theorem dX3_bestWorks_47 : decode cX3_bestWorks 47 = .ok (.iload 9, 2) := by decide +kernel
theorem dX3_bestWorks_49 : decode cX3_bestWorks 49 = .ok (.iload_n 3, 1) := by decide +kernel
theorem dX3_bestWorks_50 : decode cX3_bestWorks 50 = .ok (.if_icmp .le 6, 3) := by decide +kernel
theorem dX3_bestWorks_53 : decode cX3_bestWorks 53 = .ok (.goto 70, 3) := by decide +kernel
theorem dX3_bestWorks_56 : decode cX3_bestWorks 56 = .ok (.aload_n 0, 1) := by decide +kernel
theorem dX3_bestWorks_57 : decode cX3_bestWorks 57 = .ok (.invokevirtual 55, 3) := by decide +kernel
theorem dX3_bestWorks_60 : decode cX3_bestWorks 60 = .ok (.aload_n 0, 1) := by decide +kernel
theorem dX3_bestWorks_61 : decode cX3_bestWorks 61 = .ok (.getfield 12, 3) := by decide +kernel
theorem dX3_bestWorks_64 : decode cX3_bestWorks 64 = .ok (.iload 8, 2) := by decide +kernel
theorem dX3_bestWorks_66 : decode cX3_bestWorks 66 = .ok (.invokevirtual 136, 3) := by decide +kernel
theorem dX3_bestWorks_69 : decode cX3_bestWorks 69 = .ok (.aload_n 1, 1) := by decide +kernel
theorem dX3_bestWorks_70 : decode cX3_bestWorks 70 = .ok (.iload_n 2, 1) := by decide +kernel
theorem dX3_bestWorks_71 : decode cX3_bestWorks 71 = .ok (.aload_n 0, 1) := by decide +kernel
theorem dX3_bestWorks_72 : decode cX3_bestWorks 72 = .ok (.getfield 12, 3) := by decide +kernel
theorem dX3_bestWorks_75 : decode cX3_bestWorks 75 = .ok (.invokevirtual 66, 3) := by decide +kernel
theorem dX3_bestWorks_78 : decode cX3_bestWorks 78 = .ok (.aload_n 0, 1) := by decide +kernel
theorem dX3_bestWorks_79 : decode cX3_bestWorks 79 = .ok (.getfield 12, 3) := by decide +kernel
theorem dX3_bestWorks_82 : decode cX3_bestWorks 82 = .ok (.getfield 45, 3) := by decide +kernel
theorem dX3_bestWorks_85 : decode cX3_bestWorks 85 = .ok (.invokevirtual 49, 3) := by decide +kernel
theorem dX3_bestWorks_88 : decode cX3_bestWorks 88 = .ok (.istore 10, 2) := by decide +kernel
theorem dX3_bestWorks_90 : decode cX3_bestWorks 90 = .ok (.iload 10, 2) := by decide +kernel
theorem dX3_bestWorks_92 : decode cX3_bestWorks 92 = .ok (.iload 6, 2) := by decide +kernel
theorem dX3_bestWorks_94 : decode cX3_bestWorks 94 = .ok (.if_icmp .lt 17, 3) := by decide +kernel
theorem dX3_bestWorks_97 : decode cX3_bestWorks 97 = .ok (.iload 10, 2) := by decide +kernel
theorem dX3_bestWorks_99 : decode cX3_bestWorks 99 = .ok (.iload 6, 2) := by decide +kernel
theorem dX3_bestWorks_101 : decode cX3_bestWorks 101 = .ok (.if_icmp .ne 22, 3) := by decide +kernel
theorem dX3_bestWorks_104 : decode cX3_bestWorks 104 = .ok (.iload 9, 2) := by decide +kernel
theorem dX3_bestWorks_106 : decode cX3_bestWorks 106 = .ok (.iload 7, 2) := by decide +kernel
theorem dX3_bestWorks_108 : decode cX3_bestWorks 108 = .ok (.if_icmp .ge 15, 3) := by decide +kernel
theorem dX3_bestWorks_111 : decode cX3_bestWorks 111 = .ok (.iload 8, 2) := by decide +kernel
theorem dX3_bestWorks_113 : decode cX3_bestWorks 113 = .ok (.istore 5, 2) := by decide +kernel
theorem dX3_bestWorks_115 : decode cX3_bestWorks 115 = .ok (.iload 10, 2) := by decide +kernel
theorem dX3_bestWorks_117 : decode cX3_bestWorks 117 = .ok (.istore 6, 2) := by decide +kernel
theorem dX3_bestWorks_119 : decode cX3_bestWorks 119 = .ok (.iload 9, 2) := by decide +kernel
theorem dX3_bestWorks_121 : decode cX3_bestWorks 121 = .ok (.istore 7, 2) := by decide +kernel
theorem dX3_bestWorks_123 : decode cX3_bestWorks 123 = .ok (.iinc 8 1, 3) := by decide +kernel
theorem dX3_bestWorks_126 : decode cX3_bestWorks 126 = .ok (.goto (-110), 3) := by decide +kernel
theorem dX3_bestWorks_129 : decode cX3_bestWorks 129 = .ok (.iload 4, 2) := by decide +kernel
theorem dX3_bestWorks_131 : decode cX3_bestWorks 131 = .ok (.ifCond .ne 8, 3) := by decide +kernel
theorem dX3_bestWorks_134 : decode cX3_bestWorks 134 = .ok (.iload 5, 2) := by decide +kernel
theorem dX3_bestWorks_136 : decode cX3_bestWorks 136 = .ok (.goto 5, 3) := by decide +kernel
theorem dX3_bestWorks_139 : decode cX3_bestWorks 139 = .ok (.iload 6, 2) := by decide +kernel
theorem dX3_bestWorks_141 : decode cX3_bestWorks 141 = .ok (.ireturn, 1) := by decide +kernel
set_option maxRecDepth 20000 in
theorem ggX3_foreseeLimits_X3_begin : GoodIn wsX3_foreseeLimits wsX3_begin := goodIn_r _ [14, 1, 15, 16, 17, 18, 19, 20, 21, 22, 23, 24, 25, 26, 27, 28, 29, 30, 31, 32, 33, 34, 35, 36, 37, 38, 39, 40, 41, 42, 43, 44, 45, 46, 47, 48, 49, 50, 51, 52, 53, 54, 55, 56, 57, 58, 59, 60, 61, 62, 63, 64, 65, 66, 67, 68, 69, 70, 71, 7, 8, 9, 72, 73, 74, 75, 76, 77, 78, 79, 80, 81, 82, 83, 141, 142, 143, 144, 145, 146, 147, 148, 149, 150, 151, 152, 153, 154, 155, 156, 163, 164, 165, 166, 167, 168, 169, 170, 171, 172, 173, 174, 175, 176, 177, 178, 157, 158, 159, 160, 161, 162] (by decide +kernel) (by decide +kernel)
set_option maxRecDepth 20000 in
theorem gX3_foreseeLimits_X3_begin : GoodIn wsX3_foreseeLimits (wsV RX3 55 RX3 yX3_begin wsX3_begin) := goodIn_app (goodIn_of _ (by decide +kernel)) ggX3_foreseeLimits_X3_begin
set_option maxRecDepth 20000 in
theorem ggX3_foreseeLimits_X9_isLifted : GoodIn wsX3_foreseeLimits wsX9_isLifted := goodIn_r _ [87, 82, 157, 158, 159, 160, 161, 162] (by decide +kernel) (by decide +kernel)
set_option maxRecDepth 20000 in
theorem gX3_foreseeLimits_X9_isLifted : GoodIn wsX3_foreseeLimits (wsV RX3 142 RX9 yX9_isLifted wsX9_isLifted) := goodIn_app (goodIn_of _ (by decide +kernel)) ggX3_foreseeLimits_X9_isLifted
set_option maxRecDepth 20000 in
theorem ggX3_foreseeLimits_X9_isHarmed : GoodIn wsX3_foreseeLimits wsX9_isHarmed := goodIn_r _ [91, 83, 157, 158, 159, 160, 161, 162] (by decide +kernel) (by decide +kernel)
set_option maxRecDepth 20000 in
theorem gX3_foreseeLimits_X9_isHarmed : GoodIn wsX3_foreseeLimits (wsV RX3 146 RX9 yX9_isHarmed wsX9_isHarmed) := goodIn_app (goodIn_of _ (by decide +kernel)) ggX3_foreseeLimits_X9_isHarmed
set_option maxRecDepth 20000 in
theorem ggX3_foreseeLimits_X0_passMinute : GoodIn wsX3_foreseeLimits wsX0_passMinute := goodIn_r _ [95, 34, 37, 23, 35, 24, 38, 96, 97, 8, 98, 99, 100, 101, 20, 102, 33, 32, 103, 7, 9, 104, 105, 106, 107, 22, 108, 109, 36, 110, 111, 112, 113, 114, 115, 116, 31, 117, 118, 119, 120, 30, 121, 122, 123, 53, 124, 62, 55, 60, 59, 61, 57, 71, 64, 56, 125, 126, 127, 128, 129, 130, 131, 132, 63, 58, 133, 134, 135, 136, 65, 137, 138, 139, 75, 140, 77, 81, 82, 83, 144, 145, 146, 147, 148, 149, 150, 151, 152, 153, 154, 155, 156, 163, 164, 165, 166, 167, 168, 169, 170, 171, 172, 173, 174, 175, 176, 177, 178, 157, 158, 159, 160, 161, 162] (by decide +kernel) (by decide +kernel)
set_option maxRecDepth 20000 in
theorem gX3_foreseeLimits_X0_passMinute : GoodIn wsX3_foreseeLimits (wsV RX3 72 RX0 yX0_passMinute wsX0_passMinute) := goodIn_app (goodIn_of _ (by decide +kernel)) ggX3_foreseeLimits_X0_passMinute
theorem dX3_foreseeLimits_0 : decode cX3_foreseeLimits 0 = .ok (.aload_n 0, 1) := by decide +kernel
theorem dX3_foreseeLimits_1 : decode cX3_foreseeLimits 1 = .ok (.invokevirtual 55, 3) := by decide +kernel
theorem dX3_foreseeLimits_4 : decode cX3_foreseeLimits 4 = .ok (.aload_n 0, 1) := by decide +kernel
theorem dX3_foreseeLimits_5 : decode cX3_foreseeLimits 5 = .ok (.getfield 12, 3) := by decide +kernel
theorem dX3_foreseeLimits_8 : decode cX3_foreseeLimits 8 = .ok (.getfield 45, 3) := by decide +kernel
theorem dX3_foreseeLimits_11 : decode cX3_foreseeLimits 11 = .ok (.astore_n 2, 1) := by decide +kernel
theorem dX3_foreseeLimits_12 : decode cX3_foreseeLimits 12 = .ok (.iconst 0, 1) := by decide +kernel
theorem dX3_foreseeLimits_13 : decode cX3_foreseeLimits 13 = .ok (.istore_n 3, 1) := by decide +kernel
theorem dX3_foreseeLimits_14 : decode cX3_foreseeLimits 14 = .ok (.iload_n 3, 1) := by decide +kernel
theorem dX3_foreseeLimits_15 : decode cX3_foreseeLimits 15 = .ok (.aload_n 2, 1) := by decide +kernel
theorem dX3_foreseeLimits_16 : decode cX3_foreseeLimits 16 = .ok (.getfield 139, 3) := by decide +kernel
theorem dX3_foreseeLimits_19 : decode cX3_foreseeLimits 19 = .ok (.if_icmp .ge 35, 3) := by decide +kernel
theorem dX3_foreseeLimits_22 : decode cX3_foreseeLimits 22 = .ok (.aload_n 1, 1) := by decide +kernel
theorem dX3_foreseeLimits_23 : decode cX3_foreseeLimits 23 = .ok (.iload_n 3, 1) := by decide +kernel
theorem dX3_foreseeLimits_24 : decode cX3_foreseeLimits 24 = .ok (.aload_n 2, 1) := by decide +kernel
theorem dX3_foreseeLimits_25 : decode cX3_foreseeLimits 25 = .ok (.iload_n 3, 1) := by decide +kernel
theorem dX3_foreseeLimits_26 : decode cX3_foreseeLimits 26 = .ok (.invokevirtual 142, 3) := by decide +kernel
theorem dX3_foreseeLimits_29 : decode cX3_foreseeLimits 29 = .ok (.ifCond .ne 11, 3) := by decide +kernel
theorem dX3_foreseeLimits_32 : decode cX3_foreseeLimits 32 = .ok (.aload_n 2, 1) := by decide +kernel
theorem dX3_foreseeLimits_33 : decode cX3_foreseeLimits 33 = .ok (.iload_n 3, 1) := by decide +kernel
theorem dX3_foreseeLimits_34 : decode cX3_foreseeLimits 34 = .ok (.invokevirtual 146, 3) := by decide +kernel
theorem dX3_foreseeLimits_37 : decode cX3_foreseeLimits 37 = .ok (.ifCond .eq 7, 3) := by decide +kernel
theorem dX3_foreseeLimits_40 : decode cX3_foreseeLimits 40 = .ok (.iconst 0, 1) := by decide +kernel
theorem dX3_foreseeLimits_41 : decode cX3_foreseeLimits 41 = .ok (.goto 6, 3) := by decide +kernel
theorem dX3_foreseeLimits_44 : decode cX3_foreseeLimits 44 = .ok (.sipush 601, 3) := by decide +kernel
theorem dX3_foreseeLimits_47 : decode cX3_foreseeLimits 47 = .ok (.iastore, 1) := by decide +kernel
theorem dX3_foreseeLimits_48 : decode cX3_foreseeLimits 48 = .ok (.iinc 3 1, 3) := by decide +kernel
theorem dX3_foreseeLimits_51 : decode cX3_foreseeLimits 51 = .ok (.goto (-37), 3) := by decide +kernel
theorem dX3_foreseeLimits_54 : decode cX3_foreseeLimits 54 = .ok (.iconst 0, 1) := by decide +kernel
theorem dX3_foreseeLimits_55 : decode cX3_foreseeLimits 55 = .ok (.istore_n 3, 1) := by decide +kernel
theorem dX3_foreseeLimits_56 : decode cX3_foreseeLimits 56 = .ok (.iload_n 3, 1) := by decide +kernel
theorem dX3_foreseeLimits_57 : decode cX3_foreseeLimits 57 = .ok (.sipush 400, 3) := by decide +kernel
theorem dX3_foreseeLimits_60 : decode cX3_foreseeLimits 60 = .ok (.if_icmp .ge 63, 3) := by decide +kernel
theorem dX3_foreseeLimits_63 : decode cX3_foreseeLimits 63 = .ok (.aload_n 0, 1) := by decide +kernel
theorem dX3_foreseeLimits_64 : decode cX3_foreseeLimits 64 = .ok (.getfield 12, 3) := by decide +kernel
theorem dX3_foreseeLimits_67 : decode cX3_foreseeLimits 67 = .ok (.invokevirtual 72, 3) := by decide +kernel
theorem dX3_foreseeLimits_70 : decode cX3_foreseeLimits 70 = .ok (.iconst 0, 1) := by decide +kernel
theorem dX3_foreseeLimits_71 : decode cX3_foreseeLimits 71 = .ok (.istore 4, 2) := by decide +kernel
theorem dX3_foreseeLimits_73 : decode cX3_foreseeLimits 73 = .ok (.iload 4, 2) := by decide +kernel
theorem dX3_foreseeLimits_75 : decode cX3_foreseeLimits 75 = .ok (.aload_n 2, 1) := by decide +kernel
theorem dX3_foreseeLimits_76 : decode cX3_foreseeLimits 76 = .ok (.getfield 139, 3) := by decide +kernel
theorem dX3_foreseeLimits_79 : decode cX3_foreseeLimits 79 = .ok (.if_icmp .ge 38, 3) := by decide +kernel
theorem dX3_foreseeLimits_82 : decode cX3_foreseeLimits 82 = .ok (.aload_n 0, 1) := by decide +kernel
theorem dX3_foreseeLimits_83 : decode cX3_foreseeLimits 83 = .ok (.getfield 12, 3) := by decide +kernel
theorem dX3_foreseeLimits_86 : decode cX3_foreseeLimits 86 = .ok (.getfield 33, 3) := by decide +kernel
theorem dX3_foreseeLimits_89 : decode cX3_foreseeLimits 89 = .ok (.aload_n 2, 1) := by decide +kernel
theorem dX3_foreseeLimits_90 : decode cX3_foreseeLimits 90 = .ok (.getfield 149, 3) := by decide +kernel
theorem dX3_foreseeLimits_93 : decode cX3_foreseeLimits 93 = .ok (.iload 4, 2) := by decide +kernel
theorem dX3_foreseeLimits_95 : decode cX3_foreseeLimits 95 = .ok (.iaload, 1) := by decide +kernel
theorem dX3_foreseeLimits_96 : decode cX3_foreseeLimits 96 = .ok (.if_icmp .le 15, 3) := by decide +kernel
theorem dX3_foreseeLimits_99 : decode cX3_foreseeLimits 99 = .ok (.aload_n 1, 1) := by decide +kernel
theorem dX3_foreseeLimits_100 : decode cX3_foreseeLimits 100 = .ok (.iload 4, 2) := by decide +kernel
theorem dX3_foreseeLimits_102 : decode cX3_foreseeLimits 102 = .ok (.aload_n 1, 1) := by decide +kernel
theorem dX3_foreseeLimits_103 : decode cX3_foreseeLimits 103 = .ok (.iload 4, 2) := by decide +kernel
theorem dX3_foreseeLimits_105 : decode cX3_foreseeLimits 105 = .ok (.iaload, 1) := by decide +kernel
theorem dX3_foreseeLimits_106 : decode cX3_foreseeLimits 106 = .ok (.iload_n 3, 1) := by decide +kernel
theorem dX3_foreseeLimits_107 : decode cX3_foreseeLimits 107 = .ok (.invokestatic 121, 3) := by decide +kernel
theorem dX3_foreseeLimits_110 : decode cX3_foreseeLimits 110 = .ok (.iastore, 1) := by decide +kernel
theorem dX3_foreseeLimits_111 : decode cX3_foreseeLimits 111 = .ok (.iinc 4 1, 3) := by decide +kernel
theorem dX3_foreseeLimits_114 : decode cX3_foreseeLimits 114 = .ok (.goto (-41), 3) := by decide +kernel
theorem dX3_foreseeLimits_117 : decode cX3_foreseeLimits 117 = .ok (.iinc 3 1, 3) := by decide +kernel
theorem dX3_foreseeLimits_120 : decode cX3_foreseeLimits 120 = .ok (.goto (-64), 3) := by decide +kernel
theorem dX3_foreseeLimits_123 : decode cX3_foreseeLimits 123 = .ok (.return_, 1) := by decide +kernel
theorem dX4_init_0 : decode cX4_init 0 = .ok (.aload_n 0, 1) := by decide +kernel
theorem dX4_init_1 : decode cX4_init 1 = .ok (.invokespecial 3, 3) := by decide +kernel
theorem dX4_init_4 : decode cX4_init 4 = .ok (.aload_n 0, 1) := by decide +kernel
theorem dX4_init_5 : decode cX4_init 5 = .ok (.bipush 50, 2) := by decide +kernel
theorem dX4_init_7 : decode cX4_init 7 = .ok (.putfield 9, 3) := by decide +kernel
theorem dX4_init_10 : decode cX4_init 10 = .ok (.aload_n 0, 1) := by decide +kernel
theorem dX4_init_11 : decode cX4_init 11 = .ok (.bipush 10, 2) := by decide +kernel
theorem dX4_init_13 : decode cX4_init 13 = .ok (.putfield 15, 3) := by decide +kernel
theorem dX4_init_16 : decode cX4_init 16 = .ok (.aload_n 0, 1) := by decide +kernel
theorem dX4_init_17 : decode cX4_init 17 = .ok (.bipush 20, 2) := by decide +kernel
theorem dX4_init_19 : decode cX4_init 19 = .ok (.putfield 18, 3) := by decide +kernel
theorem dX4_init_22 : decode cX4_init 22 = .ok (.aload_n 0, 1) := by decide +kernel
theorem dX4_init_23 : decode cX4_init 23 = .ok (.sipush 500, 3) := by decide +kernel
theorem dX4_init_26 : decode cX4_init 26 = .ok (.putfield 21, 3) := by decide +kernel
theorem dX4_init_29 : decode cX4_init 29 = .ok (.aload_n 0, 1) := by decide +kernel
theorem dX4_init_30 : decode cX4_init 30 = .ok (.iconst 1, 1) := by decide +kernel
theorem dX4_init_31 : decode cX4_init 31 = .ok (.putfield 24, 3) := by decide +kernel
theorem dX4_init_34 : decode cX4_init 34 = .ok (.aload_n 0, 1) := by decide +kernel
theorem dX4_init_35 : decode cX4_init 35 = .ok (.bipush 40, 2) := by decide +kernel
theorem dX4_init_37 : decode cX4_init 37 = .ok (.newarray .int, 2) := by decide +kernel
theorem dX4_init_39 : decode cX4_init 39 = .ok (.putfield 28, 3) := by decide +kernel
theorem dX4_init_42 : decode cX4_init 42 = .ok (.return_, 1) := by decide +kernel
theorem dX4_isDead_0 : decode cX4_isDead 0 = .ok (.aload_n 0, 1) := by decide +kernel
theorem dX4_isDead_1 : decode cX4_isDead 1 = .ok (.getfield 32, 3) := by decide +kernel
theorem dX4_isDead_4 : decode cX4_isDead 4 = .ok (.aload_n 0, 1) := by decide +kernel
theorem dX4_isDead_5 : decode cX4_isDead 5 = .ok (.getfield 21, 3) := by decide +kernel
theorem dX4_isDead_8 : decode cX4_isDead 8 = .ok (.if_icmp .le 7, 3) := by decide +kernel
theorem dX4_isDead_11 : decode cX4_isDead 11 = .ok (.iconst 1, 1) := by decide +kernel
theorem dX4_isDead_12 : decode cX4_isDead 12 = .ok (.goto 4, 3) := by decide +kernel
theorem dX4_isDead_15 : decode cX4_isDead 15 = .ok (.iconst 0, 1) := by decide +kernel
theorem dX4_isDead_16 : decode cX4_isDead 16 = .ok (.ireturn, 1) := by decide +kernel
theorem dX4_hasPower_0 : decode cX4_hasPower 0 = .ok (.aload_n 0, 1) := by decide +kernel
theorem dX4_hasPower_1 : decode cX4_hasPower 1 = .ok (.getfield 24, 3) := by decide +kernel
theorem dX4_hasPower_4 : decode cX4_hasPower 4 = .ok (.ifCond .ne 10, 3) := by decide +kernel
theorem dX4_hasPower_7 : decode cX4_hasPower 7 = .ok (.aload_n 0, 1) := by decide +kernel
theorem dX4_hasPower_8 : decode cX4_hasPower 8 = .ok (.getfield 35, 3) := by decide +kernel
theorem dX4_hasPower_11 : decode cX4_hasPower 11 = .ok (.ifCond .le 7, 3) := by decide +kernel
theorem dX4_hasPower_14 : decode cX4_hasPower 14 = .ok (.iconst 1, 1) := by decide +kernel
theorem dX4_hasPower_15 : decode cX4_hasPower 15 = .ok (.goto 4, 3) := by decide +kernel
theorem dX4_hasPower_18 : decode cX4_hasPower 18 = .ok (.iconst 0, 1) := by decide +kernel
theorem dX4_hasPower_19 : decode cX4_hasPower 19 = .ok (.ireturn, 1) := by decide +kernel
theorem dX4_marksFit_0 : decode cX4_marksFit 0 = .ok (.iload_n 1, 1) := by decide +kernel
theorem dX4_marksFit_1 : decode cX4_marksFit 1 = .ok (.iconst 3, 1) := by decide +kernel
theorem dX4_marksFit_2 : decode cX4_marksFit 2 = .ok (.if_icmp .ne 19, 3) := by decide +kernel
theorem dX4_marksFit_5 : decode cX4_marksFit 5 = .ok (.aload_n 0, 1) := by decide +kernel
theorem dX4_marksFit_6 : decode cX4_marksFit 6 = .ok (.getfield 15, 3) := by decide +kernel
theorem dX4_marksFit_9 : decode cX4_marksFit 9 = .ok (.iload_n 2, 1) := by decide +kernel
theorem dX4_marksFit_10 : decode cX4_marksFit 10 = .ok (.if_icmp .ge 7, 3) := by decide +kernel
theorem dX4_marksFit_13 : decode cX4_marksFit 13 = .ok (.iconst 1, 1) := by decide +kernel
theorem dX4_marksFit_14 : decode cX4_marksFit 14 = .ok (.goto 25, 3) := by decide +kernel
theorem dX4_marksFit_17 : decode cX4_marksFit 17 = .ok (.iconst 0, 1) := by decide +kernel
theorem dX4_marksFit_18 : decode cX4_marksFit 18 = .ok (.goto 21, 3) := by decide +kernel
theorem dX4_marksFit_21 : decode cX4_marksFit 21 = .ok (.iload_n 1, 1) := by decide +kernel
theorem dX4_marksFit_22 : decode cX4_marksFit 22 = .ok (.iconst 4, 1) := by decide +kernel
theorem dX4_marksFit_23 : decode cX4_marksFit 23 = .ok (.if_icmp .ne 11, 3) := by decide +kernel
theorem dX4_marksFit_26 : decode cX4_marksFit 26 = .ok (.iload_n 2, 1) := by decide +kernel
theorem dX4_marksFit_27 : decode cX4_marksFit 27 = .ok (.aload_n 0, 1) := by decide +kernel
theorem dX4_marksFit_28 : decode cX4_marksFit 28 = .ok (.getfield 9, 3) := by decide +kernel
theorem dX4_marksFit_31 : decode cX4_marksFit 31 = .ok (.if_icmp .ge 7, 3) := by decide +kernel
theorem dX4_marksFit_34 : decode cX4_marksFit 34 = .ok (.iconst 1, 1) := by decide +kernel
theorem dX4_marksFit_35 : decode cX4_marksFit 35 = .ok (.goto 4, 3) := by decide +kernel
theorem dX4_marksFit_38 : decode cX4_marksFit 38 = .ok (.iconst 0, 1) := by decide +kernel
theorem dX4_marksFit_39 : decode cX4_marksFit 39 = .ok (.ireturn, 1) := by decide +kernel
theorem dX4_logged_0 : decode cX4_logged 0 = .ok (.aload_n 0, 1) := by decide +kernel
theorem dX4_logged_1 : decode cX4_logged 1 = .ok (.getfield 32, 3) := by decide +kernel
theorem dX4_logged_4 : decode cX4_logged 4 = .ok (.bipush 40, 2) := by decide +kernel
theorem dX4_logged_6 : decode cX4_logged 6 = .ok (.invokestatic 38, 3) := by decide +kernel
theorem dX4_logged_9 : decode cX4_logged 9 = .ok (.ireturn, 1) := by decide +kernel
set_option maxRecDepth 20000 in
theorem ggX4_leastBetweenStarts_X4_logged : GoodIn wsX4_leastBetweenStarts wsX4_logged := goodIn_r _ [10, 11, 2, 3, 4, 5, 12, 13, 14, 15, 16, 17, 18, 19, 20, 21, 22] (by decide +kernel) (by decide +kernel)
set_option maxRecDepth 20000 in
theorem gX4_leastBetweenStarts_X4_logged : GoodIn wsX4_leastBetweenStarts (wsV RX4 44 RX4 yX4_logged wsX4_logged) := goodIn_app (goodIn_of _ (by decide +kernel)) ggX4_leastBetweenStarts_X4_logged
theorem dX4_leastBetweenStarts_0 : decode cX4_leastBetweenStarts 0 = .ok (.aload_n 0, 1) := by decide +kernel
theorem dX4_leastBetweenStarts_1 : decode cX4_leastBetweenStarts 1 = .ok (.getfield 28, 3) := by decide +kernel
theorem dX4_leastBetweenStarts_4 : decode cX4_leastBetweenStarts 4 = .ok (.iconst 1, 1) := by decide +kernel
theorem dX4_leastBetweenStarts_5 : decode cX4_leastBetweenStarts 5 = .ok (.iaload, 1) := by decide +kernel
theorem dX4_leastBetweenStarts_6 : decode cX4_leastBetweenStarts 6 = .ok (.aload_n 0, 1) := by decide +kernel
theorem dX4_leastBetweenStarts_7 : decode cX4_leastBetweenStarts 7 = .ok (.getfield 28, 3) := by decide +kernel
theorem dX4_leastBetweenStarts_10 : decode cX4_leastBetweenStarts 10 = .ok (.iconst 0, 1) := by decide +kernel
theorem dX4_leastBetweenStarts_11 : decode cX4_leastBetweenStarts 11 = .ok (.iaload, 1) := by decide +kernel
theorem dX4_leastBetweenStarts_12 : decode cX4_leastBetweenStarts 12 = .ok (.isub, 1) := by decide +kernel
theorem dX4_leastBetweenStarts_13 : decode cX4_leastBetweenStarts 13 = .ok (.istore_n 1, 1) := by decide +kernel
theorem dX4_leastBetweenStarts_14 : decode cX4_leastBetweenStarts 14 = .ok (.iconst 2, 1) := by decide +kernel
theorem dX4_leastBetweenStarts_15 : decode cX4_leastBetweenStarts 15 = .ok (.istore_n 2, 1) := by decide +kernel
theorem dX4_leastBetweenStarts_16 : decode cX4_leastBetweenStarts 16 = .ok (.iload_n 2, 1) := by decide +kernel
theorem dX4_leastBetweenStarts_17 : decode cX4_leastBetweenStarts 17 = .ok (.aload_n 0, 1) := by decide +kernel
theorem dX4_leastBetweenStarts_18 : decode cX4_leastBetweenStarts 18 = .ok (.invokevirtual 44, 3) := by decide +kernel
theorem dX4_leastBetweenStarts_21 : decode cX4_leastBetweenStarts 21 = .ok (.if_icmp .ge 29, 3) := by decide +kernel
theorem dX4_leastBetweenStarts_24 : decode cX4_leastBetweenStarts 24 = .ok (.iload_n 1, 1) := by decide +kernel
theorem dX4_leastBetweenStarts_25 : decode cX4_leastBetweenStarts 25 = .ok (.aload_n 0, 1) := by decide +kernel
theorem dX4_leastBetweenStarts_26 : decode cX4_leastBetweenStarts 26 = .ok (.getfield 28, 3) := by decide +kernel
theorem dX4_leastBetweenStarts_29 : decode cX4_leastBetweenStarts 29 = .ok (.iload_n 2, 1) := by decide +kernel
theorem dX4_leastBetweenStarts_30 : decode cX4_leastBetweenStarts 30 = .ok (.iaload, 1) := by decide +kernel
theorem dX4_leastBetweenStarts_31 : decode cX4_leastBetweenStarts 31 = .ok (.aload_n 0, 1) := by decide +kernel
theorem dX4_leastBetweenStarts_32 : decode cX4_leastBetweenStarts 32 = .ok (.getfield 28, 3) := by decide +kernel
theorem dX4_leastBetweenStarts_35 : decode cX4_leastBetweenStarts 35 = .ok (.iload_n 2, 1) := by decide +kernel
theorem dX4_leastBetweenStarts_36 : decode cX4_leastBetweenStarts 36 = .ok (.iconst 1, 1) := by decide +kernel
theorem dX4_leastBetweenStarts_37 : decode cX4_leastBetweenStarts 37 = .ok (.isub, 1) := by decide +kernel
theorem dX4_leastBetweenStarts_38 : decode cX4_leastBetweenStarts 38 = .ok (.iaload, 1) := by decide +kernel
