theorem dX2_init_62 : decode cX2_init 62 = .ok (.putfield 36, 3) := by decide +kernel
theorem dX2_init_65 : decode cX2_init 65 = .ok (.aload_n 0, 1) := by decide +kernel
theorem dX2_init_66 : decode cX2_init 66 = .ok (.bipush 11, 2) := by decide +kernel
theorem dX2_init_68 : decode cX2_init 68 = .ok (.newarray .int, 2) := by decide +kernel
theorem dX2_init_70 : decode cX2_init 70 = .ok (.putfield 39, 3) := by decide +kernel
theorem dX2_init_73 : decode cX2_init 73 = .ok (.aload_n 0, 1) := by decide +kernel
theorem dX2_init_74 : decode cX2_init 74 = .ok (.bipush 11, 2) := by decide +kernel
theorem dX2_init_76 : decode cX2_init 76 = .ok (.newarray .int, 2) := by decide +kernel
theorem dX2_init_78 : decode cX2_init 78 = .ok (.putfield 42, 3) := by decide +kernel
theorem dX2_init_81 : decode cX2_init 81 = .ok (.aload_n 0, 1) := by decide +kernel
theorem dX2_init_82 : decode cX2_init 82 = .ok (.bipush 11, 2) := by decide +kernel
theorem dX2_init_84 : decode cX2_init 84 = .ok (.newarray .int, 2) := by decide +kernel
theorem dX2_init_86 : decode cX2_init 86 = .ok (.putfield 45, 3) := by decide +kernel
theorem dX2_init_89 : decode cX2_init 89 = .ok (.aload_n 0, 1) := by decide +kernel
theorem dX2_init_90 : decode cX2_init 90 = .ok (.bipush 44, 2) := by decide +kernel
theorem dX2_init_92 : decode cX2_init 92 = .ok (.newarray .int, 2) := by decide +kernel
theorem dX2_init_94 : decode cX2_init 94 = .ok (.putfield 48, 3) := by decide +kernel
theorem dX2_init_97 : decode cX2_init 97 = .ok (.aload_n 0, 1) := by decide +kernel
theorem dX2_init_98 : decode cX2_init 98 = .ok (.bipush 44, 2) := by decide +kernel
theorem dX2_init_100 : decode cX2_init 100 = .ok (.newarray .int, 2) := by decide +kernel
theorem dX2_init_102 : decode cX2_init 102 = .ok (.putfield 51, 3) := by decide +kernel
theorem dX2_init_105 : decode cX2_init 105 = .ok (.aload_n 0, 1) := by decide +kernel
theorem dX2_init_106 : decode cX2_init 106 = .ok (.bipush 11, 2) := by decide +kernel
theorem dX2_init_108 : decode cX2_init 108 = .ok (.newarray .int, 2) := by decide +kernel
theorem dX2_init_110 : decode cX2_init 110 = .ok (.putfield 54, 3) := by decide +kernel
theorem dX2_init_113 : decode cX2_init 113 = .ok (.aload_n 0, 1) := by decide +kernel
theorem dX2_init_114 : decode cX2_init 114 = .ok (.bipush 11, 2) := by decide +kernel
theorem dX2_init_116 : decode cX2_init 116 = .ok (.newarray .int, 2) := by decide +kernel
theorem dX2_init_118 : decode cX2_init 118 = .ok (.putfield 57, 3) := by decide +kernel
theorem dX2_init_121 : decode cX2_init 121 = .ok (.aload_n 0, 1) := by decide +kernel
theorem dX2_init_122 : decode cX2_init 122 = .ok (.bipush 11, 2) := by decide +kernel
theorem dX2_init_124 : decode cX2_init 124 = .ok (.newarray .int, 2) := by decide +kernel
theorem dX2_init_126 : decode cX2_init 126 = .ok (.putfield 60, 3) := by decide +kernel
theorem dX2_init_129 : decode cX2_init 129 = .ok (.aload_n 0, 1) := by decide +kernel
theorem dX2_init_130 : decode cX2_init 130 = .ok (.sipush 600, 3) := by decide +kernel
theorem dX2_init_133 : decode cX2_init 133 = .ok (.newarray .boolean, 2) := by decide +kernel
theorem dX2_init_135 : decode cX2_init 135 = .ok (.putfield 63, 3) := by decide +kernel
theorem dX2_init_138 : decode cX2_init 138 = .ok (.iconst 0, 1) := by decide +kernel
theorem dX2_init_139 : decode cX2_init 139 = .ok (.istore_n 1, 1) := by decide +kernel
theorem dX2_init_140 : decode cX2_init 140 = .ok (.iload_n 1, 1) := by decide +kernel
theorem dX2_init_141 : decode cX2_init 141 = .ok (.sipush 1000, 3) := by decide +kernel
theorem dX2_init_144 : decode cX2_init 144 = .ok (.if_icmp .ge 17, 3) := by decide +kernel
theorem dX2_init_147 : decode cX2_init 147 = .ok (.aload_n 0, 1) := by decide +kernel
theorem dX2_init_148 : decode cX2_init 148 = .ok (.getfield 7, 3) := by decide +kernel
theorem dX2_init_151 : decode cX2_init 151 = .ok (.iload_n 1, 1) := by decide +kernel
theorem dX2_init_152 : decode cX2_init 152 = .ok (.bipush 20, 2) := by decide +kernel
theorem dX2_init_154 : decode cX2_init 154 = .ok (.iastore, 1) := by decide +kernel
theorem dX2_init_155 : decode cX2_init 155 = .ok (.iinc 1 1, 3) := by decide +kernel
theorem dX2_init_158 : decode cX2_init 158 = .ok (.goto (-18), 3) := by decide +kernel
theorem dX2_init_161 : decode cX2_init 161 = .ok (.return_, 1) := by decide +kernel
theorem dX2_thrown_0 : decode cX2_thrown 0 = .ok (.aload_n 0, 1) := by decide +kernel
theorem dX2_thrown_1 : decode cX2_thrown 1 = .ok (.getfield 66, 3) := by decide +kernel
theorem dX2_thrown_4 : decode cX2_thrown 4 = .ok (.ireturn, 1) := by decide +kernel
theorem dX2_fails_0 : decode cX2_fails 0 = .ok (.aload_n 0, 1) := by decide +kernel
theorem dX2_fails_1 : decode cX2_fails 1 = .ok (.iload_n 1, 1) := by decide +kernel
theorem dX2_fails_2 : decode cX2_fails 2 = .ok (.putfield 66, 3) := by decide +kernel
theorem dX2_fails_5 : decode cX2_fails 5 = .ok (.iconst 0, 1) := by decide +kernel
theorem dX2_fails_6 : decode cX2_fails 6 = .ok (.ireturn, 1) := by decide +kernel
theorem dX2_in_0 : decode cX2_in 0 = .ok (.iload_n 0, 1) := by decide +kernel
theorem dX2_in_1 : decode cX2_in 1 = .ok (.iload_n 1, 1) := by decide +kernel
theorem dX2_in_2 : decode cX2_in 2 = .ok (.if_icmp .lt 12, 3) := by decide +kernel
theorem dX2_in_5 : decode cX2_in 5 = .ok (.iload_n 0, 1) := by decide +kernel
theorem dX2_in_6 : decode cX2_in 6 = .ok (.iload_n 2, 1) := by decide +kernel
theorem dX2_in_7 : decode cX2_in 7 = .ok (.if_icmp .gt 7, 3) := by decide +kernel
theorem dX2_in_10 : decode cX2_in 10 = .ok (.iconst 1, 1) := by decide +kernel
theorem dX2_in_11 : decode cX2_in 11 = .ok (.goto 4, 3) := by decide +kernel
theorem dX2_in_14 : decode cX2_in 14 = .ok (.iconst 0, 1) := by decide +kernel
theorem dX2_in_15 : decode cX2_in 15 = .ok (.ireturn, 1) := by decide +kernel
set_option maxRecDepth 20000 in
theorem ggX2_isHour_X2_in : GoodIn wsX2_isHour wsX2_in := goodIn_r _ [4] (by decide +kernel) (by decide +kernel)
set_option maxRecDepth 20000 in
theorem gX2_isHour_X2_in : GoodIn wsX2_isHour (va_wsS RX2 69 yX2_in wsX2_in) := goodIn_app (goodIn_of _ (by decide +kernel)) ggX2_isHour_X2_in
theorem dX2_isHour_0 : decode cX2_isHour 0 = .ok (.iload_n 0, 1) := by decide +kernel
theorem dX2_isHour_1 : decode cX2_isHour 1 = .ok (.iconst 0, 1) := by decide +kernel
theorem dX2_isHour_2 : decode cX2_isHour 2 = .ok (.sipush 999, 3) := by decide +kernel
theorem dX2_isHour_5 : decode cX2_isHour 5 = .ok (.invokestatic 69, 3) := by decide +kernel
theorem dX2_isHour_8 : decode cX2_isHour 8 = .ok (.ireturn, 1) := by decide +kernel
set_option maxRecDepth 20000 in
theorem ggX2_isPour_X2_in : GoodIn wsX2_isPour wsX2_in := goodIn_r _ [5] (by decide +kernel) (by decide +kernel)
set_option maxRecDepth 20000 in
theorem gX2_isPour_X2_in : GoodIn wsX2_isPour (va_wsS RX2 69 yX2_in wsX2_in) := goodIn_app (goodIn_of _ (by decide +kernel)) ggX2_isPour_X2_in
theorem dX2_isPour_0 : decode cX2_isPour 0 = .ok (.iload_n 1, 1) := by decide +kernel
theorem dX2_isPour_1 : decode cX2_isPour 1 = .ok (.iconst 0, 1) := by decide +kernel
theorem dX2_isPour_2 : decode cX2_isPour 2 = .ok (.bipush 9, 2) := by decide +kernel
theorem dX2_isPour_4 : decode cX2_isPour 4 = .ok (.invokestatic 69, 3) := by decide +kernel
theorem dX2_isPour_7 : decode cX2_isPour 7 = .ok (.ifCond .eq 16, 3) := by decide +kernel
theorem dX2_isPour_10 : decode cX2_isPour 10 = .ok (.aload_n 0, 1) := by decide +kernel
theorem dX2_isPour_11 : decode cX2_isPour 11 = .ok (.getfield 29, 3) := by decide +kernel
theorem dX2_isPour_14 : decode cX2_isPour 14 = .ok (.iload_n 1, 1) := by decide +kernel
theorem dX2_isPour_15 : decode cX2_isPour 15 = .ok (.baload, 1) := by decide +kernel
theorem dX2_isPour_16 : decode cX2_isPour 16 = .ok (.ifCond .eq 7, 3) := by decide +kernel
theorem dX2_isPour_19 : decode cX2_isPour 19 = .ok (.iconst 1, 1) := by decide +kernel
theorem dX2_isPour_20 : decode cX2_isPour 20 = .ok (.goto 4, 3) := by decide +kernel
theorem dX2_isPour_23 : decode cX2_isPour 23 = .ok (.iconst 0, 1) := by decide +kernel
theorem dX2_isPour_24 : decode cX2_isPour 24 = .ok (.ireturn, 1) := by decide +kernel
set_option maxRecDepth 20000 in
theorem ggX2_gain_X2_isHour : GoodIn wsX2_gain wsX2_isHour := goodIn_r _ [5, 6, 7, 4, 8] (by decide +kernel) (by decide +kernel)
set_option maxRecDepth 20000 in
theorem gX2_gain_X2_isHour : GoodIn wsX2_gain (va_wsS RX2 73 yX2_isHour wsX2_isHour) := goodIn_app (goodIn_of _ (by decide +kernel)) ggX2_gain_X2_isHour
theorem dX2_gain_0 : decode cX2_gain 0 = .ok (.iload_n 1, 1) := by decide +kernel
theorem dX2_gain_1 : decode cX2_gain 1 = .ok (.invokestatic 73, 3) := by decide +kernel
theorem dX2_gain_4 : decode cX2_gain 4 = .ok (.ifCond .eq 15, 3) := by decide +kernel
theorem dX2_gain_7 : decode cX2_gain 7 = .ok (.aload_n 0, 1) := by decide +kernel
theorem dX2_gain_8 : decode cX2_gain 8 = .ok (.getfield 7, 3) := by decide +kernel
theorem dX2_gain_11 : decode cX2_gain 11 = .ok (.iload_n 1, 1) := by decide +kernel
theorem dX2_gain_12 : decode cX2_gain 12 = .ok (.iaload, 1) := by decide +kernel
theorem dX2_gain_13 : decode cX2_gain 13 = .ok (.bipush 10, 2) := by decide +kernel
theorem dX2_gain_15 : decode cX2_gain 15 = .ok (.iadd, 1) := by decide +kernel
theorem dX2_gain_16 : decode cX2_gain 16 = .ok (.goto 4, 3) := by decide +kernel
theorem dX2_gain_19 : decode cX2_gain 19 = .ok (.iconst 0, 1) := by decide +kernel
theorem dX2_gain_20 : decode cX2_gain 20 = .ok (.istore_n 2, 1) := by decide +kernel
theorem dX2_gain_21 : decode cX2_gain 21 = .ok (.iload_n 2, 1) := by decide +kernel
theorem dX2_gain_22 : decode cX2_gain 22 = .ok (.ifCond .ge 7, 3) := by decide +kernel
theorem dX2_gain_25 : decode cX2_gain 25 = .ok (.iconst 0, 1) := by decide +kernel
theorem dX2_gain_26 : decode cX2_gain 26 = .ok (.goto 4, 3) := by decide +kernel
theorem dX2_gain_29 : decode cX2_gain 29 = .ok (.iload_n 2, 1) := by decide +kernel
theorem dX2_gain_30 : decode cX2_gain 30 = .ok (.ireturn, 1) := by decide +kernel
set_option maxRecDepth 20000 in
theorem ggX2_sum_X2_gain : GoodIn wsX2_sum wsX2_gain := goodIn_r _ [5, 6, 7, 8, 4, 9, 10, 11, 12, 13, 14, 15, 16, 17, 18, 19, 20, 21, 22, 23, 24, 25, 26, 27, 28, 29, 30, 31] (by decide +kernel) (by decide +kernel)
set_option maxRecDepth 20000 in
theorem gX2_sum_X2_gain : GoodIn wsX2_sum (wsV RX2 77 RX2 yX2_gain wsX2_gain) := goodIn_app (goodIn_of _ (by decide +kernel)) ggX2_sum_X2_gain
theorem dX2_sum_0 : decode cX2_sum 0 = .ok (.iconst 0, 1) := by decide +kernel
theorem dX2_sum_1 : decode cX2_sum 1 = .ok (.istore_n 3, 1) := by decide +kernel
theorem dX2_sum_2 : decode cX2_sum 2 = .ok (.iload_n 1, 1) := by decide +kernel
theorem dX2_sum_3 : decode cX2_sum 3 = .ok (.istore 4, 2) := by decide +kernel
theorem dX2_sum_5 : decode cX2_sum 5 = .ok (.iload 4, 2) := by decide +kernel
theorem dX2_sum_7 : decode cX2_sum 7 = .ok (.iload_n 2, 1) := by decide +kernel
theorem dX2_sum_8 : decode cX2_sum 8 = .ok (.if_icmp .ge 18, 3) := by decide +kernel
theorem dX2_sum_11 : decode cX2_sum 11 = .ok (.iload_n 3, 1) := by decide +kernel
theorem dX2_sum_12 : decode cX2_sum 12 = .ok (.aload_n 0, 1) := by decide +kernel
theorem dX2_sum_13 : decode cX2_sum 13 = .ok (.iload 4, 2) := by decide +kernel
theorem dX2_sum_15 : decode cX2_sum 15 = .ok (.invokevirtual 77, 3) := by decide +kernel
theorem dX2_sum_18 : decode cX2_sum 18 = .ok (.iadd, 1) := by decide +kernel
theorem dX2_sum_19 : decode cX2_sum 19 = .ok (.istore_n 3, 1) := by decide +kernel
theorem dX2_sum_20 : decode cX2_sum 20 = .ok (.iinc 4 1, 3) := by decide +kernel
theorem dX2_sum_23 : decode cX2_sum 23 = .ok (.goto (-18), 3) := by decide +kernel
theorem dX2_sum_26 : decode cX2_sum 26 = .ok (.iload_n 3, 1) := by decide +kernel
theorem dX2_sum_27 : decode cX2_sum 27 = .ok (.ireturn, 1) := by decide +kernel
theorem dX2_between_0 : decode cX2_between 0 = .ok (.iload_n 3, 1) := by decide +kernel
theorem dX2_between_1 : decode cX2_between 1 = .ok (.bipush 25, 2) := by decide +kernel
theorem dX2_between_3 : decode cX2_between 3 = .ok (.iload_n 0, 1) := by decide +kernel
theorem dX2_between_4 : decode cX2_between 4 = .ok (.iload_n 1, 1) := by decide +kernel
theorem dX2_between_5 : decode cX2_between 5 = .ok (.isub, 1) := by decide +kernel
theorem dX2_between_6 : decode cX2_between 6 = .ok (.imul, 1) := by decide +kernel
theorem dX2_between_7 : decode cX2_between 7 = .ok (.iload_n 2, 1) := by decide +kernel
theorem dX2_between_8 : decode cX2_between 8 = .ok (.iload_n 1, 1) := by decide +kernel
theorem dX2_between_9 : decode cX2_between 9 = .ok (.isub, 1) := by decide +kernel
theorem dX2_between_10 : decode cX2_between 10 = .ok (.idiv, 1) := by decide +kernel
theorem dX2_between_11 : decode cX2_between 11 = .ok (.iadd, 1) := by decide +kernel
theorem dX2_between_12 : decode cX2_between 12 = .ok (.ireturn, 1) := by decide +kernel
set_option maxRecDepth 20000 in
theorem ggX2_strong_X2_between : GoodIn wsX2_strong wsX2_between := goodIn_r _ [4] (by decide +kernel) (by decide +kernel)
set_option maxRecDepth 20000 in
theorem gX2_strong_X2_between : GoodIn wsX2_strong (va_wsS RX2 81 yX2_between wsX2_between) := goodIn_app (goodIn_of _ (by decide +kernel)) ggX2_strong_X2_between
theorem dX2_strong_0 : decode cX2_strong 0 = .ok (.iload_n 0, 1) := by decide +kernel
theorem dX2_strong_1 : decode cX2_strong 1 = .ok (.sipush 5000, 3) := by decide +kernel
theorem dX2_strong_4 : decode cX2_strong 4 = .ok (.if_icmp .lt 8, 3) := by decide +kernel
theorem dX2_strong_7 : decode cX2_strong 7 = .ok (.bipush 100, 2) := by decide +kernel
theorem dX2_strong_9 : decode cX2_strong 9 = .ok (.goto 78, 3) := by decide +kernel
theorem dX2_strong_12 : decode cX2_strong 12 = .ok (.iload_n 0, 1) := by decide +kernel
theorem dX2_strong_13 : decode cX2_strong 13 = .ok (.sipush 2500, 3) := by decide +kernel
theorem dX2_strong_16 : decode cX2_strong 16 = .ok (.if_icmp .lt 18, 3) := by decide +kernel
theorem dX2_strong_19 : decode cX2_strong 19 = .ok (.iload_n 0, 1) := by decide +kernel
theorem dX2_strong_20 : decode cX2_strong 20 = .ok (.sipush 2500, 3) := by decide +kernel
theorem dX2_strong_23 : decode cX2_strong 23 = .ok (.sipush 5000, 3) := by decide +kernel
theorem dX2_strong_26 : decode cX2_strong 26 = .ok (.bipush 75, 2) := by decide +kernel
theorem dX2_strong_28 : decode cX2_strong 28 = .ok (.invokestatic 81, 3) := by decide +kernel
theorem dX2_strong_31 : decode cX2_strong 31 = .ok (.goto 56, 3) := by decide +kernel
theorem dX2_strong_34 : decode cX2_strong 34 = .ok (.iload_n 0, 1) := by decide +kernel
theorem dX2_strong_35 : decode cX2_strong 35 = .ok (.sipush 1200, 3) := by decide +kernel
theorem dX2_strong_38 : decode cX2_strong 38 = .ok (.if_icmp .lt 18, 3) := by decide +kernel
theorem dX2_strong_41 : decode cX2_strong 41 = .ok (.iload_n 0, 1) := by decide +kernel
theorem dX2_strong_42 : decode cX2_strong 42 = .ok (.sipush 1200, 3) := by decide +kernel
theorem dX2_strong_45 : decode cX2_strong 45 = .ok (.sipush 2500, 3) := by decide +kernel
theorem dX2_strong_48 : decode cX2_strong 48 = .ok (.bipush 50, 2) := by decide +kernel
theorem dX2_strong_50 : decode cX2_strong 50 = .ok (.invokestatic 81, 3) := by decide +kernel
theorem dX2_strong_53 : decode cX2_strong 53 = .ok (.goto 34, 3) := by decide +kernel
theorem dX2_strong_56 : decode cX2_strong 56 = .ok (.iload_n 0, 1) := by decide +kernel
theorem dX2_strong_57 : decode cX2_strong 57 = .ok (.sipush 500, 3) := by decide +kernel
theorem dX2_strong_60 : decode cX2_strong 60 = .ok (.if_icmp .lt 18, 3) := by decide +kernel
theorem dX2_strong_63 : decode cX2_strong 63 = .ok (.iload_n 0, 1) := by decide +kernel
theorem dX2_strong_64 : decode cX2_strong 64 = .ok (.sipush 500, 3) := by decide +kernel
theorem dX2_strong_67 : decode cX2_strong 67 = .ok (.sipush 1200, 3) := by decide +kernel
theorem dX2_strong_70 : decode cX2_strong 70 = .ok (.bipush 25, 2) := by decide +kernel
theorem dX2_strong_72 : decode cX2_strong 72 = .ok (.invokestatic 81, 3) := by decide +kernel
theorem dX2_strong_75 : decode cX2_strong 75 = .ok (.goto 12, 3) := by decide +kernel
theorem dX2_strong_78 : decode cX2_strong 78 = .ok (.iload_n 0, 1) := by decide +kernel
theorem dX2_strong_79 : decode cX2_strong 79 = .ok (.iconst 0, 1) := by decide +kernel
theorem dX2_strong_80 : decode cX2_strong 80 = .ok (.sipush 500, 3) := by decide +kernel
theorem dX2_strong_83 : decode cX2_strong 83 = .ok (.iconst 0, 1) := by decide +kernel
theorem dX2_strong_84 : decode cX2_strong 84 = .ok (.invokestatic 81, 3) := by decide +kernel
theorem dX2_strong_87 : decode cX2_strong 87 = .ok (.ireturn, 1) := by decide +kernel
theorem dX2_rate_0 : decode cX2_rate 0 = .ok (.aload_n 0, 1) := by decide +kernel
theorem dX2_rate_1 : decode cX2_rate 1 = .ok (.getfield 17, 3) := by decide +kernel
theorem dX2_rate_4 : decode cX2_rate 4 = .ok (.aload_n 0, 1) := by decide +kernel
theorem dX2_rate_5 : decode cX2_rate 5 = .ok (.getfield 20, 3) := by decide +kernel
theorem dX2_rate_8 : decode cX2_rate 8 = .ok (.if_icmp .ge 10, 3) := by decide +kernel
theorem dX2_rate_11 : decode cX2_rate 11 = .ok (.aload_n 0, 1) := by decide +kernel
theorem dX2_rate_12 : decode cX2_rate 12 = .ok (.getfield 17, 3) := by decide +kernel
theorem dX2_rate_15 : decode cX2_rate 15 = .ok (.goto 7, 3) := by decide +kernel
theorem dX2_rate_18 : decode cX2_rate 18 = .ok (.aload_n 0, 1) := by decide +kernel
theorem dX2_rate_19 : decode cX2_rate 19 = .ok (.getfield 20, 3) := by decide +kernel
theorem dX2_rate_22 : decode cX2_rate 22 = .ok (.ireturn, 1) := by decide +kernel
theorem dX2_delays_0 : decode cX2_delays 0 = .ok (.iconst 0, 1) := by decide +kernel
theorem dX2_delays_1 : decode cX2_delays 1 = .ok (.istore_n 2, 1) := by decide +kernel
theorem dX2_delays_2 : decode cX2_delays 2 = .ok (.iconst 0, 1) := by decide +kernel
theorem dX2_delays_3 : decode cX2_delays 3 = .ok (.istore_n 3, 1) := by decide +kernel
theorem dX2_delays_4 : decode cX2_delays 4 = .ok (.iload_n 3, 1) := by decide +kernel
theorem dX2_delays_5 : decode cX2_delays 5 = .ok (.aload_n 0, 1) := by decide +kernel
theorem dX2_delays_6 : decode cX2_delays 6 = .ok (.getfield 45, 3) := by decide +kernel
theorem dX2_delays_9 : decode cX2_delays 9 = .ok (.iload_n 1, 1) := by decide +kernel
theorem dX2_delays_10 : decode cX2_delays 10 = .ok (.iaload, 1) := by decide +kernel
theorem dX2_delays_11 : decode cX2_delays 11 = .ok (.if_icmp .ge 22, 3) := by decide +kernel
theorem dX2_delays_14 : decode cX2_delays 14 = .ok (.iload_n 2, 1) := by decide +kernel
theorem dX2_delays_15 : decode cX2_delays 15 = .ok (.aload_n 0, 1) := by decide +kernel
theorem dX2_delays_16 : decode cX2_delays 16 = .ok (.getfield 51, 3) := by decide +kernel
theorem dX2_delays_19 : decode cX2_delays 19 = .ok (.iconst 4, 1) := by decide +kernel
theorem dX2_delays_20 : decode cX2_delays 20 = .ok (.iload_n 1, 1) := by decide +kernel
theorem dX2_delays_21 : decode cX2_delays 21 = .ok (.imul, 1) := by decide +kernel
theorem dX2_delays_22 : decode cX2_delays 22 = .ok (.iload_n 3, 1) := by decide +kernel
theorem dX2_delays_23 : decode cX2_delays 23 = .ok (.iadd, 1) := by decide +kernel
theorem dX2_delays_24 : decode cX2_delays 24 = .ok (.iaload, 1) := by decide +kernel
theorem dX2_delays_25 : decode cX2_delays 25 = .ok (.iadd, 1) := by decide +kernel
theorem dX2_delays_26 : decode cX2_delays 26 = .ok (.istore_n 2, 1) := by decide +kernel
theorem dX2_delays_27 : decode cX2_delays 27 = .ok (.iinc 3 1, 3) := by decide +kernel
theorem dX2_delays_30 : decode cX2_delays 30 = .ok (.goto (-26), 3) := by decide +kernel
theorem dX2_delays_33 : decode cX2_delays 33 = .ok (.iload_n 2, 1) := by decide +kernel
theorem dX2_delays_34 : decode cX2_delays 34 = .ok (.ireturn, 1) := by decide +kernel
set_option maxRecDepth 20000 in
theorem ggX2_end_X2_rate : GoodIn wsX2_end wsX2_rate := goodIn_r _ [7, 8, 9, 16, 17, 18, 19, 20, 21, 22, 23, 24, 25, 26, 27, 28, 29, 30, 31, 32, 33, 34] (by decide +kernel) (by decide +kernel)
set_option maxRecDepth 20000 in
theorem gX2_end_X2_rate : GoodIn wsX2_end (wsV RX2 85 RX2 yX2_rate wsX2_rate) := goodIn_app (goodIn_of _ (by decide +kernel)) ggX2_end_X2_rate
set_option maxRecDepth 20000 in
theorem ggX2_end_X2_delays : GoodIn wsX2_end wsX2_delays := goodIn_r _ [13, 14, 15, 16, 17, 18, 19, 20, 21, 22, 23, 24, 25, 26, 27, 28, 29, 30, 31, 32, 33, 34] (by decide +kernel) (by decide +kernel)
set_option maxRecDepth 20000 in
theorem gX2_end_X2_delays : GoodIn wsX2_end (wsV RX2 89 RX2 yX2_delays wsX2_delays) := goodIn_app (goodIn_of _ (by decide +kernel)) ggX2_end_X2_delays
theorem dX2_end_0 : decode cX2_end 0 = .ok (.aload_n 0, 1) := by decide +kernel
theorem dX2_end_1 : decode cX2_end 1 = .ok (.getfield 33, 3) := by decide +kernel
theorem dX2_end_4 : decode cX2_end 4 = .ok (.iload_n 1, 1) := by decide +kernel
theorem dX2_end_5 : decode cX2_end 5 = .ok (.iaload, 1) := by decide +kernel
theorem dX2_end_6 : decode cX2_end 6 = .ok (.aload_n 0, 1) := by decide +kernel
theorem dX2_end_7 : decode cX2_end 7 = .ok (.getfield 36, 3) := by decide +kernel
theorem dX2_end_10 : decode cX2_end 10 = .ok (.iload_n 1, 1) := by decide +kernel
theorem dX2_end_11 : decode cX2_end 11 = .ok (.iaload, 1) := by decide +kernel
theorem dX2_end_12 : decode cX2_end 12 = .ok (.aload_n 0, 1) := by decide +kernel
theorem dX2_end_13 : decode cX2_end 13 = .ok (.invokevirtual 85, 3) := by decide +kernel
theorem dX2_end_16 : decode cX2_end 16 = .ok (.iadd, 1) := by decide +kernel
theorem dX2_end_17 : decode cX2_end 17 = .ok (.iconst 1, 1) := by decide +kernel
theorem dX2_end_18 : decode cX2_end 18 = .ok (.isub, 1) := by decide +kernel
theorem dX2_end_19 : decode cX2_end 19 = .ok (.aload_n 0, 1) := by decide +kernel
theorem dX2_end_20 : decode cX2_end 20 = .ok (.invokevirtual 85, 3) := by decide +kernel
theorem dX2_end_23 : decode cX2_end 23 = .ok (.idiv, 1) := by decide +kernel
theorem dX2_end_24 : decode cX2_end 24 = .ok (.iadd, 1) := by decide +kernel
theorem dX2_end_25 : decode cX2_end 25 = .ok (.aload_n 0, 1) := by decide +kernel
theorem dX2_end_26 : decode cX2_end 26 = .ok (.iload_n 1, 1) := by decide +kernel
theorem dX2_end_27 : decode cX2_end 27 = .ok (.invokevirtual 89, 3) := by decide +kernel
theorem dX2_end_30 : decode cX2_end 30 = .ok (.iadd, 1) := by decide +kernel
theorem dX2_end_31 : decode cX2_end 31 = .ok (.ireturn, 1) := by decide +kernel
set_option maxRecDepth 20000 in
theorem ggX2_works_X2_end : GoodIn wsX2_works wsX2_end := goodIn_r _ [12, 2, 13, 14, 15, 16, 11, 17, 18, 19, 20, 21, 22, 23, 24, 25, 43, 44, 45, 46, 47, 48, 49, 50, 51, 52, 53, 54, 55, 56, 57, 58, 59, 60, 61] (by decide +kernel) (by decide +kernel)
set_option maxRecDepth 20000 in
theorem gX2_works_X2_end : GoodIn wsX2_works (wsV RX2 92 RX2 yX2_end wsX2_end) := goodIn_app (goodIn_of _ (by decide +kernel)) ggX2_works_X2_end
set_option maxRecDepth 20000 in
theorem ggX2_works_X2_strong : GoodIn wsX2_works wsX2_strong := goodIn_r _ [28, 29, 30, 11, 31] (by decide +kernel) (by decide +kernel)
set_option maxRecDepth 20000 in
theorem gX2_works_X2_strong : GoodIn wsX2_works (va_wsS RX2 95 yX2_strong wsX2_strong) := goodIn_app (goodIn_of _ (by decide +kernel)) ggX2_works_X2_strong
set_option maxRecDepth 20000 in
theorem ggX2_works_X2_gain : GoodIn wsX2_works wsX2_gain := goodIn_r _ [35, 36, 37, 38, 11, 39, 40, 41, 42, 43, 44, 45, 46, 47, 48, 49, 50, 51, 52, 53, 54, 55, 56, 57, 58, 59, 60, 61] (by decide +kernel) (by decide +kernel)
set_option maxRecDepth 20000 in
theorem gX2_works_X2_gain : GoodIn wsX2_works (wsV RX2 77 RX2 yX2_gain wsX2_gain) := goodIn_app (goodIn_of _ (by decide +kernel)) ggX2_works_X2_gain
theorem dX2_works_0 : decode cX2_works 0 = .ok (.aload_n 0, 1) := by decide +kernel
theorem dX2_works_1 : decode cX2_works 1 = .ok (.getfield 54, 3) := by decide +kernel
theorem dX2_works_4 : decode cX2_works 4 = .ok (.iload_n 1, 1) := by decide +kernel
theorem dX2_works_5 : decode cX2_works 5 = .ok (.aload_n 0, 1) := by decide +kernel
theorem dX2_works_6 : decode cX2_works 6 = .ok (.getfield 33, 3) := by decide +kernel
theorem dX2_works_9 : decode cX2_works 9 = .ok (.iload_n 1, 1) := by decide +kernel
theorem dX2_works_10 : decode cX2_works 10 = .ok (.iaload, 1) := by decide +kernel
theorem dX2_works_11 : decode cX2_works 11 = .ok (.aload_n 0, 1) := by decide +kernel
theorem dX2_works_12 : decode cX2_works 12 = .ok (.getfield 23, 3) := by decide +kernel
theorem dX2_works_15 : decode cX2_works 15 = .ok (.if_icmp .ge 7, 3) := by decide +kernel
theorem dX2_works_18 : decode cX2_works 18 = .ok (.iconst 0, 1) := by decide +kernel
theorem dX2_works_19 : decode cX2_works 19 = .ok (.goto 14, 3) := by decide +kernel
theorem dX2_works_22 : decode cX2_works 22 = .ok (.aload_n 0, 1) := by decide +kernel
theorem dX2_works_23 : decode cX2_works 23 = .ok (.getfield 33, 3) := by decide +kernel
theorem dX2_works_26 : decode cX2_works 26 = .ok (.iload_n 1, 1) := by decide +kernel
theorem dX2_works_27 : decode cX2_works 27 = .ok (.iaload, 1) := by decide +kernel
theorem dX2_works_28 : decode cX2_works 28 = .ok (.aload_n 0, 1) := by decide +kernel
theorem dX2_works_29 : decode cX2_works 29 = .ok (.getfield 23, 3) := by decide +kernel
theorem dX2_works_32 : decode cX2_works 32 = .ok (.isub, 1) := by decide +kernel
theorem dX2_works_33 : decode cX2_works 33 = .ok (.iastore, 1) := by decide +kernel
theorem dX2_works_34 : decode cX2_works 34 = .ok (.aload_n 0, 1) := by decide +kernel
theorem dX2_works_35 : decode cX2_works 35 = .ok (.getfield 57, 3) := by decide +kernel
theorem dX2_works_38 : decode cX2_works 38 = .ok (.iload_n 1, 1) := by decide +kernel
theorem dX2_works_39 : decode cX2_works 39 = .ok (.iconst (-1), 1) := by decide +kernel
theorem dX2_works_40 : decode cX2_works 40 = .ok (.iastore, 1) := by decide +kernel
theorem dX2_works_41 : decode cX2_works 41 = .ok (.iconst 0, 1) := by decide +kernel
theorem dX2_works_42 : decode cX2_works 42 = .ok (.istore_n 2, 1) := by decide +kernel
theorem dX2_works_43 : decode cX2_works 43 = .ok (.aload_n 0, 1) := by decide +kernel
theorem dX2_works_44 : decode cX2_works 44 = .ok (.iload_n 1, 1) := by decide +kernel
theorem dX2_works_45 : decode cX2_works 45 = .ok (.invokevirtual 92, 3) := by decide +kernel
theorem dX2_works_48 : decode cX2_works 48 = .ok (.istore_n 3, 1) := by decide +kernel
theorem dX2_works_49 : decode cX2_works 49 = .ok (.iload_n 3, 1) := by decide +kernel
theorem dX2_works_50 : decode cX2_works 50 = .ok (.sipush 1000, 3) := by decide +kernel
theorem dX2_works_53 : decode cX2_works 53 = .ok (.if_icmp .ge 51, 3) := by decide +kernel
theorem dX2_works_56 : decode cX2_works 56 = .ok (.aload_n 0, 1) := by decide +kernel
theorem dX2_works_57 : decode cX2_works 57 = .ok (.getfield 57, 3) := by decide +kernel
theorem dX2_works_60 : decode cX2_works 60 = .ok (.iload_n 1, 1) := by decide +kernel
theorem dX2_works_61 : decode cX2_works 61 = .ok (.iaload, 1) := by decide +kernel
theorem dX2_works_62 : decode cX2_works 62 = .ok (.iconst (-1), 1) := by decide +kernel
theorem dX2_works_63 : decode cX2_works 63 = .ok (.if_icmp .ne 41, 3) := by decide +kernel
theorem dX2_works_66 : decode cX2_works 66 = .ok (.aload_n 0, 1) := by decide +kernel
theorem dX2_works_67 : decode cX2_works 67 = .ok (.getfield 57, 3) := by decide +kernel
theorem dX2_works_70 : decode cX2_works 70 = .ok (.iload_n 1, 1) := by decide +kernel
theorem dX2_works_71 : decode cX2_works 71 = .ok (.iload_n 2, 1) := by decide +kernel
theorem dX2_works_72 : decode cX2_works 72 = .ok (.invokestatic 95, 3) := by decide +kernel
theorem dX2_works_75 : decode cX2_works 75 = .ok (.aload_n 0, 1) := by decide +kernel
theorem dX2_works_76 : decode cX2_works 76 = .ok (.getfield 42, 3) := by decide +kernel
theorem dX2_works_79 : decode cX2_works 79 = .ok (.iload_n 1, 1) := by decide +kernel
theorem dX2_works_80 : decode cX2_works 80 = .ok (.iaload, 1) := by decide +kernel
theorem dX2_works_81 : decode cX2_works 81 = .ok (.if_icmp .lt 7, 3) := by decide +kernel
theorem dX2_works_84 : decode cX2_works 84 = .ok (.iload_n 3, 1) := by decide +kernel
theorem dX2_works_85 : decode cX2_works 85 = .ok (.goto 4, 3) := by decide +kernel
theorem dX2_works_88 : decode cX2_works 88 = .ok (.iconst (-1), 1) := by decide +kernel
theorem dX2_works_89 : decode cX2_works 89 = .ok (.iastore, 1) := by decide +kernel
theorem dX2_works_90 : decode cX2_works 90 = .ok (.iload_n 2, 1) := by decide +kernel
theorem dX2_works_91 : decode cX2_works 91 = .ok (.aload_n 0, 1) := by decide +kernel
theorem dX2_works_92 : decode cX2_works 92 = .ok (.iload_n 3, 1) := by decide +kernel
theorem dX2_works_93 : decode cX2_works 93 = .ok (.invokevirtual 77, 3) := by decide +kernel
theorem dX2_works_96 : decode cX2_works 96 = .ok (.iadd, 1) := by decide +kernel
theorem dX2_works_97 : decode cX2_works 97 = .ok (.istore_n 2, 1) := by decide +kernel
theorem dX2_works_98 : decode cX2_works 98 = .ok (.iinc 3 1, 3) := by decide +kernel
theorem dX2_works_101 : decode cX2_works 101 = .ok (.goto (-52), 3) := by decide +kernel
theorem dX2_works_104 : decode cX2_works 104 = .ok (.aload_n 0, 1) := by decide +kernel
theorem dX2_works_105 : decode cX2_works 105 = .ok (.getfield 60, 3) := by decide +kernel
theorem dX2_works_108 : decode cX2_works 108 = .ok (.iload_n 1, 1) := by decide +kernel
theorem dX2_works_109 : decode cX2_works 109 = .ok (.aload_n 0, 1) := by decide +kernel
theorem dX2_works_110 : decode cX2_works 110 = .ok (.getfield 57, 3) := by decide +kernel
theorem dX2_works_113 : decode cX2_works 113 = .ok (.iload_n 1, 1) := by decide +kernel
theorem dX2_works_114 : decode cX2_works 114 = .ok (.iaload, 1) := by decide +kernel
theorem dX2_works_115 : decode cX2_works 115 = .ok (.iconst (-1), 1) := by decide +kernel
theorem dX2_works_116 : decode cX2_works 116 = .ok (.if_icmp .ne 9, 3) := by decide +kernel
theorem dX2_works_119 : decode cX2_works 119 = .ok (.sipush 1000, 3) := by decide +kernel
theorem dX2_works_122 : decode cX2_works 122 = .ok (.goto 14, 3) := by decide +kernel
theorem dX2_works_125 : decode cX2_works 125 = .ok (.aload_n 0, 1) := by decide +kernel
theorem dX2_works_126 : decode cX2_works 126 = .ok (.getfield 57, 3) := by decide +kernel
theorem dX2_works_129 : decode cX2_works 129 = .ok (.iload_n 1, 1) := by decide +kernel
theorem dX2_works_130 : decode cX2_works 130 = .ok (.iaload, 1) := by decide +kernel
theorem dX2_works_131 : decode cX2_works 131 = .ok (.aload_n 0, 1) := by decide +kernel
theorem dX2_works_132 : decode cX2_works 132 = .ok (.getfield 26, 3) := by decide +kernel
theorem dX2_works_135 : decode cX2_works 135 = .ok (.iadd, 1) := by decide +kernel
theorem dX2_works_136 : decode cX2_works 136 = .ok (.iastore, 1) := by decide +kernel
theorem dX2_works_137 : decode cX2_works 137 = .ok (.return_, 1) := by decide +kernel
theorem dX2_isBusy_0 : decode cX2_isBusy 0 = .ok (.aload_n 0, 1) := by decide +kernel
theorem dX2_isBusy_1 : decode cX2_isBusy 1 = .ok (.getfield 29, 3) := by decide +kernel
theorem dX2_isBusy_4 : decode cX2_isBusy 4 = .ok (.iload_n 1, 1) := by decide +kernel
theorem dX2_isBusy_5 : decode cX2_isBusy 5 = .ok (.baload, 1) := by decide +kernel
theorem dX2_isBusy_6 : decode cX2_isBusy 6 = .ok (.ifCond .eq 27, 3) := by decide +kernel
theorem dX2_isBusy_9 : decode cX2_isBusy 9 = .ok (.iload_n 2, 1) := by decide +kernel
theorem dX2_isBusy_10 : decode cX2_isBusy 10 = .ok (.aload_n 0, 1) := by decide +kernel
theorem dX2_isBusy_11 : decode cX2_isBusy 11 = .ok (.getfield 54, 3) := by decide +kernel
theorem dX2_isBusy_14 : decode cX2_isBusy 14 = .ok (.iload_n 1, 1) := by decide +kernel
theorem dX2_isBusy_15 : decode cX2_isBusy 15 = .ok (.iaload, 1) := by decide +kernel
theorem dX2_isBusy_16 : decode cX2_isBusy 16 = .ok (.if_icmp .lt 17, 3) := by decide +kernel
theorem dX2_isBusy_19 : decode cX2_isBusy 19 = .ok (.iload_n 2, 1) := by decide +kernel
theorem dX2_isBusy_20 : decode cX2_isBusy 20 = .ok (.aload_n 0, 1) := by decide +kernel
theorem dX2_isBusy_21 : decode cX2_isBusy 21 = .ok (.getfield 60, 3) := by decide +kernel
theorem dX2_isBusy_24 : decode cX2_isBusy 24 = .ok (.iload_n 1, 1) := by decide +kernel
theorem dX2_isBusy_25 : decode cX2_isBusy 25 = .ok (.iaload, 1) := by decide +kernel
theorem dX2_isBusy_26 : decode cX2_isBusy 26 = .ok (.if_icmp .ge 7, 3) := by decide +kernel
theorem dX2_isBusy_29 : decode cX2_isBusy 29 = .ok (.iconst 1, 1) := by decide +kernel
theorem dX2_isBusy_30 : decode cX2_isBusy 30 = .ok (.goto 4, 3) := by decide +kernel
theorem dX2_isBusy_33 : decode cX2_isBusy 33 = .ok (.iconst 0, 1) := by decide +kernel
theorem dX2_isBusy_34 : decode cX2_isBusy 34 = .ok (.ireturn, 1) := by decide +kernel
set_option maxRecDepth 20000 in
theorem ggX2_worksAll_X2_works : GoodIn wsX2_worksAll wsX2_works := goodIn_r _ [6, 7, 8, 9, 10, 11, 12, 13, 14, 15, 16, 5, 17, 18, 19, 20, 21, 22, 23, 24, 25, 26, 27, 28, 29, 30, 31, 32, 33, 34, 35, 36, 37, 38, 39, 40, 41, 42, 43, 44, 45, 46, 47, 48, 49, 50, 51, 52, 53, 54, 55, 56, 57, 58, 59, 60, 61, 62, 63, 64, 65, 66] (by decide +kernel) (by decide +kernel)
set_option maxRecDepth 20000 in
theorem gX2_worksAll_X2_works : GoodIn wsX2_worksAll (wsV RX2 98 RX2 yX2_works wsX2_works) := goodIn_app (goodIn_of _ (by decide +kernel)) ggX2_worksAll_X2_works
theorem dX2_worksAll_0 : decode cX2_worksAll 0 = .ok (.iconst 0, 1) := by decide +kernel
theorem dX2_worksAll_1 : decode cX2_worksAll 1 = .ok (.istore_n 1, 1) := by decide +kernel
theorem dX2_worksAll_2 : decode cX2_worksAll 2 = .ok (.iload_n 1, 1) := by decide +kernel
theorem dX2_worksAll_3 : decode cX2_worksAll 3 = .ok (.bipush 10, 2) := by decide +kernel
theorem dX2_worksAll_5 : decode cX2_worksAll 5 = .ok (.if_icmp .ge 23, 3) := by decide +kernel
theorem dX2_worksAll_8 : decode cX2_worksAll 8 = .ok (.aload_n 0, 1) := by decide +kernel
theorem dX2_worksAll_9 : decode cX2_worksAll 9 = .ok (.getfield 29, 3) := by decide +kernel
theorem dX2_worksAll_12 : decode cX2_worksAll 12 = .ok (.iload_n 1, 1) := by decide +kernel
theorem dX2_worksAll_13 : decode cX2_worksAll 13 = .ok (.baload, 1) := by decide +kernel
theorem dX2_worksAll_14 : decode cX2_worksAll 14 = .ok (.ifCond .eq 8, 3) := by decide +kernel
theorem dX2_worksAll_17 : decode cX2_worksAll 17 = .ok (.aload_n 0, 1) := by decide +kernel
theorem dX2_worksAll_18 : decode cX2_worksAll 18 = .ok (.iload_n 1, 1) := by decide +kernel
theorem dX2_worksAll_19 : decode cX2_worksAll 19 = .ok (.invokevirtual 98, 3) := by decide +kernel
theorem dX2_worksAll_22 : decode cX2_worksAll 22 = .ok (.iinc 1 1, 3) := by decide +kernel
theorem dX2_worksAll_25 : decode cX2_worksAll 25 = .ok (.goto (-23), 3) := by decide +kernel
theorem dX2_worksAll_28 : decode cX2_worksAll 28 = .ok (.return_, 1) := by decide +kernel
set_option maxRecDepth 20000 in
theorem ggX2_needOf_X2_isBusy : GoodIn wsX2_needOf wsX2_isBusy := goodIn_r _ [6, 7, 8, 9, 10, 11, 12, 13, 14, 15, 16, 17, 18, 19, 20, 21, 22, 23, 24, 25, 26, 27, 28] (by decide +kernel) (by decide +kernel)
set_option maxRecDepth 20000 in
theorem gX2_needOf_X2_isBusy : GoodIn wsX2_needOf (wsV RX2 102 RX2 yX2_isBusy wsX2_isBusy) := goodIn_app (goodIn_of _ (by decide +kernel)) ggX2_needOf_X2_isBusy
theorem dX2_needOf_0 : decode cX2_needOf 0 = .ok (.iconst 0, 1) := by decide +kernel
theorem dX2_needOf_1 : decode cX2_needOf 1 = .ok (.istore_n 2, 1) := by decide +kernel
theorem dX2_needOf_2 : decode cX2_needOf 2 = .ok (.iconst 0, 1) := by decide +kernel
theorem dX2_needOf_3 : decode cX2_needOf 3 = .ok (.istore_n 3, 1) := by decide +kernel
theorem dX2_needOf_4 : decode cX2_needOf 4 = .ok (.iload_n 3, 1) := by decide +kernel
theorem dX2_needOf_5 : decode cX2_needOf 5 = .ok (.bipush 10, 2) := by decide +kernel
theorem dX2_needOf_7 : decode cX2_needOf 7 = .ok (.if_icmp .ge 31, 3) := by decide +kernel
theorem dX2_needOf_10 : decode cX2_needOf 10 = .ok (.iload_n 2, 1) := by decide +kernel
theorem dX2_needOf_11 : decode cX2_needOf 11 = .ok (.aload_n 0, 1) := by decide +kernel
theorem dX2_needOf_12 : decode cX2_needOf 12 = .ok (.iload_n 3, 1) := by decide +kernel
theorem dX2_needOf_13 : decode cX2_needOf 13 = .ok (.iload_n 1, 1) := by decide +kernel
theorem dX2_needOf_14 : decode cX2_needOf 14 = .ok (.invokevirtual 102, 3) := by decide +kernel
theorem dX2_needOf_17 : decode cX2_needOf 17 = .ok (.ifCond .eq 12, 3) := by decide +kernel
theorem dX2_needOf_20 : decode cX2_needOf 20 = .ok (.aload_n 0, 1) := by decide +kernel
theorem dX2_needOf_21 : decode cX2_needOf 21 = .ok (.getfield 39, 3) := by decide +kernel
theorem dX2_needOf_24 : decode cX2_needOf 24 = .ok (.iload_n 3, 1) := by decide +kernel
theorem dX2_needOf_25 : decode cX2_needOf 25 = .ok (.iaload, 1) := by decide +kernel
theorem dX2_needOf_26 : decode cX2_needOf 26 = .ok (.goto 4, 3) := by decide +kernel
theorem dX2_needOf_29 : decode cX2_needOf 29 = .ok (.iconst 0, 1) := by decide +kernel
theorem dX2_needOf_30 : decode cX2_needOf 30 = .ok (.iadd, 1) := by decide +kernel
theorem dX2_needOf_31 : decode cX2_needOf 31 = .ok (.istore_n 2, 1) := by decide +kernel
theorem dX2_needOf_32 : decode cX2_needOf 32 = .ok (.iinc 3 1, 3) := by decide +kernel
theorem dX2_needOf_35 : decode cX2_needOf 35 = .ok (.goto (-31), 3) := by decide +kernel
theorem dX2_needOf_38 : decode cX2_needOf 38 = .ok (.iload_n 2, 1) := by decide +kernel
theorem dX2_needOf_39 : decode cX2_needOf 39 = .ok (.ireturn, 1) := by decide +kernel
set_option maxRecDepth 20000 in
theorem ggX2_setTemperature_X2_isHour : GoodIn wsX2_setTemperature wsX2_isHour := goodIn_r _ [6, 7, 8, 5, 9] (by decide +kernel) (by decide +kernel)
set_option maxRecDepth 20000 in
theorem gX2_setTemperature_X2_isHour : GoodIn wsX2_setTemperature (va_wsS RX2 73 yX2_isHour wsX2_isHour) := goodIn_app (goodIn_of _ (by decide +kernel)) ggX2_setTemperature_X2_isHour
set_option maxRecDepth 20000 in
theorem ggX2_setTemperature_X2_in : GoodIn wsX2_setTemperature wsX2_in := goodIn_r _ [9] (by decide +kernel) (by decide +kernel)
set_option maxRecDepth 20000 in
theorem gX2_setTemperature_X2_in : GoodIn wsX2_setTemperature (va_wsS RX2 69 yX2_in wsX2_in) := goodIn_app (goodIn_of _ (by decide +kernel)) ggX2_setTemperature_X2_in
theorem dX2_setTemperature_0 : decode cX2_setTemperature 0 = .ok (.aload_n 0, 1) := by decide +kernel
theorem dX2_setTemperature_1 : decode cX2_setTemperature 1 = .ok (.iload_n 1, 1) := by decide +kernel
theorem dX2_setTemperature_2 : decode cX2_setTemperature 2 = .ok (.invokestatic 73, 3) := by decide +kernel
theorem dX2_setTemperature_5 : decode cX2_setTemperature 5 = .ok (.ifCond .eq 10, 3) := by decide +kernel
theorem dX2_setTemperature_8 : decode cX2_setTemperature 8 = .ok (.iload_n 2, 1) := by decide +kernel
theorem dX2_setTemperature_9 : decode cX2_setTemperature 9 = .ok (.invokestatic 73, 3) := by decide +kernel
theorem dX2_setTemperature_12 : decode cX2_setTemperature 12 = .ok (.ifCond .ne 7, 3) := by decide +kernel
theorem dX2_setTemperature_15 : decode cX2_setTemperature 15 = .ok (.iconst 1, 1) := by decide +kernel
theorem dX2_setTemperature_16 : decode cX2_setTemperature 16 = .ok (.goto 24, 3) := by decide +kernel
theorem dX2_setTemperature_19 : decode cX2_setTemperature 19 = .ok (.iload_n 2, 1) := by decide +kernel
theorem dX2_setTemperature_20 : decode cX2_setTemperature 20 = .ok (.iload_n 1, 1) := by decide +kernel
theorem dX2_setTemperature_21 : decode cX2_setTemperature 21 = .ok (.if_icmp .lt 18, 3) := by decide +kernel
theorem dX2_setTemperature_24 : decode cX2_setTemperature 24 = .ok (.iload_n 3, 1) := by decide +kernel
theorem dX2_setTemperature_25 : decode cX2_setTemperature 25 = .ok (.bipush (-40), 2) := by decide +kernel
theorem dX2_setTemperature_27 : decode cX2_setTemperature 27 = .ok (.bipush 50, 2) := by decide +kernel
theorem dX2_setTemperature_29 : decode cX2_setTemperature 29 = .ok (.invokestatic 69, 3) := by decide +kernel
theorem dX2_setTemperature_32 : decode cX2_setTemperature 32 = .ok (.ifCond .eq 7, 3) := by decide +kernel
theorem dX2_setTemperature_35 : decode cX2_setTemperature 35 = .ok (.iconst 0, 1) := by decide +kernel
theorem dX2_setTemperature_36 : decode cX2_setTemperature 36 = .ok (.goto 4, 3) := by decide +kernel
theorem dX2_setTemperature_39 : decode cX2_setTemperature 39 = .ok (.iconst 2, 1) := by decide +kernel
theorem dX2_setTemperature_40 : decode cX2_setTemperature 40 = .ok (.putfield 66, 3) := by decide +kernel
theorem dX2_setTemperature_43 : decode cX2_setTemperature 43 = .ok (.iload_n 1, 1) := by decide +kernel
theorem dX2_setTemperature_44 : decode cX2_setTemperature 44 = .ok (.istore 4, 2) := by decide +kernel
theorem dX2_setTemperature_46 : decode cX2_setTemperature 46 = .ok (.aload_n 0, 1) := by decide +kernel
theorem dX2_setTemperature_47 : decode cX2_setTemperature 47 = .ok (.getfield 66, 3) := by decide +kernel
theorem dX2_setTemperature_50 : decode cX2_setTemperature 50 = .ok (.ifCond .ne 23, 3) := by decide +kernel
theorem dX2_setTemperature_53 : decode cX2_setTemperature 53 = .ok (.iload 4, 2) := by decide +kernel
theorem dX2_setTemperature_55 : decode cX2_setTemperature 55 = .ok (.iload_n 2, 1) := by decide +kernel
theorem dX2_setTemperature_56 : decode cX2_setTemperature 56 = .ok (.if_icmp .gt 17, 3) := by decide +kernel
theorem dX2_setTemperature_59 : decode cX2_setTemperature 59 = .ok (.aload_n 0, 1) := by decide +kernel
theorem dX2_setTemperature_60 : decode cX2_setTemperature 60 = .ok (.getfield 7, 3) := by decide +kernel
theorem dX2_setTemperature_63 : decode cX2_setTemperature 63 = .ok (.iload 4, 2) := by decide +kernel
theorem dX2_setTemperature_65 : decode cX2_setTemperature 65 = .ok (.iload_n 3, 1) := by decide +kernel
theorem dX2_setTemperature_66 : decode cX2_setTemperature 66 = .ok (.iastore, 1) := by decide +kernel
theorem dX2_setTemperature_67 : decode cX2_setTemperature 67 = .ok (.iinc 4 1, 3) := by decide +kernel
theorem dX2_setTemperature_70 : decode cX2_setTemperature 70 = .ok (.goto (-24), 3) := by decide +kernel
theorem dX2_setTemperature_73 : decode cX2_setTemperature 73 = .ok (.return_, 1) := by decide +kernel
set_option maxRecDepth 20000 in
theorem ggX2_temperature_X2_isHour : GoodIn wsX2_temperature wsX2_isHour := goodIn_r _ [6, 7, 8, 5, 9] (by decide +kernel) (by decide +kernel)
set_option maxRecDepth 20000 in
theorem gX2_temperature_X2_isHour : GoodIn wsX2_temperature (va_wsS RX2 73 yX2_isHour wsX2_isHour) := goodIn_app (goodIn_of _ (by decide +kernel)) ggX2_temperature_X2_isHour
set_option maxRecDepth 20000 in
theorem ggX2_temperature_X2_fails : GoodIn wsX2_temperature wsX2_fails := goodIn_r _ [13, 1, 14, 15, 16, 17, 18, 19, 20, 21, 22, 23, 24, 25, 26, 27, 28, 29, 30, 31, 32] (by decide +kernel) (by decide +kernel)
set_option maxRecDepth 20000 in
theorem gX2_temperature_X2_fails : GoodIn wsX2_temperature (wsV RX2 106 RX2 yX2_fails wsX2_fails) := goodIn_app (goodIn_of _ (by decide +kernel)) ggX2_temperature_X2_fails
theorem dX2_temperature_0 : decode cX2_temperature 0 = .ok (.aload_n 0, 1) := by decide +kernel
theorem dX2_temperature_1 : decode cX2_temperature 1 = .ok (.iconst 0, 1) := by decide +kernel
theorem dX2_temperature_2 : decode cX2_temperature 2 = .ok (.putfield 66, 3) := by decide +kernel
theorem dX2_temperature_5 : decode cX2_temperature 5 = .ok (.iload_n 1, 1) := by decide +kernel
theorem dX2_temperature_6 : decode cX2_temperature 6 = .ok (.invokestatic 73, 3) := by decide +kernel
theorem dX2_temperature_9 : decode cX2_temperature 9 = .ok (.ifCond .eq 12, 3) := by decide +kernel
theorem dX2_temperature_12 : decode cX2_temperature 12 = .ok (.aload_n 0, 1) := by decide +kernel
theorem dX2_temperature_13 : decode cX2_temperature 13 = .ok (.getfield 7, 3) := by decide +kernel
theorem dX2_temperature_16 : decode cX2_temperature 16 = .ok (.iload_n 1, 1) := by decide +kernel
theorem dX2_temperature_17 : decode cX2_temperature 17 = .ok (.iaload, 1) := by decide +kernel
theorem dX2_temperature_18 : decode cX2_temperature 18 = .ok (.goto 8, 3) := by decide +kernel
theorem dX2_temperature_21 : decode cX2_temperature 21 = .ok (.aload_n 0, 1) := by decide +kernel
theorem dX2_temperature_22 : decode cX2_temperature 22 = .ok (.iconst 1, 1) := by decide +kernel
theorem dX2_temperature_23 : decode cX2_temperature 23 = .ok (.invokevirtual 106, 3) := by decide +kernel
theorem dX2_temperature_26 : decode cX2_temperature 26 = .ok (.ireturn, 1) := by decide +kernel
set_option maxRecDepth 20000 in
theorem ggX2_maturity_X2_isHour : GoodIn wsX2_maturity wsX2_isHour := goodIn_r _ [5, 6, 7, 4, 8] (by decide +kernel) (by decide +kernel)
set_option maxRecDepth 20000 in
theorem gX2_maturity_X2_isHour : GoodIn wsX2_maturity (va_wsS RX2 73 yX2_isHour wsX2_isHour) := goodIn_app (goodIn_of _ (by decide +kernel)) ggX2_maturity_X2_isHour
set_option maxRecDepth 20000 in
theorem ggX2_maturity_X2_sum : GoodIn wsX2_maturity wsX2_sum := goodIn_r _ [12, 13, 14, 15, 4, 16, 17, 2, 3, 5, 6, 7, 8, 18, 19, 20, 21, 22, 23, 24, 25, 26, 27, 28, 29, 30, 31, 32, 33, 34, 35, 36] (by decide +kernel) (by decide +kernel)
set_option maxRecDepth 20000 in
theorem gX2_maturity_X2_sum : GoodIn wsX2_maturity (wsV RX2 109 RX2 yX2_sum wsX2_sum) := goodIn_app (goodIn_of _ (by decide +kernel)) ggX2_maturity_X2_sum
theorem dX2_maturity_0 : decode cX2_maturity 0 = .ok (.aload_n 0, 1) := by decide +kernel
theorem dX2_maturity_1 : decode cX2_maturity 1 = .ok (.iload_n 1, 1) := by decide +kernel
theorem dX2_maturity_2 : decode cX2_maturity 2 = .ok (.invokestatic 73, 3) := by decide +kernel
theorem dX2_maturity_5 : decode cX2_maturity 5 = .ok (.ifCond .eq 14, 3) := by decide +kernel
theorem dX2_maturity_8 : decode cX2_maturity 8 = .ok (.iload_n 2, 1) := by decide +kernel
theorem dX2_maturity_9 : decode cX2_maturity 9 = .ok (.invokestatic 73, 3) := by decide +kernel
theorem dX2_maturity_12 : decode cX2_maturity 12 = .ok (.ifCond .eq 7, 3) := by decide +kernel
theorem dX2_maturity_15 : decode cX2_maturity 15 = .ok (.iconst 0, 1) := by decide +kernel
theorem dX2_maturity_16 : decode cX2_maturity 16 = .ok (.goto 4, 3) := by decide +kernel
theorem dX2_maturity_19 : decode cX2_maturity 19 = .ok (.iconst 1, 1) := by decide +kernel
theorem dX2_maturity_20 : decode cX2_maturity 20 = .ok (.putfield 66, 3) := by decide +kernel
theorem dX2_maturity_23 : decode cX2_maturity 23 = .ok (.aload_n 0, 1) := by decide +kernel
theorem dX2_maturity_24 : decode cX2_maturity 24 = .ok (.getfield 66, 3) := by decide +kernel
theorem dX2_maturity_27 : decode cX2_maturity 27 = .ok (.ifCond .le 7, 3) := by decide +kernel
theorem dX2_maturity_30 : decode cX2_maturity 30 = .ok (.iconst 0, 1) := by decide +kernel
theorem dX2_maturity_31 : decode cX2_maturity 31 = .ok (.goto 9, 3) := by decide +kernel
theorem dX2_maturity_34 : decode cX2_maturity 34 = .ok (.aload_n 0, 1) := by decide +kernel
theorem dX2_maturity_35 : decode cX2_maturity 35 = .ok (.iload_n 1, 1) := by decide +kernel
theorem dX2_maturity_36 : decode cX2_maturity 36 = .ok (.iload_n 2, 1) := by decide +kernel
theorem dX2_maturity_37 : decode cX2_maturity 37 = .ok (.invokevirtual 109, 3) := by decide +kernel
theorem dX2_maturity_40 : decode cX2_maturity 40 = .ok (.ireturn, 1) := by decide +kernel
set_option maxRecDepth 20000 in
theorem ggX2_strength_X2_in : GoodIn wsX2_strength wsX2_in := goodIn_r _ [6] (by decide +kernel) (by decide +kernel)
set_option maxRecDepth 20000 in
theorem gX2_strength_X2_in : GoodIn wsX2_strength (va_wsS RX2 69 yX2_in wsX2_in) := goodIn_app (goodIn_of _ (by decide +kernel)) ggX2_strength_X2_in
set_option maxRecDepth 20000 in
theorem ggX2_strength_X2_strong : GoodIn wsX2_strength wsX2_strong := goodIn_r _ [9, 10, 11, 5, 12] (by decide +kernel) (by decide +kernel)
set_option maxRecDepth 20000 in
theorem gX2_strength_X2_strong : GoodIn wsX2_strength (va_wsS RX2 95 yX2_strong wsX2_strong) := goodIn_app (goodIn_of _ (by decide +kernel)) ggX2_strength_X2_strong
set_option maxRecDepth 20000 in
theorem ggX2_strength_X2_fails : GoodIn wsX2_strength wsX2_fails := goodIn_r _ [16, 1, 17, 18, 19, 20, 21, 22, 23, 24, 25, 26, 27, 28, 29, 30, 31, 32, 33, 34, 35] (by decide +kernel) (by decide +kernel)
set_option maxRecDepth 20000 in
theorem gX2_strength_X2_fails : GoodIn wsX2_strength (wsV RX2 106 RX2 yX2_fails wsX2_fails) := goodIn_app (goodIn_of _ (by decide +kernel)) ggX2_strength_X2_fails
theorem dX2_strength_0 : decode cX2_strength 0 = .ok (.aload_n 0, 1) := by decide +kernel
theorem dX2_strength_1 : decode cX2_strength 1 = .ok (.iconst 0, 1) := by decide +kernel
theorem dX2_strength_2 : decode cX2_strength 2 = .ok (.putfield 66, 3) := by decide +kernel
theorem dX2_strength_5 : decode cX2_strength 5 = .ok (.iload_n 1, 1) := by decide +kernel
theorem dX2_strength_6 : decode cX2_strength 6 = .ok (.iconst 0, 1) := by decide +kernel
theorem dX2_strength_7 : decode cX2_strength 7 = .ok (.ldc 113, 2) := by decide +kernel
theorem dX2_strength_9 : decode cX2_strength 9 = .ok (.invokestatic 69, 3) := by decide +kernel
theorem dX2_strength_12 : decode cX2_strength 12 = .ok (.ifCond .eq 10, 3) := by decide +kernel
theorem dX2_strength_15 : decode cX2_strength 15 = .ok (.iload_n 1, 1) := by decide +kernel
theorem dX2_strength_16 : decode cX2_strength 16 = .ok (.invokestatic 95, 3) := by decide +kernel
theorem dX2_strength_19 : decode cX2_strength 19 = .ok (.goto 8, 3) := by decide +kernel
theorem dX2_strength_22 : decode cX2_strength 22 = .ok (.aload_n 0, 1) := by decide +kernel
theorem dX2_strength_23 : decode cX2_strength 23 = .ok (.iconst 1, 1) := by decide +kernel
theorem dX2_strength_24 : decode cX2_strength 24 = .ok (.invokevirtual 106, 3) := by decide +kernel
theorem dX2_strength_27 : decode cX2_strength 27 = .ok (.ireturn, 1) := by decide +kernel
set_option maxRecDepth 20000 in
theorem ggX2_setPanels_X2_in : GoodIn wsX2_setPanels wsX2_in := goodIn_r _ [6] (by decide +kernel) (by decide +kernel)
set_option maxRecDepth 20000 in
theorem gX2_setPanels_X2_in : GoodIn wsX2_setPanels (va_wsS RX2 69 yX2_in wsX2_in) := goodIn_app (goodIn_of _ (by decide +kernel)) ggX2_setPanels_X2_in
theorem dX2_setPanels_0 : decode cX2_setPanels 0 = .ok (.aload_n 0, 1) := by decide +kernel
theorem dX2_setPanels_1 : decode cX2_setPanels 1 = .ok (.iload_n 1, 1) := by decide +kernel
theorem dX2_setPanels_2 : decode cX2_setPanels 2 = .ok (.iconst 0, 1) := by decide +kernel
theorem dX2_setPanels_3 : decode cX2_setPanels 3 = .ok (.bipush 60, 2) := by decide +kernel
theorem dX2_setPanels_5 : decode cX2_setPanels 5 = .ok (.invokestatic 69, 3) := by decide +kernel
theorem dX2_setPanels_8 : decode cX2_setPanels 8 = .ok (.ifCond .eq 7, 3) := by decide +kernel
theorem dX2_setPanels_11 : decode cX2_setPanels 11 = .ok (.iconst 0, 1) := by decide +kernel
theorem dX2_setPanels_12 : decode cX2_setPanels 12 = .ok (.goto 4, 3) := by decide +kernel
theorem dX2_setPanels_15 : decode cX2_setPanels 15 = .ok (.iconst 1, 1) := by decide +kernel
theorem dX2_setPanels_16 : decode cX2_setPanels 16 = .ok (.putfield 66, 3) := by decide +kernel
theorem dX2_setPanels_19 : decode cX2_setPanels 19 = .ok (.aload_n 0, 1) := by decide +kernel
theorem dX2_setPanels_20 : decode cX2_setPanels 20 = .ok (.getfield 66, 3) := by decide +kernel
theorem dX2_setPanels_23 : decode cX2_setPanels 23 = .ok (.ifCond .le 5, 3) := by decide +kernel
theorem dX2_setPanels_26 : decode cX2_setPanels 26 = .ok (.iconst 0, 1) := by decide +kernel
theorem dX2_setPanels_27 : decode cX2_setPanels 27 = .ok (.ireturn, 1) := by decide +kernel
theorem dX2_setPanels_28 : decode cX2_setPanels 28 = .ok (.aload_n 0, 1) := by decide +kernel
theorem dX2_setPanels_29 : decode cX2_setPanels 29 = .ok (.getfield 13, 3) := by decide +kernel
theorem dX2_setPanels_32 : decode cX2_setPanels 32 = .ok (.istore_n 2, 1) := by decide +kernel
theorem dX2_setPanels_33 : decode cX2_setPanels 33 = .ok (.aload_n 0, 1) := by decide +kernel
theorem dX2_setPanels_34 : decode cX2_setPanels 34 = .ok (.iload_n 1, 1) := by decide +kernel
theorem dX2_setPanels_35 : decode cX2_setPanels 35 = .ok (.putfield 13, 3) := by decide +kernel
theorem dX2_setPanels_38 : decode cX2_setPanels 38 = .ok (.iload_n 2, 1) := by decide +kernel
theorem dX2_setPanels_39 : decode cX2_setPanels 39 = .ok (.ireturn, 1) := by decide +kernel
set_option maxRecDepth 20000 in
theorem ggX2_setRates_X2_in : GoodIn wsX2_setRates wsX2_in := goodIn_r _ [7] (by decide +kernel) (by decide +kernel)
set_option maxRecDepth 20000 in
theorem gX2_setRates_X2_in : GoodIn wsX2_setRates (va_wsS RX2 69 yX2_in wsX2_in) := goodIn_app (goodIn_of _ (by decide +kernel)) ggX2_setRates_X2_in
set_option maxRecDepth 20000 in
theorem ggX2_setRates_X2_rate : GoodIn wsX2_setRates wsX2_rate := goodIn_r _ [11, 2, 3, 12, 13, 14, 15, 16, 17, 18, 19, 20, 21, 22, 23, 24, 25, 26, 27, 28, 29, 30] (by decide +kernel) (by decide +kernel)
set_option maxRecDepth 20000 in
theorem gX2_setRates_X2_rate : GoodIn wsX2_setRates (wsV RX2 85 RX2 yX2_rate wsX2_rate) := goodIn_app (goodIn_of _ (by decide +kernel)) ggX2_setRates_X2_rate
theorem dX2_setRates_0 : decode cX2_setRates 0 = .ok (.aload_n 0, 1) := by decide +kernel
theorem dX2_setRates_1 : decode cX2_setRates 1 = .ok (.iload_n 1, 1) := by decide +kernel
theorem dX2_setRates_2 : decode cX2_setRates 2 = .ok (.iconst 1, 1) := by decide +kernel
theorem dX2_setRates_3 : decode cX2_setRates 3 = .ok (.bipush 50, 2) := by decide +kernel
theorem dX2_setRates_5 : decode cX2_setRates 5 = .ok (.invokestatic 69, 3) := by decide +kernel
theorem dX2_setRates_8 : decode cX2_setRates 8 = .ok (.ifCond .eq 17, 3) := by decide +kernel
theorem dX2_setRates_11 : decode cX2_setRates 11 = .ok (.iload_n 2, 1) := by decide +kernel
theorem dX2_setRates_12 : decode cX2_setRates 12 = .ok (.iconst 1, 1) := by decide +kernel
theorem dX2_setRates_13 : decode cX2_setRates 13 = .ok (.bipush 50, 2) := by decide +kernel
theorem dX2_setRates_15 : decode cX2_setRates 15 = .ok (.invokestatic 69, 3) := by decide +kernel
theorem dX2_setRates_18 : decode cX2_setRates 18 = .ok (.ifCond .eq 7, 3) := by decide +kernel
theorem dX2_setRates_21 : decode cX2_setRates 21 = .ok (.iconst 0, 1) := by decide +kernel
theorem dX2_setRates_22 : decode cX2_setRates 22 = .ok (.goto 4, 3) := by decide +kernel
theorem dX2_setRates_25 : decode cX2_setRates 25 = .ok (.iconst 1, 1) := by decide +kernel
theorem dX2_setRates_26 : decode cX2_setRates 26 = .ok (.putfield 66, 3) := by decide +kernel
theorem dX2_setRates_29 : decode cX2_setRates 29 = .ok (.aload_n 0, 1) := by decide +kernel
theorem dX2_setRates_30 : decode cX2_setRates 30 = .ok (.getfield 66, 3) := by decide +kernel
theorem dX2_setRates_33 : decode cX2_setRates 33 = .ok (.ifCond .le 5, 3) := by decide +kernel
theorem dX2_setRates_36 : decode cX2_setRates 36 = .ok (.iconst 0, 1) := by decide +kernel
theorem dX2_setRates_37 : decode cX2_setRates 37 = .ok (.ireturn, 1) := by decide +kernel
theorem dX2_setRates_38 : decode cX2_setRates 38 = .ok (.aload_n 0, 1) := by decide +kernel
theorem dX2_setRates_39 : decode cX2_setRates 39 = .ok (.iload_n 1, 1) := by decide +kernel
theorem dX2_setRates_40 : decode cX2_setRates 40 = .ok (.putfield 17, 3) := by decide +kernel
theorem dX2_setRates_43 : decode cX2_setRates 43 = .ok (.aload_n 0, 1) := by decide +kernel
theorem dX2_setRates_44 : decode cX2_setRates 44 = .ok (.iload_n 2, 1) := by decide +kernel
theorem dX2_setRates_45 : decode cX2_setRates 45 = .ok (.putfield 20, 3) := by decide +kernel
theorem dX2_setRates_48 : decode cX2_setRates 48 = .ok (.aload_n 0, 1) := by decide +kernel
theorem dX2_setRates_49 : decode cX2_setRates 49 = .ok (.invokevirtual 85, 3) := by decide +kernel
theorem dX2_setRates_52 : decode cX2_setRates 52 = .ok (.ireturn, 1) := by decide +kernel
set_option maxRecDepth 20000 in
theorem ggX2_setCrew_X2_in : GoodIn wsX2_setCrew wsX2_in := goodIn_r _ [7] (by decide +kernel) (by decide +kernel)
set_option maxRecDepth 20000 in
theorem gX2_setCrew_X2_in : GoodIn wsX2_setCrew (va_wsS RX2 69 yX2_in wsX2_in) := goodIn_app (goodIn_of _ (by decide +kernel)) ggX2_setCrew_X2_in
theorem dX2_setCrew_0 : decode cX2_setCrew 0 = .ok (.aload_n 0, 1) := by decide +kernel
theorem dX2_setCrew_1 : decode cX2_setCrew 1 = .ok (.iload_n 1, 1) := by decide +kernel
theorem dX2_setCrew_2 : decode cX2_setCrew 2 = .ok (.iconst 0, 1) := by decide +kernel
theorem dX2_setCrew_3 : decode cX2_setCrew 3 = .ok (.bipush 24, 2) := by decide +kernel
theorem dX2_setCrew_5 : decode cX2_setCrew 5 = .ok (.invokestatic 69, 3) := by decide +kernel
theorem dX2_setCrew_8 : decode cX2_setCrew 8 = .ok (.ifCond .eq 17, 3) := by decide +kernel
theorem dX2_setCrew_11 : decode cX2_setCrew 11 = .ok (.iload_n 2, 1) := by decide +kernel
theorem dX2_setCrew_12 : decode cX2_setCrew 12 = .ok (.iconst 0, 1) := by decide +kernel
theorem dX2_setCrew_13 : decode cX2_setCrew 13 = .ok (.bipush 24, 2) := by decide +kernel
theorem dX2_setCrew_15 : decode cX2_setCrew 15 = .ok (.invokestatic 69, 3) := by decide +kernel
theorem dX2_setCrew_18 : decode cX2_setCrew 18 = .ok (.ifCond .eq 7, 3) := by decide +kernel
theorem dX2_setCrew_21 : decode cX2_setCrew 21 = .ok (.iconst 0, 1) := by decide +kernel
theorem dX2_setCrew_22 : decode cX2_setCrew 22 = .ok (.goto 4, 3) := by decide +kernel
theorem dX2_setCrew_25 : decode cX2_setCrew 25 = .ok (.iconst 1, 1) := by decide +kernel
theorem dX2_setCrew_26 : decode cX2_setCrew 26 = .ok (.putfield 66, 3) := by decide +kernel
theorem dX2_setCrew_29 : decode cX2_setCrew 29 = .ok (.aload_n 0, 1) := by decide +kernel
theorem dX2_setCrew_30 : decode cX2_setCrew 30 = .ok (.getfield 66, 3) := by decide +kernel
theorem dX2_setCrew_33 : decode cX2_setCrew 33 = .ok (.ifCond .ne 13, 3) := by decide +kernel
theorem dX2_setCrew_36 : decode cX2_setCrew 36 = .ok (.aload_n 0, 1) := by decide +kernel
theorem dX2_setCrew_37 : decode cX2_setCrew 37 = .ok (.iload_n 1, 1) := by decide +kernel
theorem dX2_setCrew_38 : decode cX2_setCrew 38 = .ok (.putfield 23, 3) := by decide +kernel
theorem dX2_setCrew_41 : decode cX2_setCrew 41 = .ok (.aload_n 0, 1) := by decide +kernel
theorem dX2_setCrew_42 : decode cX2_setCrew 42 = .ok (.iload_n 2, 1) := by decide +kernel
theorem dX2_setCrew_43 : decode cX2_setCrew 43 = .ok (.putfield 26, 3) := by decide +kernel
theorem dX2_setCrew_46 : decode cX2_setCrew 46 = .ok (.return_, 1) := by decide +kernel
set_option maxRecDepth 20000 in
theorem ggX2_isPlan_X2_in : GoodIn wsX2_isPlan wsX2_in := goodIn_r _ [4] (by decide +kernel) (by decide +kernel)
set_option maxRecDepth 20000 in
theorem gX2_isPlan_X2_in : GoodIn wsX2_isPlan (va_wsS RX2 69 yX2_in wsX2_in) := goodIn_app (goodIn_of _ (by decide +kernel)) ggX2_isPlan_X2_in
theorem dX2_isPlan_0 : decode cX2_isPlan 0 = .ok (.iload_n 0, 1) := by decide +kernel
theorem dX2_isPlan_1 : decode cX2_isPlan 1 = .ok (.iconst 0, 1) := by decide +kernel
theorem dX2_isPlan_2 : decode cX2_isPlan 2 = .ok (.sipush 900, 3) := by decide +kernel
theorem dX2_isPlan_5 : decode cX2_isPlan 5 = .ok (.invokestatic 69, 3) := by decide +kernel
theorem dX2_isPlan_8 : decode cX2_isPlan 8 = .ok (.ifCond .eq 38, 3) := by decide +kernel
theorem dX2_isPlan_11 : decode cX2_isPlan 11 = .ok (.iload_n 1, 1) := by decide +kernel
theorem dX2_isPlan_12 : decode cX2_isPlan 12 = .ok (.iconst 1, 1) := by decide +kernel
theorem dX2_isPlan_13 : decode cX2_isPlan 13 = .ok (.sipush 200, 3) := by decide +kernel
theorem dX2_isPlan_16 : decode cX2_isPlan 16 = .ok (.invokestatic 69, 3) := by decide +kernel
theorem dX2_isPlan_19 : decode cX2_isPlan 19 = .ok (.ifCond .eq 27, 3) := by decide +kernel
theorem dX2_isPlan_22 : decode cX2_isPlan 22 = .ok (.iload_n 2, 1) := by decide +kernel
theorem dX2_isPlan_23 : decode cX2_isPlan 23 = .ok (.iconst 1, 1) := by decide +kernel
theorem dX2_isPlan_24 : decode cX2_isPlan 24 = .ok (.bipush 30, 2) := by decide +kernel
theorem dX2_isPlan_26 : decode cX2_isPlan 26 = .ok (.invokestatic 69, 3) := by decide +kernel
theorem dX2_isPlan_29 : decode cX2_isPlan 29 = .ok (.ifCond .eq 17, 3) := by decide +kernel
theorem dX2_isPlan_32 : decode cX2_isPlan 32 = .ok (.iload_n 3, 1) := by decide +kernel
theorem dX2_isPlan_33 : decode cX2_isPlan 33 = .ok (.iconst 1, 1) := by decide +kernel
theorem dX2_isPlan_34 : decode cX2_isPlan 34 = .ok (.bipush 100, 2) := by decide +kernel
theorem dX2_isPlan_36 : decode cX2_isPlan 36 = .ok (.invokestatic 69, 3) := by decide +kernel
theorem dX2_isPlan_39 : decode cX2_isPlan 39 = .ok (.ifCond .eq 7, 3) := by decide +kernel
theorem dX2_isPlan_42 : decode cX2_isPlan 42 = .ok (.iconst 1, 1) := by decide +kernel
theorem dX2_isPlan_43 : decode cX2_isPlan 43 = .ok (.goto 4, 3) := by decide +kernel
theorem dX2_isPlan_46 : decode cX2_isPlan 46 = .ok (.iconst 0, 1) := by decide +kernel
theorem dX2_isPlan_47 : decode cX2_isPlan 47 = .ok (.ireturn, 1) := by decide +kernel
theorem dX2_freeNumber_0 : decode cX2_freeNumber 0 = .ok (.iconst 0, 1) := by decide +kernel
theorem dX2_freeNumber_1 : decode cX2_freeNumber 1 = .ok (.istore_n 1, 1) := by decide +kernel
theorem dX2_freeNumber_2 : decode cX2_freeNumber 2 = .ok (.iload_n 1, 1) := by decide +kernel
theorem dX2_freeNumber_3 : decode cX2_freeNumber 3 = .ok (.bipush 10, 2) := by decide +kernel
theorem dX2_freeNumber_5 : decode cX2_freeNumber 5 = .ok (.if_icmp .ge 18, 3) := by decide +kernel
theorem dX2_freeNumber_8 : decode cX2_freeNumber 8 = .ok (.aload_n 0, 1) := by decide +kernel
theorem dX2_freeNumber_9 : decode cX2_freeNumber 9 = .ok (.getfield 29, 3) := by decide +kernel
theorem dX2_freeNumber_12 : decode cX2_freeNumber 12 = .ok (.iload_n 1, 1) := by decide +kernel
theorem dX2_freeNumber_13 : decode cX2_freeNumber 13 = .ok (.baload, 1) := by decide +kernel
theorem dX2_freeNumber_14 : decode cX2_freeNumber 14 = .ok (.ifCond .eq 9, 3) := by decide +kernel
theorem dX2_freeNumber_17 : decode cX2_freeNumber 17 = .ok (.iinc 1 1, 3) := by decide +kernel
theorem dX2_freeNumber_20 : decode cX2_freeNumber 20 = .ok (.goto (-18), 3) := by decide +kernel
theorem dX2_freeNumber_23 : decode cX2_freeNumber 23 = .ok (.iload_n 1, 1) := by decide +kernel
theorem dX2_freeNumber_24 : decode cX2_freeNumber 24 = .ok (.ireturn, 1) := by decide +kernel
theorem dX2_lays_0 : decode cX2_lays 0 = .ok (.aload_n 0, 1) := by decide +kernel
theorem dX2_lays_1 : decode cX2_lays 1 = .ok (.getfield 33, 3) := by decide +kernel
theorem dX2_lays_4 : decode cX2_lays 4 = .ok (.iload_n 1, 1) := by decide +kernel
theorem dX2_lays_5 : decode cX2_lays 5 = .ok (.iload_n 2, 1) := by decide +kernel
theorem dX2_lays_6 : decode cX2_lays 6 = .ok (.iastore, 1) := by decide +kernel
theorem dX2_lays_7 : decode cX2_lays 7 = .ok (.aload_n 0, 1) := by decide +kernel
theorem dX2_lays_8 : decode cX2_lays 8 = .ok (.getfield 36, 3) := by decide +kernel
theorem dX2_lays_11 : decode cX2_lays 11 = .ok (.iload_n 1, 1) := by decide +kernel
theorem dX2_lays_12 : decode cX2_lays 12 = .ok (.iload_n 3, 1) := by decide +kernel
theorem dX2_lays_13 : decode cX2_lays 13 = .ok (.iastore, 1) := by decide +kernel
theorem dX2_lays_14 : decode cX2_lays 14 = .ok (.aload_n 0, 1) := by decide +kernel
theorem dX2_lays_15 : decode cX2_lays 15 = .ok (.getfield 39, 3) := by decide +kernel
theorem dX2_lays_18 : decode cX2_lays 18 = .ok (.iload_n 1, 1) := by decide +kernel
theorem dX2_lays_19 : decode cX2_lays 19 = .ok (.iload 4, 2) := by decide +kernel
theorem dX2_lays_21 : decode cX2_lays 21 = .ok (.iastore, 1) := by decide +kernel
theorem dX2_lays_22 : decode cX2_lays 22 = .ok (.aload_n 0, 1) := by decide +kernel
theorem dX2_lays_23 : decode cX2_lays 23 = .ok (.getfield 42, 3) := by decide +kernel
theorem dX2_lays_26 : decode cX2_lays 26 = .ok (.iload_n 1, 1) := by decide +kernel
theorem dX2_lays_27 : decode cX2_lays 27 = .ok (.iload 5, 2) := by decide +kernel
theorem dX2_lays_29 : decode cX2_lays 29 = .ok (.iastore, 1) := by decide +kernel
theorem dX2_lays_30 : decode cX2_lays 30 = .ok (.aload_n 0, 1) := by decide +kernel
theorem dX2_lays_31 : decode cX2_lays 31 = .ok (.getfield 45, 3) := by decide +kernel
theorem dX2_lays_34 : decode cX2_lays 34 = .ok (.iload_n 1, 1) := by decide +kernel
theorem dX2_lays_35 : decode cX2_lays 35 = .ok (.iconst 0, 1) := by decide +kernel
theorem dX2_lays_36 : decode cX2_lays 36 = .ok (.iastore, 1) := by decide +kernel
theorem dX2_lays_37 : decode cX2_lays 37 = .ok (.return_, 1) := by decide +kernel
set_option maxRecDepth 20000 in
theorem ggX2_plan_X2_freeNumber : GoodIn wsX2_plan wsX2_freeNumber := goodIn_r _ [7, 2, 23, 24, 25, 26, 27, 28, 29, 30, 31, 32, 33, 34, 35, 36, 37, 38, 39, 40, 41] (by decide +kernel) (by decide +kernel)
set_option maxRecDepth 20000 in
theorem gX2_plan_X2_freeNumber : GoodIn wsX2_plan (wsV RX2 114 RX2 yX2_freeNumber wsX2_freeNumber) := goodIn_app (goodIn_of _ (by decide +kernel)) ggX2_plan_X2_freeNumber
set_option maxRecDepth 20000 in
theorem ggX2_plan_X2_isPlan : GoodIn wsX2_plan wsX2_isPlan := goodIn_r _ [10, 11, 12, 6, 13] (by decide +kernel) (by decide +kernel)
set_option maxRecDepth 20000 in
theorem gX2_plan_X2_isPlan : GoodIn wsX2_plan (va_wsS RX2 117 yX2_isPlan wsX2_isPlan) := goodIn_app (goodIn_of _ (by decide +kernel)) ggX2_plan_X2_isPlan
set_option maxRecDepth 20000 in
theorem ggX2_plan_X2_lays : GoodIn wsX2_plan wsX2_lays := goodIn_r _ [17, 18, 19, 20, 21, 22, 23, 24, 25, 26, 27, 28, 29, 30, 31, 32, 33, 34, 35, 36, 37, 38, 39, 40, 41] (by decide +kernel) (by decide +kernel)
set_option maxRecDepth 20000 in
theorem gX2_plan_X2_lays : GoodIn wsX2_plan (wsV RX2 121 RX2 yX2_lays wsX2_lays) := goodIn_app (goodIn_of _ (by decide +kernel)) ggX2_plan_X2_lays
theorem dX2_plan_0 : decode cX2_plan 0 = .ok (.aload_n 0, 1) := by decide +kernel
theorem dX2_plan_1 : decode cX2_plan 1 = .ok (.invokevirtual 114, 3) := by decide +kernel
theorem dX2_plan_4 : decode cX2_plan 4 = .ok (.istore 5, 2) := by decide +kernel
theorem dX2_plan_6 : decode cX2_plan 6 = .ok (.aload_n 0, 1) := by decide +kernel
theorem dX2_plan_7 : decode cX2_plan 7 = .ok (.iload_n 1, 1) := by decide +kernel
theorem dX2_plan_8 : decode cX2_plan 8 = .ok (.iload_n 2, 1) := by decide +kernel
theorem dX2_plan_9 : decode cX2_plan 9 = .ok (.iload_n 3, 1) := by decide +kernel
theorem dX2_plan_10 : decode cX2_plan 10 = .ok (.iload 4, 2) := by decide +kernel
theorem dX2_plan_12 : decode cX2_plan 12 = .ok (.invokestatic 117, 3) := by decide +kernel
theorem dX2_plan_15 : decode cX2_plan 15 = .ok (.ifCond .ne 7, 3) := by decide +kernel
theorem dX2_plan_18 : decode cX2_plan 18 = .ok (.iconst 1, 1) := by decide +kernel
theorem dX2_plan_19 : decode cX2_plan 19 = .ok (.goto 15, 3) := by decide +kernel
theorem dX2_plan_22 : decode cX2_plan 22 = .ok (.iload 5, 2) := by decide +kernel
theorem dX2_plan_24 : decode cX2_plan 24 = .ok (.bipush 10, 2) := by decide +kernel
theorem dX2_plan_26 : decode cX2_plan 26 = .ok (.if_icmp .ne 7, 3) := by decide +kernel
theorem dX2_plan_29 : decode cX2_plan 29 = .ok (.iconst 2, 1) := by decide +kernel
theorem dX2_plan_30 : decode cX2_plan 30 = .ok (.goto 4, 3) := by decide +kernel
theorem dX2_plan_33 : decode cX2_plan 33 = .ok (.iconst 0, 1) := by decide +kernel
theorem dX2_plan_34 : decode cX2_plan 34 = .ok (.putfield 66, 3) := by decide +kernel
theorem dX2_plan_37 : decode cX2_plan 37 = .ok (.aload_n 0, 1) := by decide +kernel
theorem dX2_plan_38 : decode cX2_plan 38 = .ok (.getfield 66, 3) := by decide +kernel
theorem dX2_plan_41 : decode cX2_plan 41 = .ok (.ifCond .le 5, 3) := by decide +kernel
theorem dX2_plan_44 : decode cX2_plan 44 = .ok (.iconst 0, 1) := by decide +kernel
theorem dX2_plan_45 : decode cX2_plan 45 = .ok (.ireturn, 1) := by decide +kernel
theorem dX2_plan_46 : decode cX2_plan 46 = .ok (.aload_n 0, 1) := by decide +kernel
theorem dX2_plan_47 : decode cX2_plan 47 = .ok (.getfield 29, 3) := by decide +kernel
theorem dX2_plan_50 : decode cX2_plan 50 = .ok (.iload 5, 2) := by decide +kernel
theorem dX2_plan_52 : decode cX2_plan 52 = .ok (.iconst 1, 1) := by decide +kernel
theorem dX2_plan_53 : decode cX2_plan 53 = .ok (.bastore, 1) := by decide +kernel
theorem dX2_plan_54 : decode cX2_plan 54 = .ok (.aload_n 0, 1) := by decide +kernel
theorem dX2_plan_55 : decode cX2_plan 55 = .ok (.iload 5, 2) := by decide +kernel
theorem dX2_plan_57 : decode cX2_plan 57 = .ok (.iload_n 1, 1) := by decide +kernel
theorem dX2_plan_58 : decode cX2_plan 58 = .ok (.iload_n 2, 1) := by decide +kernel
theorem dX2_plan_59 : decode cX2_plan 59 = .ok (.iload_n 3, 1) := by decide +kernel
theorem dX2_plan_60 : decode cX2_plan 60 = .ok (.iload 4, 2) := by decide +kernel
theorem dX2_plan_62 : decode cX2_plan 62 = .ok (.invokevirtual 121, 3) := by decide +kernel
theorem dX2_plan_65 : decode cX2_plan 65 = .ok (.iload 5, 2) := by decide +kernel
theorem dX2_plan_67 : decode cX2_plan 67 = .ok (.ireturn, 1) := by decide +kernel
set_option maxRecDepth 20000 in
theorem ggX2_move_X2_isPour : GoodIn wsX2_move wsX2_isPour := goodIn_r _ [7, 8, 9, 10, 6, 11, 12, 13, 14, 15, 16, 17, 18, 19, 20, 21, 22, 23, 24, 25, 26, 27, 28, 29, 30] (by decide +kernel) (by decide +kernel)
set_option maxRecDepth 20000 in
theorem gX2_move_X2_isPour : GoodIn wsX2_move (wsV RX2 125 RX2 yX2_isPour wsX2_isPour) := goodIn_app (goodIn_of _ (by decide +kernel)) ggX2_move_X2_isPour
set_option maxRecDepth 20000 in
theorem ggX2_move_X2_in : GoodIn wsX2_move wsX2_in := goodIn_r _ [11] (by decide +kernel) (by decide +kernel)
set_option maxRecDepth 20000 in
theorem gX2_move_X2_in : GoodIn wsX2_move (va_wsS RX2 69 yX2_in wsX2_in) := goodIn_app (goodIn_of _ (by decide +kernel)) ggX2_move_X2_in
theorem dX2_move_0 : decode cX2_move 0 = .ok (.aload_n 0, 1) := by decide +kernel
theorem dX2_move_1 : decode cX2_move 1 = .ok (.aload_n 0, 1) := by decide +kernel
theorem dX2_move_2 : decode cX2_move 2 = .ok (.iload_n 1, 1) := by decide +kernel
theorem dX2_move_3 : decode cX2_move 3 = .ok (.invokevirtual 125, 3) := by decide +kernel
theorem dX2_move_6 : decode cX2_move 6 = .ok (.ifCond .ne 7, 3) := by decide +kernel
theorem dX2_move_9 : decode cX2_move 9 = .ok (.iconst 1, 1) := by decide +kernel
theorem dX2_move_10 : decode cX2_move 10 = .ok (.goto 19, 3) := by decide +kernel
theorem dX2_move_13 : decode cX2_move 13 = .ok (.iload_n 2, 1) := by decide +kernel
theorem dX2_move_14 : decode cX2_move 14 = .ok (.iconst 0, 1) := by decide +kernel
theorem dX2_move_15 : decode cX2_move 15 = .ok (.sipush 900, 3) := by decide +kernel
theorem dX2_move_18 : decode cX2_move 18 = .ok (.invokestatic 69, 3) := by decide +kernel
theorem dX2_move_21 : decode cX2_move 21 = .ok (.ifCond .eq 7, 3) := by decide +kernel
theorem dX2_move_24 : decode cX2_move 24 = .ok (.iconst 0, 1) := by decide +kernel
theorem dX2_move_25 : decode cX2_move 25 = .ok (.goto 4, 3) := by decide +kernel
theorem dX2_move_28 : decode cX2_move 28 = .ok (.iconst 2, 1) := by decide +kernel
theorem dX2_move_29 : decode cX2_move 29 = .ok (.putfield 66, 3) := by decide +kernel
theorem dX2_move_32 : decode cX2_move 32 = .ok (.aload_n 0, 1) := by decide +kernel
theorem dX2_move_33 : decode cX2_move 33 = .ok (.getfield 66, 3) := by decide +kernel
theorem dX2_move_36 : decode cX2_move 36 = .ok (.ifCond .le 5, 3) := by decide +kernel
theorem dX2_move_39 : decode cX2_move 39 = .ok (.iconst 0, 1) := by decide +kernel
theorem dX2_move_40 : decode cX2_move 40 = .ok (.ireturn, 1) := by decide +kernel
theorem dX2_move_41 : decode cX2_move 41 = .ok (.aload_n 0, 1) := by decide +kernel
theorem dX2_move_42 : decode cX2_move 42 = .ok (.getfield 33, 3) := by decide +kernel
theorem dX2_move_45 : decode cX2_move 45 = .ok (.iload_n 1, 1) := by decide +kernel
theorem dX2_move_46 : decode cX2_move 46 = .ok (.iaload, 1) := by decide +kernel
theorem dX2_move_47 : decode cX2_move 47 = .ok (.istore_n 3, 1) := by decide +kernel
theorem dX2_move_48 : decode cX2_move 48 = .ok (.aload_n 0, 1) := by decide +kernel
theorem dX2_move_49 : decode cX2_move 49 = .ok (.getfield 33, 3) := by decide +kernel
theorem dX2_move_52 : decode cX2_move 52 = .ok (.iload_n 1, 1) := by decide +kernel
theorem dX2_move_53 : decode cX2_move 53 = .ok (.iload_n 2, 1) := by decide +kernel
theorem dX2_move_54 : decode cX2_move 54 = .ok (.iastore, 1) := by decide +kernel
theorem dX2_move_55 : decode cX2_move 55 = .ok (.iload_n 3, 1) := by decide +kernel
theorem dX2_move_56 : decode cX2_move 56 = .ok (.ireturn, 1) := by decide +kernel
set_option maxRecDepth 20000 in
theorem ggX2_cancel_X2_isPour : GoodIn wsX2_cancel wsX2_isPour := goodIn_r _ [8, 2, 9, 10, 7, 11, 12, 13, 14, 15, 16, 17, 18, 19, 20, 21, 22, 23, 24, 25, 26, 27, 28, 29, 30] (by decide +kernel) (by decide +kernel)
set_option maxRecDepth 20000 in
theorem gX2_cancel_X2_isPour : GoodIn wsX2_cancel (wsV RX2 125 RX2 yX2_isPour wsX2_isPour) := goodIn_app (goodIn_of _ (by decide +kernel)) ggX2_cancel_X2_isPour
theorem dX2_cancel_0 : decode cX2_cancel 0 = .ok (.aload_n 0, 1) := by decide +kernel
theorem dX2_cancel_1 : decode cX2_cancel 1 = .ok (.aload_n 0, 1) := by decide +kernel
theorem dX2_cancel_2 : decode cX2_cancel 2 = .ok (.iload_n 1, 1) := by decide +kernel
theorem dX2_cancel_3 : decode cX2_cancel 3 = .ok (.invokevirtual 125, 3) := by decide +kernel
theorem dX2_cancel_6 : decode cX2_cancel 6 = .ok (.ifCond .eq 7, 3) := by decide +kernel
theorem dX2_cancel_9 : decode cX2_cancel 9 = .ok (.iconst 0, 1) := by decide +kernel
theorem dX2_cancel_10 : decode cX2_cancel 10 = .ok (.goto 4, 3) := by decide +kernel
theorem dX2_cancel_13 : decode cX2_cancel 13 = .ok (.iconst 1, 1) := by decide +kernel
theorem dX2_cancel_14 : decode cX2_cancel 14 = .ok (.putfield 66, 3) := by decide +kernel
theorem dX2_cancel_17 : decode cX2_cancel 17 = .ok (.aload_n 0, 1) := by decide +kernel
theorem dX2_cancel_18 : decode cX2_cancel 18 = .ok (.getfield 66, 3) := by decide +kernel
theorem dX2_cancel_21 : decode cX2_cancel 21 = .ok (.ifCond .le 5, 3) := by decide +kernel
theorem dX2_cancel_24 : decode cX2_cancel 24 = .ok (.iconst 0, 1) := by decide +kernel
theorem dX2_cancel_25 : decode cX2_cancel 25 = .ok (.ireturn, 1) := by decide +kernel
theorem dX2_cancel_26 : decode cX2_cancel 26 = .ok (.aload_n 0, 1) := by decide +kernel
theorem dX2_cancel_27 : decode cX2_cancel 27 = .ok (.getfield 29, 3) := by decide +kernel
theorem dX2_cancel_30 : decode cX2_cancel 30 = .ok (.iload_n 1, 1) := by decide +kernel
theorem dX2_cancel_31 : decode cX2_cancel 31 = .ok (.iconst 0, 1) := by decide +kernel
theorem dX2_cancel_32 : decode cX2_cancel 32 = .ok (.bastore, 1) := by decide +kernel
theorem dX2_cancel_33 : decode cX2_cancel 33 = .ok (.aload_n 0, 1) := by decide +kernel
theorem dX2_cancel_34 : decode cX2_cancel 34 = .ok (.getfield 39, 3) := by decide +kernel
theorem dX2_cancel_37 : decode cX2_cancel 37 = .ok (.iload_n 1, 1) := by decide +kernel
theorem dX2_cancel_38 : decode cX2_cancel 38 = .ok (.iaload, 1) := by decide +kernel
theorem dX2_cancel_39 : decode cX2_cancel 39 = .ok (.ireturn, 1) := by decide +kernel
set_option maxRecDepth 20000 in
theorem ggX2_delay_X2_isPour : GoodIn wsX2_delay wsX2_isPour := goodIn_r _ [10, 11, 12, 13, 9, 14, 15, 16, 17, 18, 19, 20, 21, 22, 23, 24, 25, 26, 27, 28, 29, 30, 31, 32, 33] (by decide +kernel) (by decide +kernel)
set_option maxRecDepth 20000 in
theorem gX2_delay_X2_isPour : GoodIn wsX2_delay (wsV RX2 125 RX2 yX2_isPour wsX2_isPour) := goodIn_app (goodIn_of _ (by decide +kernel)) ggX2_delay_X2_isPour
set_option maxRecDepth 20000 in
theorem ggX2_delay_X2_in : GoodIn wsX2_delay wsX2_in := goodIn_r _ [14] (by decide +kernel) (by decide +kernel)
set_option maxRecDepth 20000 in
theorem gX2_delay_X2_in : GoodIn wsX2_delay (va_wsS RX2 69 yX2_in wsX2_in) := goodIn_app (goodIn_of _ (by decide +kernel)) ggX2_delay_X2_in
theorem dX2_delay_0 : decode cX2_delay 0 = .ok (.aload_n 0, 1) := by decide +kernel
theorem dX2_delay_1 : decode cX2_delay 1 = .ok (.aload_n 0, 1) := by decide +kernel
theorem dX2_delay_2 : decode cX2_delay 2 = .ok (.iload_n 1, 1) := by decide +kernel
theorem dX2_delay_3 : decode cX2_delay 3 = .ok (.invokevirtual 125, 3) := by decide +kernel
theorem dX2_delay_6 : decode cX2_delay 6 = .ok (.ifCond .ne 7, 3) := by decide +kernel
theorem dX2_delay_9 : decode cX2_delay 9 = .ok (.iconst 1, 1) := by decide +kernel
theorem dX2_delay_10 : decode cX2_delay 10 = .ok (.goto 48, 3) := by decide +kernel
theorem dX2_delay_13 : decode cX2_delay 13 = .ok (.iload_n 2, 1) := by decide +kernel
theorem dX2_delay_14 : decode cX2_delay 14 = .ok (.iconst 0, 1) := by decide +kernel
theorem dX2_delay_15 : decode cX2_delay 15 = .ok (.aload_n 0, 1) := by decide +kernel
theorem dX2_delay_16 : decode cX2_delay 16 = .ok (.getfield 36, 3) := by decide +kernel
theorem dX2_delay_19 : decode cX2_delay 19 = .ok (.iload_n 1, 1) := by decide +kernel
theorem dX2_delay_20 : decode cX2_delay 20 = .ok (.iaload, 1) := by decide +kernel
theorem dX2_delay_21 : decode cX2_delay 21 = .ok (.iconst 1, 1) := by decide +kernel
theorem dX2_delay_22 : decode cX2_delay 22 = .ok (.isub, 1) := by decide +kernel
theorem dX2_delay_23 : decode cX2_delay 23 = .ok (.invokestatic 69, 3) := by decide +kernel
theorem dX2_delay_26 : decode cX2_delay 26 = .ok (.ifCond .eq 13, 3) := by decide +kernel
theorem dX2_delay_29 : decode cX2_delay 29 = .ok (.iload_n 3, 1) := by decide +kernel
theorem dX2_delay_30 : decode cX2_delay 30 = .ok (.iconst 1, 1) := by decide +kernel
theorem dX2_delay_31 : decode cX2_delay 31 = .ok (.bipush 9, 2) := by decide +kernel
theorem dX2_delay_33 : decode cX2_delay 33 = .ok (.invokestatic 69, 3) := by decide +kernel
theorem dX2_delay_36 : decode cX2_delay 36 = .ok (.ifCond .ne 7, 3) := by decide +kernel
theorem dX2_delay_39 : decode cX2_delay 39 = .ok (.iconst 2, 1) := by decide +kernel
theorem dX2_delay_40 : decode cX2_delay 40 = .ok (.goto 18, 3) := by decide +kernel
theorem dX2_delay_43 : decode cX2_delay 43 = .ok (.aload_n 0, 1) := by decide +kernel
theorem dX2_delay_44 : decode cX2_delay 44 = .ok (.getfield 45, 3) := by decide +kernel
theorem dX2_delay_47 : decode cX2_delay 47 = .ok (.iload_n 1, 1) := by decide +kernel
theorem dX2_delay_48 : decode cX2_delay 48 = .ok (.iaload, 1) := by decide +kernel
theorem dX2_delay_49 : decode cX2_delay 49 = .ok (.iconst 4, 1) := by decide +kernel
theorem dX2_delay_50 : decode cX2_delay 50 = .ok (.if_icmp .ne 7, 3) := by decide +kernel
theorem dX2_delay_53 : decode cX2_delay 53 = .ok (.iconst 3, 1) := by decide +kernel
theorem dX2_delay_54 : decode cX2_delay 54 = .ok (.goto 4, 3) := by decide +kernel
theorem dX2_delay_57 : decode cX2_delay 57 = .ok (.iconst 0, 1) := by decide +kernel
theorem dX2_delay_58 : decode cX2_delay 58 = .ok (.putfield 66, 3) := by decide +kernel
theorem dX2_delay_61 : decode cX2_delay 61 = .ok (.aload_n 0, 1) := by decide +kernel
theorem dX2_delay_62 : decode cX2_delay 62 = .ok (.getfield 66, 3) := by decide +kernel
theorem dX2_delay_65 : decode cX2_delay 65 = .ok (.ifCond .le 5, 3) := by decide +kernel
theorem dX2_delay_68 : decode cX2_delay 68 = .ok (.iconst 0, 1) := by decide +kernel
theorem dX2_delay_69 : decode cX2_delay 69 = .ok (.ireturn, 1) := by decide +kernel
theorem dX2_delay_70 : decode cX2_delay 70 = .ok (.aload_n 0, 1) := by decide +kernel
theorem dX2_delay_71 : decode cX2_delay 71 = .ok (.getfield 45, 3) := by decide +kernel
theorem dX2_delay_74 : decode cX2_delay 74 = .ok (.iload_n 1, 1) := by decide +kernel
theorem dX2_delay_75 : decode cX2_delay 75 = .ok (.iaload, 1) := by decide +kernel
theorem dX2_delay_76 : decode cX2_delay 76 = .ok (.istore 4, 2) := by decide +kernel
theorem dX2_delay_78 : decode cX2_delay 78 = .ok (.iload 4, 2) := by decide +kernel
theorem dX2_delay_80 : decode cX2_delay 80 = .ok (.ifCond .le 74, 3) := by decide +kernel
theorem dX2_delay_83 : decode cX2_delay 83 = .ok (.aload_n 0, 1) := by decide +kernel
theorem dX2_delay_84 : decode cX2_delay 84 = .ok (.getfield 48, 3) := by decide +kernel
theorem dX2_delay_87 : decode cX2_delay 87 = .ok (.iconst 4, 1) := by decide +kernel
theorem dX2_delay_88 : decode cX2_delay 88 = .ok (.iload_n 1, 1) := by decide +kernel
theorem dX2_delay_89 : decode cX2_delay 89 = .ok (.imul, 1) := by decide +kernel
theorem dX2_delay_90 : decode cX2_delay 90 = .ok (.iload 4, 2) := by decide +kernel
theorem dX2_delay_92 : decode cX2_delay 92 = .ok (.iadd, 1) := by decide +kernel
theorem dX2_delay_93 : decode cX2_delay 93 = .ok (.iconst 1, 1) := by decide +kernel
theorem dX2_delay_94 : decode cX2_delay 94 = .ok (.isub, 1) := by decide +kernel
theorem dX2_delay_95 : decode cX2_delay 95 = .ok (.iaload, 1) := by decide +kernel
theorem dX2_delay_96 : decode cX2_delay 96 = .ok (.iload_n 2, 1) := by decide +kernel
theorem dX2_delay_97 : decode cX2_delay 97 = .ok (.if_icmp .le 57, 3) := by decide +kernel
theorem dX2_delay_100 : decode cX2_delay 100 = .ok (.aload_n 0, 1) := by decide +kernel
theorem dX2_delay_101 : decode cX2_delay 101 = .ok (.getfield 48, 3) := by decide +kernel
theorem dX2_delay_104 : decode cX2_delay 104 = .ok (.iconst 4, 1) := by decide +kernel
theorem dX2_delay_105 : decode cX2_delay 105 = .ok (.iload_n 1, 1) := by decide +kernel
theorem dX2_delay_106 : decode cX2_delay 106 = .ok (.imul, 1) := by decide +kernel
theorem dX2_delay_107 : decode cX2_delay 107 = .ok (.iload 4, 2) := by decide +kernel
theorem dX2_delay_109 : decode cX2_delay 109 = .ok (.iadd, 1) := by decide +kernel
theorem dX2_delay_110 : decode cX2_delay 110 = .ok (.aload_n 0, 1) := by decide +kernel
theorem dX2_delay_111 : decode cX2_delay 111 = .ok (.getfield 48, 3) := by decide +kernel
theorem dX2_delay_114 : decode cX2_delay 114 = .ok (.iconst 4, 1) := by decide +kernel
theorem dX2_delay_115 : decode cX2_delay 115 = .ok (.iload_n 1, 1) := by decide +kernel
theorem dX2_delay_116 : decode cX2_delay 116 = .ok (.imul, 1) := by decide +kernel
theorem dX2_delay_117 : decode cX2_delay 117 = .ok (.iload 4, 2) := by decide +kernel
theorem dX2_delay_119 : decode cX2_delay 119 = .ok (.iadd, 1) := by decide +kernel
theorem dX2_delay_120 : decode cX2_delay 120 = .ok (.iconst 1, 1) := by decide +kernel
theorem dX2_delay_121 : decode cX2_delay 121 = .ok (.isub, 1) := by decide +kernel
theorem dX2_delay_122 : decode cX2_delay 122 = .ok (.iaload, 1) := by decide +kernel
theorem dX2_delay_123 : decode cX2_delay 123 = .ok (.iastore, 1) := by decide +kernel
theorem dX2_delay_124 : decode cX2_delay 124 = .ok (.aload_n 0, 1) := by decide +kernel
theorem dX2_delay_125 : decode cX2_delay 125 = .ok (.getfield 51, 3) := by decide +kernel
theorem dX2_delay_128 : decode cX2_delay 128 = .ok (.iconst 4, 1) := by decide +kernel
theorem dX2_delay_129 : decode cX2_delay 129 = .ok (.iload_n 1, 1) := by decide +kernel
theorem dX2_delay_130 : decode cX2_delay 130 = .ok (.imul, 1) := by decide +kernel
theorem dX2_delay_131 : decode cX2_delay 131 = .ok (.iload 4, 2) := by decide +kernel
theorem dX2_delay_133 : decode cX2_delay 133 = .ok (.iadd, 1) := by decide +kernel
theorem dX2_delay_134 : decode cX2_delay 134 = .ok (.aload_n 0, 1) := by decide +kernel
theorem dX2_delay_135 : decode cX2_delay 135 = .ok (.getfield 51, 3) := by decide +kernel
theorem dX2_delay_138 : decode cX2_delay 138 = .ok (.iconst 4, 1) := by decide +kernel
theorem dX2_delay_139 : decode cX2_delay 139 = .ok (.iload_n 1, 1) := by decide +kernel
theorem dX2_delay_140 : decode cX2_delay 140 = .ok (.imul, 1) := by decide +kernel
theorem dX2_delay_141 : decode cX2_delay 141 = .ok (.iload 4, 2) := by decide +kernel
theorem dX2_delay_143 : decode cX2_delay 143 = .ok (.iadd, 1) := by decide +kernel
theorem dX2_delay_144 : decode cX2_delay 144 = .ok (.iconst 1, 1) := by decide +kernel
theorem dX2_delay_145 : decode cX2_delay 145 = .ok (.isub, 1) := by decide +kernel
theorem dX2_delay_146 : decode cX2_delay 146 = .ok (.iaload, 1) := by decide +kernel
theorem dX2_delay_147 : decode cX2_delay 147 = .ok (.iastore, 1) := by decide +kernel
theorem dX2_delay_148 : decode cX2_delay 148 = .ok (.iinc 4 (-1), 3) := by decide +kernel
theorem dX2_delay_151 : decode cX2_delay 151 = .ok (.goto (-73), 3) := by decide +kernel
theorem dX2_delay_154 : decode cX2_delay 154 = .ok (.aload_n 0, 1) := by decide +kernel
theorem dX2_delay_155 : decode cX2_delay 155 = .ok (.getfield 48, 3) := by decide +kernel
theorem dX2_delay_158 : decode cX2_delay 158 = .ok (.iconst 4, 1) := by decide +kernel
theorem dX2_delay_159 : decode cX2_delay 159 = .ok (.iload_n 1, 1) := by decide +kernel
theorem dX2_delay_160 : decode cX2_delay 160 = .ok (.imul, 1) := by decide +kernel
theorem dX2_delay_161 : decode cX2_delay 161 = .ok (.iload 4, 2) := by decide +kernel
theorem dX2_delay_163 : decode cX2_delay 163 = .ok (.iadd, 1) := by decide +kernel
theorem dX2_delay_164 : decode cX2_delay 164 = .ok (.iload_n 2, 1) := by decide +kernel
theorem dX2_delay_165 : decode cX2_delay 165 = .ok (.iastore, 1) := by decide +kernel
theorem dX2_delay_166 : decode cX2_delay 166 = .ok (.aload_n 0, 1) := by decide +kernel
theorem dX2_delay_167 : decode cX2_delay 167 = .ok (.getfield 51, 3) := by decide +kernel
theorem dX2_delay_170 : decode cX2_delay 170 = .ok (.iconst 4, 1) := by decide +kernel
theorem dX2_delay_171 : decode cX2_delay 171 = .ok (.iload_n 1, 1) := by decide +kernel
theorem dX2_delay_172 : decode cX2_delay 172 = .ok (.imul, 1) := by decide +kernel
theorem dX2_delay_173 : decode cX2_delay 173 = .ok (.iload 4, 2) := by decide +kernel
theorem dX2_delay_175 : decode cX2_delay 175 = .ok (.iadd, 1) := by decide +kernel
theorem dX2_delay_176 : decode cX2_delay 176 = .ok (.iload_n 3, 1) := by decide +kernel
theorem dX2_delay_177 : decode cX2_delay 177 = .ok (.iastore, 1) := by decide +kernel
theorem dX2_delay_178 : decode cX2_delay 178 = .ok (.aload_n 0, 1) := by decide +kernel
theorem dX2_delay_179 : decode cX2_delay 179 = .ok (.getfield 45, 3) := by decide +kernel
theorem dX2_delay_182 : decode cX2_delay 182 = .ok (.iload_n 1, 1) := by decide +kernel
theorem dX2_delay_183 : decode cX2_delay 183 = .ok (.dup2, 1) := by decide +kernel
theorem dX2_delay_184 : decode cX2_delay 184 = .ok (.iaload, 1) := by decide +kernel
theorem dX2_delay_185 : decode cX2_delay 185 = .ok (.iconst 1, 1) := by decide +kernel
theorem dX2_delay_186 : decode cX2_delay 186 = .ok (.iadd, 1) := by decide +kernel
theorem dX2_delay_187 : decode cX2_delay 187 = .ok (.iastore, 1) := by decide +kernel
theorem dX2_delay_188 : decode cX2_delay 188 = .ok (.aload_n 0, 1) := by decide +kernel
theorem dX2_delay_189 : decode cX2_delay 189 = .ok (.getfield 45, 3) := by decide +kernel
theorem dX2_delay_192 : decode cX2_delay 192 = .ok (.iload_n 1, 1) := by decide +kernel
theorem dX2_delay_193 : decode cX2_delay 193 = .ok (.iaload, 1) := by decide +kernel
theorem dX2_delay_194 : decode cX2_delay 194 = .ok (.ireturn, 1) := by decide +kernel
theorem dX2_pours_0 : decode cX2_pours 0 = .ok (.aload_n 0, 1) := by decide +kernel
theorem dX2_pours_1 : decode cX2_pours 1 = .ok (.iconst 0, 1) := by decide +kernel
theorem dX2_pours_2 : decode cX2_pours 2 = .ok (.putfield 66, 3) := by decide +kernel
theorem dX2_pours_5 : decode cX2_pours 5 = .ok (.iconst 0, 1) := by decide +kernel
theorem dX2_pours_6 : decode cX2_pours 6 = .ok (.istore_n 1, 1) := by decide +kernel
theorem dX2_pours_7 : decode cX2_pours 7 = .ok (.iconst 0, 1) := by decide +kernel
theorem dX2_pours_8 : decode cX2_pours 8 = .ok (.istore_n 2, 1) := by decide +kernel
theorem dX2_pours_9 : decode cX2_pours 9 = .ok (.iload_n 2, 1) := by decide +kernel
theorem dX2_pours_10 : decode cX2_pours 10 = .ok (.bipush 10, 2) := by decide +kernel
theorem dX2_pours_12 : decode cX2_pours 12 = .ok (.if_icmp .ge 26, 3) := by decide +kernel
theorem dX2_pours_15 : decode cX2_pours 15 = .ok (.iload_n 1, 1) := by decide +kernel
theorem dX2_pours_16 : decode cX2_pours 16 = .ok (.aload_n 0, 1) := by decide +kernel
theorem dX2_pours_17 : decode cX2_pours 17 = .ok (.getfield 29, 3) := by decide +kernel
theorem dX2_pours_20 : decode cX2_pours 20 = .ok (.iload_n 2, 1) := by decide +kernel
theorem dX2_pours_21 : decode cX2_pours 21 = .ok (.baload, 1) := by decide +kernel
theorem dX2_pours_22 : decode cX2_pours 22 = .ok (.ifCond .eq 7, 3) := by decide +kernel
theorem dX2_pours_25 : decode cX2_pours 25 = .ok (.iconst 1, 1) := by decide +kernel
theorem dX2_pours_26 : decode cX2_pours 26 = .ok (.goto 4, 3) := by decide +kernel
theorem dX2_pours_29 : decode cX2_pours 29 = .ok (.iconst 0, 1) := by decide +kernel
theorem dX2_pours_30 : decode cX2_pours 30 = .ok (.iadd, 1) := by decide +kernel
theorem dX2_pours_31 : decode cX2_pours 31 = .ok (.istore_n 1, 1) := by decide +kernel
theorem dX2_pours_32 : decode cX2_pours 32 = .ok (.iinc 2 1, 3) := by decide +kernel
theorem dX2_pours_35 : decode cX2_pours 35 = .ok (.goto (-26), 3) := by decide +kernel
theorem dX2_pours_38 : decode cX2_pours 38 = .ok (.iload_n 1, 1) := by decide +kernel
theorem dX2_pours_39 : decode cX2_pours 39 = .ok (.ireturn, 1) := by decide +kernel
set_option maxRecDepth 20000 in
theorem ggX2_isAsked_X2_isPour : GoodIn wsX2_isAsked wsX2_isPour := goodIn_r _ [6, 7, 8, 9, 5, 10, 53, 54, 55, 56, 57, 58, 59, 60, 61, 62, 63, 64, 65, 66, 67, 68, 69, 70, 71] (by decide +kernel) (by decide +kernel)
set_option maxRecDepth 20000 in
theorem gX2_isAsked_X2_isPour : GoodIn wsX2_isAsked (wsV RX2 125 RX2 yX2_isPour wsX2_isPour) := goodIn_app (goodIn_of _ (by decide +kernel)) ggX2_isAsked_X2_isPour
set_option maxRecDepth 20000 in
theorem ggX2_isAsked_X2_works : GoodIn wsX2_isAsked wsX2_works := goodIn_r _ [14, 15, 16, 17, 18, 19, 20, 21, 22, 23, 24, 5, 25, 26, 27, 28, 29, 30, 31, 32, 33, 34, 35, 36, 37, 38, 39, 40, 41, 42, 43, 44, 45, 46, 47, 48, 49, 50, 51, 52, 8, 9, 10, 53, 54, 55, 56, 57, 58, 59, 60, 61, 62, 63, 64, 65, 66, 67, 68, 69, 70, 71] (by decide +kernel) (by decide +kernel)
set_option maxRecDepth 20000 in
theorem gX2_isAsked_X2_works : GoodIn wsX2_isAsked (wsV RX2 98 RX2 yX2_works wsX2_works) := goodIn_app (goodIn_of _ (by decide +kernel)) ggX2_isAsked_X2_works
theorem dX2_isAsked_0 : decode cX2_isAsked 0 = .ok (.aload_n 0, 1) := by decide +kernel
theorem dX2_isAsked_1 : decode cX2_isAsked 1 = .ok (.aload_n 0, 1) := by decide +kernel
theorem dX2_isAsked_2 : decode cX2_isAsked 2 = .ok (.iload_n 1, 1) := by decide +kernel
theorem dX2_isAsked_3 : decode cX2_isAsked 3 = .ok (.invokevirtual 125, 3) := by decide +kernel
theorem dX2_isAsked_6 : decode cX2_isAsked 6 = .ok (.ifCond .eq 7, 3) := by decide +kernel
theorem dX2_isAsked_9 : decode cX2_isAsked 9 = .ok (.iconst 0, 1) := by decide +kernel
theorem dX2_isAsked_10 : decode cX2_isAsked 10 = .ok (.goto 4, 3) := by decide +kernel
theorem dX2_isAsked_13 : decode cX2_isAsked 13 = .ok (.iconst 1, 1) := by decide +kernel
theorem dX2_isAsked_14 : decode cX2_isAsked 14 = .ok (.putfield 66, 3) := by decide +kernel
theorem dX2_isAsked_17 : decode cX2_isAsked 17 = .ok (.aload_n 0, 1) := by decide +kernel
theorem dX2_isAsked_18 : decode cX2_isAsked 18 = .ok (.getfield 66, 3) := by decide +kernel
theorem dX2_isAsked_21 : decode cX2_isAsked 21 = .ok (.ifCond .ne 8, 3) := by decide +kernel
theorem dX2_isAsked_24 : decode cX2_isAsked 24 = .ok (.aload_n 0, 1) := by decide +kernel
theorem dX2_isAsked_25 : decode cX2_isAsked 25 = .ok (.iload_n 1, 1) := by decide +kernel
theorem dX2_isAsked_26 : decode cX2_isAsked 26 = .ok (.invokevirtual 98, 3) := by decide +kernel
theorem dX2_isAsked_29 : decode cX2_isAsked 29 = .ok (.aload_n 0, 1) := by decide +kernel
theorem dX2_isAsked_30 : decode cX2_isAsked 30 = .ok (.getfield 66, 3) := by decide +kernel
theorem dX2_isAsked_33 : decode cX2_isAsked 33 = .ok (.ifCond .ne 7, 3) := by decide +kernel
theorem dX2_isAsked_36 : decode cX2_isAsked 36 = .ok (.iconst 1, 1) := by decide +kernel
theorem dX2_isAsked_37 : decode cX2_isAsked 37 = .ok (.goto 4, 3) := by decide +kernel
theorem dX2_isAsked_40 : decode cX2_isAsked 40 = .ok (.iconst 0, 1) := by decide +kernel
theorem dX2_isAsked_41 : decode cX2_isAsked 41 = .ok (.ireturn, 1) := by decide +kernel
set_option maxRecDepth 20000 in
theorem ggX2_endOf_X2_isAsked : GoodIn wsX2_endOf wsX2_isAsked := goodIn_r _ [5, 6, 7, 8, 9, 4, 10, 11, 12, 13, 14, 15, 16, 17, 18, 19, 20, 21, 22, 23, 24, 25, 26, 27, 28, 29, 30, 31, 32, 33, 34, 35, 36, 37, 38, 39, 40, 41, 42, 43, 44, 45, 46, 47, 48, 49, 50, 51, 52, 53, 54, 55, 56, 57, 58, 59, 60, 61, 62, 63, 64, 65, 66, 67, 68, 69, 70, 71, 72, 73, 74, 75] (by decide +kernel) (by decide +kernel)
set_option maxRecDepth 20000 in
theorem gX2_endOf_X2_isAsked : GoodIn wsX2_endOf (wsV RX2 128 RX2 yX2_isAsked wsX2_isAsked) := goodIn_app (goodIn_of _ (by decide +kernel)) ggX2_endOf_X2_isAsked
set_option maxRecDepth 20000 in
theorem ggX2_endOf_X2_end : GoodIn wsX2_endOf wsX2_end := goodIn_r _ [29, 20, 30, 31, 32, 33, 4, 34, 35, 36, 37, 38, 39, 40, 41, 42, 57, 58, 59, 60, 61, 62, 63, 64, 65, 66, 67, 68, 69, 70, 71, 72, 73, 74, 75] (by decide +kernel) (by decide +kernel)
set_option maxRecDepth 20000 in
theorem gX2_endOf_X2_end : GoodIn wsX2_endOf (wsV RX2 92 RX2 yX2_end wsX2_end) := goodIn_app (goodIn_of _ (by decide +kernel)) ggX2_endOf_X2_end
theorem dX2_endOf_0 : decode cX2_endOf 0 = .ok (.aload_n 0, 1) := by decide +kernel
theorem dX2_endOf_1 : decode cX2_endOf 1 = .ok (.iload_n 1, 1) := by decide +kernel
theorem dX2_endOf_2 : decode cX2_endOf 2 = .ok (.invokevirtual 128, 3) := by decide +kernel
theorem dX2_endOf_5 : decode cX2_endOf 5 = .ok (.ifCond .eq 11, 3) := by decide +kernel
theorem dX2_endOf_8 : decode cX2_endOf 8 = .ok (.aload_n 0, 1) := by decide +kernel
theorem dX2_endOf_9 : decode cX2_endOf 9 = .ok (.iload_n 1, 1) := by decide +kernel
theorem dX2_endOf_10 : decode cX2_endOf 10 = .ok (.invokevirtual 92, 3) := by decide +kernel
theorem dX2_endOf_13 : decode cX2_endOf 13 = .ok (.goto 4, 3) := by decide +kernel
theorem dX2_endOf_16 : decode cX2_endOf 16 = .ok (.iconst 0, 1) := by decide +kernel
theorem dX2_endOf_17 : decode cX2_endOf 17 = .ok (.ireturn, 1) := by decide +kernel
set_option maxRecDepth 20000 in
theorem ggX2_coldJoints_X2_isAsked : GoodIn wsX2_coldJoints wsX2_isAsked := goodIn_r _ [9, 10, 11, 12, 13, 8, 14, 15, 16, 17, 18, 19, 20, 21, 22, 23, 2, 24, 25, 26, 27, 28, 29, 30, 31, 32, 33, 34, 35, 36, 37, 38, 39, 40, 41, 42, 43, 1, 4, 44, 45, 46, 47, 48, 49, 50, 51, 52, 53, 54, 55, 56, 57, 62, 63, 64, 65, 66, 67, 68, 69, 70, 71, 72, 73, 74, 75, 76, 77, 78, 79, 80] (by decide +kernel) (by decide +kernel)
set_option maxRecDepth 20000 in
theorem gX2_coldJoints_X2_isAsked : GoodIn wsX2_coldJoints (wsV RX2 128 RX2 yX2_isAsked wsX2_isAsked) := goodIn_app (goodIn_of _ (by decide +kernel)) ggX2_coldJoints_X2_isAsked
set_option maxRecDepth 20000 in
theorem ggX2_coldJoints_X2_rate : GoodIn wsX2_coldJoints wsX2_rate := goodIn_r _ [37, 38, 39, 62, 63, 64, 65, 66, 67, 68, 69, 70, 71, 72, 73, 74, 75, 76, 77, 78, 79, 80] (by decide +kernel) (by decide +kernel)
set_option maxRecDepth 20000 in
theorem gX2_coldJoints_X2_rate : GoodIn wsX2_coldJoints (wsV RX2 85 RX2 yX2_rate wsX2_rate) := goodIn_app (goodIn_of _ (by decide +kernel)) ggX2_coldJoints_X2_rate
set_option maxRecDepth 20000 in
theorem ggX2_coldJoints_X2_sum : GoodIn wsX2_coldJoints wsX2_sum := goodIn_r _ [61, 50, 51, 52, 8, 53, 54, 55, 56, 57, 16, 17, 18, 62, 63, 64, 65, 66, 67, 68, 69, 70, 71, 72, 73, 74, 75, 76, 77, 78, 79, 80] (by decide +kernel) (by decide +kernel)
set_option maxRecDepth 20000 in
theorem gX2_coldJoints_X2_sum : GoodIn wsX2_coldJoints (wsV RX2 109 RX2 yX2_sum wsX2_sum) := goodIn_app (goodIn_of _ (by decide +kernel)) ggX2_coldJoints_X2_sum
theorem dX2_coldJoints_0 : decode cX2_coldJoints 0 = .ok (.iconst 0, 1) := by decide +kernel
theorem dX2_coldJoints_1 : decode cX2_coldJoints 1 = .ok (.istore_n 2, 1) := by decide +kernel
theorem dX2_coldJoints_2 : decode cX2_coldJoints 2 = .ok (.iconst 0, 1) := by decide +kernel
theorem dX2_coldJoints_3 : decode cX2_coldJoints 3 = .ok (.istore_n 3, 1) := by decide +kernel
theorem dX2_coldJoints_4 : decode cX2_coldJoints 4 = .ok (.aload_n 0, 1) := by decide +kernel
theorem dX2_coldJoints_5 : decode cX2_coldJoints 5 = .ok (.iload_n 1, 1) := by decide +kernel
theorem dX2_coldJoints_6 : decode cX2_coldJoints 6 = .ok (.invokevirtual 128, 3) := by decide +kernel
theorem dX2_coldJoints_9 : decode cX2_coldJoints 9 = .ok (.istore 4, 2) := by decide +kernel
theorem dX2_coldJoints_11 : decode cX2_coldJoints 11 = .ok (.iconst 0, 1) := by decide +kernel
theorem dX2_coldJoints_12 : decode cX2_coldJoints 12 = .ok (.istore 5, 2) := by decide +kernel
theorem dX2_coldJoints_14 : decode cX2_coldJoints 14 = .ok (.iload 4, 2) := by decide +kernel
theorem dX2_coldJoints_16 : decode cX2_coldJoints 16 = .ok (.ifCond .eq 89, 3) := by decide +kernel
theorem dX2_coldJoints_19 : decode cX2_coldJoints 19 = .ok (.iload 5, 2) := by decide +kernel
theorem dX2_coldJoints_21 : decode cX2_coldJoints 21 = .ok (.aload_n 0, 1) := by decide +kernel
theorem dX2_coldJoints_22 : decode cX2_coldJoints 22 = .ok (.getfield 45, 3) := by decide +kernel
theorem dX2_coldJoints_25 : decode cX2_coldJoints 25 = .ok (.iload_n 1, 1) := by decide +kernel
theorem dX2_coldJoints_26 : decode cX2_coldJoints 26 = .ok (.iaload, 1) := by decide +kernel
theorem dX2_coldJoints_27 : decode cX2_coldJoints 27 = .ok (.if_icmp .ge 78, 3) := by decide +kernel
theorem dX2_coldJoints_30 : decode cX2_coldJoints 30 = .ok (.aload_n 0, 1) := by decide +kernel
theorem dX2_coldJoints_31 : decode cX2_coldJoints 31 = .ok (.getfield 33, 3) := by decide +kernel
theorem dX2_coldJoints_34 : decode cX2_coldJoints 34 = .ok (.iload_n 1, 1) := by decide +kernel
theorem dX2_coldJoints_35 : decode cX2_coldJoints 35 = .ok (.iaload, 1) := by decide +kernel
theorem dX2_coldJoints_36 : decode cX2_coldJoints 36 = .ok (.aload_n 0, 1) := by decide +kernel
theorem dX2_coldJoints_37 : decode cX2_coldJoints 37 = .ok (.getfield 48, 3) := by decide +kernel
theorem dX2_coldJoints_40 : decode cX2_coldJoints 40 = .ok (.iconst 4, 1) := by decide +kernel
theorem dX2_coldJoints_41 : decode cX2_coldJoints 41 = .ok (.iload_n 1, 1) := by decide +kernel
theorem dX2_coldJoints_42 : decode cX2_coldJoints 42 = .ok (.imul, 1) := by decide +kernel
theorem dX2_coldJoints_43 : decode cX2_coldJoints 43 = .ok (.iload 5, 2) := by decide +kernel
theorem dX2_coldJoints_45 : decode cX2_coldJoints 45 = .ok (.iadd, 1) := by decide +kernel
theorem dX2_coldJoints_46 : decode cX2_coldJoints 46 = .ok (.iaload, 1) := by decide +kernel
theorem dX2_coldJoints_47 : decode cX2_coldJoints 47 = .ok (.aload_n 0, 1) := by decide +kernel
theorem dX2_coldJoints_48 : decode cX2_coldJoints 48 = .ok (.invokevirtual 85, 3) := by decide +kernel
theorem dX2_coldJoints_51 : decode cX2_coldJoints 51 = .ok (.idiv, 1) := by decide +kernel
theorem dX2_coldJoints_52 : decode cX2_coldJoints 52 = .ok (.iadd, 1) := by decide +kernel
theorem dX2_coldJoints_53 : decode cX2_coldJoints 53 = .ok (.iload_n 3, 1) := by decide +kernel
theorem dX2_coldJoints_54 : decode cX2_coldJoints 54 = .ok (.iadd, 1) := by decide +kernel
theorem dX2_coldJoints_55 : decode cX2_coldJoints 55 = .ok (.istore 6, 2) := by decide +kernel
theorem dX2_coldJoints_57 : decode cX2_coldJoints 57 = .ok (.aload_n 0, 1) := by decide +kernel
theorem dX2_coldJoints_58 : decode cX2_coldJoints 58 = .ok (.getfield 51, 3) := by decide +kernel
theorem dX2_coldJoints_61 : decode cX2_coldJoints 61 = .ok (.iconst 4, 1) := by decide +kernel
theorem dX2_coldJoints_62 : decode cX2_coldJoints 62 = .ok (.iload_n 1, 1) := by decide +kernel
theorem dX2_coldJoints_63 : decode cX2_coldJoints 63 = .ok (.imul, 1) := by decide +kernel
theorem dX2_coldJoints_64 : decode cX2_coldJoints 64 = .ok (.iload 5, 2) := by decide +kernel
theorem dX2_coldJoints_66 : decode cX2_coldJoints 66 = .ok (.iadd, 1) := by decide +kernel
theorem dX2_coldJoints_67 : decode cX2_coldJoints 67 = .ok (.iaload, 1) := by decide +kernel
theorem dX2_coldJoints_68 : decode cX2_coldJoints 68 = .ok (.istore 7, 2) := by decide +kernel
theorem dX2_coldJoints_70 : decode cX2_coldJoints 70 = .ok (.iload_n 2, 1) := by decide +kernel
theorem dX2_coldJoints_71 : decode cX2_coldJoints 71 = .ok (.aload_n 0, 1) := by decide +kernel
theorem dX2_coldJoints_72 : decode cX2_coldJoints 72 = .ok (.iload 6, 2) := by decide +kernel
theorem dX2_coldJoints_74 : decode cX2_coldJoints 74 = .ok (.iload 6, 2) := by decide +kernel
theorem dX2_coldJoints_76 : decode cX2_coldJoints 76 = .ok (.iload 7, 2) := by decide +kernel
theorem dX2_coldJoints_78 : decode cX2_coldJoints 78 = .ok (.iadd, 1) := by decide +kernel
theorem dX2_coldJoints_79 : decode cX2_coldJoints 79 = .ok (.invokevirtual 109, 3) := by decide +kernel
theorem dX2_coldJoints_82 : decode cX2_coldJoints 82 = .ok (.bipush 90, 2) := by decide +kernel
theorem dX2_coldJoints_84 : decode cX2_coldJoints 84 = .ok (.if_icmp .lt 7, 3) := by decide +kernel
theorem dX2_coldJoints_87 : decode cX2_coldJoints 87 = .ok (.iconst 1, 1) := by decide +kernel
theorem dX2_coldJoints_88 : decode cX2_coldJoints 88 = .ok (.goto 4, 3) := by decide +kernel
theorem dX2_coldJoints_91 : decode cX2_coldJoints 91 = .ok (.iconst 0, 1) := by decide +kernel
theorem dX2_coldJoints_92 : decode cX2_coldJoints 92 = .ok (.iadd, 1) := by decide +kernel
theorem dX2_coldJoints_93 : decode cX2_coldJoints 93 = .ok (.istore_n 2, 1) := by decide +kernel
theorem dX2_coldJoints_94 : decode cX2_coldJoints 94 = .ok (.iload_n 3, 1) := by decide +kernel
theorem dX2_coldJoints_95 : decode cX2_coldJoints 95 = .ok (.iload 7, 2) := by decide +kernel
theorem dX2_coldJoints_97 : decode cX2_coldJoints 97 = .ok (.iadd, 1) := by decide +kernel
theorem dX2_coldJoints_98 : decode cX2_coldJoints 98 = .ok (.istore_n 3, 1) := by decide +kernel
theorem dX2_coldJoints_99 : decode cX2_coldJoints 99 = .ok (.iinc 5 1, 3) := by decide +kernel
theorem dX2_coldJoints_102 : decode cX2_coldJoints 102 = .ok (.goto (-88), 3) := by decide +kernel
theorem dX2_coldJoints_105 : decode cX2_coldJoints 105 = .ok (.iload_n 2, 1) := by decide +kernel
theorem dX2_coldJoints_106 : decode cX2_coldJoints 106 = .ok (.ireturn, 1) := by decide +kernel
set_option maxRecDepth 20000 in
theorem ggX2_struck_X2_isAsked : GoodIn wsX2_struck wsX2_isAsked := goodIn_r _ [6, 7, 8, 9, 10, 5, 11, 12, 13, 14, 15, 16, 17, 18, 19, 20, 21, 22, 1, 23, 24, 25, 26, 27, 28, 29, 30, 31, 32, 33, 34, 35, 36, 37, 38, 39, 40, 41, 42, 43, 44, 45, 46, 47, 48, 49, 50, 51, 52, 53, 54, 55, 56, 57, 58, 59, 60, 61, 62, 63, 64, 65, 66, 67, 68, 69, 70, 71, 72, 73, 74, 75] (by decide +kernel) (by decide +kernel)
set_option maxRecDepth 20000 in
theorem gX2_struck_X2_isAsked : GoodIn wsX2_struck (wsV RX2 128 RX2 yX2_isAsked wsX2_isAsked) := goodIn_app (goodIn_of _ (by decide +kernel)) ggX2_struck_X2_isAsked
theorem dX2_struck_0 : decode cX2_struck 0 = .ok (.aload_n 0, 1) := by decide +kernel
theorem dX2_struck_1 : decode cX2_struck 1 = .ok (.iload_n 1, 1) := by decide +kernel
theorem dX2_struck_2 : decode cX2_struck 2 = .ok (.invokevirtual 128, 3) := by decide +kernel
theorem dX2_struck_5 : decode cX2_struck 5 = .ok (.ifCond .eq 12, 3) := by decide +kernel
theorem dX2_struck_8 : decode cX2_struck 8 = .ok (.aload_n 0, 1) := by decide +kernel
theorem dX2_struck_9 : decode cX2_struck 9 = .ok (.getfield 57, 3) := by decide +kernel
theorem dX2_struck_12 : decode cX2_struck 12 = .ok (.iload_n 1, 1) := by decide +kernel
theorem dX2_struck_13 : decode cX2_struck 13 = .ok (.iaload, 1) := by decide +kernel
theorem dX2_struck_14 : decode cX2_struck 14 = .ok (.goto 4, 3) := by decide +kernel
theorem dX2_struck_17 : decode cX2_struck 17 = .ok (.iconst 0, 1) := by decide +kernel
theorem dX2_struck_18 : decode cX2_struck 18 = .ok (.ireturn, 1) := by decide +kernel
set_option maxRecDepth 20000 in
theorem ggX2_freeFrom_X2_isAsked : GoodIn wsX2_freeFrom wsX2_isAsked := goodIn_r _ [6, 7, 8, 9, 10, 5, 11, 12, 13, 14, 15, 16, 17, 18, 19, 20, 21, 22, 23, 24, 1, 25, 26, 27, 28, 29, 30, 31, 32, 33, 34, 35, 36, 37, 38, 39, 40, 41, 42, 43, 44, 45, 46, 47, 48, 49, 50, 51, 52, 53, 54, 55, 56, 57, 58, 59, 60, 61, 62, 63, 64, 65, 66, 67, 68, 69, 70, 71, 72, 73, 74, 75] (by decide +kernel) (by decide +kernel)
set_option maxRecDepth 20000 in
theorem gX2_freeFrom_X2_isAsked : GoodIn wsX2_freeFrom (wsV RX2 128 RX2 yX2_isAsked wsX2_isAsked) := goodIn_app (goodIn_of _ (by decide +kernel)) ggX2_freeFrom_X2_isAsked
theorem dX2_freeFrom_0 : decode cX2_freeFrom 0 = .ok (.aload_n 0, 1) := by decide +kernel
theorem dX2_freeFrom_1 : decode cX2_freeFrom 1 = .ok (.iload_n 1, 1) := by decide +kernel
theorem dX2_freeFrom_2 : decode cX2_freeFrom 2 = .ok (.invokevirtual 128, 3) := by decide +kernel
theorem dX2_freeFrom_5 : decode cX2_freeFrom 5 = .ok (.ifCond .ne 7, 3) := by decide +kernel
theorem dX2_freeFrom_8 : decode cX2_freeFrom 8 = .ok (.iconst 0, 1) := by decide +kernel
theorem dX2_freeFrom_9 : decode cX2_freeFrom 9 = .ok (.goto 25, 3) := by decide +kernel
theorem dX2_freeFrom_12 : decode cX2_freeFrom 12 = .ok (.aload_n 0, 1) := by decide +kernel
theorem dX2_freeFrom_13 : decode cX2_freeFrom 13 = .ok (.getfield 60, 3) := by decide +kernel
theorem dX2_freeFrom_16 : decode cX2_freeFrom 16 = .ok (.iload_n 1, 1) := by decide +kernel
theorem dX2_freeFrom_17 : decode cX2_freeFrom 17 = .ok (.iaload, 1) := by decide +kernel
theorem dX2_freeFrom_18 : decode cX2_freeFrom 18 = .ok (.sipush 1000, 3) := by decide +kernel
theorem dX2_freeFrom_21 : decode cX2_freeFrom 21 = .ok (.if_icmp .ge 12, 3) := by decide +kernel
theorem dX2_freeFrom_24 : decode cX2_freeFrom 24 = .ok (.aload_n 0, 1) := by decide +kernel
theorem dX2_freeFrom_25 : decode cX2_freeFrom 25 = .ok (.getfield 60, 3) := by decide +kernel
theorem dX2_freeFrom_28 : decode cX2_freeFrom 28 = .ok (.iload_n 1, 1) := by decide +kernel
theorem dX2_freeFrom_29 : decode cX2_freeFrom 29 = .ok (.iaload, 1) := by decide +kernel
theorem dX2_freeFrom_30 : decode cX2_freeFrom 30 = .ok (.goto 4, 3) := by decide +kernel
theorem dX2_freeFrom_33 : decode cX2_freeFrom 33 = .ok (.iconst (-1), 1) := by decide +kernel
theorem dX2_freeFrom_34 : decode cX2_freeFrom 34 = .ok (.ireturn, 1) := by decide +kernel
set_option maxRecDepth 20000 in
theorem ggX2_need_X2_isHour : GoodIn wsX2_need wsX2_isHour := goodIn_r _ [5, 6, 7, 4, 8] (by decide +kernel) (by decide +kernel)
set_option maxRecDepth 20000 in
theorem gX2_need_X2_isHour : GoodIn wsX2_need (va_wsS RX2 73 yX2_isHour wsX2_isHour) := goodIn_app (goodIn_of _ (by decide +kernel)) ggX2_need_X2_isHour
set_option maxRecDepth 20000 in
theorem ggX2_need_X2_worksAll : GoodIn wsX2_need wsX2_worksAll := goodIn_r _ [12, 13, 14, 15, 16, 4, 17, 18, 19, 20, 21, 22, 23, 24, 25, 26, 27, 28, 29, 30, 31, 32, 33, 34, 35, 36, 37, 38, 39, 40, 41, 42, 43, 44, 45, 46, 47, 48, 49, 50, 51, 52, 2, 3, 5, 6, 7, 8, 62, 63, 64, 65, 66, 67, 68, 69, 70, 71, 72, 73, 74, 75, 76, 77, 78, 79, 80] (by decide +kernel) (by decide +kernel)
set_option maxRecDepth 20000 in
theorem gX2_need_X2_worksAll : GoodIn wsX2_need (wsV RX2 131 RX2 yX2_worksAll wsX2_worksAll) := goodIn_app (goodIn_of _ (by decide +kernel)) ggX2_need_X2_worksAll
set_option maxRecDepth 20000 in
theorem ggX2_need_X2_needOf : GoodIn wsX2_need wsX2_needOf := goodIn_r _ [56, 57, 58, 59, 60, 4, 61, 13, 18, 23, 62, 63, 64, 65, 66, 67, 68, 69, 70, 71, 72, 73, 74, 75, 76, 77, 78, 79, 80] (by decide +kernel) (by decide +kernel)
set_option maxRecDepth 20000 in
theorem gX2_need_X2_needOf : GoodIn wsX2_need (wsV RX2 134 RX2 yX2_needOf wsX2_needOf) := goodIn_app (goodIn_of _ (by decide +kernel)) ggX2_need_X2_needOf
theorem dX2_need_0 : decode cX2_need 0 = .ok (.aload_n 0, 1) := by decide +kernel
theorem dX2_need_1 : decode cX2_need 1 = .ok (.iload_n 1, 1) := by decide +kernel
theorem dX2_need_2 : decode cX2_need 2 = .ok (.invokestatic 73, 3) := by decide +kernel
theorem dX2_need_5 : decode cX2_need 5 = .ok (.ifCond .eq 7, 3) := by decide +kernel
theorem dX2_need_8 : decode cX2_need 8 = .ok (.iconst 0, 1) := by decide +kernel
theorem dX2_need_9 : decode cX2_need 9 = .ok (.goto 4, 3) := by decide +kernel
theorem dX2_need_12 : decode cX2_need 12 = .ok (.iconst 1, 1) := by decide +kernel
theorem dX2_need_13 : decode cX2_need 13 = .ok (.putfield 66, 3) := by decide +kernel
theorem dX2_need_16 : decode cX2_need 16 = .ok (.aload_n 0, 1) := by decide +kernel
theorem dX2_need_17 : decode cX2_need 17 = .ok (.invokevirtual 131, 3) := by decide +kernel
theorem dX2_need_20 : decode cX2_need 20 = .ok (.aload_n 0, 1) := by decide +kernel
theorem dX2_need_21 : decode cX2_need 21 = .ok (.getfield 66, 3) := by decide +kernel
theorem dX2_need_24 : decode cX2_need 24 = .ok (.ifCond .le 7, 3) := by decide +kernel
theorem dX2_need_27 : decode cX2_need 27 = .ok (.iconst 0, 1) := by decide +kernel
theorem dX2_need_28 : decode cX2_need 28 = .ok (.goto 8, 3) := by decide +kernel
theorem dX2_need_31 : decode cX2_need 31 = .ok (.aload_n 0, 1) := by decide +kernel
theorem dX2_need_32 : decode cX2_need 32 = .ok (.iload_n 1, 1) := by decide +kernel
theorem dX2_need_33 : decode cX2_need 33 = .ok (.invokevirtual 134, 3) := by decide +kernel
theorem dX2_need_36 : decode cX2_need 36 = .ok (.ireturn, 1) := by decide +kernel
set_option maxRecDepth 20000 in
theorem ggX2_most_X2_worksAll : GoodIn wsX2_most wsX2_worksAll := goodIn_r _ [5, 6, 7, 8, 9, 4, 10, 11, 12, 13, 14, 15, 16, 17, 18, 19, 20, 21, 22, 23, 24, 25, 26, 27, 28, 29, 30, 31, 32, 33, 34, 35, 36, 37, 38, 39, 40, 41, 42, 43, 44, 45, 46, 47, 48, 49, 50, 51, 61, 62, 63, 64, 65, 66, 67, 68, 69, 70, 71, 72, 73, 74, 75, 76, 77, 78, 79] (by decide +kernel) (by decide +kernel)
set_option maxRecDepth 20000 in
theorem gX2_most_X2_worksAll : GoodIn wsX2_most (wsV RX2 131 RX2 yX2_worksAll wsX2_worksAll) := goodIn_app (goodIn_of _ (by decide +kernel)) ggX2_most_X2_worksAll
set_option maxRecDepth 20000 in
theorem ggX2_most_X2_needOf : GoodIn wsX2_most wsX2_needOf := goodIn_r _ [55, 56, 57, 58, 59, 4, 60, 6, 11, 16, 61, 62, 63, 64, 65, 66, 67, 68, 69, 70, 71, 72, 73, 74, 75, 76, 77, 78, 79] (by decide +kernel) (by decide +kernel)
set_option maxRecDepth 20000 in
theorem gX2_most_X2_needOf : GoodIn wsX2_most (wsV RX2 134 RX2 yX2_needOf wsX2_needOf) := goodIn_app (goodIn_of _ (by decide +kernel)) ggX2_most_X2_needOf
theorem dX2_most_0 : decode cX2_most 0 = .ok (.aload_n 0, 1) := by decide +kernel
theorem dX2_most_1 : decode cX2_most 1 = .ok (.invokevirtual 131, 3) := by decide +kernel
theorem dX2_most_4 : decode cX2_most 4 = .ok (.iconst 0, 1) := by decide +kernel
theorem dX2_most_5 : decode cX2_most 5 = .ok (.istore_n 1, 1) := by decide +kernel
theorem dX2_most_6 : decode cX2_most 6 = .ok (.iconst 0, 1) := by decide +kernel
theorem dX2_most_7 : decode cX2_most 7 = .ok (.istore_n 2, 1) := by decide +kernel
theorem dX2_most_8 : decode cX2_most 8 = .ok (.iload_n 2, 1) := by decide +kernel
theorem dX2_most_9 : decode cX2_most 9 = .ok (.sipush 1000, 3) := by decide +kernel
theorem dX2_most_12 : decode cX2_most 12 = .ok (.if_icmp .ge 28, 3) := by decide +kernel
theorem dX2_most_15 : decode cX2_most 15 = .ok (.aload_n 0, 1) := by decide +kernel
theorem dX2_most_16 : decode cX2_most 16 = .ok (.iload_n 2, 1) := by decide +kernel
theorem dX2_most_17 : decode cX2_most 17 = .ok (.invokevirtual 134, 3) := by decide +kernel
theorem dX2_most_20 : decode cX2_most 20 = .ok (.iload_n 1, 1) := by decide +kernel
theorem dX2_most_21 : decode cX2_most 21 = .ok (.if_icmp .le 11, 3) := by decide +kernel
theorem dX2_most_24 : decode cX2_most 24 = .ok (.aload_n 0, 1) := by decide +kernel
theorem dX2_most_25 : decode cX2_most 25 = .ok (.iload_n 2, 1) := by decide +kernel
theorem dX2_most_26 : decode cX2_most 26 = .ok (.invokevirtual 134, 3) := by decide +kernel
theorem dX2_most_29 : decode cX2_most 29 = .ok (.goto 4, 3) := by decide +kernel
theorem dX2_most_32 : decode cX2_most 32 = .ok (.iload_n 1, 1) := by decide +kernel
theorem dX2_most_33 : decode cX2_most 33 = .ok (.istore_n 1, 1) := by decide +kernel
theorem dX2_most_34 : decode cX2_most 34 = .ok (.iinc 2 1, 3) := by decide +kernel
theorem dX2_most_37 : decode cX2_most 37 = .ok (.goto (-29), 3) := by decide +kernel
theorem dX2_most_40 : decode cX2_most 40 = .ok (.iload_n 1, 1) := by decide +kernel
theorem dX2_most_41 : decode cX2_most 41 = .ok (.ireturn, 1) := by decide +kernel
set_option maxRecDepth 20000 in
theorem ggX2_peak_X2_most : GoodIn wsX2_peak wsX2_most := goodIn_r _ [6, 7, 8, 9, 5, 10, 11, 12, 13, 14, 15, 16, 17, 18, 19, 20, 21, 22, 23, 24, 25, 26, 27, 28, 29, 30, 31, 32, 33, 34, 35, 36, 37, 38, 39, 40, 41, 42, 43, 44, 45, 46, 47, 48, 49, 50, 51, 52, 53, 54, 55, 56, 57, 58, 59, 60, 61, 62, 63, 64, 65, 66, 67, 68, 69, 70, 71, 72, 73, 74, 75, 76, 77, 78, 79, 80, 81, 82, 83, 84] (by decide +kernel) (by decide +kernel)
set_option maxRecDepth 20000 in
theorem gX2_peak_X2_most : GoodIn wsX2_peak (wsV RX2 137 RX2 yX2_most wsX2_most) := goodIn_app (goodIn_of _ (by decide +kernel)) ggX2_peak_X2_most
theorem dX2_peak_0 : decode cX2_peak 0 = .ok (.aload_n 0, 1) := by decide +kernel
theorem dX2_peak_1 : decode cX2_peak 1 = .ok (.iconst 0, 1) := by decide +kernel
theorem dX2_peak_2 : decode cX2_peak 2 = .ok (.putfield 66, 3) := by decide +kernel
theorem dX2_peak_5 : decode cX2_peak 5 = .ok (.aload_n 0, 1) := by decide +kernel
theorem dX2_peak_6 : decode cX2_peak 6 = .ok (.invokevirtual 137, 3) := by decide +kernel
theorem dX2_peak_9 : decode cX2_peak 9 = .ok (.ireturn, 1) := by decide +kernel
set_option maxRecDepth 20000 in
theorem ggX2_peakByOverlaps_X2_most : GoodIn wsX2_peakByOverlaps wsX2_most := goodIn_r _ [6, 7, 8, 9, 5, 10, 11, 12, 13, 14, 15, 16, 17, 18, 19, 20, 21, 22, 23, 24, 25, 26, 27, 28, 29, 30, 31, 32, 33, 34, 35, 36, 37, 38, 39, 40, 41, 42, 43, 44, 45, 46, 47, 48, 49, 50, 51, 52, 53, 54, 55, 56, 57, 58, 59, 60, 61, 62, 63, 64, 65, 66, 67, 68, 69, 70, 71, 72, 73, 74, 75, 76, 77, 78, 79, 80, 81, 82, 83, 84] (by decide +kernel) (by decide +kernel)
set_option maxRecDepth 20000 in
theorem gX2_peakByOverlaps_X2_most : GoodIn wsX2_peakByOverlaps (wsV RX2 137 RX2 yX2_most wsX2_most) := goodIn_app (goodIn_of _ (by decide +kernel)) ggX2_peakByOverlaps_X2_most
theorem dX2_peakByOverlaps_0 : decode cX2_peakByOverlaps 0 = .ok (.aload_n 0, 1) := by decide +kernel
theorem dX2_peakByOverlaps_1 : decode cX2_peakByOverlaps 1 = .ok (.iconst 0, 1) := by decide +kernel
theorem dX2_peakByOverlaps_2 : decode cX2_peakByOverlaps 2 = .ok (.putfield 66, 3) := by decide +kernel
theorem dX2_peakByOverlaps_5 : decode cX2_peakByOverlaps 5 = .ok (.aload_n 0, 1) := by decide +kernel
theorem dX2_peakByOverlaps_6 : decode cX2_peakByOverlaps 6 = .ok (.invokevirtual 137, 3) := by decide +kernel
theorem dX2_peakByOverlaps_9 : decode cX2_peakByOverlaps 9 = .ok (.ireturn, 1) := by decide +kernel
set_option maxRecDepth 20000 in
theorem ggX2_firstShort_X2_worksAll : GoodIn wsX2_firstShort wsX2_worksAll := goodIn_r _ [7, 8, 9, 10, 11, 6, 12, 13, 14, 15, 16, 17, 18, 19, 20, 21, 22, 23, 24, 25, 26, 27, 28, 29, 30, 31, 32, 33, 34, 35, 36, 37, 38, 39, 40, 41, 42, 43, 44, 45, 46, 47, 48, 49, 50, 51, 52, 53, 63, 64, 65, 66, 67, 68, 69, 70, 71, 72, 73, 74, 75, 76, 77, 78, 79, 80, 81] (by decide +kernel) (by decide +kernel)
set_option maxRecDepth 20000 in
theorem gX2_firstShort_X2_worksAll : GoodIn wsX2_firstShort (wsV RX2 131 RX2 yX2_worksAll wsX2_worksAll) := goodIn_app (goodIn_of _ (by decide +kernel)) ggX2_firstShort_X2_worksAll
set_option maxRecDepth 20000 in
theorem ggX2_firstShort_X2_needOf : GoodIn wsX2_firstShort wsX2_needOf := goodIn_r _ [57, 58, 59, 60, 61, 6, 62, 8, 13, 18, 63, 64, 65, 66, 67, 68, 69, 70, 71, 72, 73, 74, 75, 76, 77, 78, 79, 80, 81] (by decide +kernel) (by decide +kernel)
set_option maxRecDepth 20000 in
theorem gX2_firstShort_X2_needOf : GoodIn wsX2_firstShort (wsV RX2 134 RX2 yX2_needOf wsX2_needOf) := goodIn_app (goodIn_of _ (by decide +kernel)) ggX2_firstShort_X2_needOf
theorem dX2_firstShort_0 : decode cX2_firstShort 0 = .ok (.aload_n 0, 1) := by decide +kernel
theorem dX2_firstShort_1 : decode cX2_firstShort 1 = .ok (.iconst 0, 1) := by decide +kernel
theorem dX2_firstShort_2 : decode cX2_firstShort 2 = .ok (.putfield 66, 3) := by decide +kernel
theorem dX2_firstShort_5 : decode cX2_firstShort 5 = .ok (.aload_n 0, 1) := by decide +kernel
theorem dX2_firstShort_6 : decode cX2_firstShort 6 = .ok (.invokevirtual 131, 3) := by decide +kernel
theorem dX2_firstShort_9 : decode cX2_firstShort 9 = .ok (.iconst (-1), 1) := by decide +kernel
theorem dX2_firstShort_10 : decode cX2_firstShort 10 = .ok (.istore_n 1, 1) := by decide +kernel
theorem dX2_firstShort_11 : decode cX2_firstShort 11 = .ok (.sipush 999, 3) := by decide +kernel
theorem dX2_firstShort_14 : decode cX2_firstShort 14 = .ok (.istore_n 2, 1) := by decide +kernel
theorem dX2_firstShort_15 : decode cX2_firstShort 15 = .ok (.iload_n 2, 1) := by decide +kernel
theorem dX2_firstShort_16 : decode cX2_firstShort 16 = .ok (.ifCond .lt 27, 3) := by decide +kernel
theorem dX2_firstShort_19 : decode cX2_firstShort 19 = .ok (.aload_n 0, 1) := by decide +kernel
theorem dX2_firstShort_20 : decode cX2_firstShort 20 = .ok (.iload_n 2, 1) := by decide +kernel
theorem dX2_firstShort_21 : decode cX2_firstShort 21 = .ok (.invokevirtual 134, 3) := by decide +kernel
theorem dX2_firstShort_24 : decode cX2_firstShort 24 = .ok (.aload_n 0, 1) := by decide +kernel
theorem dX2_firstShort_25 : decode cX2_firstShort 25 = .ok (.getfield 13, 3) := by decide +kernel
theorem dX2_firstShort_28 : decode cX2_firstShort 28 = .ok (.if_icmp .le 7, 3) := by decide +kernel
theorem dX2_firstShort_31 : decode cX2_firstShort 31 = .ok (.iload_n 2, 1) := by decide +kernel
theorem dX2_firstShort_32 : decode cX2_firstShort 32 = .ok (.goto 4, 3) := by decide +kernel
theorem dX2_firstShort_35 : decode cX2_firstShort 35 = .ok (.iload_n 1, 1) := by decide +kernel
theorem dX2_firstShort_36 : decode cX2_firstShort 36 = .ok (.istore_n 1, 1) := by decide +kernel
theorem dX2_firstShort_37 : decode cX2_firstShort 37 = .ok (.iinc 2 (-1), 3) := by decide +kernel
theorem dX2_firstShort_40 : decode cX2_firstShort 40 = .ok (.goto (-25), 3) := by decide +kernel
theorem dX2_firstShort_43 : decode cX2_firstShort 43 = .ok (.iload_n 1, 1) := by decide +kernel
theorem dX2_firstShort_44 : decode cX2_firstShort 44 = .ok (.ireturn, 1) := by decide +kernel
set_option maxRecDepth 20000 in
theorem ggX2_fits_X2_works : GoodIn wsX2_fits wsX2_works := goodIn_r _ [9, 1, 10, 11, 12, 13, 2, 14, 15, 16, 17, 8, 18, 19, 20, 21, 22, 23, 24, 25, 26, 27, 28, 29, 30, 31, 32, 33, 34, 35, 36, 37, 38, 39, 40, 41, 42, 43, 44, 45, 46, 47, 48, 58, 59, 60, 61, 62, 63, 64, 65, 66, 67, 68, 69, 70, 71, 72, 73, 74, 75, 76] (by decide +kernel) (by decide +kernel)
set_option maxRecDepth 20000 in
theorem gX2_fits_X2_works : GoodIn wsX2_fits (wsV RX2 98 RX2 yX2_works wsX2_works) := goodIn_app (goodIn_of _ (by decide +kernel)) ggX2_fits_X2_works
set_option maxRecDepth 20000 in
theorem ggX2_fits_X2_needOf : GoodIn wsX2_fits wsX2_needOf := goodIn_r _ [52, 3, 53, 54, 55, 8, 56, 57, 1, 2, 58, 59, 60, 61, 62, 63, 64, 65, 66, 67, 68, 69, 70, 71, 72, 73, 74, 75, 76] (by decide +kernel) (by decide +kernel)
set_option maxRecDepth 20000 in
theorem gX2_fits_X2_needOf : GoodIn wsX2_fits (wsV RX2 134 RX2 yX2_needOf wsX2_needOf) := goodIn_app (goodIn_of _ (by decide +kernel)) ggX2_fits_X2_needOf
theorem dX2_fits_0 : decode cX2_fits 0 = .ok (.aload_n 0, 1) := by decide +kernel
theorem dX2_fits_1 : decode cX2_fits 1 = .ok (.bipush 10, 2) := by decide +kernel
theorem dX2_fits_3 : decode cX2_fits 3 = .ok (.invokevirtual 98, 3) := by decide +kernel
theorem dX2_fits_6 : decode cX2_fits 6 = .ok (.iconst 1, 1) := by decide +kernel
theorem dX2_fits_7 : decode cX2_fits 7 = .ok (.istore_n 1, 1) := by decide +kernel
theorem dX2_fits_8 : decode cX2_fits 8 = .ok (.aload_n 0, 1) := by decide +kernel
theorem dX2_fits_9 : decode cX2_fits 9 = .ok (.getfield 54, 3) := by decide +kernel
theorem dX2_fits_12 : decode cX2_fits 12 = .ok (.bipush 10, 2) := by decide +kernel
theorem dX2_fits_14 : decode cX2_fits 14 = .ok (.iaload, 1) := by decide +kernel
theorem dX2_fits_15 : decode cX2_fits 15 = .ok (.istore_n 2, 1) := by decide +kernel
theorem dX2_fits_16 : decode cX2_fits 16 = .ok (.iload_n 2, 1) := by decide +kernel
theorem dX2_fits_17 : decode cX2_fits 17 = .ok (.sipush 1000, 3) := by decide +kernel
theorem dX2_fits_20 : decode cX2_fits 20 = .ok (.if_icmp .ge 50, 3) := by decide +kernel
theorem dX2_fits_23 : decode cX2_fits 23 = .ok (.iload_n 2, 1) := by decide +kernel
theorem dX2_fits_24 : decode cX2_fits 24 = .ok (.aload_n 0, 1) := by decide +kernel
theorem dX2_fits_25 : decode cX2_fits 25 = .ok (.getfield 60, 3) := by decide +kernel
theorem dX2_fits_28 : decode cX2_fits 28 = .ok (.bipush 10, 2) := by decide +kernel
theorem dX2_fits_30 : decode cX2_fits 30 = .ok (.iaload, 1) := by decide +kernel
theorem dX2_fits_31 : decode cX2_fits 31 = .ok (.if_icmp .ge 39, 3) := by decide +kernel
theorem dX2_fits_34 : decode cX2_fits 34 = .ok (.iload_n 1, 1) := by decide +kernel
theorem dX2_fits_35 : decode cX2_fits 35 = .ok (.ifCond .eq 35, 3) := by decide +kernel
theorem dX2_fits_38 : decode cX2_fits 38 = .ok (.aload_n 0, 1) := by decide +kernel
theorem dX2_fits_39 : decode cX2_fits 39 = .ok (.iload_n 2, 1) := by decide +kernel
theorem dX2_fits_40 : decode cX2_fits 40 = .ok (.invokevirtual 134, 3) := by decide +kernel
theorem dX2_fits_43 : decode cX2_fits 43 = .ok (.aload_n 0, 1) := by decide +kernel
theorem dX2_fits_44 : decode cX2_fits 44 = .ok (.getfield 39, 3) := by decide +kernel
theorem dX2_fits_47 : decode cX2_fits 47 = .ok (.bipush 10, 2) := by decide +kernel
theorem dX2_fits_49 : decode cX2_fits 49 = .ok (.iaload, 1) := by decide +kernel
theorem dX2_fits_50 : decode cX2_fits 50 = .ok (.iadd, 1) := by decide +kernel
theorem dX2_fits_51 : decode cX2_fits 51 = .ok (.aload_n 0, 1) := by decide +kernel
theorem dX2_fits_52 : decode cX2_fits 52 = .ok (.getfield 13, 3) := by decide +kernel
theorem dX2_fits_55 : decode cX2_fits 55 = .ok (.if_icmp .gt 7, 3) := by decide +kernel
theorem dX2_fits_58 : decode cX2_fits 58 = .ok (.iconst 1, 1) := by decide +kernel
theorem dX2_fits_59 : decode cX2_fits 59 = .ok (.goto 4, 3) := by decide +kernel
theorem dX2_fits_62 : decode cX2_fits 62 = .ok (.iconst 0, 1) := by decide +kernel
theorem dX2_fits_63 : decode cX2_fits 63 = .ok (.istore_n 1, 1) := by decide +kernel
theorem dX2_fits_64 : decode cX2_fits 64 = .ok (.iinc 2 1, 3) := by decide +kernel
theorem dX2_fits_67 : decode cX2_fits 67 = .ok (.goto (-51), 3) := by decide +kernel
theorem dX2_fits_70 : decode cX2_fits 70 = .ok (.iload_n 1, 1) := by decide +kernel
theorem dX2_fits_71 : decode cX2_fits 71 = .ok (.ireturn, 1) := by decide +kernel
set_option maxRecDepth 20000 in
theorem ggX2_earliest_X2_isPlan : GoodIn wsX2_earliest wsX2_isPlan := goodIn_r _ [5, 6, 7, 4, 8] (by decide +kernel) (by decide +kernel)
set_option maxRecDepth 20000 in
theorem gX2_earliest_X2_isPlan : GoodIn wsX2_earliest (va_wsS RX2 117 yX2_isPlan wsX2_isPlan) := goodIn_app (goodIn_of _ (by decide +kernel)) ggX2_earliest_X2_isPlan
set_option maxRecDepth 20000 in
theorem ggX2_earliest_X2_worksAll : GoodIn wsX2_earliest wsX2_worksAll := goodIn_r _ [12, 13, 14, 15, 16, 4, 17, 18, 19, 20, 21, 22, 23, 24, 25, 26, 27, 28, 29, 30, 31, 32, 33, 34, 35, 36, 37, 38, 39, 40, 41, 42, 43, 44, 45, 46, 47, 48, 49, 50, 51, 52, 53, 54, 55, 6, 7, 8, 74, 75, 76, 77, 78, 79, 80, 81, 82, 83, 84, 85, 86, 87, 88, 89, 90, 91, 92] (by decide +kernel) (by decide +kernel)
set_option maxRecDepth 20000 in
theorem gX2_earliest_X2_worksAll : GoodIn wsX2_earliest (wsV RX2 131 RX2 yX2_worksAll wsX2_worksAll) := goodIn_app (goodIn_of _ (by decide +kernel)) ggX2_earliest_X2_worksAll
set_option maxRecDepth 20000 in
theorem ggX2_earliest_X2_lays : GoodIn wsX2_earliest wsX2_lays := goodIn_r _ [59, 19, 29, 60, 22, 40, 74, 75, 76, 77, 78, 79, 80, 81, 82, 83, 84, 85, 86, 87, 88, 89, 90, 91, 92] (by decide +kernel) (by decide +kernel)
set_option maxRecDepth 20000 in
theorem gX2_earliest_X2_lays : GoodIn wsX2_earliest (wsV RX2 121 RX2 yX2_lays wsX2_lays) := goodIn_app (goodIn_of _ (by decide +kernel)) ggX2_earliest_X2_lays
set_option maxRecDepth 20000 in
theorem ggX2_earliest_X2_fits : GoodIn wsX2_earliest wsX2_fits := goodIn_r _ [64, 18, 23, 60, 65, 14, 15, 16, 4, 17, 19, 20, 21, 22, 24, 25, 26, 27, 28, 29, 30, 31, 32, 33, 34, 35, 36, 37, 38, 39, 40, 41, 42, 43, 44, 45, 46, 47, 48, 49, 50, 51, 52, 53, 54, 55, 6, 7, 8, 66, 67, 68, 69, 70, 71, 72, 73, 13, 74, 75, 76, 77, 78, 79, 80, 81, 82, 83, 84, 85, 86, 87, 88, 89, 90, 91, 92] (by decide +kernel) (by decide +kernel)
set_option maxRecDepth 20000 in
theorem gX2_earliest_X2_fits : GoodIn wsX2_earliest (wsV RX2 140 RX2 yX2_fits wsX2_fits) := goodIn_app (goodIn_of _ (by decide +kernel)) ggX2_earliest_X2_fits
theorem dX2_earliest_0 : decode cX2_earliest 0 = .ok (.aload_n 0, 1) := by decide +kernel
theorem dX2_earliest_1 : decode cX2_earliest 1 = .ok (.iload_n 1, 1) := by decide +kernel
theorem dX2_earliest_2 : decode cX2_earliest 2 = .ok (.iload_n 2, 1) := by decide +kernel
theorem dX2_earliest_3 : decode cX2_earliest 3 = .ok (.iload_n 3, 1) := by decide +kernel
theorem dX2_earliest_4 : decode cX2_earliest 4 = .ok (.iload 4, 2) := by decide +kernel
theorem dX2_earliest_6 : decode cX2_earliest 6 = .ok (.invokestatic 117, 3) := by decide +kernel
theorem dX2_earliest_9 : decode cX2_earliest 9 = .ok (.ifCond .eq 7, 3) := by decide +kernel
theorem dX2_earliest_12 : decode cX2_earliest 12 = .ok (.iconst 0, 1) := by decide +kernel
theorem dX2_earliest_13 : decode cX2_earliest 13 = .ok (.goto 4, 3) := by decide +kernel
theorem dX2_earliest_16 : decode cX2_earliest 16 = .ok (.iconst 1, 1) := by decide +kernel
theorem dX2_earliest_17 : decode cX2_earliest 17 = .ok (.putfield 66, 3) := by decide +kernel
theorem dX2_earliest_20 : decode cX2_earliest 20 = .ok (.aload_n 0, 1) := by decide +kernel
theorem dX2_earliest_21 : decode cX2_earliest 21 = .ok (.getfield 66, 3) := by decide +kernel
theorem dX2_earliest_24 : decode cX2_earliest 24 = .ok (.ifCond .le 5, 3) := by decide +kernel
theorem dX2_earliest_27 : decode cX2_earliest 27 = .ok (.iconst 0, 1) := by decide +kernel
theorem dX2_earliest_28 : decode cX2_earliest 28 = .ok (.ireturn, 1) := by decide +kernel
theorem dX2_earliest_29 : decode cX2_earliest 29 = .ok (.aload_n 0, 1) := by decide +kernel
theorem dX2_earliest_30 : decode cX2_earliest 30 = .ok (.invokevirtual 131, 3) := by decide +kernel
theorem dX2_earliest_33 : decode cX2_earliest 33 = .ok (.iload_n 1, 1) := by decide +kernel
theorem dX2_earliest_34 : decode cX2_earliest 34 = .ok (.istore 5, 2) := by decide +kernel
theorem dX2_earliest_36 : decode cX2_earliest 36 = .ok (.aload_n 0, 1) := by decide +kernel
theorem dX2_earliest_37 : decode cX2_earliest 37 = .ok (.bipush 10, 2) := by decide +kernel
theorem dX2_earliest_39 : decode cX2_earliest 39 = .ok (.iload 5, 2) := by decide +kernel
theorem dX2_earliest_41 : decode cX2_earliest 41 = .ok (.iload_n 2, 1) := by decide +kernel
theorem dX2_earliest_42 : decode cX2_earliest 42 = .ok (.iload_n 3, 1) := by decide +kernel
theorem dX2_earliest_43 : decode cX2_earliest 43 = .ok (.iload 4, 2) := by decide +kernel
theorem dX2_earliest_45 : decode cX2_earliest 45 = .ok (.invokevirtual 121, 3) := by decide +kernel
theorem dX2_earliest_48 : decode cX2_earliest 48 = .ok (.iload 5, 2) := by decide +kernel
theorem dX2_earliest_50 : decode cX2_earliest 50 = .ok (.sipush 900, 3) := by decide +kernel
theorem dX2_earliest_53 : decode cX2_earliest 53 = .ok (.if_icmp .gt 28, 3) := by decide +kernel
theorem dX2_earliest_56 : decode cX2_earliest 56 = .ok (.aload_n 0, 1) := by decide +kernel
theorem dX2_earliest_57 : decode cX2_earliest 57 = .ok (.invokevirtual 140, 3) := by decide +kernel
theorem dX2_earliest_60 : decode cX2_earliest 60 = .ok (.ifCond .ne 21, 3) := by decide +kernel
theorem dX2_earliest_63 : decode cX2_earliest 63 = .ok (.iinc 5 1, 3) := by decide +kernel
theorem dX2_earliest_66 : decode cX2_earliest 66 = .ok (.aload_n 0, 1) := by decide +kernel
theorem dX2_earliest_67 : decode cX2_earliest 67 = .ok (.bipush 10, 2) := by decide +kernel
theorem dX2_earliest_69 : decode cX2_earliest 69 = .ok (.iload 5, 2) := by decide +kernel
theorem dX2_earliest_71 : decode cX2_earliest 71 = .ok (.iload_n 2, 1) := by decide +kernel
theorem dX2_earliest_72 : decode cX2_earliest 72 = .ok (.iload_n 3, 1) := by decide +kernel
theorem dX2_earliest_73 : decode cX2_earliest 73 = .ok (.iload 4, 2) := by decide +kernel
theorem dX2_earliest_75 : decode cX2_earliest 75 = .ok (.invokevirtual 121, 3) := by decide +kernel
theorem dX2_earliest_78 : decode cX2_earliest 78 = .ok (.goto (-30), 3) := by decide +kernel
theorem dX2_earliest_81 : decode cX2_earliest 81 = .ok (.iload 5, 2) := by decide +kernel
theorem dX2_earliest_83 : decode cX2_earliest 83 = .ok (.sipush 900, 3) := by decide +kernel
theorem dX2_earliest_86 : decode cX2_earliest 86 = .ok (.if_icmp .gt 8, 3) := by decide +kernel
theorem dX2_earliest_89 : decode cX2_earliest 89 = .ok (.iload 5, 2) := by decide +kernel
theorem dX2_earliest_91 : decode cX2_earliest 91 = .ok (.goto 4, 3) := by decide +kernel
theorem dX2_earliest_94 : decode cX2_earliest 94 = .ok (.iconst (-1), 1) := by decide +kernel
theorem dX2_earliest_95 : decode cX2_earliest 95 = .ok (.ireturn, 1) := by decide +kernel
set_option maxRecDepth 20000 in
theorem ggX2_isTaken_X2_isBusy : GoodIn wsX2_isTaken wsX2_isBusy := goodIn_r _ [6, 7, 8, 9, 10, 11, 12, 13, 14, 15, 16, 17, 18, 19, 20, 21, 22, 23, 24, 25, 26, 27, 28] (by decide +kernel) (by decide +kernel)
set_option maxRecDepth 20000 in
theorem gX2_isTaken_X2_isBusy : GoodIn wsX2_isTaken (wsV RX2 102 RX2 yX2_isBusy wsX2_isBusy) := goodIn_app (goodIn_of _ (by decide +kernel)) ggX2_isTaken_X2_isBusy
theorem dX2_isTaken_0 : decode cX2_isTaken 0 = .ok (.iconst 0, 1) := by decide +kernel
theorem dX2_isTaken_1 : decode cX2_isTaken 1 = .ok (.istore_n 3, 1) := by decide +kernel
theorem dX2_isTaken_2 : decode cX2_isTaken 2 = .ok (.iconst 0, 1) := by decide +kernel
theorem dX2_isTaken_3 : decode cX2_isTaken 3 = .ok (.istore 4, 2) := by decide +kernel
theorem dX2_isTaken_5 : decode cX2_isTaken 5 = .ok (.iload 4, 2) := by decide +kernel
theorem dX2_isTaken_7 : decode cX2_isTaken 7 = .ok (.bipush 10, 2) := by decide +kernel
theorem dX2_isTaken_9 : decode cX2_isTaken 9 = .ok (.if_icmp .ge 44, 3) := by decide +kernel
theorem dX2_isTaken_12 : decode cX2_isTaken 12 = .ok (.iload_n 3, 1) := by decide +kernel
theorem dX2_isTaken_13 : decode cX2_isTaken 13 = .ok (.ifCond .ne 28, 3) := by decide +kernel
theorem dX2_isTaken_16 : decode cX2_isTaken 16 = .ok (.aload_n 0, 1) := by decide +kernel
theorem dX2_isTaken_17 : decode cX2_isTaken 17 = .ok (.getfield 63, 3) := by decide +kernel
theorem dX2_isTaken_20 : decode cX2_isTaken 20 = .ok (.bipush 60, 2) := by decide +kernel
theorem dX2_isTaken_22 : decode cX2_isTaken 22 = .ok (.iload 4, 2) := by decide +kernel
theorem dX2_isTaken_24 : decode cX2_isTaken 24 = .ok (.imul, 1) := by decide +kernel
theorem dX2_isTaken_25 : decode cX2_isTaken 25 = .ok (.iload_n 1, 1) := by decide +kernel
theorem dX2_isTaken_26 : decode cX2_isTaken 26 = .ok (.iadd, 1) := by decide +kernel
theorem dX2_isTaken_27 : decode cX2_isTaken 27 = .ok (.baload, 1) := by decide +kernel
theorem dX2_isTaken_28 : decode cX2_isTaken 28 = .ok (.ifCond .eq 17, 3) := by decide +kernel
theorem dX2_isTaken_31 : decode cX2_isTaken 31 = .ok (.aload_n 0, 1) := by decide +kernel
theorem dX2_isTaken_32 : decode cX2_isTaken 32 = .ok (.iload 4, 2) := by decide +kernel
theorem dX2_isTaken_34 : decode cX2_isTaken 34 = .ok (.iload_n 2, 1) := by decide +kernel
theorem dX2_isTaken_35 : decode cX2_isTaken 35 = .ok (.invokevirtual 102, 3) := by decide +kernel
theorem dX2_isTaken_38 : decode cX2_isTaken 38 = .ok (.ifCond .eq 7, 3) := by decide +kernel
theorem dX2_isTaken_41 : decode cX2_isTaken 41 = .ok (.iconst 1, 1) := by decide +kernel
theorem dX2_isTaken_42 : decode cX2_isTaken 42 = .ok (.goto 4, 3) := by decide +kernel
theorem dX2_isTaken_45 : decode cX2_isTaken 45 = .ok (.iconst 0, 1) := by decide +kernel
theorem dX2_isTaken_46 : decode cX2_isTaken 46 = .ok (.istore_n 3, 1) := by decide +kernel
theorem dX2_isTaken_47 : decode cX2_isTaken 47 = .ok (.iinc 4 1, 3) := by decide +kernel
theorem dX2_isTaken_50 : decode cX2_isTaken 50 = .ok (.goto (-45), 3) := by decide +kernel
theorem dX2_isTaken_53 : decode cX2_isTaken 53 = .ok (.iload_n 3, 1) := by decide +kernel
theorem dX2_isTaken_54 : decode cX2_isTaken 54 = .ok (.ireturn, 1) := by decide +kernel
set_option maxRecDepth 20000 in
theorem ggX2_gives_X2_worksAll : GoodIn wsX2_gives wsX2_worksAll := goodIn_r _ [10, 2, 11, 12, 13, 9, 14, 3, 15, 16, 17, 18, 19, 20, 21, 22, 23, 24, 25, 26, 27, 28, 29, 30, 31, 32, 33, 34, 35, 36, 37, 38, 39, 40, 41, 42, 43, 44, 45, 46, 47, 48, 49, 50, 51, 52, 53, 54, 63, 64, 65, 66, 67, 68, 69, 70, 71, 72, 73, 74, 75, 76, 77, 78, 79, 80, 81] (by decide +kernel) (by decide +kernel)
set_option maxRecDepth 20000 in
theorem gX2_gives_X2_worksAll : GoodIn wsX2_gives (wsV RX2 131 RX2 yX2_worksAll wsX2_worksAll) := goodIn_app (goodIn_of _ (by decide +kernel)) ggX2_gives_X2_worksAll
set_option maxRecDepth 20000 in
theorem ggX2_gives_X2_isTaken : GoodIn wsX2_gives wsX2_isTaken := goodIn_r _ [58, 1, 59, 60, 61, 9, 62, 2, 3, 19, 63, 64, 65, 66, 67, 68, 69, 70, 71, 72, 73, 74, 75, 76, 77, 78, 79, 80, 81] (by decide +kernel) (by decide +kernel)
set_option maxRecDepth 20000 in
theorem gX2_gives_X2_isTaken : GoodIn wsX2_gives (wsV RX2 144 RX2 yX2_isTaken wsX2_isTaken) := goodIn_app (goodIn_of _ (by decide +kernel)) ggX2_gives_X2_isTaken
theorem dX2_gives_0 : decode cX2_gives 0 = .ok (.aload_n 0, 1) := by decide +kernel
theorem dX2_gives_1 : decode cX2_gives 1 = .ok (.invokevirtual 131, 3) := by decide +kernel
theorem dX2_gives_4 : decode cX2_gives 4 = .ok (.iconst 0, 1) := by decide +kernel
theorem dX2_gives_5 : decode cX2_gives 5 = .ok (.istore_n 1, 1) := by decide +kernel
theorem dX2_gives_6 : decode cX2_gives 6 = .ok (.iload_n 1, 1) := by decide +kernel
theorem dX2_gives_7 : decode cX2_gives 7 = .ok (.sipush 600, 3) := by decide +kernel
theorem dX2_gives_10 : decode cX2_gives 10 = .ok (.if_icmp .ge 16, 3) := by decide +kernel
theorem dX2_gives_13 : decode cX2_gives 13 = .ok (.aload_n 0, 1) := by decide +kernel
theorem dX2_gives_14 : decode cX2_gives 14 = .ok (.getfield 63, 3) := by decide +kernel
theorem dX2_gives_17 : decode cX2_gives 17 = .ok (.iload_n 1, 1) := by decide +kernel
theorem dX2_gives_18 : decode cX2_gives 18 = .ok (.iconst 0, 1) := by decide +kernel
theorem dX2_gives_19 : decode cX2_gives 19 = .ok (.bastore, 1) := by decide +kernel
theorem dX2_gives_20 : decode cX2_gives 20 = .ok (.iinc 1 1, 3) := by decide +kernel
theorem dX2_gives_23 : decode cX2_gives 23 = .ok (.goto (-17), 3) := by decide +kernel
theorem dX2_gives_26 : decode cX2_gives 26 = .ok (.iconst 0, 1) := by decide +kernel
theorem dX2_gives_27 : decode cX2_gives 27 = .ok (.istore_n 1, 1) := by decide +kernel
theorem dX2_gives_28 : decode cX2_gives 28 = .ok (.iload_n 1, 1) := by decide +kernel
theorem dX2_gives_29 : decode cX2_gives 29 = .ok (.sipush 1000, 3) := by decide +kernel
theorem dX2_gives_32 : decode cX2_gives 32 = .ok (.if_icmp .ge 101, 3) := by decide +kernel
theorem dX2_gives_35 : decode cX2_gives 35 = .ok (.iconst 0, 1) := by decide +kernel
theorem dX2_gives_36 : decode cX2_gives 36 = .ok (.istore_n 2, 1) := by decide +kernel
theorem dX2_gives_37 : decode cX2_gives 37 = .ok (.iload_n 2, 1) := by decide +kernel
theorem dX2_gives_38 : decode cX2_gives 38 = .ok (.bipush 10, 2) := by decide +kernel
theorem dX2_gives_40 : decode cX2_gives 40 = .ok (.if_icmp .ge 87, 3) := by decide +kernel
theorem dX2_gives_43 : decode cX2_gives 43 = .ok (.aload_n 0, 1) := by decide +kernel
theorem dX2_gives_44 : decode cX2_gives 44 = .ok (.getfield 29, 3) := by decide +kernel
theorem dX2_gives_47 : decode cX2_gives 47 = .ok (.iload_n 2, 1) := by decide +kernel
theorem dX2_gives_48 : decode cX2_gives 48 = .ok (.baload, 1) := by decide +kernel
theorem dX2_gives_49 : decode cX2_gives 49 = .ok (.ifCond .eq 22, 3) := by decide +kernel
theorem dX2_gives_52 : decode cX2_gives 52 = .ok (.aload_n 0, 1) := by decide +kernel
theorem dX2_gives_53 : decode cX2_gives 53 = .ok (.getfield 54, 3) := by decide +kernel
theorem dX2_gives_56 : decode cX2_gives 56 = .ok (.iload_n 2, 1) := by decide +kernel
theorem dX2_gives_57 : decode cX2_gives 57 = .ok (.iaload, 1) := by decide +kernel
theorem dX2_gives_58 : decode cX2_gives 58 = .ok (.iload_n 1, 1) := by decide +kernel
theorem dX2_gives_59 : decode cX2_gives 59 = .ok (.if_icmp .ne 12, 3) := by decide +kernel
theorem dX2_gives_62 : decode cX2_gives 62 = .ok (.aload_n 0, 1) := by decide +kernel
theorem dX2_gives_63 : decode cX2_gives 63 = .ok (.getfield 39, 3) := by decide +kernel
theorem dX2_gives_66 : decode cX2_gives 66 = .ok (.iload_n 2, 1) := by decide +kernel
theorem dX2_gives_67 : decode cX2_gives 67 = .ok (.iaload, 1) := by decide +kernel
theorem dX2_gives_68 : decode cX2_gives 68 = .ok (.goto 4, 3) := by decide +kernel
theorem dX2_gives_71 : decode cX2_gives 71 = .ok (.iconst 0, 1) := by decide +kernel
theorem dX2_gives_72 : decode cX2_gives 72 = .ok (.istore_n 3, 1) := by decide +kernel
theorem dX2_gives_73 : decode cX2_gives 73 = .ok (.iconst 0, 1) := by decide +kernel
theorem dX2_gives_74 : decode cX2_gives 74 = .ok (.istore 4, 2) := by decide +kernel
theorem dX2_gives_76 : decode cX2_gives 76 = .ok (.iload 4, 2) := by decide +kernel
theorem dX2_gives_78 : decode cX2_gives 78 = .ok (.aload_n 0, 1) := by decide +kernel
theorem dX2_gives_79 : decode cX2_gives 79 = .ok (.getfield 13, 3) := by decide +kernel
theorem dX2_gives_82 : decode cX2_gives 82 = .ok (.if_icmp .ge 39, 3) := by decide +kernel
theorem dX2_gives_85 : decode cX2_gives 85 = .ok (.iload_n 3, 1) := by decide +kernel
theorem dX2_gives_86 : decode cX2_gives 86 = .ok (.ifCond .le 35, 3) := by decide +kernel
theorem dX2_gives_89 : decode cX2_gives 89 = .ok (.aload_n 0, 1) := by decide +kernel
theorem dX2_gives_90 : decode cX2_gives 90 = .ok (.iload 4, 2) := by decide +kernel
theorem dX2_gives_92 : decode cX2_gives 92 = .ok (.iload_n 1, 1) := by decide +kernel
theorem dX2_gives_93 : decode cX2_gives 93 = .ok (.invokevirtual 144, 3) := by decide +kernel
theorem dX2_gives_96 : decode cX2_gives 96 = .ok (.ifCond .ne 19, 3) := by decide +kernel
theorem dX2_gives_99 : decode cX2_gives 99 = .ok (.aload_n 0, 1) := by decide +kernel
theorem dX2_gives_100 : decode cX2_gives 100 = .ok (.getfield 63, 3) := by decide +kernel
theorem dX2_gives_103 : decode cX2_gives 103 = .ok (.bipush 60, 2) := by decide +kernel
theorem dX2_gives_105 : decode cX2_gives 105 = .ok (.iload_n 2, 1) := by decide +kernel
theorem dX2_gives_106 : decode cX2_gives 106 = .ok (.imul, 1) := by decide +kernel
theorem dX2_gives_107 : decode cX2_gives 107 = .ok (.iload 4, 2) := by decide +kernel
theorem dX2_gives_109 : decode cX2_gives 109 = .ok (.iadd, 1) := by decide +kernel
theorem dX2_gives_110 : decode cX2_gives 110 = .ok (.iconst 1, 1) := by decide +kernel
theorem dX2_gives_111 : decode cX2_gives 111 = .ok (.bastore, 1) := by decide +kernel
theorem dX2_gives_112 : decode cX2_gives 112 = .ok (.iinc 3 (-1), 3) := by decide +kernel
theorem dX2_gives_115 : decode cX2_gives 115 = .ok (.iinc 4 1, 3) := by decide +kernel
theorem dX2_gives_118 : decode cX2_gives 118 = .ok (.goto (-42), 3) := by decide +kernel
theorem dX2_gives_121 : decode cX2_gives 121 = .ok (.iinc 2 1, 3) := by decide +kernel
theorem dX2_gives_124 : decode cX2_gives 124 = .ok (.goto (-87), 3) := by decide +kernel
theorem dX2_gives_127 : decode cX2_gives 127 = .ok (.iinc 1 1, 3) := by decide +kernel
theorem dX2_gives_130 : decode cX2_gives 130 = .ok (.goto (-102), 3) := by decide +kernel
theorem dX2_gives_133 : decode cX2_gives 133 = .ok (.return_, 1) := by decide +kernel
set_option maxRecDepth 20000 in
theorem ggX2_panelsOf_X2_isPour : GoodIn wsX2_panelsOf wsX2_isPour := goodIn_r _ [7, 8, 9, 10, 6, 11, 72, 73, 74, 75, 76, 77, 78, 79, 80, 81, 82, 83, 84, 85, 86, 87, 88, 89, 90] (by decide +kernel) (by decide +kernel)
set_option maxRecDepth 20000 in
theorem gX2_panelsOf_X2_isPour : GoodIn wsX2_panelsOf (wsV RX2 125 RX2 yX2_isPour wsX2_isPour) := goodIn_app (goodIn_of _ (by decide +kernel)) ggX2_panelsOf_X2_isPour
set_option maxRecDepth 20000 in
theorem ggX2_panelsOf_X2_gives : GoodIn wsX2_panelsOf wsX2_gives := goodIn_r _ [15, 2, 8, 16, 17, 18, 19, 20, 21, 6, 22, 23, 24, 25, 26, 27, 28, 29, 30, 31, 32, 33, 34, 35, 36, 37, 38, 39, 40, 41, 42, 43, 44, 45, 46, 47, 48, 49, 50, 51, 52, 53, 54, 55, 56, 57, 58, 59, 60, 61, 62, 63, 9, 10, 11, 64, 65, 66, 67, 68, 69, 70, 71, 72, 73, 74, 75, 76, 77, 78, 79, 80, 81, 82, 83, 84, 85, 86, 87, 88, 89, 90] (by decide +kernel) (by decide +kernel)
set_option maxRecDepth 20000 in
theorem gX2_panelsOf_X2_gives : GoodIn wsX2_panelsOf (wsV RX2 147 RX2 yX2_gives wsX2_gives) := goodIn_app (goodIn_of _ (by decide +kernel)) ggX2_panelsOf_X2_gives
theorem dX2_panelsOf_0 : decode cX2_panelsOf 0 = .ok (.aload_n 0, 1) := by decide +kernel
theorem dX2_panelsOf_1 : decode cX2_panelsOf 1 = .ok (.aload_n 0, 1) := by decide +kernel
theorem dX2_panelsOf_2 : decode cX2_panelsOf 2 = .ok (.iload_n 1, 1) := by decide +kernel
theorem dX2_panelsOf_3 : decode cX2_panelsOf 3 = .ok (.invokevirtual 125, 3) := by decide +kernel
theorem dX2_panelsOf_6 : decode cX2_panelsOf 6 = .ok (.ifCond .eq 7, 3) := by decide +kernel
theorem dX2_panelsOf_9 : decode cX2_panelsOf 9 = .ok (.iconst 0, 1) := by decide +kernel
theorem dX2_panelsOf_10 : decode cX2_panelsOf 10 = .ok (.goto 4, 3) := by decide +kernel
theorem dX2_panelsOf_13 : decode cX2_panelsOf 13 = .ok (.iconst 1, 1) := by decide +kernel
theorem dX2_panelsOf_14 : decode cX2_panelsOf 14 = .ok (.putfield 66, 3) := by decide +kernel
theorem dX2_panelsOf_17 : decode cX2_panelsOf 17 = .ok (.aload_n 0, 1) := by decide +kernel
theorem dX2_panelsOf_18 : decode cX2_panelsOf 18 = .ok (.invokevirtual 147, 3) := by decide +kernel
theorem dX2_panelsOf_21 : decode cX2_panelsOf 21 = .ok (.iconst 0, 1) := by decide +kernel
theorem dX2_panelsOf_22 : decode cX2_panelsOf 22 = .ok (.istore_n 2, 1) := by decide +kernel
theorem dX2_panelsOf_23 : decode cX2_panelsOf 23 = .ok (.iconst 0, 1) := by decide +kernel
theorem dX2_panelsOf_24 : decode cX2_panelsOf 24 = .ok (.istore_n 3, 1) := by decide +kernel
theorem dX2_panelsOf_25 : decode cX2_panelsOf 25 = .ok (.iload_n 3, 1) := by decide +kernel
theorem dX2_panelsOf_26 : decode cX2_panelsOf 26 = .ok (.bipush 60, 2) := by decide +kernel
theorem dX2_panelsOf_28 : decode cX2_panelsOf 28 = .ok (.if_icmp .ge 38, 3) := by decide +kernel
theorem dX2_panelsOf_31 : decode cX2_panelsOf 31 = .ok (.aload_n 0, 1) := by decide +kernel
theorem dX2_panelsOf_32 : decode cX2_panelsOf 32 = .ok (.getfield 66, 3) := by decide +kernel
theorem dX2_panelsOf_35 : decode cX2_panelsOf 35 = .ok (.ifCond .ne 31, 3) := by decide +kernel
theorem dX2_panelsOf_38 : decode cX2_panelsOf 38 = .ok (.iload_n 2, 1) := by decide +kernel
theorem dX2_panelsOf_39 : decode cX2_panelsOf 39 = .ok (.aload_n 0, 1) := by decide +kernel
theorem dX2_panelsOf_40 : decode cX2_panelsOf 40 = .ok (.getfield 63, 3) := by decide +kernel
theorem dX2_panelsOf_43 : decode cX2_panelsOf 43 = .ok (.bipush 60, 2) := by decide +kernel
theorem dX2_panelsOf_45 : decode cX2_panelsOf 45 = .ok (.iload_n 1, 1) := by decide +kernel
theorem dX2_panelsOf_46 : decode cX2_panelsOf 46 = .ok (.imul, 1) := by decide +kernel
theorem dX2_panelsOf_47 : decode cX2_panelsOf 47 = .ok (.iload_n 3, 1) := by decide +kernel
theorem dX2_panelsOf_48 : decode cX2_panelsOf 48 = .ok (.iadd, 1) := by decide +kernel
theorem dX2_panelsOf_49 : decode cX2_panelsOf 49 = .ok (.baload, 1) := by decide +kernel
theorem dX2_panelsOf_50 : decode cX2_panelsOf 50 = .ok (.ifCond .eq 7, 3) := by decide +kernel
theorem dX2_panelsOf_53 : decode cX2_panelsOf 53 = .ok (.iconst 1, 1) := by decide +kernel
theorem dX2_panelsOf_54 : decode cX2_panelsOf 54 = .ok (.goto 4, 3) := by decide +kernel
theorem dX2_panelsOf_57 : decode cX2_panelsOf 57 = .ok (.iconst 0, 1) := by decide +kernel
theorem dX2_panelsOf_58 : decode cX2_panelsOf 58 = .ok (.iadd, 1) := by decide +kernel
theorem dX2_panelsOf_59 : decode cX2_panelsOf 59 = .ok (.istore_n 2, 1) := by decide +kernel
