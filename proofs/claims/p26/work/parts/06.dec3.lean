theorem dL_isStruck_16 : decode cL_isStruck 16 = .ok (.invokevirtual 17, 3) := by decide +kernel
theorem dL_isStruck_19 : decode cL_isStruck 19 = .ok (.istore 6, 2) := by decide +kernel
theorem dL_isStruck_21 : decode cL_isStruck 21 = .ok (.iload 5, 2) := by decide +kernel
theorem dL_isStruck_23 : decode cL_isStruck 23 = .ok (.ifCond .ge 48, 3) := by decide +kernel
theorem dL_isStruck_26 : decode cL_isStruck 26 = .ok (.iload 5, 2) := by decide +kernel
theorem dL_isStruck_28 : decode cL_isStruck 28 = .ok (.iconst (-1), 1) := by decide +kernel
theorem dL_isStruck_29 : decode cL_isStruck 29 = .ok (.if_icmp .ne 40, 3) := by decide +kernel
theorem dL_isStruck_32 : decode cL_isStruck 32 = .ok (.iload 6, 2) := by decide +kernel
theorem dL_isStruck_34 : decode cL_isStruck 34 = .ok (.iconst (-1), 1) := by decide +kernel
theorem dL_isStruck_35 : decode cL_isStruck 35 = .ok (.if_icmp .ne 34, 3) := by decide +kernel
theorem dL_isStruck_38 : decode cL_isStruck 38 = .ok (.iload 4, 2) := by decide +kernel
theorem dL_isStruck_40 : decode cL_isStruck 40 = .ok (.sipush 999, 3) := by decide +kernel
theorem dL_isStruck_43 : decode cL_isStruck 43 = .ok (.if_icmp .gt 22, 3) := by decide +kernel
theorem dL_isStruck_46 : decode cL_isStruck 46 = .ok (.aload_n 0, 1) := by decide +kernel
theorem dL_isStruck_47 : decode cL_isStruck 47 = .ok (.aload_n 0, 1) := by decide +kernel
theorem dL_isStruck_48 : decode cL_isStruck 48 = .ok (.iload 4, 2) := by decide +kernel
theorem dL_isStruck_50 : decode cL_isStruck 50 = .ok (.sipush 999, 3) := by decide +kernel
theorem dL_isStruck_53 : decode cL_isStruck 53 = .ok (.invokevirtual 20, 3) := by decide +kernel
theorem dL_isStruck_56 : decode cL_isStruck 56 = .ok (.invokevirtual 24, 3) := by decide +kernel
theorem dL_isStruck_59 : decode cL_isStruck 59 = .ok (.aload_n 1, 1) := by decide +kernel
theorem dL_isStruck_60 : decode cL_isStruck 60 = .ok (.iload_n 3, 1) := by decide +kernel
theorem dL_isStruck_61 : decode cL_isStruck 61 = .ok (.iaload, 1) := by decide +kernel
theorem dL_isStruck_62 : decode cL_isStruck 62 = .ok (.if_icmp .ge 7, 3) := by decide +kernel
theorem dL_isStruck_65 : decode cL_isStruck 65 = .ok (.iconst 1, 1) := by decide +kernel
theorem dL_isStruck_66 : decode cL_isStruck 66 = .ok (.goto 4, 3) := by decide +kernel
theorem dL_isStruck_69 : decode cL_isStruck 69 = .ok (.iconst 0, 1) := by decide +kernel
theorem dL_isStruck_70 : decode cL_isStruck 70 = .ok (.ireturn, 1) := by decide +kernel
theorem dL_isStruck_71 : decode cL_isStruck 71 = .ok (.iload 5, 2) := by decide +kernel
theorem dL_isStruck_73 : decode cL_isStruck 73 = .ok (.iload 4, 2) := by decide +kernel
theorem dL_isStruck_75 : decode cL_isStruck 75 = .ok (.if_icmp .le 53, 3) := by decide +kernel
theorem dL_isStruck_78 : decode cL_isStruck 78 = .ok (.iload 5, 2) := by decide +kernel
theorem dL_isStruck_80 : decode cL_isStruck 80 = .ok (.sipush 999, 3) := by decide +kernel
theorem dL_isStruck_83 : decode cL_isStruck 83 = .ok (.if_icmp .gt 45, 3) := by decide +kernel
theorem dL_isStruck_86 : decode cL_isStruck 86 = .ok (.aload_n 0, 1) := by decide +kernel
theorem dL_isStruck_87 : decode cL_isStruck 87 = .ok (.aload_n 0, 1) := by decide +kernel
theorem dL_isStruck_88 : decode cL_isStruck 88 = .ok (.iload 4, 2) := by decide +kernel
theorem dL_isStruck_90 : decode cL_isStruck 90 = .ok (.iload 5, 2) := by decide +kernel
theorem dL_isStruck_92 : decode cL_isStruck 92 = .ok (.invokevirtual 20, 3) := by decide +kernel
theorem dL_isStruck_95 : decode cL_isStruck 95 = .ok (.invokevirtual 24, 3) := by decide +kernel
theorem dL_isStruck_98 : decode cL_isStruck 98 = .ok (.aload_n 1, 1) := by decide +kernel
theorem dL_isStruck_99 : decode cL_isStruck 99 = .ok (.iload_n 3, 1) := by decide +kernel
theorem dL_isStruck_100 : decode cL_isStruck 100 = .ok (.iaload, 1) := by decide +kernel
theorem dL_isStruck_101 : decode cL_isStruck 101 = .ok (.if_icmp .lt 27, 3) := by decide +kernel
theorem dL_isStruck_104 : decode cL_isStruck 104 = .ok (.aload_n 0, 1) := by decide +kernel
theorem dL_isStruck_105 : decode cL_isStruck 105 = .ok (.aload_n 0, 1) := by decide +kernel
theorem dL_isStruck_106 : decode cL_isStruck 106 = .ok (.iload 4, 2) := by decide +kernel
theorem dL_isStruck_108 : decode cL_isStruck 108 = .ok (.iload 5, 2) := by decide +kernel
theorem dL_isStruck_110 : decode cL_isStruck 110 = .ok (.iconst 1, 1) := by decide +kernel
theorem dL_isStruck_111 : decode cL_isStruck 111 = .ok (.isub, 1) := by decide +kernel
theorem dL_isStruck_112 : decode cL_isStruck 112 = .ok (.invokevirtual 20, 3) := by decide +kernel
theorem dL_isStruck_115 : decode cL_isStruck 115 = .ok (.invokevirtual 24, 3) := by decide +kernel
theorem dL_isStruck_118 : decode cL_isStruck 118 = .ok (.aload_n 1, 1) := by decide +kernel
theorem dL_isStruck_119 : decode cL_isStruck 119 = .ok (.iload_n 3, 1) := by decide +kernel
theorem dL_isStruck_120 : decode cL_isStruck 120 = .ok (.iaload, 1) := by decide +kernel
theorem dL_isStruck_121 : decode cL_isStruck 121 = .ok (.if_icmp .ge 7, 3) := by decide +kernel
theorem dL_isStruck_124 : decode cL_isStruck 124 = .ok (.iconst 1, 1) := by decide +kernel
theorem dL_isStruck_125 : decode cL_isStruck 125 = .ok (.goto 4, 3) := by decide +kernel
theorem dL_isStruck_128 : decode cL_isStruck 128 = .ok (.iconst 0, 1) := by decide +kernel
theorem dL_isStruck_129 : decode cL_isStruck 129 = .ok (.istore 7, 2) := by decide +kernel
theorem dL_isStruck_131 : decode cL_isStruck 131 = .ok (.iload 7, 2) := by decide +kernel
theorem dL_isStruck_133 : decode cL_isStruck 133 = .ok (.ifCond .eq 34, 3) := by decide +kernel
theorem dL_isStruck_136 : decode cL_isStruck 136 = .ok (.iload 6, 2) := by decide +kernel
theorem dL_isStruck_138 : decode cL_isStruck 138 = .ok (.iload 5, 2) := by decide +kernel
theorem dL_isStruck_140 : decode cL_isStruck 140 = .ok (.aload_n 2, 1) := by decide +kernel
theorem dL_isStruck_141 : decode cL_isStruck 141 = .ok (.iconst 1, 1) := by decide +kernel
theorem dL_isStruck_142 : decode cL_isStruck 142 = .ok (.iaload, 1) := by decide +kernel
theorem dL_isStruck_143 : decode cL_isStruck 143 = .ok (.iadd, 1) := by decide +kernel
theorem dL_isStruck_144 : decode cL_isStruck 144 = .ok (.sipush 999, 3) := by decide +kernel
theorem dL_isStruck_147 : decode cL_isStruck 147 = .ok (.if_icmp .le 7, 3) := by decide +kernel
theorem dL_isStruck_150 : decode cL_isStruck 150 = .ok (.iconst (-1), 1) := by decide +kernel
theorem dL_isStruck_151 : decode cL_isStruck 151 = .ok (.goto 9, 3) := by decide +kernel
theorem dL_isStruck_154 : decode cL_isStruck 154 = .ok (.iload 5, 2) := by decide +kernel
theorem dL_isStruck_156 : decode cL_isStruck 156 = .ok (.aload_n 2, 1) := by decide +kernel
theorem dL_isStruck_157 : decode cL_isStruck 157 = .ok (.iconst 1, 1) := by decide +kernel
theorem dL_isStruck_158 : decode cL_isStruck 158 = .ok (.iaload, 1) := by decide +kernel
theorem dL_isStruck_159 : decode cL_isStruck 159 = .ok (.iadd, 1) := by decide +kernel
theorem dL_isStruck_160 : decode cL_isStruck 160 = .ok (.if_icmp .ne 7, 3) := by decide +kernel
theorem dL_isStruck_163 : decode cL_isStruck 163 = .ok (.iconst 1, 1) := by decide +kernel
theorem dL_isStruck_164 : decode cL_isStruck 164 = .ok (.goto 4, 3) := by decide +kernel
theorem dL_isStruck_167 : decode cL_isStruck 167 = .ok (.iconst 0, 1) := by decide +kernel
theorem dL_isStruck_168 : decode cL_isStruck 168 = .ok (.ireturn, 1) := by decide +kernel
set_option maxRecDepth 20000 in
theorem ggL_isBusy_X1_freeFrom : GoodIn wsL_isBusy wsX1_freeFrom := goodIn_ca (goodIn_r _ [5, 6, 7, 8, 4, 9, 10, 11, 12, 13, 14, 15, 16, 17, 18, 19, 20, 21, 22, 23, 24, 25, 26, 27, 28, 29, 30, 31, 32, 33, 34, 35, 36, 37] (by decide +kernel) (by decide +kernel)) (goodIn_sub (fun _ h => List.mem_cons_of_mem _ (List.mem_append_right _ h)) (by decide +kernel))
set_option maxRecDepth 20000 in
theorem gL_isBusy_X1_freeFrom : GoodIn wsL_isBusy (wsV RL 17 RX1 yX1_freeFrom wsX1_freeFrom) := goodIn_app (goodIn_of _ (by decide +kernel)) ggL_isBusy_X1_freeFrom
theorem dL_isBusy_0 : decode cL_isBusy 0 = .ok (.aload_n 1, 1) := by decide +kernel
theorem dL_isBusy_1 : decode cL_isBusy 1 = .ok (.iload_n 3, 1) := by decide +kernel
theorem dL_isBusy_2 : decode cL_isBusy 2 = .ok (.iaload, 1) := by decide +kernel
theorem dL_isBusy_3 : decode cL_isBusy 3 = .ok (.aload_n 2, 1) := by decide +kernel
theorem dL_isBusy_4 : decode cL_isBusy 4 = .ok (.iconst 0, 1) := by decide +kernel
theorem dL_isBusy_5 : decode cL_isBusy 5 = .ok (.iaload, 1) := by decide +kernel
theorem dL_isBusy_6 : decode cL_isBusy 6 = .ok (.isub, 1) := by decide +kernel
theorem dL_isBusy_7 : decode cL_isBusy 7 = .ok (.istore 5, 2) := by decide +kernel
theorem dL_isBusy_9 : decode cL_isBusy 9 = .ok (.aload_n 0, 1) := by decide +kernel
theorem dL_isBusy_10 : decode cL_isBusy 10 = .ok (.iload_n 3, 1) := by decide +kernel
theorem dL_isBusy_11 : decode cL_isBusy 11 = .ok (.invokevirtual 17, 3) := by decide +kernel
theorem dL_isBusy_14 : decode cL_isBusy 14 = .ok (.istore 6, 2) := by decide +kernel
theorem dL_isBusy_16 : decode cL_isBusy 16 = .ok (.iload 4, 2) := by decide +kernel
theorem dL_isBusy_18 : decode cL_isBusy 18 = .ok (.iload 5, 2) := by decide +kernel
theorem dL_isBusy_20 : decode cL_isBusy 20 = .ok (.if_icmp .lt 19, 3) := by decide +kernel
theorem dL_isBusy_23 : decode cL_isBusy 23 = .ok (.iload 6, 2) := by decide +kernel
theorem dL_isBusy_25 : decode cL_isBusy 25 = .ok (.ifCond .lt 10, 3) := by decide +kernel
theorem dL_isBusy_28 : decode cL_isBusy 28 = .ok (.iload 4, 2) := by decide +kernel
theorem dL_isBusy_30 : decode cL_isBusy 30 = .ok (.iload 6, 2) := by decide +kernel
theorem dL_isBusy_32 : decode cL_isBusy 32 = .ok (.if_icmp .ge 7, 3) := by decide +kernel
theorem dL_isBusy_35 : decode cL_isBusy 35 = .ok (.iconst 1, 1) := by decide +kernel
theorem dL_isBusy_36 : decode cL_isBusy 36 = .ok (.goto 4, 3) := by decide +kernel
theorem dL_isBusy_39 : decode cL_isBusy 39 = .ok (.iconst 0, 1) := by decide +kernel
theorem dL_isBusy_40 : decode cL_isBusy 40 = .ok (.ireturn, 1) := by decide +kernel
set_option maxRecDepth 20000 in
theorem ggL_isHour_L_isBusy : GoodIn wsL_isHour wsL_isBusy := goodIn_ca (goodIn_r _ [4, 5, 6, 7, 8, 9, 10, 11, 12, 13, 14, 15, 16, 17, 18, 19, 91, 92, 93, 94, 95, 96, 97, 98, 99, 100, 101, 102, 103, 104, 105, 106, 107, 108, 109, 110, 111, 112] (by decide +kernel) (by decide +kernel)) (goodIn_sub (fun _ h => List.mem_cons_of_mem _ (List.mem_append_left _ (List.mem_append_right _ h))) (by decide +kernel))
set_option maxRecDepth 20000 in
theorem gL_isHour_L_isBusy : GoodIn wsL_isHour (va_wsS RL 27 yL_isBusy wsL_isBusy) := goodIn_app (goodIn_of _ (by decide +kernel)) ggL_isHour_L_isBusy
set_option maxRecDepth 20000 in
theorem ggL_isHour_X1_panelsOf : GoodIn wsL_isHour wsX1_panelsOf := goodIn_ca (goodIn_r _ [23, 10, 11, 12, 8, 13, 14, 15, 16, 17, 18, 19, 24, 25, 26, 27, 28, 29, 30, 31, 32, 33, 34, 35, 36, 37, 38, 39, 40, 41, 42, 43, 44, 45, 46, 47, 48, 49, 50, 51, 52, 53, 91, 92, 93, 94, 95, 96, 97, 98, 99, 100, 101, 102, 103, 104, 105, 106, 107, 108, 109, 110, 111, 112] (by decide +kernel) (by decide +kernel)) (goodIn_sub (fun _ h => List.mem_cons_of_mem _ (List.mem_append_left _ (List.mem_append_right _ h))) (by decide +kernel))
set_option maxRecDepth 20000 in
theorem gL_isHour_X1_panelsOf : GoodIn wsL_isHour (wsV RL 33 RX1 yX1_panelsOf wsX1_panelsOf) := goodIn_app (goodIn_of _ (by decide +kernel)) ggL_isHour_X1_panelsOf
set_option maxRecDepth 20000 in
theorem ggL_isHour_X1_pourOf : GoodIn wsL_isHour wsX1_pourOf := goodIn_ca (goodIn_r _ [57, 58, 59, 46, 16, 60, 61, 8, 62, 63, 64, 65, 24, 25, 26, 27, 28, 29, 30, 31, 32, 33, 34, 35, 36, 37, 38, 39, 40, 41, 42, 43, 44, 45, 104, 105, 106, 107, 108, 109, 110, 111, 112, 91, 92, 93, 94, 95, 96, 97, 98, 99, 100, 101, 102, 103] (by decide +kernel) (by decide +kernel)) (goodIn_sub (fun _ h => List.mem_cons_of_mem _ (List.mem_append_right _ h)) (by decide +kernel))
set_option maxRecDepth 20000 in
theorem gL_isHour_X1_pourOf : GoodIn wsL_isHour (wsV RL 36 RX1 yX1_pourOf wsX1_pourOf) := goodIn_app (goodIn_of _ (by decide +kernel)) ggL_isHour_X1_pourOf
set_option maxRecDepth 20000 in
theorem ggL_isHour_X1_need : GoodIn wsL_isHour wsX1_need := goodIn_ca (goodIn_r _ [69, 60, 61, 8, 62, 58, 59, 63, 64, 65, 70, 71, 72, 73, 16, 36, 37, 38, 39, 40, 41, 104, 105, 106, 107, 108, 109, 110, 111, 112, 91, 92, 93, 94, 95, 96, 97, 98, 99, 100, 101, 102, 103] (by decide +kernel) (by decide +kernel)) (goodIn_sub (fun _ h => List.mem_cons_of_mem _ (List.mem_append_right _ h)) (by decide +kernel))
set_option maxRecDepth 20000 in
theorem gL_isHour_X1_need : GoodIn wsL_isHour (wsV RL 39 RX1 yX1_need wsX1_need) := goodIn_app (goodIn_of _ (by decide +kernel)) ggL_isHour_X1_need
set_option maxRecDepth 20000 in
theorem ggL_isHour_X1_firstShort : GoodIn wsL_isHour wsX1_firstShort := goodIn_r _ [77, 78, 46, 79, 80, 81, 8, 82, 70, 71, 72, 73, 16, 36, 37, 38, 39, 40, 41, 104, 105, 106, 107, 108, 109, 110, 111, 112, 91, 92, 93, 94, 95, 96, 97, 98, 99, 100, 101, 102, 103] (by decide +kernel) (by decide +kernel)
set_option maxRecDepth 20000 in
theorem gL_isHour_X1_firstShort : GoodIn wsL_isHour (wsV RL 42 RX1 yX1_firstShort wsX1_firstShort) := goodIn_app (goodIn_of _ (by decide +kernel)) ggL_isHour_X1_firstShort
set_option maxRecDepth 20000 in
theorem ggL_isHour_X1_peak : GoodIn wsL_isHour wsX1_peak := goodIn_r _ [86, 78, 87, 88, 89, 90, 79, 80, 81, 8, 82, 70, 71, 72, 73, 16, 36, 37, 38, 39, 40, 41, 104, 105, 106, 107, 108, 109, 110, 111, 112, 91, 92, 93, 94, 95, 96, 97, 98, 99, 100, 101, 102, 103] (by decide +kernel) (by decide +kernel)
set_option maxRecDepth 20000 in
theorem gL_isHour_X1_peak : GoodIn wsL_isHour (wsV RL 46 RX1 yX1_peak wsX1_peak) := goodIn_app (goodIn_of _ (by decide +kernel)) ggL_isHour_X1_peak
theorem dL_isHour_0 : decode cL_isHour 0 = .ok (.iconst 0, 1) := by decide +kernel
theorem dL_isHour_1 : decode cL_isHour 1 = .ok (.istore 6, 2) := by decide +kernel
theorem dL_isHour_3 : decode cL_isHour 3 = .ok (.iconst 0, 1) := by decide +kernel
theorem dL_isHour_4 : decode cL_isHour 4 = .ok (.istore 7, 2) := by decide +kernel
theorem dL_isHour_6 : decode cL_isHour 6 = .ok (.iconst 0, 1) := by decide +kernel
theorem dL_isHour_7 : decode cL_isHour 7 = .ok (.istore 8, 2) := by decide +kernel
theorem dL_isHour_9 : decode cL_isHour 9 = .ok (.iload 8, 2) := by decide +kernel
theorem dL_isHour_11 : decode cL_isHour 11 = .ok (.bipush 10, 2) := by decide +kernel
theorem dL_isHour_13 : decode cL_isHour 13 = .ok (.if_icmp .ge 76, 3) := by decide +kernel
theorem dL_isHour_16 : decode cL_isHour 16 = .ok (.aload_n 1, 1) := by decide +kernel
theorem dL_isHour_17 : decode cL_isHour 17 = .ok (.iload 8, 2) := by decide +kernel
theorem dL_isHour_19 : decode cL_isHour 19 = .ok (.iaload, 1) := by decide +kernel
theorem dL_isHour_20 : decode cL_isHour 20 = .ok (.iconst 1, 1) := by decide +kernel
theorem dL_isHour_21 : decode cL_isHour 21 = .ok (.if_icmp .ne 21, 3) := by decide +kernel
theorem dL_isHour_24 : decode cL_isHour 24 = .ok (.aload_n 0, 1) := by decide +kernel
theorem dL_isHour_25 : decode cL_isHour 25 = .ok (.aload_n 3, 1) := by decide +kernel
theorem dL_isHour_26 : decode cL_isHour 26 = .ok (.aload 4, 2) := by decide +kernel
theorem dL_isHour_28 : decode cL_isHour 28 = .ok (.iload 8, 2) := by decide +kernel
theorem dL_isHour_30 : decode cL_isHour 30 = .ok (.iload 5, 2) := by decide +kernel
theorem dL_isHour_32 : decode cL_isHour 32 = .ok (.invokestatic 27, 3) := by decide +kernel
theorem dL_isHour_35 : decode cL_isHour 35 = .ok (.ifCond .eq 7, 3) := by decide +kernel
theorem dL_isHour_38 : decode cL_isHour 38 = .ok (.iconst 1, 1) := by decide +kernel
theorem dL_isHour_39 : decode cL_isHour 39 = .ok (.goto 4, 3) := by decide +kernel
theorem dL_isHour_42 : decode cL_isHour 42 = .ok (.iconst 0, 1) := by decide +kernel
theorem dL_isHour_43 : decode cL_isHour 43 = .ok (.istore 9, 2) := by decide +kernel
theorem dL_isHour_45 : decode cL_isHour 45 = .ok (.iload 6, 2) := by decide +kernel
theorem dL_isHour_47 : decode cL_isHour 47 = .ok (.iload 9, 2) := by decide +kernel
theorem dL_isHour_49 : decode cL_isHour 49 = .ok (.ifCond .eq 10, 3) := by decide +kernel
theorem dL_isHour_52 : decode cL_isHour 52 = .ok (.aload_n 2, 1) := by decide +kernel
theorem dL_isHour_53 : decode cL_isHour 53 = .ok (.iload 8, 2) := by decide +kernel
theorem dL_isHour_55 : decode cL_isHour 55 = .ok (.iaload, 1) := by decide +kernel
theorem dL_isHour_56 : decode cL_isHour 56 = .ok (.goto 4, 3) := by decide +kernel
theorem dL_isHour_59 : decode cL_isHour 59 = .ok (.iconst 0, 1) := by decide +kernel
theorem dL_isHour_60 : decode cL_isHour 60 = .ok (.iadd, 1) := by decide +kernel
theorem dL_isHour_61 : decode cL_isHour 61 = .ok (.istore 6, 2) := by decide +kernel
theorem dL_isHour_63 : decode cL_isHour 63 = .ok (.iload 7, 2) := by decide +kernel
theorem dL_isHour_65 : decode cL_isHour 65 = .ok (.iload 9, 2) := by decide +kernel
theorem dL_isHour_67 : decode cL_isHour 67 = .ok (.ifCond .eq 12, 3) := by decide +kernel
theorem dL_isHour_70 : decode cL_isHour 70 = .ok (.aload_n 0, 1) := by decide +kernel
theorem dL_isHour_71 : decode cL_isHour 71 = .ok (.iload 8, 2) := by decide +kernel
theorem dL_isHour_73 : decode cL_isHour 73 = .ok (.invokevirtual 33, 3) := by decide +kernel
theorem dL_isHour_76 : decode cL_isHour 76 = .ok (.goto 4, 3) := by decide +kernel
theorem dL_isHour_79 : decode cL_isHour 79 = .ok (.iconst 0, 1) := by decide +kernel
theorem dL_isHour_80 : decode cL_isHour 80 = .ok (.iadd, 1) := by decide +kernel
theorem dL_isHour_81 : decode cL_isHour 81 = .ok (.istore 7, 2) := by decide +kernel
theorem dL_isHour_83 : decode cL_isHour 83 = .ok (.iinc 8 1, 3) := by decide +kernel
theorem dL_isHour_86 : decode cL_isHour 86 = .ok (.goto (-77), 3) := by decide +kernel
theorem dL_isHour_89 : decode cL_isHour 89 = .ok (.iconst 0, 1) := by decide +kernel
theorem dL_isHour_90 : decode cL_isHour 90 = .ok (.istore 8, 2) := by decide +kernel
theorem dL_isHour_92 : decode cL_isHour 92 = .ok (.iconst 0, 1) := by decide +kernel
theorem dL_isHour_93 : decode cL_isHour 93 = .ok (.istore 9, 2) := by decide +kernel
theorem dL_isHour_95 : decode cL_isHour 95 = .ok (.iload 9, 2) := by decide +kernel
theorem dL_isHour_97 : decode cL_isHour 97 = .ok (.aload 4, 2) := by decide +kernel
theorem dL_isHour_99 : decode cL_isHour 99 = .ok (.iconst 2, 1) := by decide +kernel
theorem dL_isHour_100 : decode cL_isHour 100 = .ok (.iaload, 1) := by decide +kernel
theorem dL_isHour_101 : decode cL_isHour 101 = .ok (.if_icmp .ge 62, 3) := by decide +kernel
theorem dL_isHour_104 : decode cL_isHour 104 = .ok (.aload_n 0, 1) := by decide +kernel
theorem dL_isHour_105 : decode cL_isHour 105 = .ok (.iload 9, 2) := by decide +kernel
theorem dL_isHour_107 : decode cL_isHour 107 = .ok (.iload 5, 2) := by decide +kernel
theorem dL_isHour_109 : decode cL_isHour 109 = .ok (.invokevirtual 36, 3) := by decide +kernel
theorem dL_isHour_112 : decode cL_isHour 112 = .ok (.istore 10, 2) := by decide +kernel
theorem dL_isHour_114 : decode cL_isHour 114 = .ok (.iload 8, 2) := by decide +kernel
theorem dL_isHour_116 : decode cL_isHour 116 = .ok (.iload 10, 2) := by decide +kernel
theorem dL_isHour_118 : decode cL_isHour 118 = .ok (.ifCond .ge 7, 3) := by decide +kernel
theorem dL_isHour_121 : decode cL_isHour 121 = .ok (.iconst 0, 1) := by decide +kernel
theorem dL_isHour_122 : decode cL_isHour 122 = .ok (.goto 4, 3) := by decide +kernel
theorem dL_isHour_125 : decode cL_isHour 125 = .ok (.iconst 1, 1) := by decide +kernel
theorem dL_isHour_126 : decode cL_isHour 126 = .ok (.iadd, 1) := by decide +kernel
theorem dL_isHour_127 : decode cL_isHour 127 = .ok (.istore 8, 2) := by decide +kernel
theorem dL_isHour_129 : decode cL_isHour 129 = .ok (.iload 10, 2) := by decide +kernel
theorem dL_isHour_131 : decode cL_isHour 131 = .ok (.ifCond .lt 26, 3) := by decide +kernel
theorem dL_isHour_134 : decode cL_isHour 134 = .ok (.aload_n 1, 1) := by decide +kernel
theorem dL_isHour_135 : decode cL_isHour 135 = .ok (.iload 10, 2) := by decide +kernel
theorem dL_isHour_137 : decode cL_isHour 137 = .ok (.iaload, 1) := by decide +kernel
theorem dL_isHour_138 : decode cL_isHour 138 = .ok (.ifCond .eq 17, 3) := by decide +kernel
theorem dL_isHour_141 : decode cL_isHour 141 = .ok (.aload_n 0, 1) := by decide +kernel
theorem dL_isHour_142 : decode cL_isHour 142 = .ok (.aload_n 3, 1) := by decide +kernel
theorem dL_isHour_143 : decode cL_isHour 143 = .ok (.aload 4, 2) := by decide +kernel
theorem dL_isHour_145 : decode cL_isHour 145 = .ok (.iload 10, 2) := by decide +kernel
theorem dL_isHour_147 : decode cL_isHour 147 = .ok (.iload 5, 2) := by decide +kernel
theorem dL_isHour_149 : decode cL_isHour 149 = .ok (.invokestatic 27, 3) := by decide +kernel
theorem dL_isHour_152 : decode cL_isHour 152 = .ok (.ifCond .ne 5, 3) := by decide +kernel
theorem dL_isHour_155 : decode cL_isHour 155 = .ok (.iconst 0, 1) := by decide +kernel
theorem dL_isHour_156 : decode cL_isHour 156 = .ok (.ireturn, 1) := by decide +kernel
theorem dL_isHour_157 : decode cL_isHour 157 = .ok (.iinc 9 1, 3) := by decide +kernel
theorem dL_isHour_160 : decode cL_isHour 160 = .ok (.goto (-65), 3) := by decide +kernel
theorem dL_isHour_163 : decode cL_isHour 163 = .ok (.aload_n 0, 1) := by decide +kernel
theorem dL_isHour_164 : decode cL_isHour 164 = .ok (.iload 5, 2) := by decide +kernel
theorem dL_isHour_166 : decode cL_isHour 166 = .ok (.invokevirtual 39, 3) := by decide +kernel
theorem dL_isHour_169 : decode cL_isHour 169 = .ok (.iload 6, 2) := by decide +kernel
theorem dL_isHour_171 : decode cL_isHour 171 = .ok (.if_icmp .ne 55, 3) := by decide +kernel
theorem dL_isHour_174 : decode cL_isHour 174 = .ok (.iload 8, 2) := by decide +kernel
theorem dL_isHour_176 : decode cL_isHour 176 = .ok (.iload 7, 2) := by decide +kernel
theorem dL_isHour_178 : decode cL_isHour 178 = .ok (.if_icmp .ne 48, 3) := by decide +kernel
theorem dL_isHour_181 : decode cL_isHour 181 = .ok (.iload 8, 2) := by decide +kernel
theorem dL_isHour_183 : decode cL_isHour 183 = .ok (.iload 6, 2) := by decide +kernel
theorem dL_isHour_185 : decode cL_isHour 185 = .ok (.if_icmp .gt 41, 3) := by decide +kernel
theorem dL_isHour_188 : decode cL_isHour 188 = .ok (.iload 6, 2) := by decide +kernel
theorem dL_isHour_190 : decode cL_isHour 190 = .ok (.aload 4, 2) := by decide +kernel
theorem dL_isHour_192 : decode cL_isHour 192 = .ok (.iconst 2, 1) := by decide +kernel
theorem dL_isHour_193 : decode cL_isHour 193 = .ok (.iaload, 1) := by decide +kernel
theorem dL_isHour_194 : decode cL_isHour 194 = .ok (.if_icmp .le 19, 3) := by decide +kernel
theorem dL_isHour_197 : decode cL_isHour 197 = .ok (.aload_n 0, 1) := by decide +kernel
theorem dL_isHour_198 : decode cL_isHour 198 = .ok (.invokevirtual 42, 3) := by decide +kernel
theorem dL_isHour_201 : decode cL_isHour 201 = .ok (.ifCond .lt 25, 3) := by decide +kernel
theorem dL_isHour_204 : decode cL_isHour 204 = .ok (.aload_n 0, 1) := by decide +kernel
theorem dL_isHour_205 : decode cL_isHour 205 = .ok (.invokevirtual 42, 3) := by decide +kernel
theorem dL_isHour_208 : decode cL_isHour 208 = .ok (.iload 5, 2) := by decide +kernel
theorem dL_isHour_210 : decode cL_isHour 210 = .ok (.if_icmp .gt 16, 3) := by decide +kernel
theorem dL_isHour_213 : decode cL_isHour 213 = .ok (.aload_n 0, 1) := by decide +kernel
theorem dL_isHour_214 : decode cL_isHour 214 = .ok (.invokevirtual 46, 3) := by decide +kernel
theorem dL_isHour_217 : decode cL_isHour 217 = .ok (.iload 6, 2) := by decide +kernel
theorem dL_isHour_219 : decode cL_isHour 219 = .ok (.if_icmp .lt 7, 3) := by decide +kernel
theorem dL_isHour_222 : decode cL_isHour 222 = .ok (.iconst 1, 1) := by decide +kernel
theorem dL_isHour_223 : decode cL_isHour 223 = .ok (.goto 4, 3) := by decide +kernel
theorem dL_isHour_226 : decode cL_isHour 226 = .ok (.iconst 0, 1) := by decide +kernel
theorem dL_isHour_227 : decode cL_isHour 227 = .ok (.ireturn, 1) := by decide +kernel
set_option maxRecDepth 20000 in
theorem ggL_law_X1_init : GoodIn wsL_law wsX1_init := goodIn_r _ [6, 7, 8, 9, 3, 10, 11, 12, 13, 14, 15, 16, 17, 18, 19, 20, 21, 22, 23, 24, 25, 26, 2, 27, 28, 29, 30, 31, 250, 251, 252, 253, 254, 255, 256, 257, 258] (by decide +kernel) (by decide +kernel)
set_option maxRecDepth 20000 in
theorem gL_law_X1_init : GoodIn wsL_law (wsX1_init) := ggL_law_X1_init
set_option maxRecDepth 20000 in
theorem ggL_law_L_cell : GoodIn wsL_law wsL_cell := goodIn_r _ [35] (by decide +kernel) (by decide +kernel)
set_option maxRecDepth 20000 in
theorem gL_law_L_cell : GoodIn wsL_law (va_wsS RL 50 yL_cell wsL_cell) := goodIn_app (goodIn_of _ (by decide +kernel)) ggL_law_L_cell
set_option maxRecDepth 20000 in
theorem ggL_law_L_low : GoodIn wsL_law wsL_low := goodIn_r _ [38, 39] (by decide +kernel) (by decide +kernel)
set_option maxRecDepth 20000 in
theorem gL_law_L_low : GoodIn wsL_law (va_wsS RL 54 yL_low wsL_low) := goodIn_app (goodIn_of _ (by decide +kernel)) ggL_law_L_low
set_option maxRecDepth 20000 in
theorem ggL_law_X1_pours : GoodIn wsL_law wsX1_pours := goodIn_r _ [43, 15, 250, 251, 252, 253, 254, 255, 256, 257, 258] (by decide +kernel) (by decide +kernel)
set_option maxRecDepth 20000 in
theorem gL_law_X1_pours : GoodIn wsL_law (wsV RL 57 RX1 yX1_pours wsX1_pours) := goodIn_app (goodIn_of _ (by decide +kernel)) ggL_law_X1_pours
set_option maxRecDepth 20000 in
theorem ggL_law_X1_plan : GoodIn wsL_law wsX1_plan := goodIn_ca (goodIn_ca (goodIn_r _ [47, 48, 49, 14, 50, 51, 15, 52, 53, 2, 54, 55, 56, 57, 58, 59, 60, 61, 62, 63, 64, 65, 66, 67, 68, 69, 70, 71, 72, 8, 9, 3, 73, 74, 75, 76, 77, 78, 79, 80, 81, 82, 83, 84, 85, 86, 17, 87, 88, 89, 90, 91, 92, 93, 94, 95, 96, 97, 98, 99, 100, 101, 102, 103, 104, 30, 105, 11, 106, 107, 108, 109, 110, 111, 112, 113, 18, 28, 29, 31, 114, 115, 116, 117, 19, 259, 260, 261, 262, 263, 264, 265, 266, 267, 268, 269, 270, 271, 250, 251, 252, 253, 254, 255, 256, 257, 258] (by decide +kernel) (by decide +kernel)) (goodIn_sub (fun _ h => List.mem_append_left _ (List.mem_append_left _ (List.mem_append_left _ (List.mem_append_right _ h)))) (by decide +kernel))) (goodIn_sub (fun _ h => List.mem_append_left _ (List.mem_append_left _ (List.mem_append_right _ h))) (by decide +kernel))
set_option maxRecDepth 20000 in
theorem gL_law_X1_plan : GoodIn wsL_law (wsV RL 60 RX1 yX1_plan wsX1_plan) := goodIn_app (goodIn_of _ (by decide +kernel)) ggL_law_X1_plan
set_option maxRecDepth 20000 in
theorem ggL_law_X1_cancel : GoodIn wsL_law wsX1_cancel := goodIn_ca (goodIn_r _ [121, 15, 122, 123, 124, 2, 125, 126, 127, 67, 68, 69, 250, 251, 252, 253, 254, 255, 256, 257, 258, 259, 260, 261, 262, 263, 264, 265, 266, 267, 268, 269, 270, 271] (by decide +kernel) (by decide +kernel)) (goodIn_sub (fun _ h => List.mem_append_left _ (List.mem_append_right _ h)) (by decide +kernel))
set_option maxRecDepth 20000 in
theorem gL_law_X1_cancel : GoodIn wsL_law (wsV RL 64 RX1 yX1_cancel wsX1_cancel) := goodIn_app (goodIn_of _ (by decide +kernel)) ggL_law_X1_cancel
set_option maxRecDepth 20000 in
theorem ggL_law_X1_move : GoodIn wsL_law wsX1_move := goodIn_ca (goodIn_ca (goodIn_r _ [131, 122, 123, 124, 2, 125, 126, 127, 15, 67, 68, 69, 55, 56, 57, 58, 59, 60, 61, 62, 79, 80, 81, 82, 83, 84, 85, 86, 17, 87, 88, 89, 90, 91, 51, 92, 93, 94, 74, 95, 96, 97, 98, 99, 100, 101, 102, 103, 104, 30, 105, 11, 106, 107, 108, 109, 110, 111, 112, 113, 18, 28, 29, 31, 114, 115, 116, 117, 19, 259, 260, 261, 262, 263, 264, 265, 266, 267, 268, 269, 270, 271, 250, 251, 252, 253, 254, 255, 256, 257, 258] (by decide +kernel) (by decide +kernel)) (goodIn_sub (fun _ h => List.mem_append_left _ (List.mem_append_right _ h)) (by decide +kernel))) (goodIn_sub (fun _ h => List.mem_append_left _ (List.mem_append_left _ (List.mem_append_right _ h))) (by decide +kernel))
set_option maxRecDepth 20000 in
theorem gL_law_X1_move : GoodIn wsL_law (wsV RL 67 RX1 yX1_move wsX1_move) := goodIn_app (goodIn_of _ (by decide +kernel)) ggL_law_X1_move
set_option maxRecDepth 20000 in
theorem ggL_law_X1_setTemperature : GoodIn wsL_law wsX1_setTemperature := goodIn_ca (goodIn_ca (goodIn_r _ [135, 10, 136, 137, 2, 138, 139, 140, 141, 142, 143, 58, 59, 60, 61, 62, 55, 56, 57, 24, 25, 26, 27, 11, 28, 29, 30, 31, 144, 145, 146, 147, 15, 79, 80, 81, 82, 83, 84, 85, 86, 17, 87, 88, 89, 90, 91, 51, 92, 93, 94, 74, 95, 96, 97, 98, 99, 100, 101, 102, 103, 104, 105, 106, 107, 108, 109, 110, 111, 112, 113, 18, 114, 115, 116, 117, 19, 250, 251, 252, 253, 254, 255, 256, 257, 258, 259, 260, 261, 262, 263, 264, 265, 266, 267, 268, 269, 270, 271] (by decide +kernel) (by decide +kernel)) (goodIn_sub (fun _ h => List.mem_append_right _ h) (by decide +kernel))) (goodIn_sub (fun _ h => List.mem_append_left _ (List.mem_append_left _ (List.mem_append_right _ h))) (by decide +kernel))
set_option maxRecDepth 20000 in
theorem gL_law_X1_setTemperature : GoodIn wsL_law (wsV RL 70 RX1 yX1_setTemperature wsX1_setTemperature) := goodIn_app (goodIn_of _ (by decide +kernel)) ggL_law_X1_setTemperature
set_option maxRecDepth 20000 in
theorem ggL_law_X1_setRates : GoodIn wsL_law wsX1_setRates := goodIn_ca (goodIn_r _ [151, 103, 104, 30, 105, 17, 55, 56, 2, 57, 58, 59, 60, 61, 62, 144, 145, 146, 147, 15, 79, 80, 81, 82, 83, 84, 85, 86, 87, 88, 89, 90, 91, 51, 92, 93, 94, 74, 95, 96, 97, 98, 99, 100, 101, 102, 11, 106, 107, 108, 109, 110, 111, 112, 113, 18, 28, 29, 31, 114, 115, 116, 117, 19, 250, 251, 252, 253, 254, 255, 256, 257, 258, 259, 260, 261, 262, 263, 264, 265, 266, 267, 268, 269, 270, 271] (by decide +kernel) (by decide +kernel)) (goodIn_sub (fun _ h => List.mem_append_left _ (List.mem_append_left _ (List.mem_append_right _ h))) (by decide +kernel))
set_option maxRecDepth 20000 in
theorem gL_law_X1_setRates : GoodIn wsL_law (wsV RL 74 RX1 yX1_setRates wsX1_setRates) := goodIn_app (goodIn_of _ (by decide +kernel)) ggL_law_X1_setRates
set_option maxRecDepth 20000 in
theorem ggL_law_X1_setCrew : GoodIn wsL_law wsX1_setCrew := goodIn_ca (goodIn_r _ [155, 18, 19, 55, 56, 2, 57, 58, 59, 60, 61, 62, 144, 145, 146, 147, 15, 79, 80, 81, 82, 83, 84, 85, 86, 17, 87, 88, 89, 90, 91, 51, 92, 93, 94, 74, 95, 96, 97, 98, 99, 100, 101, 102, 103, 104, 30, 105, 11, 106, 107, 108, 109, 110, 111, 112, 113, 28, 29, 31, 114, 115, 116, 117, 250, 251, 252, 253, 254, 255, 256, 257, 258, 259, 260, 261, 262, 263, 264, 265, 266, 267, 268, 269, 270, 271] (by decide +kernel) (by decide +kernel)) (goodIn_sub (fun _ h => List.mem_append_left _ (List.mem_append_left _ (List.mem_append_right _ h))) (by decide +kernel))
set_option maxRecDepth 20000 in
theorem gL_law_X1_setCrew : GoodIn wsL_law (wsV RL 77 RX1 yX1_setCrew wsX1_setCrew) := goodIn_app (goodIn_of _ (by decide +kernel)) ggL_law_X1_setCrew
set_option maxRecDepth 20000 in
theorem ggL_law_X1_setPanels : GoodIn wsL_law wsX1_setPanels := goodIn_ca (goodIn_r _ [159, 16, 55, 56, 2, 57, 58, 59, 60, 61, 62, 250, 251, 252, 253, 254, 255, 256, 257, 258] (by decide +kernel) (by decide +kernel)) (goodIn_sub (fun _ h => List.mem_append_left _ (List.mem_append_left _ (List.mem_append_right _ h))) (by decide +kernel))
set_option maxRecDepth 20000 in
theorem gL_law_X1_setPanels : GoodIn wsL_law (wsV RL 81 RX1 yX1_setPanels wsX1_setPanels) := goodIn_app (goodIn_of _ (by decide +kernel)) ggL_law_X1_setPanels
set_option maxRecDepth 20000 in
theorem ggL_law_X1_peak : GoodIn wsL_law wsX1_peak := goodIn_r _ [163, 12, 28, 29, 30, 31, 164, 165, 166, 2, 167, 168, 169, 170, 171, 15, 172, 51, 173, 174, 175, 176, 250, 251, 252, 253, 254, 255, 256, 257, 258, 259, 260, 261, 262, 263, 264, 265, 266, 267, 268, 269, 270, 271] (by decide +kernel) (by decide +kernel)
set_option maxRecDepth 20000 in
theorem gL_law_X1_peak : GoodIn wsL_law (wsV RL 46 RX1 yX1_peak wsX1_peak) := goodIn_app (goodIn_of _ (by decide +kernel)) ggL_law_X1_peak
set_option maxRecDepth 20000 in
theorem ggL_law_X1_peakByOverlaps : GoodIn wsL_law wsX1_peakByOverlaps := goodIn_r _ [180, 15, 28, 29, 30, 31, 168, 169, 170, 2, 171, 172, 51, 173, 174, 175, 176, 250, 251, 252, 253, 254, 255, 256, 257, 258, 259, 260, 261, 262, 263, 264, 265, 266, 267, 268, 269, 270, 271] (by decide +kernel) (by decide +kernel)
set_option maxRecDepth 20000 in
theorem gL_law_X1_peakByOverlaps : GoodIn wsL_law (wsV RL 84 RX1 yX1_peakByOverlaps wsX1_peakByOverlaps) := goodIn_app (goodIn_of _ (by decide +kernel)) ggL_law_X1_peakByOverlaps
set_option maxRecDepth 20000 in
theorem ggL_law_X1_firstShort : GoodIn wsL_law wsX1_firstShort := goodIn_r _ [184, 12, 16, 164, 165, 166, 2, 167, 168, 169, 170, 171, 15, 172, 51, 173, 174, 175, 176, 250, 251, 252, 253, 254, 255, 256, 257, 258, 259, 260, 261, 262, 263, 264, 265, 266, 267, 268, 269, 270, 271] (by decide +kernel) (by decide +kernel)
set_option maxRecDepth 20000 in
theorem gL_law_X1_firstShort : GoodIn wsL_law (wsV RL 42 RX1 yX1_firstShort wsX1_firstShort) := goodIn_app (goodIn_of _ (by decide +kernel)) ggL_law_X1_firstShort
set_option maxRecDepth 20000 in
theorem ggL_law_L_isStruck : GoodIn wsL_law wsL_isStruck := goodIn_ca (goodIn_ca (goodIn_ca (goodIn_r _ [187, 188, 189, 190, 2, 191, 122, 123, 124, 125, 126, 127, 15, 67, 68, 69, 192, 193, 194, 195, 196, 197, 198, 199, 200, 201, 202, 203, 136, 137, 138, 139, 140, 141, 142, 143, 99, 100, 101, 102, 103, 104, 30, 105, 11, 204, 205, 206, 207, 208, 55, 56, 57, 58, 59, 60, 61, 62, 106, 107, 108, 109, 259, 260, 261, 262, 263, 264, 265, 266, 267, 268, 269, 270, 271, 250, 251, 252, 253, 254, 255, 256, 257, 258] (by decide +kernel) (by decide +kernel)) (goodIn_sub (fun _ h => List.mem_append_left _ (List.mem_append_right _ h)) (by decide +kernel))) (goodIn_sub (fun _ h => List.mem_append_right _ h) (by decide +kernel))) (goodIn_sub (fun _ h => List.mem_append_left _ (List.mem_append_left _ (List.mem_append_right _ h))) (by decide +kernel))
set_option maxRecDepth 20000 in
theorem gL_law_L_isStruck : GoodIn wsL_law (va_wsS RL 87 yL_isStruck wsL_isStruck) := goodIn_app (goodIn_of _ (by decide +kernel)) ggL_law_L_isStruck
set_option maxRecDepth 20000 in
theorem ggL_law_X1_panelsOf : GoodIn wsL_law wsX1_panelsOf := goodIn_ca (goodIn_r _ [212, 122, 123, 124, 2, 125, 126, 127, 15, 67, 68, 69, 213, 214, 215, 216, 217, 218, 219, 220, 221, 222, 223, 224, 172, 51, 173, 174, 175, 176, 225, 226, 227, 228, 16, 229, 230, 231, 232, 233, 234, 235, 259, 260, 261, 262, 263, 264, 265, 266, 267, 268, 269, 270, 271, 250, 251, 252, 253, 254, 255, 256, 257, 258] (by decide +kernel) (by decide +kernel)) (goodIn_sub (fun _ h => List.mem_append_left _ (List.mem_append_right _ h)) (by decide +kernel))
set_option maxRecDepth 20000 in
theorem gL_law_X1_panelsOf : GoodIn wsL_law (wsV RL 33 RX1 yX1_panelsOf wsX1_panelsOf) := goodIn_app (goodIn_of _ (by decide +kernel)) ggL_law_X1_panelsOf
set_option maxRecDepth 20000 in
theorem ggL_law_L_isHour : GoodIn wsL_law wsL_isHour := goodIn_ca (goodIn_ca (goodIn_r _ [238, 239, 240, 34, 241, 196, 197, 198, 2, 199, 122, 123, 124, 125, 126, 127, 15, 67, 68, 69, 209, 210, 211, 212, 213, 214, 215, 216, 217, 218, 219, 220, 221, 222, 223, 224, 172, 51, 173, 174, 175, 176, 225, 226, 227, 228, 16, 229, 230, 231, 232, 233, 234, 235, 242, 243, 244, 245, 139, 140, 136, 137, 138, 141, 142, 143, 246, 247, 248, 249, 168, 169, 170, 171, 181, 182, 183, 184, 12, 164, 165, 166, 167, 160, 161, 162, 163, 28, 29, 30, 31, 259, 260, 261, 262, 263, 264, 265, 266, 267, 268, 269, 270, 271, 250, 251, 252, 253, 254, 255, 256, 257, 258] (by decide +kernel) (by decide +kernel)) (goodIn_sub (fun _ h => List.mem_append_left _ (List.mem_append_right _ h)) (by decide +kernel))) (goodIn_sub (fun _ h => List.mem_append_right _ h) (by decide +kernel))
set_option maxRecDepth 20000 in
theorem gL_law_L_isHour : GoodIn wsL_law (va_wsS RL 91 yL_isHour wsL_isHour) := goodIn_app (goodIn_of _ (by decide +kernel)) ggL_law_L_isHour
theorem dL_law_0 : decode cL_law 0 = .ok (.new 9, 3) := by decide +kernel
theorem dL_law_3 : decode cL_law 3 = .ok (.dup, 1) := by decide +kernel
theorem dL_law_4 : decode cL_law 4 = .ok (.invokespecial 49, 3) := by decide +kernel
theorem dL_law_7 : decode cL_law 7 = .ok (.astore_n 1, 1) := by decide +kernel
theorem dL_law_8 : decode cL_law 8 = .ok (.bipush 10, 2) := by decide +kernel
theorem dL_law_10 : decode cL_law 10 = .ok (.newarray .int, 2) := by decide +kernel
theorem dL_law_12 : decode cL_law 12 = .ok (.astore_n 2, 1) := by decide +kernel
theorem dL_law_13 : decode cL_law 13 = .ok (.bipush 10, 2) := by decide +kernel
theorem dL_law_15 : decode cL_law 15 = .ok (.newarray .int, 2) := by decide +kernel
theorem dL_law_17 : decode cL_law 17 = .ok (.astore_n 3, 1) := by decide +kernel
theorem dL_law_18 : decode cL_law 18 = .ok (.bipush 10, 2) := by decide +kernel
theorem dL_law_20 : decode cL_law 20 = .ok (.newarray .int, 2) := by decide +kernel
theorem dL_law_22 : decode cL_law 22 = .ok (.astore 4, 2) := by decide +kernel
theorem dL_law_24 : decode cL_law 24 = .ok (.bipush 10, 2) := by decide +kernel
theorem dL_law_26 : decode cL_law 26 = .ok (.newarray .int, 2) := by decide +kernel
theorem dL_law_28 : decode cL_law 28 = .ok (.astore 5, 2) := by decide +kernel
theorem dL_law_30 : decode cL_law 30 = .ok (.iconst 3, 1) := by decide +kernel
theorem dL_law_31 : decode cL_law 31 = .ok (.newarray .int, 2) := by decide +kernel
theorem dL_law_33 : decode cL_law 33 = .ok (.astore 6, 2) := by decide +kernel
theorem dL_law_35 : decode cL_law 35 = .ok (.aload 6, 2) := by decide +kernel
theorem dL_law_37 : decode cL_law 37 = .ok (.iconst 0, 1) := by decide +kernel
theorem dL_law_38 : decode cL_law 38 = .ok (.iconst 2, 1) := by decide +kernel
theorem dL_law_39 : decode cL_law 39 = .ok (.iastore, 1) := by decide +kernel
theorem dL_law_40 : decode cL_law 40 = .ok (.aload 6, 2) := by decide +kernel
theorem dL_law_42 : decode cL_law 42 = .ok (.iconst 1, 1) := by decide +kernel
theorem dL_law_43 : decode cL_law 43 = .ok (.iconst 3, 1) := by decide +kernel
theorem dL_law_44 : decode cL_law 44 = .ok (.iastore, 1) := by decide +kernel
theorem dL_law_45 : decode cL_law 45 = .ok (.aload 6, 2) := by decide +kernel
theorem dL_law_47 : decode cL_law 47 = .ok (.iconst 2, 1) := by decide +kernel
theorem dL_law_48 : decode cL_law 48 = .ok (.bipush 20, 2) := by decide +kernel
theorem dL_law_50 : decode cL_law 50 = .ok (.iastore, 1) := by decide +kernel
theorem dL_law_51 : decode cL_law 51 = .ok (.iconst 0, 1) := by decide +kernel
theorem dL_law_52 : decode cL_law 52 = .ok (.istore 7, 2) := by decide +kernel
theorem dL_law_54 : decode cL_law 54 = .ok (.iload 7, 2) := by decide +kernel
theorem dL_law_56 : decode cL_law 56 = .ok (.bipush 40, 2) := by decide +kernel
theorem dL_law_58 : decode cL_law 58 = .ok (.if_icmp .ge 594, 3) := by decide +kernel
theorem dL_law_61 : decode cL_law 61 = .ok (.aload_n 0, 1) := by decide +kernel
theorem dL_law_62 : decode cL_law 62 = .ok (.iconst 2, 1) := by decide +kernel
theorem dL_law_63 : decode cL_law 63 = .ok (.iload 7, 2) := by decide +kernel
theorem dL_law_65 : decode cL_law 65 = .ok (.imul, 1) := by decide +kernel
theorem dL_law_66 : decode cL_law 66 = .ok (.invokestatic 50, 3) := by decide +kernel
theorem dL_law_69 : decode cL_law 69 = .ok (.istore 8, 2) := by decide +kernel
theorem dL_law_71 : decode cL_law 71 = .ok (.aload_n 0, 1) := by decide +kernel
theorem dL_law_72 : decode cL_law 72 = .ok (.iconst 2, 1) := by decide +kernel
theorem dL_law_73 : decode cL_law 73 = .ok (.iload 7, 2) := by decide +kernel
theorem dL_law_75 : decode cL_law 75 = .ok (.imul, 1) := by decide +kernel
theorem dL_law_76 : decode cL_law 76 = .ok (.iconst 1, 1) := by decide +kernel
theorem dL_law_77 : decode cL_law 77 = .ok (.iadd, 1) := by decide +kernel
theorem dL_law_78 : decode cL_law 78 = .ok (.invokestatic 50, 3) := by decide +kernel
theorem dL_law_81 : decode cL_law 81 = .ok (.istore 9, 2) := by decide +kernel
theorem dL_law_83 : decode cL_law 83 = .ok (.iload 8, 2) := by decide +kernel
theorem dL_law_85 : decode cL_law 85 = .ok (.bipush 12, 2) := by decide +kernel
theorem dL_law_87 : decode cL_law 87 = .ok (.invokestatic 54, 3) := by decide +kernel
theorem dL_law_90 : decode cL_law 90 = .ok (.istore 10, 2) := by decide +kernel
theorem dL_law_92 : decode cL_law 92 = .ok (.iload 9, 2) := by decide +kernel
theorem dL_law_94 : decode cL_law 94 = .ok (.bipush 10, 2) := by decide +kernel
theorem dL_law_96 : decode cL_law 96 = .ok (.invokestatic 54, 3) := by decide +kernel
theorem dL_law_99 : decode cL_law 99 = .ok (.istore 11, 2) := by decide +kernel
theorem dL_law_101 : decode cL_law 101 = .ok (.iload 10, 2) := by decide +kernel
theorem dL_law_103 : decode cL_law 103 = .ok (.iconst 4, 1) := by decide +kernel
theorem dL_law_104 : decode cL_law 104 = .ok (.if_icmp .ge 145, 3) := by decide +kernel
theorem dL_law_107 : decode cL_law 107 = .ok (.aload_n 1, 1) := by decide +kernel
theorem dL_law_108 : decode cL_law 108 = .ok (.invokevirtual 57, 3) := by decide +kernel
theorem dL_law_111 : decode cL_law 111 = .ok (.bipush 10, 2) := by decide +kernel
theorem dL_law_113 : decode cL_law 113 = .ok (.if_icmp .ge 136, 3) := by decide +kernel
theorem dL_law_116 : decode cL_law 116 = .ok (.iload 8, 2) := by decide +kernel
theorem dL_law_118 : decode cL_law 118 = .ok (.iconst 4, 1) := by decide +kernel
theorem dL_law_119 : decode cL_law 119 = .ok (.ishr, 1) := by decide +kernel
theorem dL_law_120 : decode cL_law 120 = .ok (.iconst 4, 1) := by decide +kernel
theorem dL_law_121 : decode cL_law 121 = .ok (.invokestatic 54, 3) := by decide +kernel
theorem dL_law_124 : decode cL_law 124 = .ok (.ifCond .ne 14, 3) := by decide +kernel
theorem dL_law_127 : decode cL_law 127 = .ok (.iload 9, 2) := by decide +kernel
theorem dL_law_129 : decode cL_law 129 = .ok (.sipush 901, 3) := by decide +kernel
theorem dL_law_132 : decode cL_law 132 = .ok (.invokestatic 54, 3) := by decide +kernel
theorem dL_law_135 : decode cL_law 135 = .ok (.goto 10, 3) := by decide +kernel
theorem dL_law_138 : decode cL_law 138 = .ok (.iload 9, 2) := by decide +kernel
theorem dL_law_140 : decode cL_law 140 = .ok (.bipush 60, 2) := by decide +kernel
theorem dL_law_142 : decode cL_law 142 = .ok (.invokestatic 54, 3) := by decide +kernel
theorem dL_law_145 : decode cL_law 145 = .ok (.istore 12, 2) := by decide +kernel
theorem dL_law_147 : decode cL_law 147 = .ok (.iconst 1, 1) := by decide +kernel
theorem dL_law_148 : decode cL_law 148 = .ok (.iload 9, 2) := by decide +kernel
theorem dL_law_150 : decode cL_law 150 = .ok (.bipush 10, 2) := by decide +kernel
theorem dL_law_152 : decode cL_law 152 = .ok (.ishr, 1) := by decide +kernel
theorem dL_law_153 : decode cL_law 153 = .ok (.bipush 12, 2) := by decide +kernel
theorem dL_law_155 : decode cL_law 155 = .ok (.invokestatic 54, 3) := by decide +kernel
theorem dL_law_158 : decode cL_law 158 = .ok (.iadd, 1) := by decide +kernel
theorem dL_law_159 : decode cL_law 159 = .ok (.istore 13, 2) := by decide +kernel
theorem dL_law_161 : decode cL_law 161 = .ok (.iconst 1, 1) := by decide +kernel
theorem dL_law_162 : decode cL_law 162 = .ok (.iload 9, 2) := by decide +kernel
theorem dL_law_164 : decode cL_law 164 = .ok (.bipush 14, 2) := by decide +kernel
theorem dL_law_166 : decode cL_law 166 = .ok (.ishr, 1) := by decide +kernel
theorem dL_law_167 : decode cL_law 167 = .ok (.bipush 100, 2) := by decide +kernel
theorem dL_law_169 : decode cL_law 169 = .ok (.invokestatic 54, 3) := by decide +kernel
theorem dL_law_172 : decode cL_law 172 = .ok (.iadd, 1) := by decide +kernel
theorem dL_law_173 : decode cL_law 173 = .ok (.istore 14, 2) := by decide +kernel
theorem dL_law_175 : decode cL_law 175 = .ok (.aload_n 1, 1) := by decide +kernel
theorem dL_law_176 : decode cL_law 176 = .ok (.iload 12, 2) := by decide +kernel
theorem dL_law_178 : decode cL_law 178 = .ok (.iconst 1, 1) := by decide +kernel
theorem dL_law_179 : decode cL_law 179 = .ok (.iload 9, 2) := by decide +kernel
theorem dL_law_181 : decode cL_law 181 = .ok (.bipush 21, 2) := by decide +kernel
theorem dL_law_183 : decode cL_law 183 = .ok (.ishr, 1) := by decide +kernel
theorem dL_law_184 : decode cL_law 184 = .ok (.bipush 90, 2) := by decide +kernel
theorem dL_law_186 : decode cL_law 186 = .ok (.invokestatic 54, 3) := by decide +kernel
theorem dL_law_189 : decode cL_law 189 = .ok (.iadd, 1) := by decide +kernel
theorem dL_law_190 : decode cL_law 190 = .ok (.iload 13, 2) := by decide +kernel
theorem dL_law_192 : decode cL_law 192 = .ok (.iload 14, 2) := by decide +kernel
theorem dL_law_194 : decode cL_law 194 = .ok (.invokevirtual 60, 3) := by decide +kernel
theorem dL_law_197 : decode cL_law 197 = .ok (.istore 15, 2) := by decide +kernel
theorem dL_law_199 : decode cL_law 199 = .ok (.iload 15, 2) := by decide +kernel
theorem dL_law_201 : decode cL_law 201 = .ok (.ifCond .lt 18, 3) := by decide +kernel
theorem dL_law_204 : decode cL_law 204 = .ok (.iload 15, 2) := by decide +kernel
theorem dL_law_206 : decode cL_law 206 = .ok (.bipush 9, 2) := by decide +kernel
theorem dL_law_208 : decode cL_law 208 = .ok (.if_icmp .gt 11, 3) := by decide +kernel
theorem dL_law_211 : decode cL_law 211 = .ok (.aload_n 2, 1) := by decide +kernel
theorem dL_law_212 : decode cL_law 212 = .ok (.iload 15, 2) := by decide +kernel
theorem dL_law_214 : decode cL_law 214 = .ok (.iaload, 1) := by decide +kernel
theorem dL_law_215 : decode cL_law 215 = .ok (.iconst 1, 1) := by decide +kernel
theorem dL_law_216 : decode cL_law 216 = .ok (.if_icmp .ne 5, 3) := by decide +kernel
theorem dL_law_219 : decode cL_law 219 = .ok (.iconst 0, 1) := by decide +kernel
theorem dL_law_220 : decode cL_law 220 = .ok (.ireturn, 1) := by decide +kernel
theorem dL_law_221 : decode cL_law 221 = .ok (.aload_n 2, 1) := by decide +kernel
theorem dL_law_222 : decode cL_law 222 = .ok (.iload 15, 2) := by decide +kernel
theorem dL_law_224 : decode cL_law 224 = .ok (.iconst 1, 1) := by decide +kernel
theorem dL_law_225 : decode cL_law 225 = .ok (.iastore, 1) := by decide +kernel
theorem dL_law_226 : decode cL_law 226 = .ok (.aload_n 3, 1) := by decide +kernel
theorem dL_law_227 : decode cL_law 227 = .ok (.iload 15, 2) := by decide +kernel
theorem dL_law_229 : decode cL_law 229 = .ok (.iload 13, 2) := by decide +kernel
theorem dL_law_231 : decode cL_law 231 = .ok (.iastore, 1) := by decide +kernel
theorem dL_law_232 : decode cL_law 232 = .ok (.aload 4, 2) := by decide +kernel
theorem dL_law_234 : decode cL_law 234 = .ok (.iload 15, 2) := by decide +kernel
theorem dL_law_236 : decode cL_law 236 = .ok (.iload 14, 2) := by decide +kernel
theorem dL_law_238 : decode cL_law 238 = .ok (.iastore, 1) := by decide +kernel
theorem dL_law_239 : decode cL_law 239 = .ok (.aload 5, 2) := by decide +kernel
theorem dL_law_241 : decode cL_law 241 = .ok (.iload 15, 2) := by decide +kernel
theorem dL_law_243 : decode cL_law 243 = .ok (.iload 12, 2) := by decide +kernel
theorem dL_law_245 : decode cL_law 245 = .ok (.iastore, 1) := by decide +kernel
theorem dL_law_246 : decode cL_law 246 = .ok (.goto 260, 3) := by decide +kernel
theorem dL_law_249 : decode cL_law 249 = .ok (.iload 10, 2) := by decide +kernel
theorem dL_law_251 : decode cL_law 251 = .ok (.iconst 4, 1) := by decide +kernel
theorem dL_law_252 : decode cL_law 252 = .ok (.if_icmp .ne 31, 3) := by decide +kernel
theorem dL_law_255 : decode cL_law 255 = .ok (.aload_n 2, 1) := by decide +kernel
theorem dL_law_256 : decode cL_law 256 = .ok (.iload 11, 2) := by decide +kernel
theorem dL_law_258 : decode cL_law 258 = .ok (.iaload, 1) := by decide +kernel
theorem dL_law_259 : decode cL_law 259 = .ok (.iconst 1, 1) := by decide +kernel
theorem dL_law_260 : decode cL_law 260 = .ok (.if_icmp .ne 23, 3) := by decide +kernel
theorem dL_law_263 : decode cL_law 263 = .ok (.aload_n 2, 1) := by decide +kernel
theorem dL_law_264 : decode cL_law 264 = .ok (.iload 11, 2) := by decide +kernel
theorem dL_law_266 : decode cL_law 266 = .ok (.iconst 0, 1) := by decide +kernel
theorem dL_law_267 : decode cL_law 267 = .ok (.iastore, 1) := by decide +kernel
theorem dL_law_268 : decode cL_law 268 = .ok (.aload_n 1, 1) := by decide +kernel
theorem dL_law_269 : decode cL_law 269 = .ok (.iload 11, 2) := by decide +kernel
theorem dL_law_271 : decode cL_law 271 = .ok (.invokevirtual 64, 3) := by decide +kernel
theorem dL_law_274 : decode cL_law 274 = .ok (.aload_n 3, 1) := by decide +kernel
theorem dL_law_275 : decode cL_law 275 = .ok (.iload 11, 2) := by decide +kernel
theorem dL_law_277 : decode cL_law 277 = .ok (.iaload, 1) := by decide +kernel
theorem dL_law_278 : decode cL_law 278 = .ok (.if_icmp .eq 228, 3) := by decide +kernel
theorem dL_law_281 : decode cL_law 281 = .ok (.iconst 0, 1) := by decide +kernel
theorem dL_law_282 : decode cL_law 282 = .ok (.ireturn, 1) := by decide +kernel
theorem dL_law_283 : decode cL_law 283 = .ok (.iload 10, 2) := by decide +kernel
theorem dL_law_285 : decode cL_law 285 = .ok (.iconst 5, 1) := by decide +kernel
theorem dL_law_286 : decode cL_law 286 = .ok (.if_icmp .ne 50, 3) := by decide +kernel
theorem dL_law_289 : decode cL_law 289 = .ok (.aload_n 2, 1) := by decide +kernel
theorem dL_law_290 : decode cL_law 290 = .ok (.iload 11, 2) := by decide +kernel
theorem dL_law_292 : decode cL_law 292 = .ok (.iaload, 1) := by decide +kernel
theorem dL_law_293 : decode cL_law 293 = .ok (.iconst 1, 1) := by decide +kernel
theorem dL_law_294 : decode cL_law 294 = .ok (.if_icmp .ne 42, 3) := by decide +kernel
theorem dL_law_297 : decode cL_law 297 = .ok (.iload 9, 2) := by decide +kernel
theorem dL_law_299 : decode cL_law 299 = .ok (.iconst 4, 1) := by decide +kernel
theorem dL_law_300 : decode cL_law 300 = .ok (.ishr, 1) := by decide +kernel
theorem dL_law_301 : decode cL_law 301 = .ok (.bipush 120, 2) := by decide +kernel
theorem dL_law_303 : decode cL_law 303 = .ok (.invokestatic 54, 3) := by decide +kernel
theorem dL_law_306 : decode cL_law 306 = .ok (.istore 12, 2) := by decide +kernel
theorem dL_law_308 : decode cL_law 308 = .ok (.aload_n 1, 1) := by decide +kernel
theorem dL_law_309 : decode cL_law 309 = .ok (.iload 11, 2) := by decide +kernel
theorem dL_law_311 : decode cL_law 311 = .ok (.iload 12, 2) := by decide +kernel
theorem dL_law_313 : decode cL_law 313 = .ok (.invokevirtual 67, 3) := by decide +kernel
theorem dL_law_316 : decode cL_law 316 = .ok (.aload 5, 2) := by decide +kernel
theorem dL_law_318 : decode cL_law 318 = .ok (.iload 11, 2) := by decide +kernel
theorem dL_law_320 : decode cL_law 320 = .ok (.iaload, 1) := by decide +kernel
theorem dL_law_321 : decode cL_law 321 = .ok (.if_icmp .eq 5, 3) := by decide +kernel
theorem dL_law_324 : decode cL_law 324 = .ok (.iconst 0, 1) := by decide +kernel
theorem dL_law_325 : decode cL_law 325 = .ok (.ireturn, 1) := by decide +kernel
theorem dL_law_326 : decode cL_law 326 = .ok (.aload 5, 2) := by decide +kernel
theorem dL_law_328 : decode cL_law 328 = .ok (.iload 11, 2) := by decide +kernel
theorem dL_law_330 : decode cL_law 330 = .ok (.iload 12, 2) := by decide +kernel
theorem dL_law_332 : decode cL_law 332 = .ok (.iastore, 1) := by decide +kernel
theorem dL_law_333 : decode cL_law 333 = .ok (.goto 173, 3) := by decide +kernel
theorem dL_law_336 : decode cL_law 336 = .ok (.iload 10, 2) := by decide +kernel
theorem dL_law_338 : decode cL_law 338 = .ok (.bipush 6, 2) := by decide +kernel
theorem dL_law_340 : decode cL_law 340 = .ok (.if_icmp .ne 48, 3) := by decide +kernel
theorem dL_law_343 : decode cL_law 343 = .ok (.iload 9, 2) := by decide +kernel
theorem dL_law_345 : decode cL_law 345 = .ok (.sipush 200, 3) := by decide +kernel
theorem dL_law_348 : decode cL_law 348 = .ok (.invokestatic 54, 3) := by decide +kernel
theorem dL_law_351 : decode cL_law 351 = .ok (.istore 12, 2) := by decide +kernel
theorem dL_law_353 : decode cL_law 353 = .ok (.aload_n 1, 1) := by decide +kernel
theorem dL_law_354 : decode cL_law 354 = .ok (.iload 12, 2) := by decide +kernel
theorem dL_law_356 : decode cL_law 356 = .ok (.iload 12, 2) := by decide +kernel
theorem dL_law_358 : decode cL_law 358 = .ok (.iload 9, 2) := by decide +kernel
theorem dL_law_360 : decode cL_law 360 = .ok (.bipush 9, 2) := by decide +kernel
theorem dL_law_362 : decode cL_law 362 = .ok (.ishr, 1) := by decide +kernel
theorem dL_law_363 : decode cL_law 363 = .ok (.bipush 100, 2) := by decide +kernel
theorem dL_law_365 : decode cL_law 365 = .ok (.invokestatic 54, 3) := by decide +kernel
theorem dL_law_368 : decode cL_law 368 = .ok (.iadd, 1) := by decide +kernel
theorem dL_law_369 : decode cL_law 369 = .ok (.iload 9, 2) := by decide +kernel
theorem dL_law_371 : decode cL_law 371 = .ok (.bipush 16, 2) := by decide +kernel
theorem dL_law_373 : decode cL_law 373 = .ok (.ishr, 1) := by decide +kernel
theorem dL_law_374 : decode cL_law 374 = .ok (.bipush 70, 2) := by decide +kernel
theorem dL_law_376 : decode cL_law 376 = .ok (.invokestatic 54, 3) := by decide +kernel
theorem dL_law_379 : decode cL_law 379 = .ok (.bipush 30, 2) := by decide +kernel
theorem dL_law_381 : decode cL_law 381 = .ok (.isub, 1) := by decide +kernel
theorem dL_law_382 : decode cL_law 382 = .ok (.invokevirtual 70, 3) := by decide +kernel
theorem dL_law_385 : decode cL_law 385 = .ok (.goto 121, 3) := by decide +kernel
theorem dL_law_388 : decode cL_law 388 = .ok (.iload 10, 2) := by decide +kernel
theorem dL_law_390 : decode cL_law 390 = .ok (.bipush 7, 2) := by decide +kernel
theorem dL_law_392 : decode cL_law 392 = .ok (.if_icmp .ne 31, 3) := by decide +kernel
theorem dL_law_395 : decode cL_law 395 = .ok (.aload_n 1, 1) := by decide +kernel
theorem dL_law_396 : decode cL_law 396 = .ok (.iconst 1, 1) := by decide +kernel
theorem dL_law_397 : decode cL_law 397 = .ok (.iload 9, 2) := by decide +kernel
theorem dL_law_399 : decode cL_law 399 = .ok (.bipush 20, 2) := by decide +kernel
theorem dL_law_401 : decode cL_law 401 = .ok (.invokestatic 54, 3) := by decide +kernel
theorem dL_law_404 : decode cL_law 404 = .ok (.iadd, 1) := by decide +kernel
theorem dL_law_405 : decode cL_law 405 = .ok (.iconst 1, 1) := by decide +kernel
theorem dL_law_406 : decode cL_law 406 = .ok (.iload 9, 2) := by decide +kernel
theorem dL_law_408 : decode cL_law 408 = .ok (.iconst 5, 1) := by decide +kernel
theorem dL_law_409 : decode cL_law 409 = .ok (.ishr, 1) := by decide +kernel
theorem dL_law_410 : decode cL_law 410 = .ok (.bipush 20, 2) := by decide +kernel
theorem dL_law_412 : decode cL_law 412 = .ok (.invokestatic 54, 3) := by decide +kernel
theorem dL_law_415 : decode cL_law 415 = .ok (.iadd, 1) := by decide +kernel
theorem dL_law_416 : decode cL_law 416 = .ok (.invokevirtual 74, 3) := by decide +kernel
theorem dL_law_419 : decode cL_law 419 = .ok (.pop, 1) := by decide +kernel
theorem dL_law_420 : decode cL_law 420 = .ok (.goto 86, 3) := by decide +kernel
theorem dL_law_423 : decode cL_law 423 = .ok (.iload 10, 2) := by decide +kernel
theorem dL_law_425 : decode cL_law 425 = .ok (.bipush 8, 2) := by decide +kernel
theorem dL_law_427 : decode cL_law 427 = .ok (.if_icmp .ne 42, 3) := by decide +kernel
theorem dL_law_430 : decode cL_law 430 = .ok (.aload 6, 2) := by decide +kernel
theorem dL_law_432 : decode cL_law 432 = .ok (.iconst 0, 1) := by decide +kernel
theorem dL_law_433 : decode cL_law 433 = .ok (.iload 9, 2) := by decide +kernel
theorem dL_law_435 : decode cL_law 435 = .ok (.bipush 9, 2) := by decide +kernel
theorem dL_law_437 : decode cL_law 437 = .ok (.invokestatic 54, 3) := by decide +kernel
theorem dL_law_440 : decode cL_law 440 = .ok (.iastore, 1) := by decide +kernel
theorem dL_law_441 : decode cL_law 441 = .ok (.aload 6, 2) := by decide +kernel
theorem dL_law_443 : decode cL_law 443 = .ok (.iconst 1, 1) := by decide +kernel
theorem dL_law_444 : decode cL_law 444 = .ok (.iload 9, 2) := by decide +kernel
theorem dL_law_446 : decode cL_law 446 = .ok (.iconst 4, 1) := by decide +kernel
theorem dL_law_447 : decode cL_law 447 = .ok (.ishr, 1) := by decide +kernel
theorem dL_law_448 : decode cL_law 448 = .ok (.bipush 9, 2) := by decide +kernel
theorem dL_law_450 : decode cL_law 450 = .ok (.invokestatic 54, 3) := by decide +kernel
theorem dL_law_453 : decode cL_law 453 = .ok (.iastore, 1) := by decide +kernel
theorem dL_law_454 : decode cL_law 454 = .ok (.aload_n 1, 1) := by decide +kernel
theorem dL_law_455 : decode cL_law 455 = .ok (.aload 6, 2) := by decide +kernel
theorem dL_law_457 : decode cL_law 457 = .ok (.iconst 0, 1) := by decide +kernel
theorem dL_law_458 : decode cL_law 458 = .ok (.iaload, 1) := by decide +kernel
theorem dL_law_459 : decode cL_law 459 = .ok (.aload 6, 2) := by decide +kernel
theorem dL_law_461 : decode cL_law 461 = .ok (.iconst 1, 1) := by decide +kernel
theorem dL_law_462 : decode cL_law 462 = .ok (.iaload, 1) := by decide +kernel
theorem dL_law_463 : decode cL_law 463 = .ok (.invokevirtual 77, 3) := by decide +kernel
theorem dL_law_466 : decode cL_law 466 = .ok (.goto 40, 3) := by decide +kernel
theorem dL_law_469 : decode cL_law 469 = .ok (.iload 10, 2) := by decide +kernel
theorem dL_law_471 : decode cL_law 471 = .ok (.bipush 9, 2) := by decide +kernel
theorem dL_law_473 : decode cL_law 473 = .ok (.if_icmp .ne 33, 3) := by decide +kernel
theorem dL_law_476 : decode cL_law 476 = .ok (.iload 9, 2) := by decide +kernel
theorem dL_law_478 : decode cL_law 478 = .ok (.bipush 40, 2) := by decide +kernel
theorem dL_law_480 : decode cL_law 480 = .ok (.invokestatic 54, 3) := by decide +kernel
theorem dL_law_483 : decode cL_law 483 = .ok (.istore 12, 2) := by decide +kernel
theorem dL_law_485 : decode cL_law 485 = .ok (.aload_n 1, 1) := by decide +kernel
theorem dL_law_486 : decode cL_law 486 = .ok (.iload 12, 2) := by decide +kernel
theorem dL_law_488 : decode cL_law 488 = .ok (.invokevirtual 81, 3) := by decide +kernel
theorem dL_law_491 : decode cL_law 491 = .ok (.aload 6, 2) := by decide +kernel
theorem dL_law_493 : decode cL_law 493 = .ok (.iconst 2, 1) := by decide +kernel
theorem dL_law_494 : decode cL_law 494 = .ok (.iaload, 1) := by decide +kernel
theorem dL_law_495 : decode cL_law 495 = .ok (.if_icmp .eq 5, 3) := by decide +kernel
theorem dL_law_498 : decode cL_law 498 = .ok (.iconst 0, 1) := by decide +kernel
theorem dL_law_499 : decode cL_law 499 = .ok (.ireturn, 1) := by decide +kernel
theorem dL_law_500 : decode cL_law 500 = .ok (.aload 6, 2) := by decide +kernel
theorem dL_law_502 : decode cL_law 502 = .ok (.iconst 2, 1) := by decide +kernel
theorem dL_law_503 : decode cL_law 503 = .ok (.iload 12, 2) := by decide +kernel
theorem dL_law_505 : decode cL_law 505 = .ok (.iastore, 1) := by decide +kernel
theorem dL_law_506 : decode cL_law 506 = .ok (.aload_n 1, 1) := by decide +kernel
theorem dL_law_507 : decode cL_law 507 = .ok (.invokevirtual 46, 3) := by decide +kernel
theorem dL_law_510 : decode cL_law 510 = .ok (.aload_n 1, 1) := by decide +kernel
theorem dL_law_511 : decode cL_law 511 = .ok (.invokevirtual 84, 3) := by decide +kernel
theorem dL_law_514 : decode cL_law 514 = .ok (.if_icmp .ne 38, 3) := by decide +kernel
theorem dL_law_517 : decode cL_law 517 = .ok (.aload_n 1, 1) := by decide +kernel
theorem dL_law_518 : decode cL_law 518 = .ok (.invokevirtual 46, 3) := by decide +kernel
theorem dL_law_521 : decode cL_law 521 = .ok (.aload 6, 2) := by decide +kernel
theorem dL_law_523 : decode cL_law 523 = .ok (.iconst 2, 1) := by decide +kernel
theorem dL_law_524 : decode cL_law 524 = .ok (.iaload, 1) := by decide +kernel
theorem dL_law_525 : decode cL_law 525 = .ok (.if_icmp .gt 7, 3) := by decide +kernel
theorem dL_law_528 : decode cL_law 528 = .ok (.iconst 1, 1) := by decide +kernel
theorem dL_law_529 : decode cL_law 529 = .ok (.goto 4, 3) := by decide +kernel
theorem dL_law_532 : decode cL_law 532 = .ok (.iconst 0, 1) := by decide +kernel
theorem dL_law_533 : decode cL_law 533 = .ok (.aload_n 1, 1) := by decide +kernel
theorem dL_law_534 : decode cL_law 534 = .ok (.invokevirtual 42, 3) := by decide +kernel
theorem dL_law_537 : decode cL_law 537 = .ok (.ifCond .ge 7, 3) := by decide +kernel
theorem dL_law_540 : decode cL_law 540 = .ok (.iconst 1, 1) := by decide +kernel
theorem dL_law_541 : decode cL_law 541 = .ok (.goto 4, 3) := by decide +kernel
theorem dL_law_544 : decode cL_law 544 = .ok (.iconst 0, 1) := by decide +kernel
theorem dL_law_545 : decode cL_law 545 = .ok (.if_icmp .ne 7, 3) := by decide +kernel
theorem dL_law_548 : decode cL_law 548 = .ok (.iconst 1, 1) := by decide +kernel
theorem dL_law_549 : decode cL_law 549 = .ok (.goto 4, 3) := by decide +kernel
theorem dL_law_552 : decode cL_law 552 = .ok (.iconst 0, 1) := by decide +kernel
theorem dL_law_553 : decode cL_law 553 = .ok (.istore 12, 2) := by decide +kernel
theorem dL_law_555 : decode cL_law 555 = .ok (.iconst 0, 1) := by decide +kernel
theorem dL_law_556 : decode cL_law 556 = .ok (.istore 13, 2) := by decide +kernel
theorem dL_law_558 : decode cL_law 558 = .ok (.iload 13, 2) := by decide +kernel
theorem dL_law_560 : decode cL_law 560 = .ok (.bipush 10, 2) := by decide +kernel
theorem dL_law_562 : decode cL_law 562 = .ok (.if_icmp .ge 54, 3) := by decide +kernel
theorem dL_law_565 : decode cL_law 565 = .ok (.iload 12, 2) := by decide +kernel
theorem dL_law_567 : decode cL_law 567 = .ok (.ifCond .eq 49, 3) := by decide +kernel
theorem dL_law_570 : decode cL_law 570 = .ok (.aload_n 2, 1) := by decide +kernel
theorem dL_law_571 : decode cL_law 571 = .ok (.iload 13, 2) := by decide +kernel
theorem dL_law_573 : decode cL_law 573 = .ok (.iaload, 1) := by decide +kernel
theorem dL_law_574 : decode cL_law 574 = .ok (.ifCond .eq 29, 3) := by decide +kernel
theorem dL_law_577 : decode cL_law 577 = .ok (.aload_n 1, 1) := by decide +kernel
theorem dL_law_578 : decode cL_law 578 = .ok (.aload 4, 2) := by decide +kernel
theorem dL_law_580 : decode cL_law 580 = .ok (.aload 6, 2) := by decide +kernel
theorem dL_law_582 : decode cL_law 582 = .ok (.iload 13, 2) := by decide +kernel
theorem dL_law_584 : decode cL_law 584 = .ok (.invokestatic 87, 3) := by decide +kernel
theorem dL_law_587 : decode cL_law 587 = .ok (.ifCond .eq 20, 3) := by decide +kernel
theorem dL_law_590 : decode cL_law 590 = .ok (.aload_n 1, 1) := by decide +kernel
theorem dL_law_591 : decode cL_law 591 = .ok (.iload 13, 2) := by decide +kernel
theorem dL_law_593 : decode cL_law 593 = .ok (.invokevirtual 33, 3) := by decide +kernel
theorem dL_law_596 : decode cL_law 596 = .ok (.aload_n 3, 1) := by decide +kernel
theorem dL_law_597 : decode cL_law 597 = .ok (.iload 13, 2) := by decide +kernel
theorem dL_law_599 : decode cL_law 599 = .ok (.iaload, 1) := by decide +kernel
theorem dL_law_600 : decode cL_law 600 = .ok (.if_icmp .gt 7, 3) := by decide +kernel
theorem dL_law_603 : decode cL_law 603 = .ok (.iconst 1, 1) := by decide +kernel
theorem dL_law_604 : decode cL_law 604 = .ok (.goto 4, 3) := by decide +kernel
theorem dL_law_607 : decode cL_law 607 = .ok (.iconst 0, 1) := by decide +kernel
theorem dL_law_608 : decode cL_law 608 = .ok (.istore 12, 2) := by decide +kernel
theorem dL_law_610 : decode cL_law 610 = .ok (.iinc 13 1, 3) := by decide +kernel
theorem dL_law_613 : decode cL_law 613 = .ok (.goto (-55), 3) := by decide +kernel
theorem dL_law_616 : decode cL_law 616 = .ok (.iload 12, 2) := by decide +kernel
theorem dL_law_618 : decode cL_law 618 = .ok (.ifCond .eq 26, 3) := by decide +kernel
theorem dL_law_621 : decode cL_law 621 = .ok (.aload_n 1, 1) := by decide +kernel
theorem dL_law_622 : decode cL_law 622 = .ok (.aload_n 2, 1) := by decide +kernel
theorem dL_law_623 : decode cL_law 623 = .ok (.aload_n 3, 1) := by decide +kernel
theorem dL_law_624 : decode cL_law 624 = .ok (.aload 5, 2) := by decide +kernel
theorem dL_law_626 : decode cL_law 626 = .ok (.aload 6, 2) := by decide +kernel
theorem dL_law_628 : decode cL_law 628 = .ok (.iload 9, 2) := by decide +kernel
theorem dL_law_630 : decode cL_law 630 = .ok (.iconst 3, 1) := by decide +kernel
theorem dL_law_631 : decode cL_law 631 = .ok (.ishr, 1) := by decide +kernel
theorem dL_law_632 : decode cL_law 632 = .ok (.sipush 160, 3) := by decide +kernel
theorem dL_law_635 : decode cL_law 635 = .ok (.invokestatic 54, 3) := by decide +kernel
theorem dL_law_638 : decode cL_law 638 = .ok (.invokestatic 91, 3) := by decide +kernel
theorem dL_law_641 : decode cL_law 641 = .ok (.ifCond .ne 5, 3) := by decide +kernel
theorem dL_law_644 : decode cL_law 644 = .ok (.iconst 0, 1) := by decide +kernel
theorem dL_law_645 : decode cL_law 645 = .ok (.ireturn, 1) := by decide +kernel
theorem dL_law_646 : decode cL_law 646 = .ok (.iinc 7 1, 3) := by decide +kernel
theorem dL_law_649 : decode cL_law 649 = .ok (.goto (-595), 3) := by decide +kernel
theorem dL_law_652 : decode cL_law 652 = .ok (.iconst 1, 1) := by decide +kernel
theorem dL_law_653 : decode cL_law 653 = .ok (.ireturn, 1) := by decide +kernel
