theorem dX2_panelsOf_60 : decode cX2_panelsOf 60 = .ok (.iinc 3 1, 3) := by decide +kernel
theorem dX2_panelsOf_63 : decode cX2_panelsOf 63 = .ok (.goto (-38), 3) := by decide +kernel
theorem dX2_panelsOf_66 : decode cX2_panelsOf 66 = .ok (.iload_n 2, 1) := by decide +kernel
theorem dX2_panelsOf_67 : decode cX2_panelsOf 67 = .ok (.ireturn, 1) := by decide +kernel
set_option maxRecDepth 20000 in
theorem ggX2_pourOf_X2_in : GoodIn wsX2_pourOf wsX2_in := goodIn_r _ [7] (by decide +kernel) (by decide +kernel)
set_option maxRecDepth 20000 in
theorem gX2_pourOf_X2_in : GoodIn wsX2_pourOf (va_wsS RX2 69 yX2_in wsX2_in) := goodIn_app (goodIn_of _ (by decide +kernel)) ggX2_pourOf_X2_in
set_option maxRecDepth 20000 in
theorem ggX2_pourOf_X2_isHour : GoodIn wsX2_pourOf wsX2_isHour := goodIn_r _ [10, 4, 5, 6, 7] (by decide +kernel) (by decide +kernel)
set_option maxRecDepth 20000 in
theorem gX2_pourOf_X2_isHour : GoodIn wsX2_pourOf (va_wsS RX2 73 yX2_isHour wsX2_isHour) := goodIn_app (goodIn_of _ (by decide +kernel)) ggX2_pourOf_X2_isHour
set_option maxRecDepth 20000 in
theorem ggX2_pourOf_X2_gives : GoodIn wsX2_pourOf wsX2_gives := goodIn_r _ [14, 3, 15, 16, 17, 1, 18, 19, 20, 6, 21, 22, 23, 24, 25, 26, 27, 28, 29, 30, 31, 32, 33, 34, 35, 36, 37, 38, 39, 40, 41, 42, 43, 44, 45, 46, 47, 48, 49, 50, 51, 52, 53, 54, 55, 56, 57, 58, 59, 8, 9, 10, 4, 5, 7, 60, 61, 62, 63, 64, 65, 66, 67, 68, 69, 70, 71, 72, 73, 74, 75, 76, 77, 78, 79, 80, 81, 82, 83, 84, 85, 86] (by decide +kernel) (by decide +kernel)
set_option maxRecDepth 20000 in
theorem gX2_pourOf_X2_gives : GoodIn wsX2_pourOf (wsV RX2 147 RX2 yX2_gives wsX2_gives) := goodIn_app (goodIn_of _ (by decide +kernel)) ggX2_pourOf_X2_gives
set_option maxRecDepth 20000 in
theorem ggX2_pourOf_X2_isBusy : GoodIn wsX2_pourOf wsX2_isBusy := goodIn_r _ [67, 15, 16, 30, 68, 69, 70, 71, 72, 73, 74, 75, 76, 77, 78, 79, 80, 81, 82, 83, 84, 85, 86] (by decide +kernel) (by decide +kernel)
set_option maxRecDepth 20000 in
theorem gX2_pourOf_X2_isBusy : GoodIn wsX2_pourOf (wsV RX2 102 RX2 yX2_isBusy wsX2_isBusy) := goodIn_app (goodIn_of _ (by decide +kernel)) ggX2_pourOf_X2_isBusy
theorem dX2_pourOf_0 : decode cX2_pourOf 0 = .ok (.aload_n 0, 1) := by decide +kernel
theorem dX2_pourOf_1 : decode cX2_pourOf 1 = .ok (.iload_n 1, 1) := by decide +kernel
theorem dX2_pourOf_2 : decode cX2_pourOf 2 = .ok (.iconst 0, 1) := by decide +kernel
theorem dX2_pourOf_3 : decode cX2_pourOf 3 = .ok (.aload_n 0, 1) := by decide +kernel
theorem dX2_pourOf_4 : decode cX2_pourOf 4 = .ok (.getfield 13, 3) := by decide +kernel
theorem dX2_pourOf_7 : decode cX2_pourOf 7 = .ok (.iconst 1, 1) := by decide +kernel
theorem dX2_pourOf_8 : decode cX2_pourOf 8 = .ok (.isub, 1) := by decide +kernel
theorem dX2_pourOf_9 : decode cX2_pourOf 9 = .ok (.invokestatic 69, 3) := by decide +kernel
theorem dX2_pourOf_12 : decode cX2_pourOf 12 = .ok (.ifCond .eq 14, 3) := by decide +kernel
theorem dX2_pourOf_15 : decode cX2_pourOf 15 = .ok (.iload_n 2, 1) := by decide +kernel
theorem dX2_pourOf_16 : decode cX2_pourOf 16 = .ok (.invokestatic 73, 3) := by decide +kernel
theorem dX2_pourOf_19 : decode cX2_pourOf 19 = .ok (.ifCond .eq 7, 3) := by decide +kernel
theorem dX2_pourOf_22 : decode cX2_pourOf 22 = .ok (.iconst 0, 1) := by decide +kernel
theorem dX2_pourOf_23 : decode cX2_pourOf 23 = .ok (.goto 4, 3) := by decide +kernel
theorem dX2_pourOf_26 : decode cX2_pourOf 26 = .ok (.iconst 1, 1) := by decide +kernel
theorem dX2_pourOf_27 : decode cX2_pourOf 27 = .ok (.putfield 66, 3) := by decide +kernel
theorem dX2_pourOf_30 : decode cX2_pourOf 30 = .ok (.aload_n 0, 1) := by decide +kernel
theorem dX2_pourOf_31 : decode cX2_pourOf 31 = .ok (.invokevirtual 147, 3) := by decide +kernel
theorem dX2_pourOf_34 : decode cX2_pourOf 34 = .ok (.iconst (-1), 1) := by decide +kernel
theorem dX2_pourOf_35 : decode cX2_pourOf 35 = .ok (.istore_n 3, 1) := by decide +kernel
theorem dX2_pourOf_36 : decode cX2_pourOf 36 = .ok (.iconst 0, 1) := by decide +kernel
theorem dX2_pourOf_37 : decode cX2_pourOf 37 = .ok (.istore 4, 2) := by decide +kernel
theorem dX2_pourOf_39 : decode cX2_pourOf 39 = .ok (.iload 4, 2) := by decide +kernel
theorem dX2_pourOf_41 : decode cX2_pourOf 41 = .ok (.bipush 10, 2) := by decide +kernel
theorem dX2_pourOf_43 : decode cX2_pourOf 43 = .ok (.if_icmp .ge 48, 3) := by decide +kernel
theorem dX2_pourOf_46 : decode cX2_pourOf 46 = .ok (.aload_n 0, 1) := by decide +kernel
theorem dX2_pourOf_47 : decode cX2_pourOf 47 = .ok (.getfield 66, 3) := by decide +kernel
theorem dX2_pourOf_50 : decode cX2_pourOf 50 = .ok (.ifCond .ne 41, 3) := by decide +kernel
theorem dX2_pourOf_53 : decode cX2_pourOf 53 = .ok (.aload_n 0, 1) := by decide +kernel
theorem dX2_pourOf_54 : decode cX2_pourOf 54 = .ok (.getfield 63, 3) := by decide +kernel
theorem dX2_pourOf_57 : decode cX2_pourOf 57 = .ok (.bipush 60, 2) := by decide +kernel
theorem dX2_pourOf_59 : decode cX2_pourOf 59 = .ok (.iload 4, 2) := by decide +kernel
theorem dX2_pourOf_61 : decode cX2_pourOf 61 = .ok (.imul, 1) := by decide +kernel
theorem dX2_pourOf_62 : decode cX2_pourOf 62 = .ok (.iload_n 1, 1) := by decide +kernel
theorem dX2_pourOf_63 : decode cX2_pourOf 63 = .ok (.iadd, 1) := by decide +kernel
theorem dX2_pourOf_64 : decode cX2_pourOf 64 = .ok (.baload, 1) := by decide +kernel
theorem dX2_pourOf_65 : decode cX2_pourOf 65 = .ok (.ifCond .eq 18, 3) := by decide +kernel
theorem dX2_pourOf_68 : decode cX2_pourOf 68 = .ok (.aload_n 0, 1) := by decide +kernel
theorem dX2_pourOf_69 : decode cX2_pourOf 69 = .ok (.iload 4, 2) := by decide +kernel
theorem dX2_pourOf_71 : decode cX2_pourOf 71 = .ok (.iload_n 2, 1) := by decide +kernel
theorem dX2_pourOf_72 : decode cX2_pourOf 72 = .ok (.invokevirtual 102, 3) := by decide +kernel
theorem dX2_pourOf_75 : decode cX2_pourOf 75 = .ok (.ifCond .eq 8, 3) := by decide +kernel
theorem dX2_pourOf_78 : decode cX2_pourOf 78 = .ok (.iload 4, 2) := by decide +kernel
theorem dX2_pourOf_80 : decode cX2_pourOf 80 = .ok (.goto 4, 3) := by decide +kernel
theorem dX2_pourOf_83 : decode cX2_pourOf 83 = .ok (.iload_n 3, 1) := by decide +kernel
theorem dX2_pourOf_84 : decode cX2_pourOf 84 = .ok (.istore_n 3, 1) := by decide +kernel
theorem dX2_pourOf_85 : decode cX2_pourOf 85 = .ok (.iinc 4 1, 3) := by decide +kernel
theorem dX2_pourOf_88 : decode cX2_pourOf 88 = .ok (.goto (-49), 3) := by decide +kernel
theorem dX2_pourOf_91 : decode cX2_pourOf 91 = .ok (.aload_n 0, 1) := by decide +kernel
theorem dX2_pourOf_92 : decode cX2_pourOf 92 = .ok (.getfield 66, 3) := by decide +kernel
theorem dX2_pourOf_95 : decode cX2_pourOf 95 = .ok (.ifCond .le 7, 3) := by decide +kernel
theorem dX2_pourOf_98 : decode cX2_pourOf 98 = .ok (.iconst 0, 1) := by decide +kernel
theorem dX2_pourOf_99 : decode cX2_pourOf 99 = .ok (.goto 4, 3) := by decide +kernel
theorem dX2_pourOf_102 : decode cX2_pourOf 102 = .ok (.iload_n 3, 1) := by decide +kernel
theorem dX2_pourOf_103 : decode cX2_pourOf 103 = .ok (.ireturn, 1) := by decide +kernel
theorem dJ13_bitCount_95d88_0 : decode cJ13_bitCount_95d88 0 = .ok (.lload_n 0, 1) := by decide +kernel
theorem dJ13_bitCount_95d88_1 : decode cJ13_bitCount_95d88 1 = .ok (.lload_n 0, 1) := by decide +kernel
theorem dJ13_bitCount_95d88_2 : decode cJ13_bitCount_95d88 2 = .ok (.iconst 1, 1) := by decide +kernel
theorem dJ13_bitCount_95d88_3 : decode cJ13_bitCount_95d88 3 = .ok (.lushr, 1) := by decide +kernel
theorem dJ13_bitCount_95d88_4 : decode cJ13_bitCount_95d88 4 = .ok (.ldc2_w 314, 3) := by decide +kernel
theorem dJ13_bitCount_95d88_7 : decode cJ13_bitCount_95d88 7 = .ok (.land, 1) := by decide +kernel
theorem dJ13_bitCount_95d88_8 : decode cJ13_bitCount_95d88 8 = .ok (.lsub, 1) := by decide +kernel
theorem dJ13_bitCount_95d88_9 : decode cJ13_bitCount_95d88 9 = .ok (.lstore_n 0, 1) := by decide +kernel
theorem dJ13_bitCount_95d88_10 : decode cJ13_bitCount_95d88 10 = .ok (.lload_n 0, 1) := by decide +kernel
theorem dJ13_bitCount_95d88_11 : decode cJ13_bitCount_95d88 11 = .ok (.ldc2_w 316, 3) := by decide +kernel
theorem dJ13_bitCount_95d88_14 : decode cJ13_bitCount_95d88 14 = .ok (.land, 1) := by decide +kernel
theorem dJ13_bitCount_95d88_15 : decode cJ13_bitCount_95d88 15 = .ok (.lload_n 0, 1) := by decide +kernel
theorem dJ13_bitCount_95d88_16 : decode cJ13_bitCount_95d88 16 = .ok (.iconst 2, 1) := by decide +kernel
theorem dJ13_bitCount_95d88_17 : decode cJ13_bitCount_95d88 17 = .ok (.lushr, 1) := by decide +kernel
theorem dJ13_bitCount_95d88_18 : decode cJ13_bitCount_95d88 18 = .ok (.ldc2_w 316, 3) := by decide +kernel
theorem dJ13_bitCount_95d88_21 : decode cJ13_bitCount_95d88 21 = .ok (.land, 1) := by decide +kernel
theorem dJ13_bitCount_95d88_22 : decode cJ13_bitCount_95d88 22 = .ok (.ladd, 1) := by decide +kernel
theorem dJ13_bitCount_95d88_23 : decode cJ13_bitCount_95d88 23 = .ok (.lstore_n 0, 1) := by decide +kernel
theorem dJ13_bitCount_95d88_24 : decode cJ13_bitCount_95d88 24 = .ok (.lload_n 0, 1) := by decide +kernel
theorem dJ13_bitCount_95d88_25 : decode cJ13_bitCount_95d88 25 = .ok (.lload_n 0, 1) := by decide +kernel
theorem dJ13_bitCount_95d88_26 : decode cJ13_bitCount_95d88 26 = .ok (.iconst 4, 1) := by decide +kernel
theorem dJ13_bitCount_95d88_27 : decode cJ13_bitCount_95d88 27 = .ok (.lushr, 1) := by decide +kernel
theorem dJ13_bitCount_95d88_28 : decode cJ13_bitCount_95d88 28 = .ok (.ladd, 1) := by decide +kernel
theorem dJ13_bitCount_95d88_29 : decode cJ13_bitCount_95d88 29 = .ok (.ldc2_w 318, 3) := by decide +kernel
theorem dJ13_bitCount_95d88_32 : decode cJ13_bitCount_95d88 32 = .ok (.land, 1) := by decide +kernel
theorem dJ13_bitCount_95d88_33 : decode cJ13_bitCount_95d88 33 = .ok (.lstore_n 0, 1) := by decide +kernel
theorem dJ13_bitCount_95d88_34 : decode cJ13_bitCount_95d88 34 = .ok (.lload_n 0, 1) := by decide +kernel
theorem dJ13_bitCount_95d88_35 : decode cJ13_bitCount_95d88 35 = .ok (.lload_n 0, 1) := by decide +kernel
theorem dJ13_bitCount_95d88_36 : decode cJ13_bitCount_95d88 36 = .ok (.bipush 8, 2) := by decide +kernel
theorem dJ13_bitCount_95d88_38 : decode cJ13_bitCount_95d88 38 = .ok (.lushr, 1) := by decide +kernel
theorem dJ13_bitCount_95d88_39 : decode cJ13_bitCount_95d88 39 = .ok (.ladd, 1) := by decide +kernel
theorem dJ13_bitCount_95d88_40 : decode cJ13_bitCount_95d88 40 = .ok (.lstore_n 0, 1) := by decide +kernel
theorem dJ13_bitCount_95d88_41 : decode cJ13_bitCount_95d88 41 = .ok (.lload_n 0, 1) := by decide +kernel
theorem dJ13_bitCount_95d88_42 : decode cJ13_bitCount_95d88 42 = .ok (.lload_n 0, 1) := by decide +kernel
theorem dJ13_bitCount_95d88_43 : decode cJ13_bitCount_95d88 43 = .ok (.bipush 16, 2) := by decide +kernel
theorem dJ13_bitCount_95d88_45 : decode cJ13_bitCount_95d88 45 = .ok (.lushr, 1) := by decide +kernel
theorem dJ13_bitCount_95d88_46 : decode cJ13_bitCount_95d88 46 = .ok (.ladd, 1) := by decide +kernel
theorem dJ13_bitCount_95d88_47 : decode cJ13_bitCount_95d88 47 = .ok (.lstore_n 0, 1) := by decide +kernel
theorem dJ13_bitCount_95d88_48 : decode cJ13_bitCount_95d88 48 = .ok (.lload_n 0, 1) := by decide +kernel
theorem dJ13_bitCount_95d88_49 : decode cJ13_bitCount_95d88 49 = .ok (.lload_n 0, 1) := by decide +kernel
theorem dJ13_bitCount_95d88_50 : decode cJ13_bitCount_95d88 50 = .ok (.bipush 32, 2) := by decide +kernel
theorem dJ13_bitCount_95d88_52 : decode cJ13_bitCount_95d88 52 = .ok (.lushr, 1) := by decide +kernel
theorem dJ13_bitCount_95d88_53 : decode cJ13_bitCount_95d88 53 = .ok (.ladd, 1) := by decide +kernel
theorem dJ13_bitCount_95d88_54 : decode cJ13_bitCount_95d88 54 = .ok (.lstore_n 0, 1) := by decide +kernel
theorem dJ13_bitCount_95d88_55 : decode cJ13_bitCount_95d88 55 = .ok (.lload_n 0, 1) := by decide +kernel
theorem dJ13_bitCount_95d88_56 : decode cJ13_bitCount_95d88 56 = .ok (.l2i, 1) := by decide +kernel
theorem dJ13_bitCount_95d88_57 : decode cJ13_bitCount_95d88 57 = .ok (.bipush 127, 2) := by decide +kernel
theorem dJ13_bitCount_95d88_59 : decode cJ13_bitCount_95d88 59 = .ok (.iand, 1) := by decide +kernel
theorem dJ13_bitCount_95d88_60 : decode cJ13_bitCount_95d88 60 = .ok (.ireturn, 1) := by decide +kernel
theorem dJ9_max_7cf53_0 : decode cJ9_max_7cf53 0 = .ok (.iload_n 0, 1) := by decide +kernel
theorem dJ9_max_7cf53_1 : decode cJ9_max_7cf53 1 = .ok (.iload_n 1, 1) := by decide +kernel
theorem dJ9_max_7cf53_2 : decode cJ9_max_7cf53 2 = .ok (.if_icmp .lt 7, 3) := by decide +kernel
theorem dJ9_max_7cf53_5 : decode cJ9_max_7cf53 5 = .ok (.iload_n 0, 1) := by decide +kernel
theorem dJ9_max_7cf53_6 : decode cJ9_max_7cf53 6 = .ok (.goto 4, 3) := by decide +kernel
theorem dJ9_max_7cf53_9 : decode cJ9_max_7cf53 9 = .ok (.iload_n 1, 1) := by decide +kernel
theorem dJ9_max_7cf53_10 : decode cJ9_max_7cf53 10 = .ok (.ireturn, 1) := by decide +kernel
theorem dJ9_min_7cf53_0 : decode cJ9_min_7cf53 0 = .ok (.iload_n 0, 1) := by decide +kernel
theorem dJ9_min_7cf53_1 : decode cJ9_min_7cf53 1 = .ok (.iload_n 1, 1) := by decide +kernel
theorem dJ9_min_7cf53_2 : decode cJ9_min_7cf53 2 = .ok (.if_icmp .gt 7, 3) := by decide +kernel
theorem dJ9_min_7cf53_5 : decode cJ9_min_7cf53 5 = .ok (.iload_n 0, 1) := by decide +kernel
theorem dJ9_min_7cf53_6 : decode cJ9_min_7cf53 6 = .ok (.goto 4, 3) := by decide +kernel
theorem dJ9_min_7cf53_9 : decode cJ9_min_7cf53 9 = .ok (.iload_n 1, 1) := by decide +kernel
theorem dJ9_min_7cf53_10 : decode cJ9_min_7cf53 10 = .ok (.ireturn, 1) := by decide +kernel
theorem dJ7_fill_53178_0 : decode cJ7_fill_53178 0 = .ok (.iconst 0, 1) := by decide +kernel
theorem dJ7_fill_53178_1 : decode cJ7_fill_53178 1 = .ok (.istore_n 2, 1) := by decide +kernel
theorem dJ7_fill_53178_2 : decode cJ7_fill_53178 2 = .ok (.aload_n 0, 1) := by decide +kernel
theorem dJ7_fill_53178_3 : decode cJ7_fill_53178 3 = .ok (.arraylength, 1) := by decide +kernel
theorem dJ7_fill_53178_4 : decode cJ7_fill_53178 4 = .ok (.istore_n 3, 1) := by decide +kernel
theorem dJ7_fill_53178_5 : decode cJ7_fill_53178 5 = .ok (.iload_n 2, 1) := by decide +kernel
theorem dJ7_fill_53178_6 : decode cJ7_fill_53178 6 = .ok (.iload_n 3, 1) := by decide +kernel
theorem dJ7_fill_53178_7 : decode cJ7_fill_53178 7 = .ok (.if_icmp .ge 13, 3) := by decide +kernel
theorem dJ7_fill_53178_10 : decode cJ7_fill_53178 10 = .ok (.aload_n 0, 1) := by decide +kernel
theorem dJ7_fill_53178_11 : decode cJ7_fill_53178 11 = .ok (.iload_n 2, 1) := by decide +kernel
theorem dJ7_fill_53178_12 : decode cJ7_fill_53178 12 = .ok (.iload_n 1, 1) := by decide +kernel
theorem dJ7_fill_53178_13 : decode cJ7_fill_53178 13 = .ok (.iastore, 1) := by decide +kernel
theorem dJ7_fill_53178_14 : decode cJ7_fill_53178 14 = .ok (.iinc 2 1, 3) := by decide +kernel
theorem dJ7_fill_53178_17 : decode cJ7_fill_53178 17 = .ok (.goto (-12), 3) := by decide +kernel
theorem dJ7_fill_53178_20 : decode cJ7_fill_53178 20 = .ok (.return_, 1) := by decide +kernel
set_option maxRecDepth 20000 in
theorem ggL_setTemperature_X1_setTemperature : GoodIn wsL_setTemperature wsX1_setTemperature := goodIn_ca (goodIn_ca (goodIn_r _ [7, 8, 9, 10, 6, 11, 12, 13, 14, 15, 16, 17, 18, 19, 20, 21, 22, 23, 24, 25, 26, 27, 28, 29, 30, 31, 32, 33, 34, 35, 36, 37, 38, 39, 40, 41, 42, 43, 44, 45, 46, 47, 48, 49, 50, 51, 52, 53, 54, 55, 56, 57, 58, 59, 60, 61, 62, 63, 64, 65, 66, 67, 68, 69, 70, 71, 72, 73, 74, 75, 76, 77, 78, 79, 80, 81, 82, 83, 84, 85, 86, 87, 88, 89, 90, 91, 92, 93, 94, 95, 96, 97, 98, 99, 100, 101, 102, 103, 104] (by decide +kernel) (by decide +kernel)) (goodIn_sub (fun _ h => List.mem_cons_of_mem _ (List.mem_append_left _ (List.mem_append_right _ h))) (by decide +kernel))) (goodIn_sub (fun _ h => List.mem_cons_of_mem _ (List.mem_append_right _ h)) (by decide +kernel))
set_option maxRecDepth 20000 in
theorem gL_setTemperature_X1_setTemperature : GoodIn wsL_setTemperature (wsV RL 7 RX1 yX1_setTemperature wsX1_setTemperature) := goodIn_app (goodIn_of _ (by decide +kernel)) ggL_setTemperature_X1_setTemperature
theorem dL_setTemperature_0 : decode cL_setTemperature 0 = .ok (.aload_n 0, 1) := by decide +kernel
theorem dL_setTemperature_1 : decode cL_setTemperature 1 = .ok (.iload_n 1, 1) := by decide +kernel
theorem dL_setTemperature_2 : decode cL_setTemperature 2 = .ok (.iload_n 2, 1) := by decide +kernel
theorem dL_setTemperature_3 : decode cL_setTemperature 3 = .ok (.iload_n 3, 1) := by decide +kernel
theorem dL_setTemperature_4 : decode cL_setTemperature 4 = .ok (.invokevirtual 7, 3) := by decide +kernel
theorem dL_setTemperature_7 : decode cL_setTemperature 7 = .ok (.goto 11, 3) := by decide +kernel
theorem dL_setTemperature_10 : decode cL_setTemperature 10 = .ok (.astore 4, 2) := by decide +kernel
theorem dL_setTemperature_12 : decode cL_setTemperature 12 = .ok (.iconst 1, 1) := by decide +kernel
theorem dL_setTemperature_13 : decode cL_setTemperature 13 = .ok (.ireturn, 1) := by decide +kernel
theorem dL_setTemperature_14 : decode cL_setTemperature 14 = .ok (.astore 4, 2) := by decide +kernel
theorem dL_setTemperature_16 : decode cL_setTemperature 16 = .ok (.iconst 2, 1) := by decide +kernel
theorem dL_setTemperature_17 : decode cL_setTemperature 17 = .ok (.ireturn, 1) := by decide +kernel
theorem dL_setTemperature_18 : decode cL_setTemperature 18 = .ok (.iconst 0, 1) := by decide +kernel
theorem dL_setTemperature_19 : decode cL_setTemperature 19 = .ok (.ireturn, 1) := by decide +kernel
set_option maxRecDepth 20000 in
theorem ggL_temperature_X1_temperature : GoodIn wsL_temperature wsX1_temperature := goodIn_ca (goodIn_r _ [6, 7, 8, 9, 5, 10, 11, 12, 13, 14, 15, 16, 17, 18, 19, 20, 21, 22, 23, 24] (by decide +kernel) (by decide +kernel)) (goodIn_sub (fun _ h => List.mem_cons_of_mem _ (List.mem_append_right _ h)) (by decide +kernel))
set_option maxRecDepth 20000 in
theorem gL_temperature_X1_temperature : GoodIn wsL_temperature (wsV RL 17 RX1 yX1_temperature wsX1_temperature) := goodIn_app (goodIn_of _ (by decide +kernel)) ggL_temperature_X1_temperature
theorem dL_temperature_0 : decode cL_temperature 0 = .ok (.aload_n 2, 1) := by decide +kernel
theorem dL_temperature_1 : decode cL_temperature 1 = .ok (.iconst 0, 1) := by decide +kernel
theorem dL_temperature_2 : decode cL_temperature 2 = .ok (.aload_n 0, 1) := by decide +kernel
theorem dL_temperature_3 : decode cL_temperature 3 = .ok (.iload_n 1, 1) := by decide +kernel
theorem dL_temperature_4 : decode cL_temperature 4 = .ok (.invokevirtual 17, 3) := by decide +kernel
theorem dL_temperature_7 : decode cL_temperature 7 = .ok (.i2l, 1) := by decide +kernel
theorem dL_temperature_8 : decode cL_temperature 8 = .ok (.lastore, 1) := by decide +kernel
theorem dL_temperature_9 : decode cL_temperature 9 = .ok (.goto 6, 3) := by decide +kernel
theorem dL_temperature_12 : decode cL_temperature 12 = .ok (.astore_n 3, 1) := by decide +kernel
theorem dL_temperature_13 : decode cL_temperature 13 = .ok (.iconst 1, 1) := by decide +kernel
theorem dL_temperature_14 : decode cL_temperature 14 = .ok (.ireturn, 1) := by decide +kernel
theorem dL_temperature_15 : decode cL_temperature 15 = .ok (.iconst 0, 1) := by decide +kernel
theorem dL_temperature_16 : decode cL_temperature 16 = .ok (.ireturn, 1) := by decide +kernel
set_option maxRecDepth 20000 in
theorem ggL_maturity_X1_maturity : GoodIn wsL_maturity wsX1_maturity := goodIn_ca (goodIn_r _ [6, 7, 8, 5, 9, 10, 11, 12, 13, 14, 15, 16, 17, 18, 19, 20, 21, 22, 23, 24, 25, 26, 27, 28, 29, 30, 31, 32] (by decide +kernel) (by decide +kernel)) (goodIn_sub (fun _ h => List.mem_cons_of_mem _ (List.mem_append_right _ h)) (by decide +kernel))
set_option maxRecDepth 20000 in
theorem gL_maturity_X1_maturity : GoodIn wsL_maturity (wsV RL 21 RX1 yX1_maturity wsX1_maturity) := goodIn_app (goodIn_of _ (by decide +kernel)) ggL_maturity_X1_maturity
theorem dL_maturity_0 : decode cL_maturity 0 = .ok (.aload_n 3, 1) := by decide +kernel
theorem dL_maturity_1 : decode cL_maturity 1 = .ok (.iconst 0, 1) := by decide +kernel
theorem dL_maturity_2 : decode cL_maturity 2 = .ok (.aload_n 0, 1) := by decide +kernel
theorem dL_maturity_3 : decode cL_maturity 3 = .ok (.iload_n 1, 1) := by decide +kernel
theorem dL_maturity_4 : decode cL_maturity 4 = .ok (.iload_n 2, 1) := by decide +kernel
theorem dL_maturity_5 : decode cL_maturity 5 = .ok (.invokevirtual 21, 3) := by decide +kernel
theorem dL_maturity_8 : decode cL_maturity 8 = .ok (.i2l, 1) := by decide +kernel
theorem dL_maturity_9 : decode cL_maturity 9 = .ok (.lastore, 1) := by decide +kernel
theorem dL_maturity_10 : decode cL_maturity 10 = .ok (.goto 7, 3) := by decide +kernel
theorem dL_maturity_13 : decode cL_maturity 13 = .ok (.astore 4, 2) := by decide +kernel
theorem dL_maturity_15 : decode cL_maturity 15 = .ok (.iconst 1, 1) := by decide +kernel
theorem dL_maturity_16 : decode cL_maturity 16 = .ok (.ireturn, 1) := by decide +kernel
theorem dL_maturity_17 : decode cL_maturity 17 = .ok (.iconst 0, 1) := by decide +kernel
theorem dL_maturity_18 : decode cL_maturity 18 = .ok (.ireturn, 1) := by decide +kernel
set_option maxRecDepth 20000 in
theorem ggL_strength_X1_strength : GoodIn wsL_strength wsX1_strength := goodIn_ca (goodIn_r _ [6, 7, 8, 9, 5, 10, 11, 12, 13, 14, 15, 16, 17, 18, 19] (by decide +kernel) (by decide +kernel)) (goodIn_sub (fun _ h => List.mem_cons_of_mem _ (List.mem_append_right _ h)) (by decide +kernel))
set_option maxRecDepth 20000 in
theorem gL_strength_X1_strength : GoodIn wsL_strength (wsV RL 25 RX1 yX1_strength wsX1_strength) := goodIn_app (goodIn_of _ (by decide +kernel)) ggL_strength_X1_strength
theorem dL_strength_0 : decode cL_strength 0 = .ok (.aload_n 2, 1) := by decide +kernel
theorem dL_strength_1 : decode cL_strength 1 = .ok (.iconst 0, 1) := by decide +kernel
theorem dL_strength_2 : decode cL_strength 2 = .ok (.aload_n 0, 1) := by decide +kernel
theorem dL_strength_3 : decode cL_strength 3 = .ok (.iload_n 1, 1) := by decide +kernel
theorem dL_strength_4 : decode cL_strength 4 = .ok (.invokevirtual 25, 3) := by decide +kernel
theorem dL_strength_7 : decode cL_strength 7 = .ok (.i2l, 1) := by decide +kernel
theorem dL_strength_8 : decode cL_strength 8 = .ok (.lastore, 1) := by decide +kernel
theorem dL_strength_9 : decode cL_strength 9 = .ok (.goto 6, 3) := by decide +kernel
theorem dL_strength_12 : decode cL_strength 12 = .ok (.astore_n 3, 1) := by decide +kernel
theorem dL_strength_13 : decode cL_strength 13 = .ok (.iconst 1, 1) := by decide +kernel
theorem dL_strength_14 : decode cL_strength 14 = .ok (.ireturn, 1) := by decide +kernel
theorem dL_strength_15 : decode cL_strength 15 = .ok (.iconst 0, 1) := by decide +kernel
theorem dL_strength_16 : decode cL_strength 16 = .ok (.ireturn, 1) := by decide +kernel
set_option maxRecDepth 20000 in
theorem ggL_setPanels_X1_setPanels : GoodIn wsL_setPanels wsX1_setPanels := goodIn_ca (goodIn_r _ [6, 7, 8, 9, 5, 10, 11, 12, 13, 14, 15, 16, 17, 18, 19, 20, 21, 22, 23, 24] (by decide +kernel) (by decide +kernel)) (goodIn_sub (fun _ h => List.mem_cons_of_mem _ (List.mem_append_right _ h)) (by decide +kernel))
set_option maxRecDepth 20000 in
theorem gL_setPanels_X1_setPanels : GoodIn wsL_setPanels (wsV RL 28 RX1 yX1_setPanels wsX1_setPanels) := goodIn_app (goodIn_of _ (by decide +kernel)) ggL_setPanels_X1_setPanels
theorem dL_setPanels_0 : decode cL_setPanels 0 = .ok (.aload_n 2, 1) := by decide +kernel
theorem dL_setPanels_1 : decode cL_setPanels 1 = .ok (.iconst 0, 1) := by decide +kernel
theorem dL_setPanels_2 : decode cL_setPanels 2 = .ok (.aload_n 0, 1) := by decide +kernel
theorem dL_setPanels_3 : decode cL_setPanels 3 = .ok (.iload_n 1, 1) := by decide +kernel
theorem dL_setPanels_4 : decode cL_setPanels 4 = .ok (.invokevirtual 28, 3) := by decide +kernel
theorem dL_setPanels_7 : decode cL_setPanels 7 = .ok (.i2l, 1) := by decide +kernel
theorem dL_setPanels_8 : decode cL_setPanels 8 = .ok (.lastore, 1) := by decide +kernel
theorem dL_setPanels_9 : decode cL_setPanels 9 = .ok (.goto 6, 3) := by decide +kernel
theorem dL_setPanels_12 : decode cL_setPanels 12 = .ok (.astore_n 3, 1) := by decide +kernel
theorem dL_setPanels_13 : decode cL_setPanels 13 = .ok (.iconst 1, 1) := by decide +kernel
theorem dL_setPanels_14 : decode cL_setPanels 14 = .ok (.ireturn, 1) := by decide +kernel
theorem dL_setPanels_15 : decode cL_setPanels 15 = .ok (.iconst 0, 1) := by decide +kernel
theorem dL_setPanels_16 : decode cL_setPanels 16 = .ok (.ireturn, 1) := by decide +kernel
set_option maxRecDepth 20000 in
theorem ggL_setRates_X1_setRates : GoodIn wsL_setRates wsX1_setRates := goodIn_ca (goodIn_r _ [6, 7, 8, 9, 10, 11, 12, 13, 5, 14, 15, 16, 17, 18, 19, 20, 21, 22, 23, 24, 25, 26, 27, 28, 29, 30, 31, 32, 33, 34, 35, 36, 37, 38, 39, 40, 41, 42, 43, 44, 45, 46, 47, 48, 49, 50, 51, 52, 53, 54, 55, 56, 57, 58, 59, 60, 61, 62, 63, 64, 65, 66, 67, 68, 69, 70, 71, 72, 73, 74, 75, 76, 77, 78, 79, 80, 81, 82, 83, 84, 85, 86, 87, 88, 89, 90] (by decide +kernel) (by decide +kernel)) (goodIn_sub (fun _ h => List.mem_cons_of_mem _ (List.mem_append_right _ h)) (by decide +kernel))
set_option maxRecDepth 20000 in
theorem gL_setRates_X1_setRates : GoodIn wsL_setRates (wsV RL 31 RX1 yX1_setRates wsX1_setRates) := goodIn_app (goodIn_of _ (by decide +kernel)) ggL_setRates_X1_setRates
theorem dL_setRates_0 : decode cL_setRates 0 = .ok (.aload_n 3, 1) := by decide +kernel
theorem dL_setRates_1 : decode cL_setRates 1 = .ok (.iconst 0, 1) := by decide +kernel
theorem dL_setRates_2 : decode cL_setRates 2 = .ok (.aload_n 0, 1) := by decide +kernel
theorem dL_setRates_3 : decode cL_setRates 3 = .ok (.iload_n 1, 1) := by decide +kernel
theorem dL_setRates_4 : decode cL_setRates 4 = .ok (.iload_n 2, 1) := by decide +kernel
theorem dL_setRates_5 : decode cL_setRates 5 = .ok (.invokevirtual 31, 3) := by decide +kernel
theorem dL_setRates_8 : decode cL_setRates 8 = .ok (.i2l, 1) := by decide +kernel
theorem dL_setRates_9 : decode cL_setRates 9 = .ok (.lastore, 1) := by decide +kernel
theorem dL_setRates_10 : decode cL_setRates 10 = .ok (.goto 7, 3) := by decide +kernel
theorem dL_setRates_13 : decode cL_setRates 13 = .ok (.astore 4, 2) := by decide +kernel
theorem dL_setRates_15 : decode cL_setRates 15 = .ok (.iconst 1, 1) := by decide +kernel
theorem dL_setRates_16 : decode cL_setRates 16 = .ok (.ireturn, 1) := by decide +kernel
theorem dL_setRates_17 : decode cL_setRates 17 = .ok (.iconst 0, 1) := by decide +kernel
theorem dL_setRates_18 : decode cL_setRates 18 = .ok (.ireturn, 1) := by decide +kernel
set_option maxRecDepth 20000 in
theorem ggL_setCrew_X1_setCrew : GoodIn wsL_setCrew wsX1_setCrew := goodIn_ca (goodIn_r _ [6, 7, 8, 9, 10, 5, 11, 12, 13, 14, 15, 16, 17, 18, 19, 20, 21, 22, 23, 24, 25, 26, 27, 28, 29, 30, 31, 32, 33, 34, 35, 36, 37, 38, 39, 40, 41, 42, 43, 44, 45, 46, 47, 48, 49, 50, 51, 52, 53, 54, 55, 56, 57, 58, 59, 60, 61, 62, 63, 64, 65, 66, 67, 68, 69, 70, 71, 72, 73, 74, 75, 76, 77, 78, 79, 80, 81, 82, 83, 84, 85, 86, 87, 88, 89, 90] (by decide +kernel) (by decide +kernel)) (goodIn_sub (fun _ h => List.mem_cons_of_mem _ (List.mem_append_right _ h)) (by decide +kernel))
set_option maxRecDepth 20000 in
theorem gL_setCrew_X1_setCrew : GoodIn wsL_setCrew (wsV RL 34 RX1 yX1_setCrew wsX1_setCrew) := goodIn_app (goodIn_of _ (by decide +kernel)) ggL_setCrew_X1_setCrew
theorem dL_setCrew_0 : decode cL_setCrew 0 = .ok (.aload_n 0, 1) := by decide +kernel
theorem dL_setCrew_1 : decode cL_setCrew 1 = .ok (.iload_n 1, 1) := by decide +kernel
theorem dL_setCrew_2 : decode cL_setCrew 2 = .ok (.iload_n 2, 1) := by decide +kernel
theorem dL_setCrew_3 : decode cL_setCrew 3 = .ok (.invokevirtual 34, 3) := by decide +kernel
theorem dL_setCrew_6 : decode cL_setCrew 6 = .ok (.goto 6, 3) := by decide +kernel
theorem dL_setCrew_9 : decode cL_setCrew 9 = .ok (.astore_n 3, 1) := by decide +kernel
theorem dL_setCrew_10 : decode cL_setCrew 10 = .ok (.iconst 1, 1) := by decide +kernel
theorem dL_setCrew_11 : decode cL_setCrew 11 = .ok (.ireturn, 1) := by decide +kernel
theorem dL_setCrew_12 : decode cL_setCrew 12 = .ok (.iconst 0, 1) := by decide +kernel
theorem dL_setCrew_13 : decode cL_setCrew 13 = .ok (.ireturn, 1) := by decide +kernel
set_option maxRecDepth 20000 in
theorem ggL_plan_X1_plan : GoodIn wsL_plan wsX1_plan := goodIn_ca (goodIn_ca (goodIn_r _ [7, 8, 9, 10, 11, 12, 13, 14, 15, 6, 16, 17, 18, 19, 20, 21, 22, 23, 24, 25, 26, 27, 28, 29, 30, 31, 32, 33, 34, 35, 36, 37, 38, 39, 40, 41, 42, 43, 44, 45, 46, 47, 48, 49, 50, 51, 52, 53, 54, 55, 56, 57, 58, 59, 60, 61, 62, 63, 64, 65, 66, 67, 68, 69, 70, 71, 72, 73, 74, 75, 76, 77, 78, 79, 80, 81, 82, 83, 84, 85, 86, 87, 88, 89, 90, 91, 92, 93, 94, 95, 96, 97, 98, 99, 100, 101, 102, 103, 104, 105, 106, 107, 108, 109, 110, 111, 112] (by decide +kernel) (by decide +kernel)) (goodIn_sub (fun _ h => List.mem_cons_of_mem _ (List.mem_append_left _ (List.mem_append_right _ h))) (by decide +kernel))) (goodIn_sub (fun _ h => List.mem_cons_of_mem _ (List.mem_append_right _ h)) (by decide +kernel))
set_option maxRecDepth 20000 in
theorem gL_plan_X1_plan : GoodIn wsL_plan (wsV RL 38 RX1 yX1_plan wsX1_plan) := goodIn_app (goodIn_of _ (by decide +kernel)) ggL_plan_X1_plan
theorem dL_plan_0 : decode cL_plan 0 = .ok (.aload 5, 2) := by decide +kernel
theorem dL_plan_2 : decode cL_plan 2 = .ok (.iconst 0, 1) := by decide +kernel
theorem dL_plan_3 : decode cL_plan 3 = .ok (.aload_n 0, 1) := by decide +kernel
theorem dL_plan_4 : decode cL_plan 4 = .ok (.iload_n 1, 1) := by decide +kernel
theorem dL_plan_5 : decode cL_plan 5 = .ok (.iload_n 2, 1) := by decide +kernel
theorem dL_plan_6 : decode cL_plan 6 = .ok (.iload_n 3, 1) := by decide +kernel
theorem dL_plan_7 : decode cL_plan 7 = .ok (.iload 4, 2) := by decide +kernel
theorem dL_plan_9 : decode cL_plan 9 = .ok (.invokevirtual 38, 3) := by decide +kernel
theorem dL_plan_12 : decode cL_plan 12 = .ok (.i2l, 1) := by decide +kernel
theorem dL_plan_13 : decode cL_plan 13 = .ok (.lastore, 1) := by decide +kernel
theorem dL_plan_14 : decode cL_plan 14 = .ok (.goto 11, 3) := by decide +kernel
theorem dL_plan_17 : decode cL_plan 17 = .ok (.astore 6, 2) := by decide +kernel
theorem dL_plan_19 : decode cL_plan 19 = .ok (.iconst 1, 1) := by decide +kernel
theorem dL_plan_20 : decode cL_plan 20 = .ok (.ireturn, 1) := by decide +kernel
theorem dL_plan_21 : decode cL_plan 21 = .ok (.astore 6, 2) := by decide +kernel
theorem dL_plan_23 : decode cL_plan 23 = .ok (.iconst 2, 1) := by decide +kernel
theorem dL_plan_24 : decode cL_plan 24 = .ok (.ireturn, 1) := by decide +kernel
theorem dL_plan_25 : decode cL_plan 25 = .ok (.iconst 0, 1) := by decide +kernel
theorem dL_plan_26 : decode cL_plan 26 = .ok (.ireturn, 1) := by decide +kernel
set_option maxRecDepth 20000 in
theorem ggL_move_X1_move : GoodIn wsL_move wsX1_move := goodIn_ca (goodIn_ca (goodIn_r _ [7, 8, 9, 10, 6, 11, 12, 13, 14, 15, 16, 17, 18, 19, 20, 21, 22, 23, 24, 25, 26, 27, 28, 29, 30, 31, 32, 33, 34, 35, 36, 37, 38, 39, 40, 41, 42, 43, 44, 45, 46, 47, 48, 49, 50, 51, 52, 53, 54, 55, 56, 57, 58, 59, 60, 61, 62, 63, 64, 65, 66, 67, 68, 69, 70, 71, 72, 73, 74, 75, 76, 77, 78, 79, 80, 81, 82, 83, 84, 85, 86, 87, 88, 89, 90, 91, 92, 93, 94, 95, 96] (by decide +kernel) (by decide +kernel)) (goodIn_sub (fun _ h => List.mem_cons_of_mem _ (List.mem_append_left _ (List.mem_append_right _ h))) (by decide +kernel))) (goodIn_sub (fun _ h => List.mem_cons_of_mem _ (List.mem_append_right _ h)) (by decide +kernel))
set_option maxRecDepth 20000 in
theorem gL_move_X1_move : GoodIn wsL_move (wsV RL 44 RX1 yX1_move wsX1_move) := goodIn_app (goodIn_of _ (by decide +kernel)) ggL_move_X1_move
theorem dL_move_0 : decode cL_move 0 = .ok (.aload_n 3, 1) := by decide +kernel
theorem dL_move_1 : decode cL_move 1 = .ok (.iconst 0, 1) := by decide +kernel
theorem dL_move_2 : decode cL_move 2 = .ok (.aload_n 0, 1) := by decide +kernel
theorem dL_move_3 : decode cL_move 3 = .ok (.iload_n 1, 1) := by decide +kernel
theorem dL_move_4 : decode cL_move 4 = .ok (.iload_n 2, 1) := by decide +kernel
theorem dL_move_5 : decode cL_move 5 = .ok (.invokevirtual 44, 3) := by decide +kernel
theorem dL_move_8 : decode cL_move 8 = .ok (.i2l, 1) := by decide +kernel
theorem dL_move_9 : decode cL_move 9 = .ok (.lastore, 1) := by decide +kernel
theorem dL_move_10 : decode cL_move 10 = .ok (.goto 11, 3) := by decide +kernel
theorem dL_move_13 : decode cL_move 13 = .ok (.astore 4, 2) := by decide +kernel
theorem dL_move_15 : decode cL_move 15 = .ok (.iconst 1, 1) := by decide +kernel
theorem dL_move_16 : decode cL_move 16 = .ok (.ireturn, 1) := by decide +kernel
theorem dL_move_17 : decode cL_move 17 = .ok (.astore 4, 2) := by decide +kernel
theorem dL_move_19 : decode cL_move 19 = .ok (.iconst 2, 1) := by decide +kernel
theorem dL_move_20 : decode cL_move 20 = .ok (.ireturn, 1) := by decide +kernel
theorem dL_move_21 : decode cL_move 21 = .ok (.iconst 0, 1) := by decide +kernel
theorem dL_move_22 : decode cL_move 22 = .ok (.ireturn, 1) := by decide +kernel
set_option maxRecDepth 20000 in
theorem ggL_cancel_X1_cancel : GoodIn wsL_cancel wsX1_cancel := goodIn_ca (goodIn_r _ [6, 7, 8, 9, 10, 5, 11, 12, 13, 14, 15, 16, 17, 18, 19, 20, 21, 22, 23, 24, 25, 26, 27, 28, 29, 30, 31, 32, 33, 34, 35, 36, 37, 38] (by decide +kernel) (by decide +kernel)) (goodIn_sub (fun _ h => List.mem_cons_of_mem _ (List.mem_append_right _ h)) (by decide +kernel))
set_option maxRecDepth 20000 in
theorem gL_cancel_X1_cancel : GoodIn wsL_cancel (wsV RL 49 RX1 yX1_cancel wsX1_cancel) := goodIn_app (goodIn_of _ (by decide +kernel)) ggL_cancel_X1_cancel
theorem dL_cancel_0 : decode cL_cancel 0 = .ok (.aload_n 2, 1) := by decide +kernel
theorem dL_cancel_1 : decode cL_cancel 1 = .ok (.iconst 0, 1) := by decide +kernel
theorem dL_cancel_2 : decode cL_cancel 2 = .ok (.aload_n 0, 1) := by decide +kernel
theorem dL_cancel_3 : decode cL_cancel 3 = .ok (.iload_n 1, 1) := by decide +kernel
theorem dL_cancel_4 : decode cL_cancel 4 = .ok (.invokevirtual 49, 3) := by decide +kernel
theorem dL_cancel_7 : decode cL_cancel 7 = .ok (.i2l, 1) := by decide +kernel
theorem dL_cancel_8 : decode cL_cancel 8 = .ok (.lastore, 1) := by decide +kernel
theorem dL_cancel_9 : decode cL_cancel 9 = .ok (.goto 6, 3) := by decide +kernel
theorem dL_cancel_12 : decode cL_cancel 12 = .ok (.astore_n 3, 1) := by decide +kernel
theorem dL_cancel_13 : decode cL_cancel 13 = .ok (.iconst 1, 1) := by decide +kernel
theorem dL_cancel_14 : decode cL_cancel 14 = .ok (.ireturn, 1) := by decide +kernel
theorem dL_cancel_15 : decode cL_cancel 15 = .ok (.iconst 0, 1) := by decide +kernel
theorem dL_cancel_16 : decode cL_cancel 16 = .ok (.ireturn, 1) := by decide +kernel
set_option maxRecDepth 20000 in
theorem ggL_delay_X1_delay : GoodIn wsL_delay wsX1_delay := goodIn_ca (goodIn_ca (goodIn_ca (goodIn_r _ [8, 9, 10, 11, 12, 13, 7, 14, 15, 16, 17, 18, 19, 20, 21, 22, 23, 24, 25, 26, 27, 28, 29, 30, 31, 32, 33, 34, 35, 36, 37, 38, 39, 40, 41, 42, 43, 44, 45, 46, 47, 48, 49, 50, 51, 52, 53, 54, 55, 56, 57, 58, 59, 60, 61, 62, 63, 64, 65, 66, 67, 68, 69, 70, 71, 72, 73, 74, 75, 76, 77, 78, 79, 80, 81, 82, 83, 84, 85, 86, 87, 88, 89, 90, 91, 92, 93, 94, 95, 96, 97, 98, 99, 100, 101, 102, 103] (by decide +kernel) (by decide +kernel)) (goodIn_sub (fun _ h => List.mem_cons_of_mem _ (List.mem_append_left _ (List.mem_append_left _ (List.mem_append_right _ h)))) (by decide +kernel))) (goodIn_sub (fun _ h => List.mem_cons_of_mem _ (List.mem_append_left _ (List.mem_append_right _ h))) (by decide +kernel))) (goodIn_sub (fun _ h => List.mem_cons_of_mem _ (List.mem_append_right _ h)) (by decide +kernel))
set_option maxRecDepth 20000 in
theorem gL_delay_X1_delay : GoodIn wsL_delay (wsV RL 52 RX1 yX1_delay wsX1_delay) := goodIn_app (goodIn_of _ (by decide +kernel)) ggL_delay_X1_delay
theorem dL_delay_0 : decode cL_delay 0 = .ok (.aload 4, 2) := by decide +kernel
theorem dL_delay_2 : decode cL_delay 2 = .ok (.iconst 0, 1) := by decide +kernel
theorem dL_delay_3 : decode cL_delay 3 = .ok (.aload_n 0, 1) := by decide +kernel
theorem dL_delay_4 : decode cL_delay 4 = .ok (.iload_n 1, 1) := by decide +kernel
theorem dL_delay_5 : decode cL_delay 5 = .ok (.iload_n 2, 1) := by decide +kernel
theorem dL_delay_6 : decode cL_delay 6 = .ok (.iload_n 3, 1) := by decide +kernel
theorem dL_delay_7 : decode cL_delay 7 = .ok (.invokevirtual 52, 3) := by decide +kernel
theorem dL_delay_10 : decode cL_delay 10 = .ok (.i2l, 1) := by decide +kernel
theorem dL_delay_11 : decode cL_delay 11 = .ok (.lastore, 1) := by decide +kernel
theorem dL_delay_12 : decode cL_delay 12 = .ok (.goto 15, 3) := by decide +kernel
theorem dL_delay_15 : decode cL_delay 15 = .ok (.astore 5, 2) := by decide +kernel
theorem dL_delay_17 : decode cL_delay 17 = .ok (.iconst 1, 1) := by decide +kernel
theorem dL_delay_18 : decode cL_delay 18 = .ok (.ireturn, 1) := by decide +kernel
theorem dL_delay_19 : decode cL_delay 19 = .ok (.astore 5, 2) := by decide +kernel
theorem dL_delay_21 : decode cL_delay 21 = .ok (.iconst 2, 1) := by decide +kernel
theorem dL_delay_22 : decode cL_delay 22 = .ok (.ireturn, 1) := by decide +kernel
theorem dL_delay_23 : decode cL_delay 23 = .ok (.astore 5, 2) := by decide +kernel
theorem dL_delay_25 : decode cL_delay 25 = .ok (.iconst 3, 1) := by decide +kernel
theorem dL_delay_26 : decode cL_delay 26 = .ok (.ireturn, 1) := by decide +kernel
theorem dL_delay_27 : decode cL_delay 27 = .ok (.iconst 0, 1) := by decide +kernel
theorem dL_delay_28 : decode cL_delay 28 = .ok (.ireturn, 1) := by decide +kernel
set_option maxRecDepth 20000 in
theorem ggL_endOf_X1_endOf : GoodIn wsL_endOf wsX1_endOf := goodIn_ca (goodIn_r _ [6, 7, 8, 9, 5, 10, 11, 12, 13, 14, 15, 16, 17, 18, 19, 20, 21, 22, 23, 24, 25, 26, 27, 28, 29, 30, 31, 32, 33, 34, 35, 36, 37, 38] (by decide +kernel) (by decide +kernel)) (goodIn_sub (fun _ h => List.mem_cons_of_mem _ (List.mem_append_right _ h)) (by decide +kernel))
set_option maxRecDepth 20000 in
theorem gL_endOf_X1_endOf : GoodIn wsL_endOf (wsV RL 56 RX1 yX1_endOf wsX1_endOf) := goodIn_app (goodIn_of _ (by decide +kernel)) ggL_endOf_X1_endOf
theorem dL_endOf_0 : decode cL_endOf 0 = .ok (.aload_n 2, 1) := by decide +kernel
theorem dL_endOf_1 : decode cL_endOf 1 = .ok (.iconst 0, 1) := by decide +kernel
theorem dL_endOf_2 : decode cL_endOf 2 = .ok (.aload_n 0, 1) := by decide +kernel
theorem dL_endOf_3 : decode cL_endOf 3 = .ok (.iload_n 1, 1) := by decide +kernel
theorem dL_endOf_4 : decode cL_endOf 4 = .ok (.invokevirtual 56, 3) := by decide +kernel
theorem dL_endOf_7 : decode cL_endOf 7 = .ok (.i2l, 1) := by decide +kernel
theorem dL_endOf_8 : decode cL_endOf 8 = .ok (.lastore, 1) := by decide +kernel
theorem dL_endOf_9 : decode cL_endOf 9 = .ok (.goto 6, 3) := by decide +kernel
theorem dL_endOf_12 : decode cL_endOf 12 = .ok (.astore_n 3, 1) := by decide +kernel
theorem dL_endOf_13 : decode cL_endOf 13 = .ok (.iconst 1, 1) := by decide +kernel
theorem dL_endOf_14 : decode cL_endOf 14 = .ok (.ireturn, 1) := by decide +kernel
theorem dL_endOf_15 : decode cL_endOf 15 = .ok (.iconst 0, 1) := by decide +kernel
theorem dL_endOf_16 : decode cL_endOf 16 = .ok (.ireturn, 1) := by decide +kernel
set_option maxRecDepth 20000 in
theorem ggL_coldJoints_X1_coldJoints : GoodIn wsL_coldJoints wsX1_coldJoints := goodIn_ca (goodIn_r _ [6, 7, 8, 9, 5, 10, 11, 12, 13, 14, 15, 16, 17, 18, 19, 20, 21, 22, 23, 24, 25, 26, 27, 28, 29, 30, 31, 32, 33, 34, 35, 36, 37, 38, 39, 40, 41, 42, 43, 44, 45, 46, 47, 48, 49, 50, 51, 52] (by decide +kernel) (by decide +kernel)) (goodIn_sub (fun _ h => List.mem_cons_of_mem _ (List.mem_append_right _ h)) (by decide +kernel))
set_option maxRecDepth 20000 in
theorem gL_coldJoints_X1_coldJoints : GoodIn wsL_coldJoints (wsV RL 59 RX1 yX1_coldJoints wsX1_coldJoints) := goodIn_app (goodIn_of _ (by decide +kernel)) ggL_coldJoints_X1_coldJoints
theorem dL_coldJoints_0 : decode cL_coldJoints 0 = .ok (.aload_n 2, 1) := by decide +kernel
theorem dL_coldJoints_1 : decode cL_coldJoints 1 = .ok (.iconst 0, 1) := by decide +kernel
theorem dL_coldJoints_2 : decode cL_coldJoints 2 = .ok (.aload_n 0, 1) := by decide +kernel
theorem dL_coldJoints_3 : decode cL_coldJoints 3 = .ok (.iload_n 1, 1) := by decide +kernel
theorem dL_coldJoints_4 : decode cL_coldJoints 4 = .ok (.invokevirtual 59, 3) := by decide +kernel
theorem dL_coldJoints_7 : decode cL_coldJoints 7 = .ok (.i2l, 1) := by decide +kernel
theorem dL_coldJoints_8 : decode cL_coldJoints 8 = .ok (.lastore, 1) := by decide +kernel
theorem dL_coldJoints_9 : decode cL_coldJoints 9 = .ok (.goto 6, 3) := by decide +kernel
theorem dL_coldJoints_12 : decode cL_coldJoints 12 = .ok (.astore_n 3, 1) := by decide +kernel
theorem dL_coldJoints_13 : decode cL_coldJoints 13 = .ok (.iconst 1, 1) := by decide +kernel
theorem dL_coldJoints_14 : decode cL_coldJoints 14 = .ok (.ireturn, 1) := by decide +kernel
theorem dL_coldJoints_15 : decode cL_coldJoints 15 = .ok (.iconst 0, 1) := by decide +kernel
theorem dL_coldJoints_16 : decode cL_coldJoints 16 = .ok (.ireturn, 1) := by decide +kernel
set_option maxRecDepth 20000 in
theorem ggL_struck_X1_struck : GoodIn wsL_struck wsX1_struck := goodIn_ca (goodIn_r _ [6, 7, 8, 9, 5, 10, 11, 12, 13, 14, 15, 16, 17, 18, 19, 20, 21, 22, 23, 24, 25, 26, 27, 28, 29, 30, 31, 32, 33, 34, 35, 36, 37, 38] (by decide +kernel) (by decide +kernel)) (goodIn_sub (fun _ h => List.mem_cons_of_mem _ (List.mem_append_right _ h)) (by decide +kernel))
set_option maxRecDepth 20000 in
theorem gL_struck_X1_struck : GoodIn wsL_struck (wsV RL 62 RX1 yX1_struck wsX1_struck) := goodIn_app (goodIn_of _ (by decide +kernel)) ggL_struck_X1_struck
theorem dL_struck_0 : decode cL_struck 0 = .ok (.aload_n 2, 1) := by decide +kernel
theorem dL_struck_1 : decode cL_struck 1 = .ok (.iconst 0, 1) := by decide +kernel
theorem dL_struck_2 : decode cL_struck 2 = .ok (.aload_n 0, 1) := by decide +kernel
theorem dL_struck_3 : decode cL_struck 3 = .ok (.iload_n 1, 1) := by decide +kernel
theorem dL_struck_4 : decode cL_struck 4 = .ok (.invokevirtual 62, 3) := by decide +kernel
theorem dL_struck_7 : decode cL_struck 7 = .ok (.i2l, 1) := by decide +kernel
theorem dL_struck_8 : decode cL_struck 8 = .ok (.lastore, 1) := by decide +kernel
theorem dL_struck_9 : decode cL_struck 9 = .ok (.goto 6, 3) := by decide +kernel
theorem dL_struck_12 : decode cL_struck 12 = .ok (.astore_n 3, 1) := by decide +kernel
theorem dL_struck_13 : decode cL_struck 13 = .ok (.iconst 1, 1) := by decide +kernel
theorem dL_struck_14 : decode cL_struck 14 = .ok (.ireturn, 1) := by decide +kernel
theorem dL_struck_15 : decode cL_struck 15 = .ok (.iconst 0, 1) := by decide +kernel
theorem dL_struck_16 : decode cL_struck 16 = .ok (.ireturn, 1) := by decide +kernel
set_option maxRecDepth 20000 in
theorem ggL_freeFrom_X1_freeFrom : GoodIn wsL_freeFrom wsX1_freeFrom := goodIn_ca (goodIn_r _ [6, 7, 8, 9, 5, 10, 11, 12, 13, 14, 15, 16, 17, 18, 19, 20, 21, 22, 23, 24, 25, 26, 27, 28, 29, 30, 31, 32, 33, 34, 35, 36, 37, 38] (by decide +kernel) (by decide +kernel)) (goodIn_sub (fun _ h => List.mem_cons_of_mem _ (List.mem_append_right _ h)) (by decide +kernel))
set_option maxRecDepth 20000 in
theorem gL_freeFrom_X1_freeFrom : GoodIn wsL_freeFrom (wsV RL 65 RX1 yX1_freeFrom wsX1_freeFrom) := goodIn_app (goodIn_of _ (by decide +kernel)) ggL_freeFrom_X1_freeFrom
theorem dL_freeFrom_0 : decode cL_freeFrom 0 = .ok (.aload_n 2, 1) := by decide +kernel
theorem dL_freeFrom_1 : decode cL_freeFrom 1 = .ok (.iconst 0, 1) := by decide +kernel
theorem dL_freeFrom_2 : decode cL_freeFrom 2 = .ok (.aload_n 0, 1) := by decide +kernel
theorem dL_freeFrom_3 : decode cL_freeFrom 3 = .ok (.iload_n 1, 1) := by decide +kernel
theorem dL_freeFrom_4 : decode cL_freeFrom 4 = .ok (.invokevirtual 65, 3) := by decide +kernel
theorem dL_freeFrom_7 : decode cL_freeFrom 7 = .ok (.i2l, 1) := by decide +kernel
theorem dL_freeFrom_8 : decode cL_freeFrom 8 = .ok (.lastore, 1) := by decide +kernel
theorem dL_freeFrom_9 : decode cL_freeFrom 9 = .ok (.goto 6, 3) := by decide +kernel
theorem dL_freeFrom_12 : decode cL_freeFrom 12 = .ok (.astore_n 3, 1) := by decide +kernel
theorem dL_freeFrom_13 : decode cL_freeFrom 13 = .ok (.iconst 1, 1) := by decide +kernel
theorem dL_freeFrom_14 : decode cL_freeFrom 14 = .ok (.ireturn, 1) := by decide +kernel
theorem dL_freeFrom_15 : decode cL_freeFrom 15 = .ok (.iconst 0, 1) := by decide +kernel
theorem dL_freeFrom_16 : decode cL_freeFrom 16 = .ok (.ireturn, 1) := by decide +kernel
set_option maxRecDepth 20000 in
theorem ggL_need_X1_need : GoodIn wsL_need wsX1_need := goodIn_ca (goodIn_r _ [6, 7, 8, 5, 9, 10, 11, 12, 13, 14, 15, 16, 17, 18, 19, 20, 21, 22, 23, 24, 25, 26, 27, 28, 29, 30, 31, 32, 33, 34, 35, 36, 37, 38, 39, 40, 41, 42, 43, 44, 45, 46, 47] (by decide +kernel) (by decide +kernel)) (goodIn_sub (fun _ h => List.mem_cons_of_mem _ (List.mem_append_right _ h)) (by decide +kernel))
set_option maxRecDepth 20000 in
theorem gL_need_X1_need : GoodIn wsL_need (wsV RL 68 RX1 yX1_need wsX1_need) := goodIn_app (goodIn_of _ (by decide +kernel)) ggL_need_X1_need
theorem dL_need_0 : decode cL_need 0 = .ok (.aload_n 2, 1) := by decide +kernel
theorem dL_need_1 : decode cL_need 1 = .ok (.iconst 0, 1) := by decide +kernel
theorem dL_need_2 : decode cL_need 2 = .ok (.aload_n 0, 1) := by decide +kernel
theorem dL_need_3 : decode cL_need 3 = .ok (.iload_n 1, 1) := by decide +kernel
theorem dL_need_4 : decode cL_need 4 = .ok (.invokevirtual 68, 3) := by decide +kernel
theorem dL_need_7 : decode cL_need 7 = .ok (.i2l, 1) := by decide +kernel
theorem dL_need_8 : decode cL_need 8 = .ok (.lastore, 1) := by decide +kernel
theorem dL_need_9 : decode cL_need 9 = .ok (.goto 6, 3) := by decide +kernel
theorem dL_need_12 : decode cL_need 12 = .ok (.astore_n 3, 1) := by decide +kernel
theorem dL_need_13 : decode cL_need 13 = .ok (.iconst 1, 1) := by decide +kernel
theorem dL_need_14 : decode cL_need 14 = .ok (.ireturn, 1) := by decide +kernel
theorem dL_need_15 : decode cL_need 15 = .ok (.iconst 0, 1) := by decide +kernel
theorem dL_need_16 : decode cL_need 16 = .ok (.ireturn, 1) := by decide +kernel
set_option maxRecDepth 20000 in
theorem ggL_earliest_X1_earliest : GoodIn wsL_earliest wsX1_earliest := goodIn_ca (goodIn_r _ [6, 7, 8, 9, 5, 10, 11, 12, 13, 14, 15, 16, 17, 18, 19, 20, 21, 22, 23, 24, 25, 26, 27, 28, 29, 30, 31, 32, 33, 34, 35, 36, 37, 38, 39, 40, 41, 42, 43, 44, 45, 46, 47, 48, 49, 50, 51, 52, 53, 54, 55, 56, 57, 58, 59, 60, 61, 62, 63, 64, 65, 66, 67, 68, 69, 70, 71, 72, 73, 74, 75, 76, 77, 78, 79, 80, 81, 82, 83, 84, 85, 86, 87, 88, 89, 90, 91, 92, 93, 94, 95, 96, 97, 98, 99, 100, 101, 102, 103] (by decide +kernel) (by decide +kernel)) (goodIn_sub (fun _ h => List.mem_cons_of_mem _ (List.mem_append_right _ h)) (by decide +kernel))
set_option maxRecDepth 20000 in
theorem gL_earliest_X1_earliest : GoodIn wsL_earliest (wsV RL 71 RX1 yX1_earliest wsX1_earliest) := goodIn_app (goodIn_of _ (by decide +kernel)) ggL_earliest_X1_earliest
theorem dL_earliest_0 : decode cL_earliest 0 = .ok (.aload 5, 2) := by decide +kernel
theorem dL_earliest_2 : decode cL_earliest 2 = .ok (.iconst 0, 1) := by decide +kernel
theorem dL_earliest_3 : decode cL_earliest 3 = .ok (.aload_n 0, 1) := by decide +kernel
theorem dL_earliest_4 : decode cL_earliest 4 = .ok (.iload_n 1, 1) := by decide +kernel
theorem dL_earliest_5 : decode cL_earliest 5 = .ok (.iload_n 2, 1) := by decide +kernel
theorem dL_earliest_6 : decode cL_earliest 6 = .ok (.iload_n 3, 1) := by decide +kernel
theorem dL_earliest_7 : decode cL_earliest 7 = .ok (.iload 4, 2) := by decide +kernel
theorem dL_earliest_9 : decode cL_earliest 9 = .ok (.invokevirtual 71, 3) := by decide +kernel
theorem dL_earliest_12 : decode cL_earliest 12 = .ok (.i2l, 1) := by decide +kernel
theorem dL_earliest_13 : decode cL_earliest 13 = .ok (.lastore, 1) := by decide +kernel
theorem dL_earliest_14 : decode cL_earliest 14 = .ok (.goto 7, 3) := by decide +kernel
theorem dL_earliest_17 : decode cL_earliest 17 = .ok (.astore 6, 2) := by decide +kernel
theorem dL_earliest_19 : decode cL_earliest 19 = .ok (.iconst 1, 1) := by decide +kernel
theorem dL_earliest_20 : decode cL_earliest 20 = .ok (.ireturn, 1) := by decide +kernel
theorem dL_earliest_21 : decode cL_earliest 21 = .ok (.iconst 0, 1) := by decide +kernel
theorem dL_earliest_22 : decode cL_earliest 22 = .ok (.ireturn, 1) := by decide +kernel
set_option maxRecDepth 20000 in
theorem ggL_panelsOf_X1_panelsOf : GoodIn wsL_panelsOf wsX1_panelsOf := goodIn_ca (goodIn_r _ [6, 7, 8, 9, 5, 10, 11, 12, 13, 14, 15, 16, 17, 18, 19, 20, 21, 22, 23, 24, 25, 26, 27, 28, 29, 30, 31, 32, 33, 34, 35, 36, 37, 38, 39, 40, 41, 42, 43, 44, 45, 46, 47, 48, 49, 50, 51, 52, 53, 54, 55, 56, 57, 58, 59, 60, 61, 62, 63, 64, 65, 66, 67, 68] (by decide +kernel) (by decide +kernel)) (goodIn_sub (fun _ h => List.mem_cons_of_mem _ (List.mem_append_right _ h)) (by decide +kernel))
set_option maxRecDepth 20000 in
theorem gL_panelsOf_X1_panelsOf : GoodIn wsL_panelsOf (wsV RL 74 RX1 yX1_panelsOf wsX1_panelsOf) := goodIn_app (goodIn_of _ (by decide +kernel)) ggL_panelsOf_X1_panelsOf
theorem dL_panelsOf_0 : decode cL_panelsOf 0 = .ok (.aload_n 2, 1) := by decide +kernel
theorem dL_panelsOf_1 : decode cL_panelsOf 1 = .ok (.iconst 0, 1) := by decide +kernel
theorem dL_panelsOf_2 : decode cL_panelsOf 2 = .ok (.aload_n 0, 1) := by decide +kernel
theorem dL_panelsOf_3 : decode cL_panelsOf 3 = .ok (.iload_n 1, 1) := by decide +kernel
theorem dL_panelsOf_4 : decode cL_panelsOf 4 = .ok (.invokevirtual 74, 3) := by decide +kernel
theorem dL_panelsOf_7 : decode cL_panelsOf 7 = .ok (.i2l, 1) := by decide +kernel
theorem dL_panelsOf_8 : decode cL_panelsOf 8 = .ok (.lastore, 1) := by decide +kernel
theorem dL_panelsOf_9 : decode cL_panelsOf 9 = .ok (.goto 6, 3) := by decide +kernel
theorem dL_panelsOf_12 : decode cL_panelsOf 12 = .ok (.astore_n 3, 1) := by decide +kernel
theorem dL_panelsOf_13 : decode cL_panelsOf 13 = .ok (.iconst 1, 1) := by decide +kernel
theorem dL_panelsOf_14 : decode cL_panelsOf 14 = .ok (.ireturn, 1) := by decide +kernel
theorem dL_panelsOf_15 : decode cL_panelsOf 15 = .ok (.iconst 0, 1) := by decide +kernel
theorem dL_panelsOf_16 : decode cL_panelsOf 16 = .ok (.ireturn, 1) := by decide +kernel
set_option maxRecDepth 20000 in
theorem ggL_pourOf_X1_pourOf : GoodIn wsL_pourOf wsX1_pourOf := goodIn_ca (goodIn_r _ [6, 7, 8, 9, 10, 11, 12, 5, 13, 14, 15, 16, 17, 18, 19, 20, 21, 22, 23, 24, 25, 26, 27, 28, 29, 30, 31, 32, 33, 34, 35, 36, 37, 38, 39, 40, 41, 42, 43, 44, 45, 46, 47, 48, 49, 50, 51, 52, 53, 54, 55, 56, 57, 58, 59, 60] (by decide +kernel) (by decide +kernel)) (goodIn_sub (fun _ h => List.mem_cons_of_mem _ (List.mem_append_right _ h)) (by decide +kernel))
set_option maxRecDepth 20000 in
theorem gL_pourOf_X1_pourOf : GoodIn wsL_pourOf (wsV RL 77 RX1 yX1_pourOf wsX1_pourOf) := goodIn_app (goodIn_of _ (by decide +kernel)) ggL_pourOf_X1_pourOf
theorem dL_pourOf_0 : decode cL_pourOf 0 = .ok (.aload_n 3, 1) := by decide +kernel
theorem dL_pourOf_1 : decode cL_pourOf 1 = .ok (.iconst 0, 1) := by decide +kernel
theorem dL_pourOf_2 : decode cL_pourOf 2 = .ok (.aload_n 0, 1) := by decide +kernel
theorem dL_pourOf_3 : decode cL_pourOf 3 = .ok (.iload_n 1, 1) := by decide +kernel
theorem dL_pourOf_4 : decode cL_pourOf 4 = .ok (.iload_n 2, 1) := by decide +kernel
theorem dL_pourOf_5 : decode cL_pourOf 5 = .ok (.invokevirtual 77, 3) := by decide +kernel
theorem dL_pourOf_8 : decode cL_pourOf 8 = .ok (.i2l, 1) := by decide +kernel
theorem dL_pourOf_9 : decode cL_pourOf 9 = .ok (.lastore, 1) := by decide +kernel
theorem dL_pourOf_10 : decode cL_pourOf 10 = .ok (.goto 7, 3) := by decide +kernel
theorem dL_pourOf_13 : decode cL_pourOf 13 = .ok (.astore 4, 2) := by decide +kernel
theorem dL_pourOf_15 : decode cL_pourOf 15 = .ok (.iconst 1, 1) := by decide +kernel
theorem dL_pourOf_16 : decode cL_pourOf 16 = .ok (.ireturn, 1) := by decide +kernel
theorem dL_pourOf_17 : decode cL_pourOf 17 = .ok (.iconst 0, 1) := by decide +kernel
theorem dL_pourOf_18 : decode cL_pourOf 18 = .ok (.ireturn, 1) := by decide +kernel
set_option maxRecDepth 20000 in
theorem ggL_law_X1_init : GoodIn wsL_law wsX1_init := goodIn_r _ [9, 10, 11, 12, 13, 14, 15, 16, 17, 18, 19, 20, 21, 22, 23, 24, 25, 26, 27, 28, 29, 30, 2, 31, 32, 33, 34, 35, 530, 531, 532, 533, 534, 535, 536, 537, 538] (by decide +kernel) (by decide +kernel)
set_option maxRecDepth 20000 in
theorem gL_law_X1_init : GoodIn wsL_law (wsX1_init) := ggL_law_X1_init
set_option maxRecDepth 20000 in
theorem ggL_law_X2_init : GoodIn wsL_law wsX2_init := goodIn_r _ [38, 39, 11, 12, 13, 40, 41, 42, 43, 44, 45, 46, 47, 48, 49, 50, 51, 52, 53, 54, 55, 56, 57, 58, 539, 540, 541, 542, 543, 544, 545, 546, 547, 548, 549, 550, 551, 552, 553, 554, 555, 556, 557] (by decide +kernel) (by decide +kernel)
set_option maxRecDepth 20000 in
theorem gL_law_X2_init : GoodIn wsL_law (wsX2_init) := ggL_law_X2_init
set_option maxRecDepth 20000 in
theorem ggL_law_L_setTemperature : GoodIn wsL_law wsL_setTemperature := goodIn_ca (goodIn_ca (goodIn_r _ [62, 63, 64, 65, 66, 67, 2, 68, 14, 69, 70, 71, 72, 73, 74, 75, 76, 77, 78, 79, 80, 81, 82, 83, 84, 28, 29, 30, 31, 15, 32, 33, 34, 35, 85, 86, 87, 88, 19, 89, 90, 91, 92, 93, 94, 95, 96, 21, 97, 98, 99, 100, 101, 102, 103, 104, 105, 106, 107, 108, 109, 110, 111, 112, 113, 114, 115, 116, 117, 118, 119, 120, 121, 122, 123, 124, 125, 22, 126, 127, 128, 129, 23, 530, 531, 532, 533, 534, 535, 536, 537, 538, 558, 559, 560, 561, 562, 563, 564, 565, 566, 567, 568, 569, 570] (by decide +kernel) (by decide +kernel)) (goodIn_sub (fun _ h => List.mem_append_left _ (List.mem_append_left _ (List.mem_append_left _ (List.mem_append_right _ h)))) (by decide +kernel))) (goodIn_sub (fun _ h => List.mem_append_left _ (List.mem_append_left _ (List.mem_append_right _ h))) (by decide +kernel))
set_option maxRecDepth 20000 in
theorem gL_law_L_setTemperature : GoodIn wsL_law (va_wsS RL 84 yL_setTemperature wsL_setTemperature) := goodIn_app (goodIn_of _ (by decide +kernel)) ggL_law_L_setTemperature
set_option maxRecDepth 20000 in
theorem ggL_law_X2_setTemperature : GoodIn wsL_law wsX2_setTemperature := goodIn_r _ [133, 134, 40, 135, 136, 5, 137, 138, 139, 140, 539, 540, 541, 542, 543, 544, 545, 546, 547, 548, 549, 550, 551, 552, 553, 554, 555, 556, 557] (by decide +kernel) (by decide +kernel)
set_option maxRecDepth 20000 in
theorem gL_law_X2_setTemperature : GoodIn wsL_law (wsV RL 89 RX2 yX2_setTemperature wsX2_setTemperature) := goodIn_app (goodIn_of _ (by decide +kernel)) ggL_law_X2_setTemperature
set_option maxRecDepth 20000 in
theorem ggL_law_X2_thrown : GoodIn wsL_law wsX2_thrown := goodIn_r _ [144, 134, 539, 540, 541, 542, 543, 544, 545, 546, 547, 548, 549, 550, 551, 552, 553, 554, 555, 556, 557] (by decide +kernel) (by decide +kernel)
set_option maxRecDepth 20000 in
theorem gL_law_X2_thrown : GoodIn wsL_law (wsV RL 90 RX2 yX2_thrown wsX2_thrown) := goodIn_app (goodIn_of _ (by decide +kernel)) ggL_law_X2_thrown
set_option maxRecDepth 20000 in
theorem ggL_law_L_temperature : GoodIn wsL_law wsL_temperature := goodIn_ca (goodIn_r _ [147, 63, 148, 149, 150, 2, 151, 14, 69, 70, 71, 72, 73, 74, 75, 76, 530, 531, 532, 533, 534, 535, 536, 537, 538] (by decide +kernel) (by decide +kernel)) (goodIn_sub (fun _ h => List.mem_append_left _ (List.mem_append_left _ (List.mem_append_left _ (List.mem_append_right _ h)))) (by decide +kernel))
set_option maxRecDepth 20000 in
theorem gL_law_L_temperature : GoodIn wsL_law (va_wsS RL 94 yL_temperature wsL_temperature) := goodIn_app (goodIn_of _ (by decide +kernel)) ggL_law_L_temperature
set_option maxRecDepth 20000 in
theorem ggL_law_X2_temperature : GoodIn wsL_law wsX2_temperature := goodIn_r _ [155, 134, 40, 135, 136, 5, 137, 138, 139, 140, 156, 157, 158, 159, 539, 540, 541, 542, 543, 544, 545, 546, 547, 548, 549, 550, 551, 552, 553, 554, 555, 556, 557] (by decide +kernel) (by decide +kernel)
set_option maxRecDepth 20000 in
theorem gL_law_X2_temperature : GoodIn wsL_law (wsV RL 97 RX2 yX2_temperature wsX2_temperature) := goodIn_app (goodIn_of _ (by decide +kernel)) ggL_law_X2_temperature
set_option maxRecDepth 20000 in
theorem ggL_law_L_maturity : GoodIn wsL_law wsL_maturity := goodIn_ca (goodIn_r _ [162, 63, 163, 164, 165, 2, 166, 69, 70, 71, 72, 73, 74, 75, 76, 111, 112, 113, 114, 115, 116, 34, 117, 15, 530, 531, 532, 533, 534, 535, 536, 537, 538] (by decide +kernel) (by decide +kernel)) (goodIn_sub (fun _ h => List.mem_append_left _ (List.mem_append_left _ (List.mem_append_left _ (List.mem_append_right _ h)))) (by decide +kernel))
set_option maxRecDepth 20000 in
theorem gL_law_L_maturity : GoodIn wsL_law (va_wsS RL 98 yL_maturity wsL_maturity) := goodIn_app (goodIn_of _ (by decide +kernel)) ggL_law_L_maturity
set_option maxRecDepth 20000 in
theorem ggL_law_X2_maturity : GoodIn wsL_law wsX2_maturity := goodIn_r _ [170, 134, 135, 136, 5, 137, 138, 139, 140, 171, 172, 173, 174, 175, 176, 177, 178, 40, 539, 540, 541, 542, 543, 544, 545, 546, 547, 548, 549, 550, 551, 552, 553, 554, 555, 556, 557] (by decide +kernel) (by decide +kernel)
set_option maxRecDepth 20000 in
theorem gL_law_X2_maturity : GoodIn wsL_law (wsV RL 101 RX2 yX2_maturity wsX2_maturity) := goodIn_app (goodIn_of _ (by decide +kernel)) ggL_law_X2_maturity
set_option maxRecDepth 20000 in
theorem ggL_law_L_strength : GoodIn wsL_law wsL_strength := goodIn_ca (goodIn_r _ [181, 64, 182, 183, 184, 2, 185, 186, 82, 83, 84, 77, 78, 79, 80, 81, 118, 119, 120, 121] (by decide +kernel) (by decide +kernel)) (goodIn_sub (fun _ h => List.mem_append_left _ (List.mem_append_left _ (List.mem_append_right _ h))) (by decide +kernel))
set_option maxRecDepth 20000 in
theorem gL_law_L_strength : GoodIn wsL_law (va_wsS RL 102 yL_strength wsL_strength) := goodIn_app (goodIn_of _ (by decide +kernel)) ggL_law_L_strength
set_option maxRecDepth 20000 in
theorem ggL_law_X2_strength : GoodIn wsL_law wsX2_strength := goodIn_r _ [190, 134, 191, 138, 139, 5, 140, 192, 193, 194, 195, 196, 197, 156, 157, 158, 159, 539, 540, 541, 542, 543, 544, 545, 546, 547, 548, 549, 550, 551, 552, 553, 554, 555, 556, 557] (by decide +kernel) (by decide +kernel)
set_option maxRecDepth 20000 in
theorem gL_law_X2_strength : GoodIn wsL_law (wsV RL 104 RX2 yX2_strength wsX2_strength) := goodIn_app (goodIn_of _ (by decide +kernel)) ggL_law_X2_strength
set_option maxRecDepth 20000 in
theorem ggL_law_L_setPanels : GoodIn wsL_law wsL_setPanels := goodIn_ca (goodIn_r _ [200, 64, 201, 202, 203, 2, 204, 20, 82, 83, 84, 77, 78, 79, 80, 81, 530, 531, 532, 533, 534, 535, 536, 537, 538] (by decide +kernel) (by decide +kernel)) (goodIn_sub (fun _ h => List.mem_append_left _ (List.mem_append_left _ (List.mem_append_right _ h))) (by decide +kernel))
set_option maxRecDepth 20000 in
theorem gL_law_L_setPanels : GoodIn wsL_law (va_wsS RL 105 yL_setPanels wsL_setPanels) := goodIn_app (goodIn_of _ (by decide +kernel)) ggL_law_L_setPanels
set_option maxRecDepth 20000 in
theorem ggL_law_X2_setPanels : GoodIn wsL_law wsX2_setPanels := goodIn_r _ [208, 134, 41, 138, 139, 5, 140, 539, 540, 541, 542, 543, 544, 545, 546, 547, 548, 549, 550, 551, 552, 553, 554, 555, 556, 557] (by decide +kernel) (by decide +kernel)
set_option maxRecDepth 20000 in
theorem gL_law_X2_setPanels : GoodIn wsL_law (wsV RL 107 RX2 yX2_setPanels wsX2_setPanels) := goodIn_app (goodIn_of _ (by decide +kernel)) ggL_law_X2_setPanels
set_option maxRecDepth 20000 in
theorem ggL_law_L_setRates : GoodIn wsL_law wsL_setRates := goodIn_ca (goodIn_r _ [211, 64, 212, 213, 214, 2, 215, 115, 116, 34, 117, 21, 82, 83, 84, 77, 78, 79, 80, 81, 85, 86, 87, 88, 19, 89, 90, 91, 92, 93, 94, 95, 96, 97, 98, 99, 100, 101, 102, 103, 104, 105, 106, 107, 108, 109, 110, 111, 112, 113, 114, 15, 118, 119, 120, 121, 122, 123, 124, 125, 22, 32, 33, 35, 126, 127, 128, 129, 23, 530, 531, 532, 533, 534, 535, 536, 537, 538, 558, 559, 560, 561, 562, 563, 564, 565, 566, 567, 568, 569, 570] (by decide +kernel) (by decide +kernel)) (goodIn_sub (fun _ h => List.mem_append_left _ (List.mem_append_left _ (List.mem_append_right _ h))) (by decide +kernel))
set_option maxRecDepth 20000 in
theorem gL_law_L_setRates : GoodIn wsL_law (va_wsS RL 108 yL_setRates wsL_setRates) := goodIn_app (goodIn_of _ (by decide +kernel)) ggL_law_L_setRates
set_option maxRecDepth 20000 in
theorem ggL_law_X2_setRates : GoodIn wsL_law wsX2_setRates := goodIn_r _ [219, 134, 42, 43, 138, 139, 5, 140, 220, 221, 222, 223, 539, 540, 541, 542, 543, 544, 545, 546, 547, 548, 549, 550, 551, 552, 553, 554, 555, 556, 557] (by decide +kernel) (by decide +kernel)
set_option maxRecDepth 20000 in
theorem gL_law_X2_setRates : GoodIn wsL_law (wsV RL 110 RX2 yX2_setRates wsX2_setRates) := goodIn_app (goodIn_of _ (by decide +kernel)) ggL_law_X2_setRates
set_option maxRecDepth 20000 in
theorem ggL_law_L_setCrew : GoodIn wsL_law wsL_setCrew := goodIn_ca (goodIn_r _ [226, 64, 227, 228, 229, 2, 230, 22, 23, 82, 83, 84, 77, 78, 79, 80, 81, 85, 86, 87, 88, 19, 89, 90, 91, 92, 93, 94, 95, 96, 21, 97, 98, 99, 100, 101, 102, 103, 104, 105, 106, 107, 108, 109, 110, 111, 112, 113, 114, 115, 116, 34, 117, 15, 118, 119, 120, 121, 122, 123, 124, 125, 32, 33, 35, 126, 127, 128, 129, 530, 531, 532, 533, 534, 535, 536, 537, 538, 558, 559, 560, 561, 562, 563, 564, 565, 566, 567, 568, 569, 570] (by decide +kernel) (by decide +kernel)) (goodIn_sub (fun _ h => List.mem_append_left _ (List.mem_append_left _ (List.mem_append_right _ h))) (by decide +kernel))
set_option maxRecDepth 20000 in
theorem gL_law_L_setCrew : GoodIn wsL_law (va_wsS RL 111 yL_setCrew wsL_setCrew) := goodIn_app (goodIn_of _ (by decide +kernel)) ggL_law_L_setCrew
set_option maxRecDepth 20000 in
theorem ggL_law_X2_setCrew : GoodIn wsL_law wsX2_setCrew := goodIn_r _ [234, 134, 44, 45, 138, 139, 5, 140, 539, 540, 541, 542, 543, 544, 545, 546, 547, 548, 549, 550, 551, 552, 553, 554, 555, 556, 557] (by decide +kernel) (by decide +kernel)
set_option maxRecDepth 20000 in
theorem gL_law_X2_setCrew : GoodIn wsL_law (wsV RL 114 RX2 yX2_setCrew wsX2_setCrew) := goodIn_app (goodIn_of _ (by decide +kernel)) ggL_law_X2_setCrew
set_option maxRecDepth 20000 in
theorem ggL_law_L_plan : GoodIn wsL_law wsL_plan := goodIn_ca (goodIn_ca (goodIn_r _ [237, 64, 238, 239, 240, 241, 2, 242, 243, 244, 18, 245, 102, 19, 246, 247, 248, 82, 83, 84, 77, 78, 79, 80, 81, 249, 250, 251, 252, 253, 254, 255, 256, 257, 258, 11, 12, 13, 259, 106, 260, 261, 262, 263, 89, 90, 91, 92, 93, 94, 95, 96, 21, 97, 98, 99, 100, 101, 103, 104, 105, 107, 108, 109, 110, 111, 112, 113, 114, 115, 116, 34, 117, 15, 118, 119, 120, 121, 122, 123, 124, 125, 22, 32, 33, 35, 126, 127, 128, 129, 23, 558, 559, 560, 561, 562, 563, 564, 565, 566, 567, 568, 569, 570, 530, 531, 532, 533, 534, 535, 536, 537, 538] (by decide +kernel) (by decide +kernel)) (goodIn_sub (fun _ h => List.mem_append_left _ (List.mem_append_right _ h)) (by decide +kernel))) (goodIn_sub (fun _ h => List.mem_append_left _ (List.mem_append_left _ (List.mem_append_right _ h))) (by decide +kernel))
set_option maxRecDepth 20000 in
theorem gL_law_L_plan : GoodIn wsL_law (va_wsS RL 115 yL_plan wsL_plan) := goodIn_app (goodIn_of _ (by decide +kernel)) ggL_law_L_plan
set_option maxRecDepth 20000 in
theorem ggL_law_X2_plan : GoodIn wsL_law wsX2_plan := goodIn_r _ [267, 134, 47, 268, 269, 270, 5, 271, 272, 273, 274, 138, 139, 140, 275, 276, 277, 278, 48, 49, 50, 51, 52, 539, 540, 541, 542, 543, 544, 545, 546, 547, 548, 549, 550, 551, 552, 553, 554, 555, 556, 557] (by decide +kernel) (by decide +kernel)
set_option maxRecDepth 20000 in
theorem gL_law_X2_plan : GoodIn wsL_law (wsV RL 118 RX2 yX2_plan wsX2_plan) := goodIn_app (goodIn_of _ (by decide +kernel)) ggL_law_X2_plan
set_option maxRecDepth 20000 in
theorem ggL_law_L_move : GoodIn wsL_law wsL_move := goodIn_ca (goodIn_ca (goodIn_r _ [281, 282, 64, 283, 284, 285, 2, 286, 287, 288, 289, 290, 291, 292, 19, 253, 254, 255, 82, 83, 84, 77, 78, 79, 80, 81, 89, 90, 91, 92, 93, 94, 95, 96, 21, 97, 98, 99, 100, 101, 102, 103, 104, 105, 106, 107, 108, 109, 110, 111, 112, 113, 114, 115, 116, 34, 117, 15, 118, 119, 120, 121, 122, 123, 124, 125, 22, 32, 33, 35, 126, 127, 128, 129, 23, 558, 559, 560, 561, 562, 563, 564, 565, 566, 567, 568, 569, 570, 530, 531, 532, 533, 534, 535, 536, 537, 538] (by decide +kernel) (by decide +kernel)) (goodIn_sub (fun _ h => List.mem_append_right _ h) (by decide +kernel))) (goodIn_sub (fun _ h => List.mem_append_left _ (List.mem_append_left _ (List.mem_append_right _ h))) (by decide +kernel))
set_option maxRecDepth 20000 in
theorem gL_law_L_move : GoodIn wsL_law (va_wsS RL 119 yL_move wsL_move) := goodIn_app (goodIn_of _ (by decide +kernel)) ggL_law_L_move
set_option maxRecDepth 20000 in
theorem ggL_law_X2_move : GoodIn wsL_law wsX2_move := goodIn_r _ [296, 134, 48, 297, 298, 299, 5, 300, 47, 138, 139, 140, 539, 540, 541, 542, 543, 544, 545, 546, 547, 548, 549, 550, 551, 552, 553, 554, 555, 556, 557] (by decide +kernel) (by decide +kernel)
set_option maxRecDepth 20000 in
theorem gL_law_X2_move : GoodIn wsL_law (wsV RL 121 RX2 yX2_move wsX2_move) := goodIn_app (goodIn_of _ (by decide +kernel)) ggL_law_X2_move
set_option maxRecDepth 20000 in
theorem ggL_law_L_cancel : GoodIn wsL_law wsL_cancel := goodIn_ca (goodIn_r _ [303, 282, 304, 305, 306, 2, 307, 19, 287, 288, 289, 290, 291, 292, 253, 254, 255, 530, 531, 532, 533, 534, 535, 536, 537, 538, 558, 559, 560, 561, 562, 563, 564, 565, 566, 567, 568, 569, 570] (by decide +kernel) (by decide +kernel)) (goodIn_sub (fun _ h => List.mem_append_right _ h) (by decide +kernel))
set_option maxRecDepth 20000 in
theorem gL_law_L_cancel : GoodIn wsL_law (va_wsS RL 122 yL_cancel wsL_cancel) := goodIn_app (goodIn_of _ (by decide +kernel)) ggL_law_L_cancel
set_option maxRecDepth 20000 in
theorem ggL_law_X2_cancel : GoodIn wsL_law wsX2_cancel := goodIn_r _ [311, 134, 47, 50, 297, 298, 299, 5, 300, 138, 139, 140, 539, 540, 541, 542, 543, 544, 545, 546, 547, 548, 549, 550, 551, 552, 553, 554, 555, 556, 557] (by decide +kernel) (by decide +kernel)
set_option maxRecDepth 20000 in
theorem gL_law_X2_cancel : GoodIn wsL_law (wsV RL 124 RX2 yX2_cancel wsX2_cancel) := goodIn_app (goodIn_of _ (by decide +kernel)) ggL_law_X2_cancel
set_option maxRecDepth 20000 in
theorem ggL_law_L_delay : GoodIn wsL_law wsL_delay := goodIn_ca (goodIn_ca (goodIn_ca (goodIn_r _ [314, 282, 64, 238, 315, 316, 317, 2, 318, 243, 244, 287, 288, 289, 290, 291, 292, 19, 253, 254, 255, 82, 83, 84, 77, 78, 79, 80, 81, 319, 102, 320, 321, 105, 259, 106, 89, 90, 91, 92, 93, 94, 95, 96, 21, 97, 98, 99, 100, 101, 103, 104, 107, 108, 109, 110, 111, 112, 113, 114, 115, 116, 34, 117, 15, 118, 119, 120, 121, 122, 123, 124, 125, 22, 32, 33, 35, 126, 127, 128, 129, 23, 558, 559, 560, 561, 562, 563, 564, 565, 566, 567, 568, 569, 570, 530, 531, 532, 533, 534, 535, 536, 537, 538] (by decide +kernel) (by decide +kernel)) (goodIn_sub (fun _ h => List.mem_append_left _ (List.mem_append_right _ h)) (by decide +kernel))) (goodIn_sub (fun _ h => List.mem_append_right _ h) (by decide +kernel))) (goodIn_sub (fun _ h => List.mem_append_left _ (List.mem_append_left _ (List.mem_append_right _ h))) (by decide +kernel))
set_option maxRecDepth 20000 in
theorem gL_law_L_delay : GoodIn wsL_law (va_wsS RL 125 yL_delay wsL_delay) := goodIn_app (goodIn_of _ (by decide +kernel)) ggL_law_L_delay
set_option maxRecDepth 20000 in
theorem ggL_law_X2_delay : GoodIn wsL_law wsX2_delay := goodIn_r _ [325, 49, 52, 134, 53, 54, 297, 298, 299, 5, 300, 47, 138, 139, 140, 539, 540, 541, 542, 543, 544, 545, 546, 547, 548, 549, 550, 551, 552, 553, 554, 555, 556, 557] (by decide +kernel) (by decide +kernel)
set_option maxRecDepth 20000 in
theorem gL_law_X2_delay : GoodIn wsL_law (wsV RL 128 RX2 yX2_delay wsX2_delay) := goodIn_app (goodIn_of _ (by decide +kernel)) ggL_law_X2_delay
set_option maxRecDepth 20000 in
theorem ggL_law_X1_pours : GoodIn wsL_law wsX1_pours := goodIn_r _ [329, 19, 530, 531, 532, 533, 534, 535, 536, 537, 538] (by decide +kernel) (by decide +kernel)
set_option maxRecDepth 20000 in
theorem gL_law_X1_pours : GoodIn wsL_law (wsV RL 129 RX1 yX1_pours wsX1_pours) := goodIn_app (goodIn_of _ (by decide +kernel)) ggL_law_X1_pours
set_option maxRecDepth 20000 in
theorem ggL_law_X2_pours : GoodIn wsL_law wsX2_pours := goodIn_r _ [333, 134, 47, 539, 540, 541, 542, 543, 544, 545, 546, 547, 548, 549, 550, 551, 552, 553, 554, 555, 556, 557] (by decide +kernel) (by decide +kernel)
set_option maxRecDepth 20000 in
theorem gL_law_X2_pours : GoodIn wsL_law (wsV RL 132 RX2 yX2_pours wsX2_pours) := goodIn_app (goodIn_of _ (by decide +kernel)) ggL_law_X2_pours
set_option maxRecDepth 20000 in
theorem ggL_law_L_endOf : GoodIn wsL_law wsL_endOf := goodIn_ca (goodIn_r _ [336, 282, 337, 338, 339, 2, 340, 287, 288, 289, 290, 291, 292, 19, 253, 254, 255, 558, 559, 560, 561, 562, 563, 564, 565, 566, 567, 568, 569, 570, 530, 531, 532, 533, 534, 535, 536, 537, 538] (by decide +kernel) (by decide +kernel)) (goodIn_sub (fun _ h => List.mem_append_right _ h) (by decide +kernel))
set_option maxRecDepth 20000 in
theorem gL_law_L_endOf : GoodIn wsL_law (va_wsS RL 133 yL_endOf wsL_endOf) := goodIn_app (goodIn_of _ (by decide +kernel)) ggL_law_L_endOf
set_option maxRecDepth 20000 in
theorem ggL_law_X2_endOf : GoodIn wsL_law wsX2_endOf := goodIn_r _ [344, 345, 346, 347, 5, 348, 134, 297, 298, 299, 300, 47, 138, 139, 140, 349, 350, 351, 352, 55, 48, 44, 56, 51, 57, 45, 353, 354, 355, 356, 49, 220, 221, 222, 223, 42, 43, 357, 358, 359, 360, 52, 54, 192, 193, 194, 195, 196, 197, 175, 176, 177, 178, 40, 135, 136, 137, 539, 540, 541, 542, 543, 544, 545, 546, 547, 548, 549, 550, 551, 552, 553, 554, 555, 556, 557] (by decide +kernel) (by decide +kernel)
set_option maxRecDepth 20000 in
theorem gL_law_X2_endOf : GoodIn wsL_law (wsV RL 135 RX2 yX2_endOf wsX2_endOf) := goodIn_app (goodIn_of _ (by decide +kernel)) ggL_law_X2_endOf
set_option maxRecDepth 20000 in
theorem ggL_law_L_coldJoints : GoodIn wsL_law wsL_coldJoints := goodIn_ca (goodIn_r _ [363, 282, 364, 365, 366, 2, 367, 287, 288, 289, 290, 291, 292, 19, 253, 254, 255, 97, 98, 99, 100, 21, 111, 112, 113, 114, 115, 116, 34, 117, 15, 558, 559, 560, 561, 562, 563, 564, 565, 566, 567, 568, 569, 570, 530, 531, 532, 533, 534, 535, 536, 537, 538] (by decide +kernel) (by decide +kernel)) (goodIn_sub (fun _ h => List.mem_append_right _ h) (by decide +kernel))
set_option maxRecDepth 20000 in
theorem gL_law_L_coldJoints : GoodIn wsL_law (va_wsS RL 136 yL_coldJoints wsL_coldJoints) := goodIn_app (goodIn_of _ (by decide +kernel)) ggL_law_L_coldJoints
set_option maxRecDepth 20000 in
theorem ggL_law_X2_coldJoints : GoodIn wsL_law wsX2_coldJoints := goodIn_r _ [371, 52, 48, 53, 54, 345, 346, 347, 5, 348, 134, 297, 298, 299, 300, 47, 138, 139, 140, 349, 350, 351, 352, 55, 44, 56, 51, 57, 45, 353, 354, 355, 356, 49, 220, 221, 222, 223, 42, 43, 357, 358, 359, 360, 192, 193, 194, 195, 196, 197, 175, 176, 177, 178, 40, 135, 136, 137, 171, 172, 173, 174, 539, 540, 541, 542, 543, 544, 545, 546, 547, 548, 549, 550, 551, 552, 553, 554, 555, 556, 557] (by decide +kernel) (by decide +kernel)
set_option maxRecDepth 20000 in
theorem gL_law_X2_coldJoints : GoodIn wsL_law (wsV RL 138 RX2 yX2_coldJoints wsX2_coldJoints) := goodIn_app (goodIn_of _ (by decide +kernel)) ggL_law_X2_coldJoints
set_option maxRecDepth 20000 in
theorem ggL_law_L_struck : GoodIn wsL_law wsL_struck := goodIn_ca (goodIn_r _ [374, 282, 375, 376, 377, 2, 378, 287, 288, 289, 290, 291, 292, 19, 253, 254, 255, 558, 559, 560, 561, 562, 563, 564, 565, 566, 567, 568, 569, 570, 530, 531, 532, 533, 534, 535, 536, 537, 538] (by decide +kernel) (by decide +kernel)) (goodIn_sub (fun _ h => List.mem_append_right _ h) (by decide +kernel))
set_option maxRecDepth 20000 in
theorem gL_law_L_struck : GoodIn wsL_law (va_wsS RL 139 yL_struck wsL_struck) := goodIn_app (goodIn_of _ (by decide +kernel)) ggL_law_L_struck
set_option maxRecDepth 20000 in
theorem ggL_law_X2_struck : GoodIn wsL_law wsX2_struck := goodIn_r _ [382, 56, 345, 346, 347, 5, 348, 134, 297, 298, 299, 300, 47, 138, 139, 140, 349, 350, 351, 352, 55, 48, 44, 51, 57, 45, 353, 354, 355, 356, 49, 220, 221, 222, 223, 42, 43, 357, 358, 359, 360, 52, 54, 192, 193, 194, 195, 196, 197, 175, 176, 177, 178, 40, 135, 136, 137, 539, 540, 541, 542, 543, 544, 545, 546, 547, 548, 549, 550, 551, 552, 553, 554, 555, 556, 557] (by decide +kernel) (by decide +kernel)
set_option maxRecDepth 20000 in
theorem gL_law_X2_struck : GoodIn wsL_law (wsV RL 141 RX2 yX2_struck wsX2_struck) := goodIn_app (goodIn_of _ (by decide +kernel)) ggL_law_X2_struck
set_option maxRecDepth 20000 in
theorem ggL_law_L_freeFrom : GoodIn wsL_law wsL_freeFrom := goodIn_ca (goodIn_r _ [385, 282, 386, 387, 388, 2, 389, 287, 288, 289, 290, 291, 292, 19, 253, 254, 255, 558, 559, 560, 561, 562, 563, 564, 565, 566, 567, 568, 569, 570, 530, 531, 532, 533, 534, 535, 536, 537, 538] (by decide +kernel) (by decide +kernel)) (goodIn_sub (fun _ h => List.mem_append_right _ h) (by decide +kernel))
set_option maxRecDepth 20000 in
theorem gL_law_L_freeFrom : GoodIn wsL_law (va_wsS RL 142 yL_freeFrom wsL_freeFrom) := goodIn_app (goodIn_of _ (by decide +kernel)) ggL_law_L_freeFrom
set_option maxRecDepth 20000 in
theorem ggL_law_X2_freeFrom : GoodIn wsL_law wsX2_freeFrom := goodIn_r _ [393, 57, 345, 346, 347, 5, 348, 134, 297, 298, 299, 300, 47, 138, 139, 140, 349, 350, 351, 352, 55, 48, 44, 56, 51, 45, 353, 354, 355, 356, 49, 220, 221, 222, 223, 42, 43, 357, 358, 359, 360, 52, 54, 192, 193, 194, 195, 196, 197, 175, 176, 177, 178, 40, 135, 136, 137, 539, 540, 541, 542, 543, 544, 545, 546, 547, 548, 549, 550, 551, 552, 553, 554, 555, 556, 557] (by decide +kernel) (by decide +kernel)
set_option maxRecDepth 20000 in
theorem gL_law_X2_freeFrom : GoodIn wsL_law (wsV RL 144 RX2 yX2_freeFrom wsX2_freeFrom) := goodIn_app (goodIn_of _ (by decide +kernel)) ggL_law_X2_freeFrom
set_option maxRecDepth 20000 in
theorem ggL_law_L_need : GoodIn wsL_law wsL_need := goodIn_ca (goodIn_r _ [396, 63, 397, 398, 399, 2, 400, 69, 70, 71, 72, 73, 74, 75, 76, 401, 402, 403, 404, 19, 405, 102, 406, 407, 408, 409, 530, 531, 532, 533, 534, 535, 536, 537, 538, 558, 559, 560, 561, 562, 563, 564, 565, 566, 567, 568, 569, 570] (by decide +kernel) (by decide +kernel)) (goodIn_sub (fun _ h => List.mem_append_left _ (List.mem_append_left _ (List.mem_append_left _ (List.mem_append_right _ h)))) (by decide +kernel))
set_option maxRecDepth 20000 in
theorem gL_law_L_need : GoodIn wsL_law (va_wsS RL 145 yL_need wsL_need) := goodIn_app (goodIn_of _ (by decide +kernel)) ggL_law_L_need
set_option maxRecDepth 20000 in
theorem ggL_law_X2_need : GoodIn wsL_law wsX2_need := goodIn_r _ [413, 134, 135, 136, 5, 137, 138, 139, 140, 414, 415, 416, 417, 47, 349, 350, 351, 352, 55, 48, 44, 56, 51, 57, 45, 353, 354, 355, 356, 49, 220, 221, 222, 223, 42, 43, 357, 358, 359, 360, 52, 54, 192, 193, 194, 195, 196, 197, 175, 176, 177, 178, 40, 418, 419, 420, 421, 50, 422, 423, 424, 425, 539, 540, 541, 542, 543, 544, 545, 546, 547, 548, 549, 550, 551, 552, 553, 554, 555, 556, 557] (by decide +kernel) (by decide +kernel)
set_option maxRecDepth 20000 in
theorem gL_law_X2_need : GoodIn wsL_law (wsV RL 147 RX2 yX2_need wsX2_need) := goodIn_app (goodIn_of _ (by decide +kernel)) ggL_law_X2_need
set_option maxRecDepth 20000 in
theorem ggL_law_X1_peak : GoodIn wsL_law wsX1_peak := goodIn_r _ [429, 16, 32, 33, 34, 35, 430, 431, 432, 2, 433, 401, 402, 403, 404, 19, 405, 102, 406, 407, 408, 409, 530, 531, 532, 533, 534, 535, 536, 537, 538, 558, 559, 560, 561, 562, 563, 564, 565, 566, 567, 568, 569, 570] (by decide +kernel) (by decide +kernel)
set_option maxRecDepth 20000 in
theorem gL_law_X1_peak : GoodIn wsL_law (wsV RL 148 RX1 yX1_peak wsX1_peak) := goodIn_app (goodIn_of _ (by decide +kernel)) ggL_law_X1_peak
set_option maxRecDepth 20000 in
theorem ggL_law_X2_peak : GoodIn wsL_law wsX2_peak := goodIn_r _ [437, 134, 438, 439, 440, 5, 441, 414, 415, 416, 417, 47, 349, 350, 351, 352, 55, 48, 44, 56, 51, 57, 45, 353, 354, 355, 356, 49, 220, 221, 222, 223, 42, 43, 357, 358, 359, 360, 52, 54, 192, 193, 194, 195, 196, 197, 175, 176, 177, 178, 40, 135, 136, 137, 138, 139, 140, 418, 419, 420, 421, 50, 422, 423, 424, 425, 539, 540, 541, 542, 543, 544, 545, 546, 547, 548, 549, 550, 551, 552, 553, 554, 555, 556, 557] (by decide +kernel) (by decide +kernel)
set_option maxRecDepth 20000 in
theorem gL_law_X2_peak : GoodIn wsL_law (wsV RL 151 RX2 yX2_peak wsX2_peak) := goodIn_app (goodIn_of _ (by decide +kernel)) ggL_law_X2_peak
set_option maxRecDepth 20000 in
theorem ggL_law_X1_peakByOverlaps : GoodIn wsL_law wsX1_peakByOverlaps := goodIn_r _ [445, 19, 32, 33, 34, 35, 401, 402, 403, 2, 404, 405, 102, 406, 407, 408, 409, 530, 531, 532, 533, 534, 535, 536, 537, 538, 558, 559, 560, 561, 562, 563, 564, 565, 566, 567, 568, 569, 570] (by decide +kernel) (by decide +kernel)
set_option maxRecDepth 20000 in
theorem gL_law_X1_peakByOverlaps : GoodIn wsL_law (wsV RL 152 RX1 yX1_peakByOverlaps wsX1_peakByOverlaps) := goodIn_app (goodIn_of _ (by decide +kernel)) ggL_law_X1_peakByOverlaps
set_option maxRecDepth 20000 in
theorem ggL_law_X2_peakByOverlaps : GoodIn wsL_law wsX2_peakByOverlaps := goodIn_r _ [449, 134, 438, 439, 440, 5, 441, 414, 415, 416, 417, 47, 349, 350, 351, 352, 55, 48, 44, 56, 51, 57, 45, 353, 354, 355, 356, 49, 220, 221, 222, 223, 42, 43, 357, 358, 359, 360, 52, 54, 192, 193, 194, 195, 196, 197, 175, 176, 177, 178, 40, 135, 136, 137, 138, 139, 140, 418, 419, 420, 421, 50, 422, 423, 424, 425, 539, 540, 541, 542, 543, 544, 545, 546, 547, 548, 549, 550, 551, 552, 553, 554, 555, 556, 557] (by decide +kernel) (by decide +kernel)
set_option maxRecDepth 20000 in
theorem gL_law_X2_peakByOverlaps : GoodIn wsL_law (wsV RL 155 RX2 yX2_peakByOverlaps wsX2_peakByOverlaps) := goodIn_app (goodIn_of _ (by decide +kernel)) ggL_law_X2_peakByOverlaps
set_option maxRecDepth 20000 in
theorem ggL_law_X1_firstShort : GoodIn wsL_law wsX1_firstShort := goodIn_r _ [453, 16, 20, 430, 431, 432, 2, 433, 401, 402, 403, 404, 19, 405, 102, 406, 407, 408, 409, 530, 531, 532, 533, 534, 535, 536, 537, 538, 558, 559, 560, 561, 562, 563, 564, 565, 566, 567, 568, 569, 570] (by decide +kernel) (by decide +kernel)
set_option maxRecDepth 20000 in
theorem gL_law_X1_firstShort : GoodIn wsL_law (wsV RL 156 RX1 yX1_firstShort wsX1_firstShort) := goodIn_app (goodIn_of _ (by decide +kernel)) ggL_law_X1_firstShort
set_option maxRecDepth 20000 in
theorem ggL_law_X2_firstShort : GoodIn wsL_law wsX2_firstShort := goodIn_r _ [457, 134, 41, 414, 415, 416, 5, 417, 47, 349, 350, 351, 352, 55, 48, 44, 56, 51, 57, 45, 353, 354, 355, 356, 49, 220, 221, 222, 223, 42, 43, 357, 358, 359, 360, 52, 54, 192, 193, 194, 195, 196, 197, 175, 176, 177, 178, 40, 135, 136, 137, 138, 139, 140, 418, 419, 420, 421, 50, 422, 423, 424, 425, 539, 540, 541, 542, 543, 544, 545, 546, 547, 548, 549, 550, 551, 552, 553, 554, 555, 556, 557] (by decide +kernel) (by decide +kernel)
set_option maxRecDepth 20000 in
theorem gL_law_X2_firstShort : GoodIn wsL_law (wsV RL 159 RX2 yX2_firstShort wsX2_firstShort) := goodIn_app (goodIn_of _ (by decide +kernel)) ggL_law_X2_firstShort
set_option maxRecDepth 20000 in
theorem ggL_law_L_earliest : GoodIn wsL_law wsL_earliest := goodIn_ca (goodIn_r _ [460, 64, 461, 462, 463, 2, 464, 17, 246, 247, 248, 82, 83, 84, 77, 78, 79, 80, 81, 430, 431, 432, 433, 16, 401, 402, 403, 404, 19, 405, 102, 406, 407, 408, 409, 465, 466, 467, 468, 20, 93, 94, 95, 96, 21, 97, 98, 99, 100, 122, 123, 124, 125, 22, 32, 33, 34, 35, 107, 108, 109, 110, 111, 112, 113, 114, 115, 116, 117, 15, 118, 119, 120, 121, 126, 127, 128, 129, 23, 74, 75, 76, 530, 531, 532, 533, 534, 535, 536, 537, 538, 558, 559, 560, 561, 562, 563, 564, 565, 566, 567, 568, 569, 570] (by decide +kernel) (by decide +kernel)) (goodIn_sub (fun _ h => List.mem_append_left _ (List.mem_append_left _ (List.mem_append_right _ h))) (by decide +kernel))
set_option maxRecDepth 20000 in
theorem gL_law_L_earliest : GoodIn wsL_law (va_wsS RL 160 yL_earliest wsL_earliest) := goodIn_app (goodIn_of _ (by decide +kernel)) ggL_law_L_earliest
set_option maxRecDepth 20000 in
theorem ggL_law_X2_earliest : GoodIn wsL_law wsX2_earliest := goodIn_r _ [472, 134, 272, 273, 5, 274, 138, 139, 140, 414, 415, 416, 417, 47, 349, 350, 351, 352, 55, 48, 44, 56, 51, 57, 45, 353, 354, 355, 356, 49, 220, 221, 222, 223, 42, 43, 357, 358, 359, 360, 52, 54, 192, 193, 194, 195, 196, 197, 175, 176, 177, 178, 40, 135, 136, 137, 275, 276, 277, 278, 50, 473, 474, 475, 476, 41, 418, 419, 420, 421, 422, 423, 424, 425, 539, 540, 541, 542, 543, 544, 545, 546, 547, 548, 549, 550, 551, 552, 553, 554, 555, 556, 557] (by decide +kernel) (by decide +kernel)
set_option maxRecDepth 20000 in
theorem gL_law_X2_earliest : GoodIn wsL_law (wsV RL 162 RX2 yX2_earliest wsX2_earliest) := goodIn_app (goodIn_of _ (by decide +kernel)) ggL_law_X2_earliest
set_option maxRecDepth 20000 in
theorem ggL_law_L_panelsOf : GoodIn wsL_law wsL_panelsOf := goodIn_ca (goodIn_r _ [479, 282, 480, 481, 482, 2, 483, 287, 288, 289, 290, 291, 292, 19, 253, 254, 255, 484, 485, 486, 487, 488, 489, 490, 491, 492, 493, 494, 495, 405, 102, 406, 407, 408, 409, 496, 497, 498, 499, 20, 500, 501, 502, 503, 504, 505, 506, 558, 559, 560, 561, 562, 563, 564, 565, 566, 567, 568, 569, 570, 530, 531, 532, 533, 534, 535, 536, 537, 538] (by decide +kernel) (by decide +kernel)) (goodIn_sub (fun _ h => List.mem_append_right _ h) (by decide +kernel))
set_option maxRecDepth 20000 in
theorem gL_law_L_panelsOf : GoodIn wsL_law (va_wsS RL 163 yL_panelsOf wsL_panelsOf) := goodIn_app (goodIn_of _ (by decide +kernel)) ggL_law_L_panelsOf
set_option maxRecDepth 20000 in
theorem ggL_law_X2_panelsOf : GoodIn wsL_law wsX2_panelsOf := goodIn_r _ [510, 134, 58, 297, 298, 299, 5, 300, 47, 138, 139, 140, 511, 512, 513, 514, 55, 50, 41, 414, 415, 416, 417, 349, 350, 351, 352, 48, 44, 56, 51, 57, 45, 353, 354, 355, 356, 49, 220, 221, 222, 223, 42, 43, 357, 358, 359, 360, 52, 54, 192, 193, 194, 195, 196, 197, 175, 176, 177, 178, 40, 135, 136, 137, 515, 516, 517, 518, 422, 423, 424, 425, 539, 540, 541, 542, 543, 544, 545, 546, 547, 548, 549, 550, 551, 552, 553, 554, 555, 556, 557] (by decide +kernel) (by decide +kernel)
set_option maxRecDepth 20000 in
theorem gL_law_X2_panelsOf : GoodIn wsL_law (wsV RL 165 RX2 yX2_panelsOf wsX2_panelsOf) := goodIn_app (goodIn_of _ (by decide +kernel)) ggL_law_X2_panelsOf
set_option maxRecDepth 20000 in
theorem ggL_law_L_pourOf : GoodIn wsL_law wsL_pourOf := goodIn_ca (goodIn_r _ [521, 63, 522, 523, 524, 2, 525, 72, 73, 20, 19, 69, 70, 71, 74, 75, 76, 484, 485, 486, 487, 488, 489, 490, 491, 492, 493, 494, 495, 405, 102, 406, 407, 408, 409, 496, 497, 498, 499, 530, 531, 532, 533, 534, 535, 536, 537, 538, 558, 559, 560, 561, 562, 563, 564, 565, 566, 567, 568, 569, 570] (by decide +kernel) (by decide +kernel)) (goodIn_sub (fun _ h => List.mem_append_left _ (List.mem_append_left _ (List.mem_append_left _ (List.mem_append_right _ h)))) (by decide +kernel))
set_option maxRecDepth 20000 in
theorem gL_law_L_pourOf : GoodIn wsL_law (va_wsS RL 166 yL_pourOf wsL_pourOf) := goodIn_app (goodIn_of _ (by decide +kernel)) ggL_law_L_pourOf
set_option maxRecDepth 20000 in
theorem ggL_law_X2_pourOf : GoodIn wsL_law wsX2_pourOf := goodIn_r _ [529, 41, 134, 58, 138, 139, 5, 140, 135, 136, 137, 511, 512, 513, 514, 47, 55, 50, 414, 415, 416, 417, 349, 350, 351, 352, 48, 44, 56, 51, 57, 45, 353, 354, 355, 356, 49, 220, 221, 222, 223, 42, 43, 357, 358, 359, 360, 52, 54, 192, 193, 194, 195, 196, 197, 175, 176, 177, 178, 40, 515, 516, 517, 518, 422, 423, 424, 425, 539, 540, 541, 542, 543, 544, 545, 546, 547, 548, 549, 550, 551, 552, 553, 554, 555, 556, 557] (by decide +kernel) (by decide +kernel)
set_option maxRecDepth 20000 in
theorem gL_law_X2_pourOf : GoodIn wsL_law (wsV RL 168 RX2 yX2_pourOf wsX2_pourOf) := goodIn_app (goodIn_of _ (by decide +kernel)) ggL_law_X2_pourOf
theorem dL_law_0 : decode cL_law 0 = .ok (.new 8, 3) := by decide +kernel
theorem dL_law_3 : decode cL_law 3 = .ok (.dup, 1) := by decide +kernel
theorem dL_law_4 : decode cL_law 4 = .ok (.invokespecial 80, 3) := by decide +kernel
theorem dL_law_7 : decode cL_law 7 = .ok (.astore_n 1, 1) := by decide +kernel
theorem dL_law_8 : decode cL_law 8 = .ok (.new 81, 3) := by decide +kernel
theorem dL_law_11 : decode cL_law 11 = .ok (.dup, 1) := by decide +kernel
theorem dL_law_12 : decode cL_law 12 = .ok (.invokespecial 83, 3) := by decide +kernel
theorem dL_law_15 : decode cL_law 15 = .ok (.astore_n 2, 1) := by decide +kernel
theorem dL_law_16 : decode cL_law 16 = .ok (.iconst 1, 1) := by decide +kernel
theorem dL_law_17 : decode cL_law 17 = .ok (.newarray .long, 2) := by decide +kernel
theorem dL_law_19 : decode cL_law 19 = .ok (.astore_n 3, 1) := by decide +kernel
theorem dL_law_20 : decode cL_law 20 = .ok (.iconst 0, 1) := by decide +kernel
theorem dL_law_21 : decode cL_law 21 = .ok (.istore 4, 2) := by decide +kernel
theorem dL_law_23 : decode cL_law 23 = .ok (.iload 4, 2) := by decide +kernel
theorem dL_law_25 : decode cL_law 25 = .ok (.aload_n 0, 1) := by decide +kernel
theorem dL_law_26 : decode cL_law 26 = .ok (.arraylength, 1) := by decide +kernel
theorem dL_law_27 : decode cL_law 27 = .ok (.iconst 5, 1) := by decide +kernel
theorem dL_law_28 : decode cL_law 28 = .ok (.isub, 1) := by decide +kernel
theorem dL_law_29 : decode cL_law 29 = .ok (.if_icmp .gt 1377, 3) := by decide +kernel
theorem dL_law_32 : decode cL_law 32 = .ok (.aload_n 0, 1) := by decide +kernel
theorem dL_law_33 : decode cL_law 33 = .ok (.iload 4, 2) := by decide +kernel
theorem dL_law_35 : decode cL_law 35 = .ok (.iaload, 1) := by decide +kernel
theorem dL_law_36 : decode cL_law 36 = .ok (.bipush 31, 2) := by decide +kernel
theorem dL_law_38 : decode cL_law 38 = .ok (.iand, 1) := by decide +kernel
theorem dL_law_39 : decode cL_law 39 = .ok (.tableswitch 1361 0 22 #[105, 165, 221, 289, 345, 401, 469, 517, 609, 677, 733, 813, 826, 882, 938, 994, 1050, 1106, 1119, 1132, 1145, 1237, 1293], 105) := by decide +kernel
theorem dL_law_144 : decode cL_law 144 = .ok (.aload_n 1, 1) := by decide +kernel
theorem dL_law_145 : decode cL_law 145 = .ok (.aload_n 0, 1) := by decide +kernel
theorem dL_law_146 : decode cL_law 146 = .ok (.iload 4, 2) := by decide +kernel
theorem dL_law_148 : decode cL_law 148 = .ok (.iconst 1, 1) := by decide +kernel
theorem dL_law_149 : decode cL_law 149 = .ok (.iadd, 1) := by decide +kernel
theorem dL_law_150 : decode cL_law 150 = .ok (.iaload, 1) := by decide +kernel
theorem dL_law_151 : decode cL_law 151 = .ok (.aload_n 0, 1) := by decide +kernel
theorem dL_law_152 : decode cL_law 152 = .ok (.iload 4, 2) := by decide +kernel
theorem dL_law_154 : decode cL_law 154 = .ok (.iconst 2, 1) := by decide +kernel
theorem dL_law_155 : decode cL_law 155 = .ok (.iadd, 1) := by decide +kernel
theorem dL_law_156 : decode cL_law 156 = .ok (.iaload, 1) := by decide +kernel
theorem dL_law_157 : decode cL_law 157 = .ok (.aload_n 0, 1) := by decide +kernel
theorem dL_law_158 : decode cL_law 158 = .ok (.iload 4, 2) := by decide +kernel
theorem dL_law_160 : decode cL_law 160 = .ok (.iconst 3, 1) := by decide +kernel
theorem dL_law_161 : decode cL_law 161 = .ok (.iadd, 1) := by decide +kernel
theorem dL_law_162 : decode cL_law 162 = .ok (.iaload, 1) := by decide +kernel
theorem dL_law_163 : decode cL_law 163 = .ok (.invokestatic 84, 3) := by decide +kernel
theorem dL_law_166 : decode cL_law 166 = .ok (.istore 5, 2) := by decide +kernel
theorem dL_law_168 : decode cL_law 168 = .ok (.aload_n 2, 1) := by decide +kernel
theorem dL_law_169 : decode cL_law 169 = .ok (.aload_n 0, 1) := by decide +kernel
theorem dL_law_170 : decode cL_law 170 = .ok (.iload 4, 2) := by decide +kernel
theorem dL_law_172 : decode cL_law 172 = .ok (.iconst 1, 1) := by decide +kernel
theorem dL_law_173 : decode cL_law 173 = .ok (.iadd, 1) := by decide +kernel
theorem dL_law_174 : decode cL_law 174 = .ok (.iaload, 1) := by decide +kernel
theorem dL_law_175 : decode cL_law 175 = .ok (.aload_n 0, 1) := by decide +kernel
theorem dL_law_176 : decode cL_law 176 = .ok (.iload 4, 2) := by decide +kernel
theorem dL_law_178 : decode cL_law 178 = .ok (.iconst 2, 1) := by decide +kernel
theorem dL_law_179 : decode cL_law 179 = .ok (.iadd, 1) := by decide +kernel
theorem dL_law_180 : decode cL_law 180 = .ok (.iaload, 1) := by decide +kernel
theorem dL_law_181 : decode cL_law 181 = .ok (.aload_n 0, 1) := by decide +kernel
theorem dL_law_182 : decode cL_law 182 = .ok (.iload 4, 2) := by decide +kernel
theorem dL_law_184 : decode cL_law 184 = .ok (.iconst 3, 1) := by decide +kernel
theorem dL_law_185 : decode cL_law 185 = .ok (.iadd, 1) := by decide +kernel
theorem dL_law_186 : decode cL_law 186 = .ok (.iaload, 1) := by decide +kernel
theorem dL_law_187 : decode cL_law 187 = .ok (.invokevirtual 89, 3) := by decide +kernel
theorem dL_law_190 : decode cL_law 190 = .ok (.aload_n 2, 1) := by decide +kernel
theorem dL_law_191 : decode cL_law 191 = .ok (.invokevirtual 90, 3) := by decide +kernel
theorem dL_law_194 : decode cL_law 194 = .ok (.iload 5, 2) := by decide +kernel
theorem dL_law_196 : decode cL_law 196 = .ok (.if_icmp .eq 5, 3) := by decide +kernel
theorem dL_law_199 : decode cL_law 199 = .ok (.iconst 0, 1) := by decide +kernel
theorem dL_law_200 : decode cL_law 200 = .ok (.ireturn, 1) := by decide +kernel
theorem dL_law_201 : decode cL_law 201 = .ok (.goto 1199, 3) := by decide +kernel
theorem dL_law_204 : decode cL_law 204 = .ok (.aload_n 1, 1) := by decide +kernel
theorem dL_law_205 : decode cL_law 205 = .ok (.aload_n 0, 1) := by decide +kernel
theorem dL_law_206 : decode cL_law 206 = .ok (.iload 4, 2) := by decide +kernel
theorem dL_law_208 : decode cL_law 208 = .ok (.iconst 1, 1) := by decide +kernel
theorem dL_law_209 : decode cL_law 209 = .ok (.iadd, 1) := by decide +kernel
theorem dL_law_210 : decode cL_law 210 = .ok (.iaload, 1) := by decide +kernel
theorem dL_law_211 : decode cL_law 211 = .ok (.aload_n 3, 1) := by decide +kernel
theorem dL_law_212 : decode cL_law 212 = .ok (.invokestatic 94, 3) := by decide +kernel
theorem dL_law_215 : decode cL_law 215 = .ok (.istore 5, 2) := by decide +kernel
theorem dL_law_217 : decode cL_law 217 = .ok (.aload_n 2, 1) := by decide +kernel
theorem dL_law_218 : decode cL_law 218 = .ok (.aload_n 0, 1) := by decide +kernel
theorem dL_law_219 : decode cL_law 219 = .ok (.iload 4, 2) := by decide +kernel
theorem dL_law_221 : decode cL_law 221 = .ok (.iconst 1, 1) := by decide +kernel
theorem dL_law_222 : decode cL_law 222 = .ok (.iadd, 1) := by decide +kernel
theorem dL_law_223 : decode cL_law 223 = .ok (.iaload, 1) := by decide +kernel
theorem dL_law_224 : decode cL_law 224 = .ok (.invokevirtual 97, 3) := by decide +kernel
theorem dL_law_227 : decode cL_law 227 = .ok (.istore 6, 2) := by decide +kernel
theorem dL_law_229 : decode cL_law 229 = .ok (.aload_n 2, 1) := by decide +kernel
theorem dL_law_230 : decode cL_law 230 = .ok (.invokevirtual 90, 3) := by decide +kernel
theorem dL_law_233 : decode cL_law 233 = .ok (.iload 5, 2) := by decide +kernel
theorem dL_law_235 : decode cL_law 235 = .ok (.if_icmp .eq 5, 3) := by decide +kernel
theorem dL_law_238 : decode cL_law 238 = .ok (.iconst 0, 1) := by decide +kernel
theorem dL_law_239 : decode cL_law 239 = .ok (.ireturn, 1) := by decide +kernel
theorem dL_law_240 : decode cL_law 240 = .ok (.iload 5, 2) := by decide +kernel
theorem dL_law_242 : decode cL_law 242 = .ok (.ifCond .ne 15, 3) := by decide +kernel
theorem dL_law_245 : decode cL_law 245 = .ok (.aload_n 3, 1) := by decide +kernel
theorem dL_law_246 : decode cL_law 246 = .ok (.iconst 0, 1) := by decide +kernel
theorem dL_law_247 : decode cL_law 247 = .ok (.laload, 1) := by decide +kernel
theorem dL_law_248 : decode cL_law 248 = .ok (.iload 6, 2) := by decide +kernel
theorem dL_law_250 : decode cL_law 250 = .ok (.i2l, 1) := by decide +kernel
theorem dL_law_251 : decode cL_law 251 = .ok (.lcmp, 1) := by decide +kernel
theorem dL_law_252 : decode cL_law 252 = .ok (.ifCond .eq 5, 3) := by decide +kernel
theorem dL_law_255 : decode cL_law 255 = .ok (.iconst 0, 1) := by decide +kernel
theorem dL_law_256 : decode cL_law 256 = .ok (.ireturn, 1) := by decide +kernel
theorem dL_law_257 : decode cL_law 257 = .ok (.goto 1143, 3) := by decide +kernel
theorem dL_law_260 : decode cL_law 260 = .ok (.aload_n 1, 1) := by decide +kernel
theorem dL_law_261 : decode cL_law 261 = .ok (.aload_n 0, 1) := by decide +kernel
theorem dL_law_262 : decode cL_law 262 = .ok (.iload 4, 2) := by decide +kernel
theorem dL_law_264 : decode cL_law 264 = .ok (.iconst 1, 1) := by decide +kernel
theorem dL_law_265 : decode cL_law 265 = .ok (.iadd, 1) := by decide +kernel
theorem dL_law_266 : decode cL_law 266 = .ok (.iaload, 1) := by decide +kernel
theorem dL_law_267 : decode cL_law 267 = .ok (.aload_n 0, 1) := by decide +kernel
theorem dL_law_268 : decode cL_law 268 = .ok (.iload 4, 2) := by decide +kernel
theorem dL_law_270 : decode cL_law 270 = .ok (.iconst 2, 1) := by decide +kernel
theorem dL_law_271 : decode cL_law 271 = .ok (.iadd, 1) := by decide +kernel
theorem dL_law_272 : decode cL_law 272 = .ok (.iaload, 1) := by decide +kernel
theorem dL_law_273 : decode cL_law 273 = .ok (.aload_n 3, 1) := by decide +kernel
theorem dL_law_274 : decode cL_law 274 = .ok (.invokestatic 98, 3) := by decide +kernel
theorem dL_law_277 : decode cL_law 277 = .ok (.istore 5, 2) := by decide +kernel
theorem dL_law_279 : decode cL_law 279 = .ok (.aload_n 2, 1) := by decide +kernel
theorem dL_law_280 : decode cL_law 280 = .ok (.aload_n 0, 1) := by decide +kernel
theorem dL_law_281 : decode cL_law 281 = .ok (.iload 4, 2) := by decide +kernel
theorem dL_law_283 : decode cL_law 283 = .ok (.iconst 1, 1) := by decide +kernel
theorem dL_law_284 : decode cL_law 284 = .ok (.iadd, 1) := by decide +kernel
theorem dL_law_285 : decode cL_law 285 = .ok (.iaload, 1) := by decide +kernel
theorem dL_law_286 : decode cL_law 286 = .ok (.aload_n 0, 1) := by decide +kernel
theorem dL_law_287 : decode cL_law 287 = .ok (.iload 4, 2) := by decide +kernel
theorem dL_law_289 : decode cL_law 289 = .ok (.iconst 2, 1) := by decide +kernel
theorem dL_law_290 : decode cL_law 290 = .ok (.iadd, 1) := by decide +kernel
theorem dL_law_291 : decode cL_law 291 = .ok (.iaload, 1) := by decide +kernel
theorem dL_law_292 : decode cL_law 292 = .ok (.invokevirtual 101, 3) := by decide +kernel
theorem dL_law_295 : decode cL_law 295 = .ok (.istore 6, 2) := by decide +kernel
theorem dL_law_297 : decode cL_law 297 = .ok (.aload_n 2, 1) := by decide +kernel
theorem dL_law_298 : decode cL_law 298 = .ok (.invokevirtual 90, 3) := by decide +kernel
theorem dL_law_301 : decode cL_law 301 = .ok (.iload 5, 2) := by decide +kernel
theorem dL_law_303 : decode cL_law 303 = .ok (.if_icmp .eq 5, 3) := by decide +kernel
theorem dL_law_306 : decode cL_law 306 = .ok (.iconst 0, 1) := by decide +kernel
theorem dL_law_307 : decode cL_law 307 = .ok (.ireturn, 1) := by decide +kernel
theorem dL_law_308 : decode cL_law 308 = .ok (.iload 5, 2) := by decide +kernel
theorem dL_law_310 : decode cL_law 310 = .ok (.ifCond .ne 15, 3) := by decide +kernel
theorem dL_law_313 : decode cL_law 313 = .ok (.aload_n 3, 1) := by decide +kernel
theorem dL_law_314 : decode cL_law 314 = .ok (.iconst 0, 1) := by decide +kernel
theorem dL_law_315 : decode cL_law 315 = .ok (.laload, 1) := by decide +kernel
theorem dL_law_316 : decode cL_law 316 = .ok (.iload 6, 2) := by decide +kernel
theorem dL_law_318 : decode cL_law 318 = .ok (.i2l, 1) := by decide +kernel
theorem dL_law_319 : decode cL_law 319 = .ok (.lcmp, 1) := by decide +kernel
theorem dL_law_320 : decode cL_law 320 = .ok (.ifCond .eq 5, 3) := by decide +kernel
theorem dL_law_323 : decode cL_law 323 = .ok (.iconst 0, 1) := by decide +kernel
theorem dL_law_324 : decode cL_law 324 = .ok (.ireturn, 1) := by decide +kernel
theorem dL_law_325 : decode cL_law 325 = .ok (.goto 1075, 3) := by decide +kernel
theorem dL_law_328 : decode cL_law 328 = .ok (.aload_n 1, 1) := by decide +kernel
theorem dL_law_329 : decode cL_law 329 = .ok (.aload_n 0, 1) := by decide +kernel
theorem dL_law_330 : decode cL_law 330 = .ok (.iload 4, 2) := by decide +kernel
theorem dL_law_332 : decode cL_law 332 = .ok (.iconst 1, 1) := by decide +kernel
theorem dL_law_333 : decode cL_law 333 = .ok (.iadd, 1) := by decide +kernel
theorem dL_law_334 : decode cL_law 334 = .ok (.iaload, 1) := by decide +kernel
theorem dL_law_335 : decode cL_law 335 = .ok (.aload_n 3, 1) := by decide +kernel
theorem dL_law_336 : decode cL_law 336 = .ok (.invokestatic 102, 3) := by decide +kernel
theorem dL_law_339 : decode cL_law 339 = .ok (.istore 5, 2) := by decide +kernel
theorem dL_law_341 : decode cL_law 341 = .ok (.aload_n 2, 1) := by decide +kernel
theorem dL_law_342 : decode cL_law 342 = .ok (.aload_n 0, 1) := by decide +kernel
theorem dL_law_343 : decode cL_law 343 = .ok (.iload 4, 2) := by decide +kernel
theorem dL_law_345 : decode cL_law 345 = .ok (.iconst 1, 1) := by decide +kernel
theorem dL_law_346 : decode cL_law 346 = .ok (.iadd, 1) := by decide +kernel
theorem dL_law_347 : decode cL_law 347 = .ok (.iaload, 1) := by decide +kernel
theorem dL_law_348 : decode cL_law 348 = .ok (.invokevirtual 104, 3) := by decide +kernel
theorem dL_law_351 : decode cL_law 351 = .ok (.istore 6, 2) := by decide +kernel
theorem dL_law_353 : decode cL_law 353 = .ok (.aload_n 2, 1) := by decide +kernel
theorem dL_law_354 : decode cL_law 354 = .ok (.invokevirtual 90, 3) := by decide +kernel
theorem dL_law_357 : decode cL_law 357 = .ok (.iload 5, 2) := by decide +kernel
theorem dL_law_359 : decode cL_law 359 = .ok (.if_icmp .eq 5, 3) := by decide +kernel
theorem dL_law_362 : decode cL_law 362 = .ok (.iconst 0, 1) := by decide +kernel
theorem dL_law_363 : decode cL_law 363 = .ok (.ireturn, 1) := by decide +kernel
theorem dL_law_364 : decode cL_law 364 = .ok (.iload 5, 2) := by decide +kernel
theorem dL_law_366 : decode cL_law 366 = .ok (.ifCond .ne 15, 3) := by decide +kernel
theorem dL_law_369 : decode cL_law 369 = .ok (.aload_n 3, 1) := by decide +kernel
theorem dL_law_370 : decode cL_law 370 = .ok (.iconst 0, 1) := by decide +kernel
theorem dL_law_371 : decode cL_law 371 = .ok (.laload, 1) := by decide +kernel
theorem dL_law_372 : decode cL_law 372 = .ok (.iload 6, 2) := by decide +kernel
theorem dL_law_374 : decode cL_law 374 = .ok (.i2l, 1) := by decide +kernel
theorem dL_law_375 : decode cL_law 375 = .ok (.lcmp, 1) := by decide +kernel
theorem dL_law_376 : decode cL_law 376 = .ok (.ifCond .eq 5, 3) := by decide +kernel
theorem dL_law_379 : decode cL_law 379 = .ok (.iconst 0, 1) := by decide +kernel
theorem dL_law_380 : decode cL_law 380 = .ok (.ireturn, 1) := by decide +kernel
theorem dL_law_381 : decode cL_law 381 = .ok (.goto 1019, 3) := by decide +kernel
theorem dL_law_384 : decode cL_law 384 = .ok (.aload_n 1, 1) := by decide +kernel
theorem dL_law_385 : decode cL_law 385 = .ok (.aload_n 0, 1) := by decide +kernel
theorem dL_law_386 : decode cL_law 386 = .ok (.iload 4, 2) := by decide +kernel
theorem dL_law_388 : decode cL_law 388 = .ok (.iconst 1, 1) := by decide +kernel
theorem dL_law_389 : decode cL_law 389 = .ok (.iadd, 1) := by decide +kernel
theorem dL_law_390 : decode cL_law 390 = .ok (.iaload, 1) := by decide +kernel
theorem dL_law_391 : decode cL_law 391 = .ok (.aload_n 3, 1) := by decide +kernel
theorem dL_law_392 : decode cL_law 392 = .ok (.invokestatic 105, 3) := by decide +kernel
theorem dL_law_395 : decode cL_law 395 = .ok (.istore 5, 2) := by decide +kernel
theorem dL_law_397 : decode cL_law 397 = .ok (.aload_n 2, 1) := by decide +kernel
theorem dL_law_398 : decode cL_law 398 = .ok (.aload_n 0, 1) := by decide +kernel
theorem dL_law_399 : decode cL_law 399 = .ok (.iload 4, 2) := by decide +kernel
theorem dL_law_401 : decode cL_law 401 = .ok (.iconst 1, 1) := by decide +kernel
theorem dL_law_402 : decode cL_law 402 = .ok (.iadd, 1) := by decide +kernel
theorem dL_law_403 : decode cL_law 403 = .ok (.iaload, 1) := by decide +kernel
theorem dL_law_404 : decode cL_law 404 = .ok (.invokevirtual 107, 3) := by decide +kernel
theorem dL_law_407 : decode cL_law 407 = .ok (.istore 6, 2) := by decide +kernel
theorem dL_law_409 : decode cL_law 409 = .ok (.aload_n 2, 1) := by decide +kernel
theorem dL_law_410 : decode cL_law 410 = .ok (.invokevirtual 90, 3) := by decide +kernel
theorem dL_law_413 : decode cL_law 413 = .ok (.iload 5, 2) := by decide +kernel
theorem dL_law_415 : decode cL_law 415 = .ok (.if_icmp .eq 5, 3) := by decide +kernel
theorem dL_law_418 : decode cL_law 418 = .ok (.iconst 0, 1) := by decide +kernel
theorem dL_law_419 : decode cL_law 419 = .ok (.ireturn, 1) := by decide +kernel
theorem dL_law_420 : decode cL_law 420 = .ok (.iload 5, 2) := by decide +kernel
theorem dL_law_422 : decode cL_law 422 = .ok (.ifCond .ne 15, 3) := by decide +kernel
theorem dL_law_425 : decode cL_law 425 = .ok (.aload_n 3, 1) := by decide +kernel
theorem dL_law_426 : decode cL_law 426 = .ok (.iconst 0, 1) := by decide +kernel
theorem dL_law_427 : decode cL_law 427 = .ok (.laload, 1) := by decide +kernel
theorem dL_law_428 : decode cL_law 428 = .ok (.iload 6, 2) := by decide +kernel
theorem dL_law_430 : decode cL_law 430 = .ok (.i2l, 1) := by decide +kernel
theorem dL_law_431 : decode cL_law 431 = .ok (.lcmp, 1) := by decide +kernel
theorem dL_law_432 : decode cL_law 432 = .ok (.ifCond .eq 5, 3) := by decide +kernel
theorem dL_law_435 : decode cL_law 435 = .ok (.iconst 0, 1) := by decide +kernel
theorem dL_law_436 : decode cL_law 436 = .ok (.ireturn, 1) := by decide +kernel
theorem dL_law_437 : decode cL_law 437 = .ok (.goto 963, 3) := by decide +kernel
theorem dL_law_440 : decode cL_law 440 = .ok (.aload_n 1, 1) := by decide +kernel
theorem dL_law_441 : decode cL_law 441 = .ok (.aload_n 0, 1) := by decide +kernel
theorem dL_law_442 : decode cL_law 442 = .ok (.iload 4, 2) := by decide +kernel
theorem dL_law_444 : decode cL_law 444 = .ok (.iconst 1, 1) := by decide +kernel
theorem dL_law_445 : decode cL_law 445 = .ok (.iadd, 1) := by decide +kernel
theorem dL_law_446 : decode cL_law 446 = .ok (.iaload, 1) := by decide +kernel
theorem dL_law_447 : decode cL_law 447 = .ok (.aload_n 0, 1) := by decide +kernel
theorem dL_law_448 : decode cL_law 448 = .ok (.iload 4, 2) := by decide +kernel
theorem dL_law_450 : decode cL_law 450 = .ok (.iconst 2, 1) := by decide +kernel
theorem dL_law_451 : decode cL_law 451 = .ok (.iadd, 1) := by decide +kernel
theorem dL_law_452 : decode cL_law 452 = .ok (.iaload, 1) := by decide +kernel
theorem dL_law_453 : decode cL_law 453 = .ok (.aload_n 3, 1) := by decide +kernel
theorem dL_law_454 : decode cL_law 454 = .ok (.invokestatic 108, 3) := by decide +kernel
theorem dL_law_457 : decode cL_law 457 = .ok (.istore 5, 2) := by decide +kernel
theorem dL_law_459 : decode cL_law 459 = .ok (.aload_n 2, 1) := by decide +kernel
theorem dL_law_460 : decode cL_law 460 = .ok (.aload_n 0, 1) := by decide +kernel
theorem dL_law_461 : decode cL_law 461 = .ok (.iload 4, 2) := by decide +kernel
theorem dL_law_463 : decode cL_law 463 = .ok (.iconst 1, 1) := by decide +kernel
theorem dL_law_464 : decode cL_law 464 = .ok (.iadd, 1) := by decide +kernel
theorem dL_law_465 : decode cL_law 465 = .ok (.iaload, 1) := by decide +kernel
theorem dL_law_466 : decode cL_law 466 = .ok (.aload_n 0, 1) := by decide +kernel
theorem dL_law_467 : decode cL_law 467 = .ok (.iload 4, 2) := by decide +kernel
theorem dL_law_469 : decode cL_law 469 = .ok (.iconst 2, 1) := by decide +kernel
theorem dL_law_470 : decode cL_law 470 = .ok (.iadd, 1) := by decide +kernel
theorem dL_law_471 : decode cL_law 471 = .ok (.iaload, 1) := by decide +kernel
theorem dL_law_472 : decode cL_law 472 = .ok (.invokevirtual 110, 3) := by decide +kernel
theorem dL_law_475 : decode cL_law 475 = .ok (.istore 6, 2) := by decide +kernel
theorem dL_law_477 : decode cL_law 477 = .ok (.aload_n 2, 1) := by decide +kernel
theorem dL_law_478 : decode cL_law 478 = .ok (.invokevirtual 90, 3) := by decide +kernel
theorem dL_law_481 : decode cL_law 481 = .ok (.iload 5, 2) := by decide +kernel
theorem dL_law_483 : decode cL_law 483 = .ok (.if_icmp .eq 5, 3) := by decide +kernel
theorem dL_law_486 : decode cL_law 486 = .ok (.iconst 0, 1) := by decide +kernel
theorem dL_law_487 : decode cL_law 487 = .ok (.ireturn, 1) := by decide +kernel
theorem dL_law_488 : decode cL_law 488 = .ok (.iload 5, 2) := by decide +kernel
theorem dL_law_490 : decode cL_law 490 = .ok (.ifCond .ne 15, 3) := by decide +kernel
theorem dL_law_493 : decode cL_law 493 = .ok (.aload_n 3, 1) := by decide +kernel
theorem dL_law_494 : decode cL_law 494 = .ok (.iconst 0, 1) := by decide +kernel
theorem dL_law_495 : decode cL_law 495 = .ok (.laload, 1) := by decide +kernel
theorem dL_law_496 : decode cL_law 496 = .ok (.iload 6, 2) := by decide +kernel
theorem dL_law_498 : decode cL_law 498 = .ok (.i2l, 1) := by decide +kernel
theorem dL_law_499 : decode cL_law 499 = .ok (.lcmp, 1) := by decide +kernel
theorem dL_law_500 : decode cL_law 500 = .ok (.ifCond .eq 5, 3) := by decide +kernel
theorem dL_law_503 : decode cL_law 503 = .ok (.iconst 0, 1) := by decide +kernel
theorem dL_law_504 : decode cL_law 504 = .ok (.ireturn, 1) := by decide +kernel
theorem dL_law_505 : decode cL_law 505 = .ok (.goto 895, 3) := by decide +kernel
theorem dL_law_508 : decode cL_law 508 = .ok (.aload_n 1, 1) := by decide +kernel
theorem dL_law_509 : decode cL_law 509 = .ok (.aload_n 0, 1) := by decide +kernel
theorem dL_law_510 : decode cL_law 510 = .ok (.iload 4, 2) := by decide +kernel
theorem dL_law_512 : decode cL_law 512 = .ok (.iconst 1, 1) := by decide +kernel
theorem dL_law_513 : decode cL_law 513 = .ok (.iadd, 1) := by decide +kernel
theorem dL_law_514 : decode cL_law 514 = .ok (.iaload, 1) := by decide +kernel
theorem dL_law_515 : decode cL_law 515 = .ok (.aload_n 0, 1) := by decide +kernel
theorem dL_law_516 : decode cL_law 516 = .ok (.iload 4, 2) := by decide +kernel
theorem dL_law_518 : decode cL_law 518 = .ok (.iconst 2, 1) := by decide +kernel
theorem dL_law_519 : decode cL_law 519 = .ok (.iadd, 1) := by decide +kernel
theorem dL_law_520 : decode cL_law 520 = .ok (.iaload, 1) := by decide +kernel
theorem dL_law_521 : decode cL_law 521 = .ok (.invokestatic 111, 3) := by decide +kernel
theorem dL_law_524 : decode cL_law 524 = .ok (.istore 5, 2) := by decide +kernel
theorem dL_law_526 : decode cL_law 526 = .ok (.aload_n 2, 1) := by decide +kernel
theorem dL_law_527 : decode cL_law 527 = .ok (.aload_n 0, 1) := by decide +kernel
theorem dL_law_528 : decode cL_law 528 = .ok (.iload 4, 2) := by decide +kernel
theorem dL_law_530 : decode cL_law 530 = .ok (.iconst 1, 1) := by decide +kernel
theorem dL_law_531 : decode cL_law 531 = .ok (.iadd, 1) := by decide +kernel
theorem dL_law_532 : decode cL_law 532 = .ok (.iaload, 1) := by decide +kernel
theorem dL_law_533 : decode cL_law 533 = .ok (.aload_n 0, 1) := by decide +kernel
theorem dL_law_534 : decode cL_law 534 = .ok (.iload 4, 2) := by decide +kernel
theorem dL_law_536 : decode cL_law 536 = .ok (.iconst 2, 1) := by decide +kernel
theorem dL_law_537 : decode cL_law 537 = .ok (.iadd, 1) := by decide +kernel
theorem dL_law_538 : decode cL_law 538 = .ok (.iaload, 1) := by decide +kernel
theorem dL_law_539 : decode cL_law 539 = .ok (.invokevirtual 114, 3) := by decide +kernel
theorem dL_law_542 : decode cL_law 542 = .ok (.aload_n 2, 1) := by decide +kernel
theorem dL_law_543 : decode cL_law 543 = .ok (.invokevirtual 90, 3) := by decide +kernel
theorem dL_law_546 : decode cL_law 546 = .ok (.iload 5, 2) := by decide +kernel
theorem dL_law_548 : decode cL_law 548 = .ok (.if_icmp .eq 5, 3) := by decide +kernel
theorem dL_law_551 : decode cL_law 551 = .ok (.iconst 0, 1) := by decide +kernel
theorem dL_law_552 : decode cL_law 552 = .ok (.ireturn, 1) := by decide +kernel
theorem dL_law_553 : decode cL_law 553 = .ok (.goto 847, 3) := by decide +kernel
theorem dL_law_556 : decode cL_law 556 = .ok (.aload_n 1, 1) := by decide +kernel
theorem dL_law_557 : decode cL_law 557 = .ok (.aload_n 0, 1) := by decide +kernel
theorem dL_law_558 : decode cL_law 558 = .ok (.iload 4, 2) := by decide +kernel
theorem dL_law_560 : decode cL_law 560 = .ok (.iconst 1, 1) := by decide +kernel
theorem dL_law_561 : decode cL_law 561 = .ok (.iadd, 1) := by decide +kernel
theorem dL_law_562 : decode cL_law 562 = .ok (.iaload, 1) := by decide +kernel
theorem dL_law_563 : decode cL_law 563 = .ok (.aload_n 0, 1) := by decide +kernel
theorem dL_law_564 : decode cL_law 564 = .ok (.iload 4, 2) := by decide +kernel
theorem dL_law_566 : decode cL_law 566 = .ok (.iconst 2, 1) := by decide +kernel
theorem dL_law_567 : decode cL_law 567 = .ok (.iadd, 1) := by decide +kernel
theorem dL_law_568 : decode cL_law 568 = .ok (.iaload, 1) := by decide +kernel
theorem dL_law_569 : decode cL_law 569 = .ok (.aload_n 0, 1) := by decide +kernel
theorem dL_law_570 : decode cL_law 570 = .ok (.iload 4, 2) := by decide +kernel
theorem dL_law_572 : decode cL_law 572 = .ok (.iconst 3, 1) := by decide +kernel
theorem dL_law_573 : decode cL_law 573 = .ok (.iadd, 1) := by decide +kernel
theorem dL_law_574 : decode cL_law 574 = .ok (.iaload, 1) := by decide +kernel
theorem dL_law_575 : decode cL_law 575 = .ok (.aload_n 0, 1) := by decide +kernel
theorem dL_law_576 : decode cL_law 576 = .ok (.iload 4, 2) := by decide +kernel
theorem dL_law_578 : decode cL_law 578 = .ok (.iconst 4, 1) := by decide +kernel
theorem dL_law_579 : decode cL_law 579 = .ok (.iadd, 1) := by decide +kernel
theorem dL_law_580 : decode cL_law 580 = .ok (.iaload, 1) := by decide +kernel
theorem dL_law_581 : decode cL_law 581 = .ok (.aload_n 3, 1) := by decide +kernel
theorem dL_law_582 : decode cL_law 582 = .ok (.invokestatic 115, 3) := by decide +kernel
theorem dL_law_585 : decode cL_law 585 = .ok (.istore 5, 2) := by decide +kernel
theorem dL_law_587 : decode cL_law 587 = .ok (.aload_n 2, 1) := by decide +kernel
theorem dL_law_588 : decode cL_law 588 = .ok (.aload_n 0, 1) := by decide +kernel
theorem dL_law_589 : decode cL_law 589 = .ok (.iload 4, 2) := by decide +kernel
theorem dL_law_591 : decode cL_law 591 = .ok (.iconst 1, 1) := by decide +kernel
theorem dL_law_592 : decode cL_law 592 = .ok (.iadd, 1) := by decide +kernel
theorem dL_law_593 : decode cL_law 593 = .ok (.iaload, 1) := by decide +kernel
theorem dL_law_594 : decode cL_law 594 = .ok (.aload_n 0, 1) := by decide +kernel
theorem dL_law_595 : decode cL_law 595 = .ok (.iload 4, 2) := by decide +kernel
theorem dL_law_597 : decode cL_law 597 = .ok (.iconst 2, 1) := by decide +kernel
theorem dL_law_598 : decode cL_law 598 = .ok (.iadd, 1) := by decide +kernel
theorem dL_law_599 : decode cL_law 599 = .ok (.iaload, 1) := by decide +kernel
theorem dL_law_600 : decode cL_law 600 = .ok (.aload_n 0, 1) := by decide +kernel
theorem dL_law_601 : decode cL_law 601 = .ok (.iload 4, 2) := by decide +kernel
theorem dL_law_603 : decode cL_law 603 = .ok (.iconst 3, 1) := by decide +kernel
theorem dL_law_604 : decode cL_law 604 = .ok (.iadd, 1) := by decide +kernel
theorem dL_law_605 : decode cL_law 605 = .ok (.iaload, 1) := by decide +kernel
theorem dL_law_606 : decode cL_law 606 = .ok (.aload_n 0, 1) := by decide +kernel
theorem dL_law_607 : decode cL_law 607 = .ok (.iload 4, 2) := by decide +kernel
theorem dL_law_609 : decode cL_law 609 = .ok (.iconst 4, 1) := by decide +kernel
theorem dL_law_610 : decode cL_law 610 = .ok (.iadd, 1) := by decide +kernel
theorem dL_law_611 : decode cL_law 611 = .ok (.iaload, 1) := by decide +kernel
theorem dL_law_612 : decode cL_law 612 = .ok (.invokevirtual 118, 3) := by decide +kernel
theorem dL_law_615 : decode cL_law 615 = .ok (.istore 6, 2) := by decide +kernel
theorem dL_law_617 : decode cL_law 617 = .ok (.aload_n 2, 1) := by decide +kernel
theorem dL_law_618 : decode cL_law 618 = .ok (.invokevirtual 90, 3) := by decide +kernel
theorem dL_law_621 : decode cL_law 621 = .ok (.iload 5, 2) := by decide +kernel
theorem dL_law_623 : decode cL_law 623 = .ok (.if_icmp .eq 5, 3) := by decide +kernel
theorem dL_law_626 : decode cL_law 626 = .ok (.iconst 0, 1) := by decide +kernel
theorem dL_law_627 : decode cL_law 627 = .ok (.ireturn, 1) := by decide +kernel
theorem dL_law_628 : decode cL_law 628 = .ok (.iload 5, 2) := by decide +kernel
theorem dL_law_630 : decode cL_law 630 = .ok (.ifCond .ne 15, 3) := by decide +kernel
theorem dL_law_633 : decode cL_law 633 = .ok (.aload_n 3, 1) := by decide +kernel
theorem dL_law_634 : decode cL_law 634 = .ok (.iconst 0, 1) := by decide +kernel
theorem dL_law_635 : decode cL_law 635 = .ok (.laload, 1) := by decide +kernel
theorem dL_law_636 : decode cL_law 636 = .ok (.iload 6, 2) := by decide +kernel
theorem dL_law_638 : decode cL_law 638 = .ok (.i2l, 1) := by decide +kernel
theorem dL_law_639 : decode cL_law 639 = .ok (.lcmp, 1) := by decide +kernel
theorem dL_law_640 : decode cL_law 640 = .ok (.ifCond .eq 5, 3) := by decide +kernel
theorem dL_law_643 : decode cL_law 643 = .ok (.iconst 0, 1) := by decide +kernel
theorem dL_law_644 : decode cL_law 644 = .ok (.ireturn, 1) := by decide +kernel
theorem dL_law_645 : decode cL_law 645 = .ok (.goto 755, 3) := by decide +kernel
theorem dL_law_648 : decode cL_law 648 = .ok (.aload_n 1, 1) := by decide +kernel
theorem dL_law_649 : decode cL_law 649 = .ok (.aload_n 0, 1) := by decide +kernel
theorem dL_law_650 : decode cL_law 650 = .ok (.iload 4, 2) := by decide +kernel
theorem dL_law_652 : decode cL_law 652 = .ok (.iconst 1, 1) := by decide +kernel
theorem dL_law_653 : decode cL_law 653 = .ok (.iadd, 1) := by decide +kernel
theorem dL_law_654 : decode cL_law 654 = .ok (.iaload, 1) := by decide +kernel
theorem dL_law_655 : decode cL_law 655 = .ok (.aload_n 0, 1) := by decide +kernel
theorem dL_law_656 : decode cL_law 656 = .ok (.iload 4, 2) := by decide +kernel
theorem dL_law_658 : decode cL_law 658 = .ok (.iconst 2, 1) := by decide +kernel
theorem dL_law_659 : decode cL_law 659 = .ok (.iadd, 1) := by decide +kernel
theorem dL_law_660 : decode cL_law 660 = .ok (.iaload, 1) := by decide +kernel
theorem dL_law_661 : decode cL_law 661 = .ok (.aload_n 3, 1) := by decide +kernel
theorem dL_law_662 : decode cL_law 662 = .ok (.invokestatic 119, 3) := by decide +kernel
theorem dL_law_665 : decode cL_law 665 = .ok (.istore 5, 2) := by decide +kernel
theorem dL_law_667 : decode cL_law 667 = .ok (.aload_n 2, 1) := by decide +kernel
theorem dL_law_668 : decode cL_law 668 = .ok (.aload_n 0, 1) := by decide +kernel
theorem dL_law_669 : decode cL_law 669 = .ok (.iload 4, 2) := by decide +kernel
theorem dL_law_671 : decode cL_law 671 = .ok (.iconst 1, 1) := by decide +kernel
theorem dL_law_672 : decode cL_law 672 = .ok (.iadd, 1) := by decide +kernel
theorem dL_law_673 : decode cL_law 673 = .ok (.iaload, 1) := by decide +kernel
theorem dL_law_674 : decode cL_law 674 = .ok (.aload_n 0, 1) := by decide +kernel
theorem dL_law_675 : decode cL_law 675 = .ok (.iload 4, 2) := by decide +kernel
theorem dL_law_677 : decode cL_law 677 = .ok (.iconst 2, 1) := by decide +kernel
theorem dL_law_678 : decode cL_law 678 = .ok (.iadd, 1) := by decide +kernel
theorem dL_law_679 : decode cL_law 679 = .ok (.iaload, 1) := by decide +kernel
theorem dL_law_680 : decode cL_law 680 = .ok (.invokevirtual 121, 3) := by decide +kernel
theorem dL_law_683 : decode cL_law 683 = .ok (.istore 6, 2) := by decide +kernel
theorem dL_law_685 : decode cL_law 685 = .ok (.aload_n 2, 1) := by decide +kernel
theorem dL_law_686 : decode cL_law 686 = .ok (.invokevirtual 90, 3) := by decide +kernel
theorem dL_law_689 : decode cL_law 689 = .ok (.iload 5, 2) := by decide +kernel
theorem dL_law_691 : decode cL_law 691 = .ok (.if_icmp .eq 5, 3) := by decide +kernel
theorem dL_law_694 : decode cL_law 694 = .ok (.iconst 0, 1) := by decide +kernel
theorem dL_law_695 : decode cL_law 695 = .ok (.ireturn, 1) := by decide +kernel
theorem dL_law_696 : decode cL_law 696 = .ok (.iload 5, 2) := by decide +kernel
theorem dL_law_698 : decode cL_law 698 = .ok (.ifCond .ne 15, 3) := by decide +kernel
theorem dL_law_701 : decode cL_law 701 = .ok (.aload_n 3, 1) := by decide +kernel
theorem dL_law_702 : decode cL_law 702 = .ok (.iconst 0, 1) := by decide +kernel
theorem dL_law_703 : decode cL_law 703 = .ok (.laload, 1) := by decide +kernel
theorem dL_law_704 : decode cL_law 704 = .ok (.iload 6, 2) := by decide +kernel
theorem dL_law_706 : decode cL_law 706 = .ok (.i2l, 1) := by decide +kernel
theorem dL_law_707 : decode cL_law 707 = .ok (.lcmp, 1) := by decide +kernel
theorem dL_law_708 : decode cL_law 708 = .ok (.ifCond .eq 5, 3) := by decide +kernel
theorem dL_law_711 : decode cL_law 711 = .ok (.iconst 0, 1) := by decide +kernel
theorem dL_law_712 : decode cL_law 712 = .ok (.ireturn, 1) := by decide +kernel
theorem dL_law_713 : decode cL_law 713 = .ok (.goto 687, 3) := by decide +kernel
theorem dL_law_716 : decode cL_law 716 = .ok (.aload_n 1, 1) := by decide +kernel
theorem dL_law_717 : decode cL_law 717 = .ok (.aload_n 0, 1) := by decide +kernel
theorem dL_law_718 : decode cL_law 718 = .ok (.iload 4, 2) := by decide +kernel
theorem dL_law_720 : decode cL_law 720 = .ok (.iconst 1, 1) := by decide +kernel
theorem dL_law_721 : decode cL_law 721 = .ok (.iadd, 1) := by decide +kernel
theorem dL_law_722 : decode cL_law 722 = .ok (.iaload, 1) := by decide +kernel
theorem dL_law_723 : decode cL_law 723 = .ok (.aload_n 3, 1) := by decide +kernel
theorem dL_law_724 : decode cL_law 724 = .ok (.invokestatic 122, 3) := by decide +kernel
theorem dL_law_727 : decode cL_law 727 = .ok (.istore 5, 2) := by decide +kernel
theorem dL_law_729 : decode cL_law 729 = .ok (.aload_n 2, 1) := by decide +kernel
theorem dL_law_730 : decode cL_law 730 = .ok (.aload_n 0, 1) := by decide +kernel
theorem dL_law_731 : decode cL_law 731 = .ok (.iload 4, 2) := by decide +kernel
theorem dL_law_733 : decode cL_law 733 = .ok (.iconst 1, 1) := by decide +kernel
theorem dL_law_734 : decode cL_law 734 = .ok (.iadd, 1) := by decide +kernel
theorem dL_law_735 : decode cL_law 735 = .ok (.iaload, 1) := by decide +kernel
theorem dL_law_736 : decode cL_law 736 = .ok (.invokevirtual 124, 3) := by decide +kernel
theorem dL_law_739 : decode cL_law 739 = .ok (.istore 6, 2) := by decide +kernel
theorem dL_law_741 : decode cL_law 741 = .ok (.aload_n 2, 1) := by decide +kernel
theorem dL_law_742 : decode cL_law 742 = .ok (.invokevirtual 90, 3) := by decide +kernel
theorem dL_law_745 : decode cL_law 745 = .ok (.iload 5, 2) := by decide +kernel
theorem dL_law_747 : decode cL_law 747 = .ok (.if_icmp .eq 5, 3) := by decide +kernel
theorem dL_law_750 : decode cL_law 750 = .ok (.iconst 0, 1) := by decide +kernel
theorem dL_law_751 : decode cL_law 751 = .ok (.ireturn, 1) := by decide +kernel
theorem dL_law_752 : decode cL_law 752 = .ok (.iload 5, 2) := by decide +kernel
theorem dL_law_754 : decode cL_law 754 = .ok (.ifCond .ne 15, 3) := by decide +kernel
theorem dL_law_757 : decode cL_law 757 = .ok (.aload_n 3, 1) := by decide +kernel
theorem dL_law_758 : decode cL_law 758 = .ok (.iconst 0, 1) := by decide +kernel
theorem dL_law_759 : decode cL_law 759 = .ok (.laload, 1) := by decide +kernel
theorem dL_law_760 : decode cL_law 760 = .ok (.iload 6, 2) := by decide +kernel
theorem dL_law_762 : decode cL_law 762 = .ok (.i2l, 1) := by decide +kernel
theorem dL_law_763 : decode cL_law 763 = .ok (.lcmp, 1) := by decide +kernel
theorem dL_law_764 : decode cL_law 764 = .ok (.ifCond .eq 5, 3) := by decide +kernel
theorem dL_law_767 : decode cL_law 767 = .ok (.iconst 0, 1) := by decide +kernel
theorem dL_law_768 : decode cL_law 768 = .ok (.ireturn, 1) := by decide +kernel
theorem dL_law_769 : decode cL_law 769 = .ok (.goto 631, 3) := by decide +kernel
theorem dL_law_772 : decode cL_law 772 = .ok (.aload_n 1, 1) := by decide +kernel
theorem dL_law_773 : decode cL_law 773 = .ok (.aload_n 0, 1) := by decide +kernel
theorem dL_law_774 : decode cL_law 774 = .ok (.iload 4, 2) := by decide +kernel
theorem dL_law_776 : decode cL_law 776 = .ok (.iconst 1, 1) := by decide +kernel
theorem dL_law_777 : decode cL_law 777 = .ok (.iadd, 1) := by decide +kernel
theorem dL_law_778 : decode cL_law 778 = .ok (.iaload, 1) := by decide +kernel
theorem dL_law_779 : decode cL_law 779 = .ok (.aload_n 0, 1) := by decide +kernel
theorem dL_law_780 : decode cL_law 780 = .ok (.iload 4, 2) := by decide +kernel
theorem dL_law_782 : decode cL_law 782 = .ok (.iconst 2, 1) := by decide +kernel
theorem dL_law_783 : decode cL_law 783 = .ok (.iadd, 1) := by decide +kernel
theorem dL_law_784 : decode cL_law 784 = .ok (.iaload, 1) := by decide +kernel
theorem dL_law_785 : decode cL_law 785 = .ok (.aload_n 0, 1) := by decide +kernel
theorem dL_law_786 : decode cL_law 786 = .ok (.iload 4, 2) := by decide +kernel
theorem dL_law_788 : decode cL_law 788 = .ok (.iconst 3, 1) := by decide +kernel
theorem dL_law_789 : decode cL_law 789 = .ok (.iadd, 1) := by decide +kernel
theorem dL_law_790 : decode cL_law 790 = .ok (.iaload, 1) := by decide +kernel
theorem dL_law_791 : decode cL_law 791 = .ok (.aload_n 3, 1) := by decide +kernel
theorem dL_law_792 : decode cL_law 792 = .ok (.invokestatic 125, 3) := by decide +kernel
theorem dL_law_795 : decode cL_law 795 = .ok (.istore 5, 2) := by decide +kernel
theorem dL_law_797 : decode cL_law 797 = .ok (.aload_n 2, 1) := by decide +kernel
theorem dL_law_798 : decode cL_law 798 = .ok (.aload_n 0, 1) := by decide +kernel
theorem dL_law_799 : decode cL_law 799 = .ok (.iload 4, 2) := by decide +kernel
theorem dL_law_801 : decode cL_law 801 = .ok (.iconst 1, 1) := by decide +kernel
theorem dL_law_802 : decode cL_law 802 = .ok (.iadd, 1) := by decide +kernel
theorem dL_law_803 : decode cL_law 803 = .ok (.iaload, 1) := by decide +kernel
theorem dL_law_804 : decode cL_law 804 = .ok (.aload_n 0, 1) := by decide +kernel
theorem dL_law_805 : decode cL_law 805 = .ok (.iload 4, 2) := by decide +kernel
theorem dL_law_807 : decode cL_law 807 = .ok (.iconst 2, 1) := by decide +kernel
theorem dL_law_808 : decode cL_law 808 = .ok (.iadd, 1) := by decide +kernel
theorem dL_law_809 : decode cL_law 809 = .ok (.iaload, 1) := by decide +kernel
theorem dL_law_810 : decode cL_law 810 = .ok (.aload_n 0, 1) := by decide +kernel
theorem dL_law_811 : decode cL_law 811 = .ok (.iload 4, 2) := by decide +kernel
theorem dL_law_813 : decode cL_law 813 = .ok (.iconst 3, 1) := by decide +kernel
theorem dL_law_814 : decode cL_law 814 = .ok (.iadd, 1) := by decide +kernel
theorem dL_law_815 : decode cL_law 815 = .ok (.iaload, 1) := by decide +kernel
theorem dL_law_816 : decode cL_law 816 = .ok (.invokevirtual 128, 3) := by decide +kernel
theorem dL_law_819 : decode cL_law 819 = .ok (.istore 6, 2) := by decide +kernel
theorem dL_law_821 : decode cL_law 821 = .ok (.aload_n 2, 1) := by decide +kernel
theorem dL_law_822 : decode cL_law 822 = .ok (.invokevirtual 90, 3) := by decide +kernel
theorem dL_law_825 : decode cL_law 825 = .ok (.iload 5, 2) := by decide +kernel
theorem dL_law_827 : decode cL_law 827 = .ok (.if_icmp .eq 5, 3) := by decide +kernel
theorem dL_law_830 : decode cL_law 830 = .ok (.iconst 0, 1) := by decide +kernel
theorem dL_law_831 : decode cL_law 831 = .ok (.ireturn, 1) := by decide +kernel
theorem dL_law_832 : decode cL_law 832 = .ok (.iload 5, 2) := by decide +kernel
theorem dL_law_834 : decode cL_law 834 = .ok (.ifCond .ne 15, 3) := by decide +kernel
theorem dL_law_837 : decode cL_law 837 = .ok (.aload_n 3, 1) := by decide +kernel
theorem dL_law_838 : decode cL_law 838 = .ok (.iconst 0, 1) := by decide +kernel
theorem dL_law_839 : decode cL_law 839 = .ok (.laload, 1) := by decide +kernel
theorem dL_law_840 : decode cL_law 840 = .ok (.iload 6, 2) := by decide +kernel
theorem dL_law_842 : decode cL_law 842 = .ok (.i2l, 1) := by decide +kernel
theorem dL_law_843 : decode cL_law 843 = .ok (.lcmp, 1) := by decide +kernel
theorem dL_law_844 : decode cL_law 844 = .ok (.ifCond .eq 5, 3) := by decide +kernel
theorem dL_law_847 : decode cL_law 847 = .ok (.iconst 0, 1) := by decide +kernel
theorem dL_law_848 : decode cL_law 848 = .ok (.ireturn, 1) := by decide +kernel
theorem dL_law_849 : decode cL_law 849 = .ok (.goto 551, 3) := by decide +kernel
theorem dL_law_852 : decode cL_law 852 = .ok (.aload_n 1, 1) := by decide +kernel
theorem dL_law_853 : decode cL_law 853 = .ok (.invokevirtual 129, 3) := by decide +kernel
theorem dL_law_856 : decode cL_law 856 = .ok (.aload_n 2, 1) := by decide +kernel
theorem dL_law_857 : decode cL_law 857 = .ok (.invokevirtual 132, 3) := by decide +kernel
theorem dL_law_860 : decode cL_law 860 = .ok (.if_icmp .eq 540, 3) := by decide +kernel
theorem dL_law_863 : decode cL_law 863 = .ok (.iconst 0, 1) := by decide +kernel
theorem dL_law_864 : decode cL_law 864 = .ok (.ireturn, 1) := by decide +kernel
theorem dL_law_865 : decode cL_law 865 = .ok (.aload_n 1, 1) := by decide +kernel
theorem dL_law_866 : decode cL_law 866 = .ok (.aload_n 0, 1) := by decide +kernel
theorem dL_law_867 : decode cL_law 867 = .ok (.iload 4, 2) := by decide +kernel
theorem dL_law_869 : decode cL_law 869 = .ok (.iconst 1, 1) := by decide +kernel
theorem dL_law_870 : decode cL_law 870 = .ok (.iadd, 1) := by decide +kernel
theorem dL_law_871 : decode cL_law 871 = .ok (.iaload, 1) := by decide +kernel
theorem dL_law_872 : decode cL_law 872 = .ok (.aload_n 3, 1) := by decide +kernel
theorem dL_law_873 : decode cL_law 873 = .ok (.invokestatic 133, 3) := by decide +kernel
theorem dL_law_876 : decode cL_law 876 = .ok (.istore 5, 2) := by decide +kernel
theorem dL_law_878 : decode cL_law 878 = .ok (.aload_n 2, 1) := by decide +kernel
theorem dL_law_879 : decode cL_law 879 = .ok (.aload_n 0, 1) := by decide +kernel
theorem dL_law_880 : decode cL_law 880 = .ok (.iload 4, 2) := by decide +kernel
theorem dL_law_882 : decode cL_law 882 = .ok (.iconst 1, 1) := by decide +kernel
theorem dL_law_883 : decode cL_law 883 = .ok (.iadd, 1) := by decide +kernel
theorem dL_law_884 : decode cL_law 884 = .ok (.iaload, 1) := by decide +kernel
theorem dL_law_885 : decode cL_law 885 = .ok (.invokevirtual 135, 3) := by decide +kernel
theorem dL_law_888 : decode cL_law 888 = .ok (.istore 6, 2) := by decide +kernel
theorem dL_law_890 : decode cL_law 890 = .ok (.aload_n 2, 1) := by decide +kernel
theorem dL_law_891 : decode cL_law 891 = .ok (.invokevirtual 90, 3) := by decide +kernel
theorem dL_law_894 : decode cL_law 894 = .ok (.iload 5, 2) := by decide +kernel
theorem dL_law_896 : decode cL_law 896 = .ok (.if_icmp .eq 5, 3) := by decide +kernel
theorem dL_law_899 : decode cL_law 899 = .ok (.iconst 0, 1) := by decide +kernel
theorem dL_law_900 : decode cL_law 900 = .ok (.ireturn, 1) := by decide +kernel
theorem dL_law_901 : decode cL_law 901 = .ok (.iload 5, 2) := by decide +kernel
theorem dL_law_903 : decode cL_law 903 = .ok (.ifCond .ne 15, 3) := by decide +kernel
theorem dL_law_906 : decode cL_law 906 = .ok (.aload_n 3, 1) := by decide +kernel
theorem dL_law_907 : decode cL_law 907 = .ok (.iconst 0, 1) := by decide +kernel
theorem dL_law_908 : decode cL_law 908 = .ok (.laload, 1) := by decide +kernel
theorem dL_law_909 : decode cL_law 909 = .ok (.iload 6, 2) := by decide +kernel
theorem dL_law_911 : decode cL_law 911 = .ok (.i2l, 1) := by decide +kernel
theorem dL_law_912 : decode cL_law 912 = .ok (.lcmp, 1) := by decide +kernel
theorem dL_law_913 : decode cL_law 913 = .ok (.ifCond .eq 5, 3) := by decide +kernel
theorem dL_law_916 : decode cL_law 916 = .ok (.iconst 0, 1) := by decide +kernel
theorem dL_law_917 : decode cL_law 917 = .ok (.ireturn, 1) := by decide +kernel
theorem dL_law_918 : decode cL_law 918 = .ok (.goto 482, 3) := by decide +kernel
theorem dL_law_921 : decode cL_law 921 = .ok (.aload_n 1, 1) := by decide +kernel
theorem dL_law_922 : decode cL_law 922 = .ok (.aload_n 0, 1) := by decide +kernel
theorem dL_law_923 : decode cL_law 923 = .ok (.iload 4, 2) := by decide +kernel
theorem dL_law_925 : decode cL_law 925 = .ok (.iconst 1, 1) := by decide +kernel
theorem dL_law_926 : decode cL_law 926 = .ok (.iadd, 1) := by decide +kernel
theorem dL_law_927 : decode cL_law 927 = .ok (.iaload, 1) := by decide +kernel
theorem dL_law_928 : decode cL_law 928 = .ok (.aload_n 3, 1) := by decide +kernel
theorem dL_law_929 : decode cL_law 929 = .ok (.invokestatic 136, 3) := by decide +kernel
theorem dL_law_932 : decode cL_law 932 = .ok (.istore 5, 2) := by decide +kernel
theorem dL_law_934 : decode cL_law 934 = .ok (.aload_n 2, 1) := by decide +kernel
theorem dL_law_935 : decode cL_law 935 = .ok (.aload_n 0, 1) := by decide +kernel
theorem dL_law_936 : decode cL_law 936 = .ok (.iload 4, 2) := by decide +kernel
theorem dL_law_938 : decode cL_law 938 = .ok (.iconst 1, 1) := by decide +kernel
theorem dL_law_939 : decode cL_law 939 = .ok (.iadd, 1) := by decide +kernel
theorem dL_law_940 : decode cL_law 940 = .ok (.iaload, 1) := by decide +kernel
theorem dL_law_941 : decode cL_law 941 = .ok (.invokevirtual 138, 3) := by decide +kernel
theorem dL_law_944 : decode cL_law 944 = .ok (.istore 6, 2) := by decide +kernel
theorem dL_law_946 : decode cL_law 946 = .ok (.aload_n 2, 1) := by decide +kernel
theorem dL_law_947 : decode cL_law 947 = .ok (.invokevirtual 90, 3) := by decide +kernel
theorem dL_law_950 : decode cL_law 950 = .ok (.iload 5, 2) := by decide +kernel
theorem dL_law_952 : decode cL_law 952 = .ok (.if_icmp .eq 5, 3) := by decide +kernel
theorem dL_law_955 : decode cL_law 955 = .ok (.iconst 0, 1) := by decide +kernel
theorem dL_law_956 : decode cL_law 956 = .ok (.ireturn, 1) := by decide +kernel
theorem dL_law_957 : decode cL_law 957 = .ok (.iload 5, 2) := by decide +kernel
theorem dL_law_959 : decode cL_law 959 = .ok (.ifCond .ne 15, 3) := by decide +kernel
theorem dL_law_962 : decode cL_law 962 = .ok (.aload_n 3, 1) := by decide +kernel
theorem dL_law_963 : decode cL_law 963 = .ok (.iconst 0, 1) := by decide +kernel
theorem dL_law_964 : decode cL_law 964 = .ok (.laload, 1) := by decide +kernel
theorem dL_law_965 : decode cL_law 965 = .ok (.iload 6, 2) := by decide +kernel
theorem dL_law_967 : decode cL_law 967 = .ok (.i2l, 1) := by decide +kernel
theorem dL_law_968 : decode cL_law 968 = .ok (.lcmp, 1) := by decide +kernel
theorem dL_law_969 : decode cL_law 969 = .ok (.ifCond .eq 5, 3) := by decide +kernel
theorem dL_law_972 : decode cL_law 972 = .ok (.iconst 0, 1) := by decide +kernel
theorem dL_law_973 : decode cL_law 973 = .ok (.ireturn, 1) := by decide +kernel
theorem dL_law_974 : decode cL_law 974 = .ok (.goto 426, 3) := by decide +kernel
theorem dL_law_977 : decode cL_law 977 = .ok (.aload_n 1, 1) := by decide +kernel
theorem dL_law_978 : decode cL_law 978 = .ok (.aload_n 0, 1) := by decide +kernel
theorem dL_law_979 : decode cL_law 979 = .ok (.iload 4, 2) := by decide +kernel
theorem dL_law_981 : decode cL_law 981 = .ok (.iconst 1, 1) := by decide +kernel
theorem dL_law_982 : decode cL_law 982 = .ok (.iadd, 1) := by decide +kernel
theorem dL_law_983 : decode cL_law 983 = .ok (.iaload, 1) := by decide +kernel
theorem dL_law_984 : decode cL_law 984 = .ok (.aload_n 3, 1) := by decide +kernel
theorem dL_law_985 : decode cL_law 985 = .ok (.invokestatic 139, 3) := by decide +kernel
theorem dL_law_988 : decode cL_law 988 = .ok (.istore 5, 2) := by decide +kernel
theorem dL_law_990 : decode cL_law 990 = .ok (.aload_n 2, 1) := by decide +kernel
theorem dL_law_991 : decode cL_law 991 = .ok (.aload_n 0, 1) := by decide +kernel
theorem dL_law_992 : decode cL_law 992 = .ok (.iload 4, 2) := by decide +kernel
theorem dL_law_994 : decode cL_law 994 = .ok (.iconst 1, 1) := by decide +kernel
theorem dL_law_995 : decode cL_law 995 = .ok (.iadd, 1) := by decide +kernel
theorem dL_law_996 : decode cL_law 996 = .ok (.iaload, 1) := by decide +kernel
theorem dL_law_997 : decode cL_law 997 = .ok (.invokevirtual 141, 3) := by decide +kernel
theorem dL_law_1000 : decode cL_law 1000 = .ok (.istore 6, 2) := by decide +kernel
theorem dL_law_1002 : decode cL_law 1002 = .ok (.aload_n 2, 1) := by decide +kernel
theorem dL_law_1003 : decode cL_law 1003 = .ok (.invokevirtual 90, 3) := by decide +kernel
theorem dL_law_1006 : decode cL_law 1006 = .ok (.iload 5, 2) := by decide +kernel
theorem dL_law_1008 : decode cL_law 1008 = .ok (.if_icmp .eq 5, 3) := by decide +kernel
theorem dL_law_1011 : decode cL_law 1011 = .ok (.iconst 0, 1) := by decide +kernel
theorem dL_law_1012 : decode cL_law 1012 = .ok (.ireturn, 1) := by decide +kernel
theorem dL_law_1013 : decode cL_law 1013 = .ok (.iload 5, 2) := by decide +kernel
theorem dL_law_1015 : decode cL_law 1015 = .ok (.ifCond .ne 15, 3) := by decide +kernel
theorem dL_law_1018 : decode cL_law 1018 = .ok (.aload_n 3, 1) := by decide +kernel
theorem dL_law_1019 : decode cL_law 1019 = .ok (.iconst 0, 1) := by decide +kernel
theorem dL_law_1020 : decode cL_law 1020 = .ok (.laload, 1) := by decide +kernel
theorem dL_law_1021 : decode cL_law 1021 = .ok (.iload 6, 2) := by decide +kernel
theorem dL_law_1023 : decode cL_law 1023 = .ok (.i2l, 1) := by decide +kernel
theorem dL_law_1024 : decode cL_law 1024 = .ok (.lcmp, 1) := by decide +kernel
theorem dL_law_1025 : decode cL_law 1025 = .ok (.ifCond .eq 5, 3) := by decide +kernel
theorem dL_law_1028 : decode cL_law 1028 = .ok (.iconst 0, 1) := by decide +kernel
theorem dL_law_1029 : decode cL_law 1029 = .ok (.ireturn, 1) := by decide +kernel
theorem dL_law_1030 : decode cL_law 1030 = .ok (.goto 370, 3) := by decide +kernel
theorem dL_law_1033 : decode cL_law 1033 = .ok (.aload_n 1, 1) := by decide +kernel
theorem dL_law_1034 : decode cL_law 1034 = .ok (.aload_n 0, 1) := by decide +kernel
theorem dL_law_1035 : decode cL_law 1035 = .ok (.iload 4, 2) := by decide +kernel
theorem dL_law_1037 : decode cL_law 1037 = .ok (.iconst 1, 1) := by decide +kernel
theorem dL_law_1038 : decode cL_law 1038 = .ok (.iadd, 1) := by decide +kernel
theorem dL_law_1039 : decode cL_law 1039 = .ok (.iaload, 1) := by decide +kernel
theorem dL_law_1040 : decode cL_law 1040 = .ok (.aload_n 3, 1) := by decide +kernel
theorem dL_law_1041 : decode cL_law 1041 = .ok (.invokestatic 142, 3) := by decide +kernel
theorem dL_law_1044 : decode cL_law 1044 = .ok (.istore 5, 2) := by decide +kernel
theorem dL_law_1046 : decode cL_law 1046 = .ok (.aload_n 2, 1) := by decide +kernel
theorem dL_law_1047 : decode cL_law 1047 = .ok (.aload_n 0, 1) := by decide +kernel
theorem dL_law_1048 : decode cL_law 1048 = .ok (.iload 4, 2) := by decide +kernel
theorem dL_law_1050 : decode cL_law 1050 = .ok (.iconst 1, 1) := by decide +kernel
theorem dL_law_1051 : decode cL_law 1051 = .ok (.iadd, 1) := by decide +kernel
theorem dL_law_1052 : decode cL_law 1052 = .ok (.iaload, 1) := by decide +kernel
theorem dL_law_1053 : decode cL_law 1053 = .ok (.invokevirtual 144, 3) := by decide +kernel
theorem dL_law_1056 : decode cL_law 1056 = .ok (.istore 6, 2) := by decide +kernel
theorem dL_law_1058 : decode cL_law 1058 = .ok (.aload_n 2, 1) := by decide +kernel
theorem dL_law_1059 : decode cL_law 1059 = .ok (.invokevirtual 90, 3) := by decide +kernel
theorem dL_law_1062 : decode cL_law 1062 = .ok (.iload 5, 2) := by decide +kernel
theorem dL_law_1064 : decode cL_law 1064 = .ok (.if_icmp .eq 5, 3) := by decide +kernel
theorem dL_law_1067 : decode cL_law 1067 = .ok (.iconst 0, 1) := by decide +kernel
theorem dL_law_1068 : decode cL_law 1068 = .ok (.ireturn, 1) := by decide +kernel
theorem dL_law_1069 : decode cL_law 1069 = .ok (.iload 5, 2) := by decide +kernel
theorem dL_law_1071 : decode cL_law 1071 = .ok (.ifCond .ne 15, 3) := by decide +kernel
theorem dL_law_1074 : decode cL_law 1074 = .ok (.aload_n 3, 1) := by decide +kernel
theorem dL_law_1075 : decode cL_law 1075 = .ok (.iconst 0, 1) := by decide +kernel
theorem dL_law_1076 : decode cL_law 1076 = .ok (.laload, 1) := by decide +kernel
theorem dL_law_1077 : decode cL_law 1077 = .ok (.iload 6, 2) := by decide +kernel
theorem dL_law_1079 : decode cL_law 1079 = .ok (.i2l, 1) := by decide +kernel
theorem dL_law_1080 : decode cL_law 1080 = .ok (.lcmp, 1) := by decide +kernel
theorem dL_law_1081 : decode cL_law 1081 = .ok (.ifCond .eq 5, 3) := by decide +kernel
theorem dL_law_1084 : decode cL_law 1084 = .ok (.iconst 0, 1) := by decide +kernel
theorem dL_law_1085 : decode cL_law 1085 = .ok (.ireturn, 1) := by decide +kernel
theorem dL_law_1086 : decode cL_law 1086 = .ok (.goto 314, 3) := by decide +kernel
theorem dL_law_1089 : decode cL_law 1089 = .ok (.aload_n 1, 1) := by decide +kernel
theorem dL_law_1090 : decode cL_law 1090 = .ok (.aload_n 0, 1) := by decide +kernel
theorem dL_law_1091 : decode cL_law 1091 = .ok (.iload 4, 2) := by decide +kernel
theorem dL_law_1093 : decode cL_law 1093 = .ok (.iconst 1, 1) := by decide +kernel
theorem dL_law_1094 : decode cL_law 1094 = .ok (.iadd, 1) := by decide +kernel
theorem dL_law_1095 : decode cL_law 1095 = .ok (.iaload, 1) := by decide +kernel
theorem dL_law_1096 : decode cL_law 1096 = .ok (.aload_n 3, 1) := by decide +kernel
theorem dL_law_1097 : decode cL_law 1097 = .ok (.invokestatic 145, 3) := by decide +kernel
theorem dL_law_1100 : decode cL_law 1100 = .ok (.istore 5, 2) := by decide +kernel
theorem dL_law_1102 : decode cL_law 1102 = .ok (.aload_n 2, 1) := by decide +kernel
theorem dL_law_1103 : decode cL_law 1103 = .ok (.aload_n 0, 1) := by decide +kernel
theorem dL_law_1104 : decode cL_law 1104 = .ok (.iload 4, 2) := by decide +kernel
theorem dL_law_1106 : decode cL_law 1106 = .ok (.iconst 1, 1) := by decide +kernel
theorem dL_law_1107 : decode cL_law 1107 = .ok (.iadd, 1) := by decide +kernel
theorem dL_law_1108 : decode cL_law 1108 = .ok (.iaload, 1) := by decide +kernel
theorem dL_law_1109 : decode cL_law 1109 = .ok (.invokevirtual 147, 3) := by decide +kernel
theorem dL_law_1112 : decode cL_law 1112 = .ok (.istore 6, 2) := by decide +kernel
theorem dL_law_1114 : decode cL_law 1114 = .ok (.aload_n 2, 1) := by decide +kernel
theorem dL_law_1115 : decode cL_law 1115 = .ok (.invokevirtual 90, 3) := by decide +kernel
theorem dL_law_1118 : decode cL_law 1118 = .ok (.iload 5, 2) := by decide +kernel
theorem dL_law_1120 : decode cL_law 1120 = .ok (.if_icmp .eq 5, 3) := by decide +kernel
theorem dL_law_1123 : decode cL_law 1123 = .ok (.iconst 0, 1) := by decide +kernel
theorem dL_law_1124 : decode cL_law 1124 = .ok (.ireturn, 1) := by decide +kernel
theorem dL_law_1125 : decode cL_law 1125 = .ok (.iload 5, 2) := by decide +kernel
theorem dL_law_1127 : decode cL_law 1127 = .ok (.ifCond .ne 15, 3) := by decide +kernel
theorem dL_law_1130 : decode cL_law 1130 = .ok (.aload_n 3, 1) := by decide +kernel
theorem dL_law_1131 : decode cL_law 1131 = .ok (.iconst 0, 1) := by decide +kernel
theorem dL_law_1132 : decode cL_law 1132 = .ok (.laload, 1) := by decide +kernel
theorem dL_law_1133 : decode cL_law 1133 = .ok (.iload 6, 2) := by decide +kernel
theorem dL_law_1135 : decode cL_law 1135 = .ok (.i2l, 1) := by decide +kernel
theorem dL_law_1136 : decode cL_law 1136 = .ok (.lcmp, 1) := by decide +kernel
theorem dL_law_1137 : decode cL_law 1137 = .ok (.ifCond .eq 5, 3) := by decide +kernel
theorem dL_law_1140 : decode cL_law 1140 = .ok (.iconst 0, 1) := by decide +kernel
theorem dL_law_1141 : decode cL_law 1141 = .ok (.ireturn, 1) := by decide +kernel
theorem dL_law_1142 : decode cL_law 1142 = .ok (.goto 258, 3) := by decide +kernel
theorem dL_law_1145 : decode cL_law 1145 = .ok (.aload_n 1, 1) := by decide +kernel
theorem dL_law_1146 : decode cL_law 1146 = .ok (.invokevirtual 148, 3) := by decide +kernel
theorem dL_law_1149 : decode cL_law 1149 = .ok (.aload_n 2, 1) := by decide +kernel
theorem dL_law_1150 : decode cL_law 1150 = .ok (.invokevirtual 151, 3) := by decide +kernel
theorem dL_law_1153 : decode cL_law 1153 = .ok (.if_icmp .eq 247, 3) := by decide +kernel
theorem dL_law_1156 : decode cL_law 1156 = .ok (.iconst 0, 1) := by decide +kernel
theorem dL_law_1157 : decode cL_law 1157 = .ok (.ireturn, 1) := by decide +kernel
theorem dL_law_1158 : decode cL_law 1158 = .ok (.aload_n 1, 1) := by decide +kernel
theorem dL_law_1159 : decode cL_law 1159 = .ok (.invokevirtual 152, 3) := by decide +kernel
theorem dL_law_1162 : decode cL_law 1162 = .ok (.aload_n 2, 1) := by decide +kernel
theorem dL_law_1163 : decode cL_law 1163 = .ok (.invokevirtual 155, 3) := by decide +kernel
theorem dL_law_1166 : decode cL_law 1166 = .ok (.if_icmp .eq 234, 3) := by decide +kernel
theorem dL_law_1169 : decode cL_law 1169 = .ok (.iconst 0, 1) := by decide +kernel
theorem dL_law_1170 : decode cL_law 1170 = .ok (.ireturn, 1) := by decide +kernel
theorem dL_law_1171 : decode cL_law 1171 = .ok (.aload_n 1, 1) := by decide +kernel
theorem dL_law_1172 : decode cL_law 1172 = .ok (.invokevirtual 156, 3) := by decide +kernel
theorem dL_law_1175 : decode cL_law 1175 = .ok (.aload_n 2, 1) := by decide +kernel
theorem dL_law_1176 : decode cL_law 1176 = .ok (.invokevirtual 159, 3) := by decide +kernel
theorem dL_law_1179 : decode cL_law 1179 = .ok (.if_icmp .eq 221, 3) := by decide +kernel
theorem dL_law_1182 : decode cL_law 1182 = .ok (.iconst 0, 1) := by decide +kernel
theorem dL_law_1183 : decode cL_law 1183 = .ok (.ireturn, 1) := by decide +kernel
theorem dL_law_1184 : decode cL_law 1184 = .ok (.aload_n 1, 1) := by decide +kernel
theorem dL_law_1185 : decode cL_law 1185 = .ok (.aload_n 0, 1) := by decide +kernel
theorem dL_law_1186 : decode cL_law 1186 = .ok (.iload 4, 2) := by decide +kernel
theorem dL_law_1188 : decode cL_law 1188 = .ok (.iconst 1, 1) := by decide +kernel
theorem dL_law_1189 : decode cL_law 1189 = .ok (.iadd, 1) := by decide +kernel
theorem dL_law_1190 : decode cL_law 1190 = .ok (.iaload, 1) := by decide +kernel
theorem dL_law_1191 : decode cL_law 1191 = .ok (.aload_n 0, 1) := by decide +kernel
theorem dL_law_1192 : decode cL_law 1192 = .ok (.iload 4, 2) := by decide +kernel
theorem dL_law_1194 : decode cL_law 1194 = .ok (.iconst 2, 1) := by decide +kernel
theorem dL_law_1195 : decode cL_law 1195 = .ok (.iadd, 1) := by decide +kernel
theorem dL_law_1196 : decode cL_law 1196 = .ok (.iaload, 1) := by decide +kernel
theorem dL_law_1197 : decode cL_law 1197 = .ok (.aload_n 0, 1) := by decide +kernel
theorem dL_law_1198 : decode cL_law 1198 = .ok (.iload 4, 2) := by decide +kernel
theorem dL_law_1200 : decode cL_law 1200 = .ok (.iconst 3, 1) := by decide +kernel
theorem dL_law_1201 : decode cL_law 1201 = .ok (.iadd, 1) := by decide +kernel
theorem dL_law_1202 : decode cL_law 1202 = .ok (.iaload, 1) := by decide +kernel
theorem dL_law_1203 : decode cL_law 1203 = .ok (.aload_n 0, 1) := by decide +kernel
theorem dL_law_1204 : decode cL_law 1204 = .ok (.iload 4, 2) := by decide +kernel
theorem dL_law_1206 : decode cL_law 1206 = .ok (.iconst 4, 1) := by decide +kernel
theorem dL_law_1207 : decode cL_law 1207 = .ok (.iadd, 1) := by decide +kernel
theorem dL_law_1208 : decode cL_law 1208 = .ok (.iaload, 1) := by decide +kernel
theorem dL_law_1209 : decode cL_law 1209 = .ok (.aload_n 3, 1) := by decide +kernel
theorem dL_law_1210 : decode cL_law 1210 = .ok (.invokestatic 160, 3) := by decide +kernel
theorem dL_law_1213 : decode cL_law 1213 = .ok (.istore 5, 2) := by decide +kernel
theorem dL_law_1215 : decode cL_law 1215 = .ok (.aload_n 2, 1) := by decide +kernel
theorem dL_law_1216 : decode cL_law 1216 = .ok (.aload_n 0, 1) := by decide +kernel
theorem dL_law_1217 : decode cL_law 1217 = .ok (.iload 4, 2) := by decide +kernel
theorem dL_law_1219 : decode cL_law 1219 = .ok (.iconst 1, 1) := by decide +kernel
theorem dL_law_1220 : decode cL_law 1220 = .ok (.iadd, 1) := by decide +kernel
theorem dL_law_1221 : decode cL_law 1221 = .ok (.iaload, 1) := by decide +kernel
theorem dL_law_1222 : decode cL_law 1222 = .ok (.aload_n 0, 1) := by decide +kernel
theorem dL_law_1223 : decode cL_law 1223 = .ok (.iload 4, 2) := by decide +kernel
theorem dL_law_1225 : decode cL_law 1225 = .ok (.iconst 2, 1) := by decide +kernel
theorem dL_law_1226 : decode cL_law 1226 = .ok (.iadd, 1) := by decide +kernel
theorem dL_law_1227 : decode cL_law 1227 = .ok (.iaload, 1) := by decide +kernel
theorem dL_law_1228 : decode cL_law 1228 = .ok (.aload_n 0, 1) := by decide +kernel
theorem dL_law_1229 : decode cL_law 1229 = .ok (.iload 4, 2) := by decide +kernel
theorem dL_law_1231 : decode cL_law 1231 = .ok (.iconst 3, 1) := by decide +kernel
theorem dL_law_1232 : decode cL_law 1232 = .ok (.iadd, 1) := by decide +kernel
theorem dL_law_1233 : decode cL_law 1233 = .ok (.iaload, 1) := by decide +kernel
theorem dL_law_1234 : decode cL_law 1234 = .ok (.aload_n 0, 1) := by decide +kernel
theorem dL_law_1235 : decode cL_law 1235 = .ok (.iload 4, 2) := by decide +kernel
theorem dL_law_1237 : decode cL_law 1237 = .ok (.iconst 4, 1) := by decide +kernel
theorem dL_law_1238 : decode cL_law 1238 = .ok (.iadd, 1) := by decide +kernel
theorem dL_law_1239 : decode cL_law 1239 = .ok (.iaload, 1) := by decide +kernel
theorem dL_law_1240 : decode cL_law 1240 = .ok (.invokevirtual 162, 3) := by decide +kernel
theorem dL_law_1243 : decode cL_law 1243 = .ok (.istore 6, 2) := by decide +kernel
theorem dL_law_1245 : decode cL_law 1245 = .ok (.aload_n 2, 1) := by decide +kernel
theorem dL_law_1246 : decode cL_law 1246 = .ok (.invokevirtual 90, 3) := by decide +kernel
theorem dL_law_1249 : decode cL_law 1249 = .ok (.iload 5, 2) := by decide +kernel
theorem dL_law_1251 : decode cL_law 1251 = .ok (.if_icmp .eq 5, 3) := by decide +kernel
theorem dL_law_1254 : decode cL_law 1254 = .ok (.iconst 0, 1) := by decide +kernel
theorem dL_law_1255 : decode cL_law 1255 = .ok (.ireturn, 1) := by decide +kernel
theorem dL_law_1256 : decode cL_law 1256 = .ok (.iload 5, 2) := by decide +kernel
theorem dL_law_1258 : decode cL_law 1258 = .ok (.ifCond .ne 15, 3) := by decide +kernel
theorem dL_law_1261 : decode cL_law 1261 = .ok (.aload_n 3, 1) := by decide +kernel
theorem dL_law_1262 : decode cL_law 1262 = .ok (.iconst 0, 1) := by decide +kernel
theorem dL_law_1263 : decode cL_law 1263 = .ok (.laload, 1) := by decide +kernel
theorem dL_law_1264 : decode cL_law 1264 = .ok (.iload 6, 2) := by decide +kernel
theorem dL_law_1266 : decode cL_law 1266 = .ok (.i2l, 1) := by decide +kernel
theorem dL_law_1267 : decode cL_law 1267 = .ok (.lcmp, 1) := by decide +kernel
theorem dL_law_1268 : decode cL_law 1268 = .ok (.ifCond .eq 5, 3) := by decide +kernel
theorem dL_law_1271 : decode cL_law 1271 = .ok (.iconst 0, 1) := by decide +kernel
theorem dL_law_1272 : decode cL_law 1272 = .ok (.ireturn, 1) := by decide +kernel
theorem dL_law_1273 : decode cL_law 1273 = .ok (.goto 127, 3) := by decide +kernel
theorem dL_law_1276 : decode cL_law 1276 = .ok (.aload_n 1, 1) := by decide +kernel
theorem dL_law_1277 : decode cL_law 1277 = .ok (.aload_n 0, 1) := by decide +kernel
theorem dL_law_1278 : decode cL_law 1278 = .ok (.iload 4, 2) := by decide +kernel
theorem dL_law_1280 : decode cL_law 1280 = .ok (.iconst 1, 1) := by decide +kernel
theorem dL_law_1281 : decode cL_law 1281 = .ok (.iadd, 1) := by decide +kernel
theorem dL_law_1282 : decode cL_law 1282 = .ok (.iaload, 1) := by decide +kernel
theorem dL_law_1283 : decode cL_law 1283 = .ok (.aload_n 3, 1) := by decide +kernel
theorem dL_law_1284 : decode cL_law 1284 = .ok (.invokestatic 163, 3) := by decide +kernel
theorem dL_law_1287 : decode cL_law 1287 = .ok (.istore 5, 2) := by decide +kernel
theorem dL_law_1289 : decode cL_law 1289 = .ok (.aload_n 2, 1) := by decide +kernel
theorem dL_law_1290 : decode cL_law 1290 = .ok (.aload_n 0, 1) := by decide +kernel
theorem dL_law_1291 : decode cL_law 1291 = .ok (.iload 4, 2) := by decide +kernel
theorem dL_law_1293 : decode cL_law 1293 = .ok (.iconst 1, 1) := by decide +kernel
theorem dL_law_1294 : decode cL_law 1294 = .ok (.iadd, 1) := by decide +kernel
theorem dL_law_1295 : decode cL_law 1295 = .ok (.iaload, 1) := by decide +kernel
theorem dL_law_1296 : decode cL_law 1296 = .ok (.invokevirtual 165, 3) := by decide +kernel
theorem dL_law_1299 : decode cL_law 1299 = .ok (.istore 6, 2) := by decide +kernel
theorem dL_law_1301 : decode cL_law 1301 = .ok (.aload_n 2, 1) := by decide +kernel
theorem dL_law_1302 : decode cL_law 1302 = .ok (.invokevirtual 90, 3) := by decide +kernel
theorem dL_law_1305 : decode cL_law 1305 = .ok (.iload 5, 2) := by decide +kernel
theorem dL_law_1307 : decode cL_law 1307 = .ok (.if_icmp .eq 5, 3) := by decide +kernel
theorem dL_law_1310 : decode cL_law 1310 = .ok (.iconst 0, 1) := by decide +kernel
theorem dL_law_1311 : decode cL_law 1311 = .ok (.ireturn, 1) := by decide +kernel
theorem dL_law_1312 : decode cL_law 1312 = .ok (.iload 5, 2) := by decide +kernel
theorem dL_law_1314 : decode cL_law 1314 = .ok (.ifCond .ne 15, 3) := by decide +kernel
theorem dL_law_1317 : decode cL_law 1317 = .ok (.aload_n 3, 1) := by decide +kernel
theorem dL_law_1318 : decode cL_law 1318 = .ok (.iconst 0, 1) := by decide +kernel
theorem dL_law_1319 : decode cL_law 1319 = .ok (.laload, 1) := by decide +kernel
theorem dL_law_1320 : decode cL_law 1320 = .ok (.iload 6, 2) := by decide +kernel
theorem dL_law_1322 : decode cL_law 1322 = .ok (.i2l, 1) := by decide +kernel
theorem dL_law_1323 : decode cL_law 1323 = .ok (.lcmp, 1) := by decide +kernel
theorem dL_law_1324 : decode cL_law 1324 = .ok (.ifCond .eq 5, 3) := by decide +kernel
theorem dL_law_1327 : decode cL_law 1327 = .ok (.iconst 0, 1) := by decide +kernel
theorem dL_law_1328 : decode cL_law 1328 = .ok (.ireturn, 1) := by decide +kernel
theorem dL_law_1329 : decode cL_law 1329 = .ok (.goto 71, 3) := by decide +kernel
theorem dL_law_1332 : decode cL_law 1332 = .ok (.aload_n 1, 1) := by decide +kernel
theorem dL_law_1333 : decode cL_law 1333 = .ok (.aload_n 0, 1) := by decide +kernel
theorem dL_law_1334 : decode cL_law 1334 = .ok (.iload 4, 2) := by decide +kernel
theorem dL_law_1336 : decode cL_law 1336 = .ok (.iconst 1, 1) := by decide +kernel
theorem dL_law_1337 : decode cL_law 1337 = .ok (.iadd, 1) := by decide +kernel
theorem dL_law_1338 : decode cL_law 1338 = .ok (.iaload, 1) := by decide +kernel
theorem dL_law_1339 : decode cL_law 1339 = .ok (.aload_n 0, 1) := by decide +kernel
theorem dL_law_1340 : decode cL_law 1340 = .ok (.iload 4, 2) := by decide +kernel
theorem dL_law_1342 : decode cL_law 1342 = .ok (.iconst 2, 1) := by decide +kernel
theorem dL_law_1343 : decode cL_law 1343 = .ok (.iadd, 1) := by decide +kernel
theorem dL_law_1344 : decode cL_law 1344 = .ok (.iaload, 1) := by decide +kernel
theorem dL_law_1345 : decode cL_law 1345 = .ok (.aload_n 3, 1) := by decide +kernel
theorem dL_law_1346 : decode cL_law 1346 = .ok (.invokestatic 166, 3) := by decide +kernel
theorem dL_law_1349 : decode cL_law 1349 = .ok (.istore 5, 2) := by decide +kernel
theorem dL_law_1351 : decode cL_law 1351 = .ok (.aload_n 2, 1) := by decide +kernel
theorem dL_law_1352 : decode cL_law 1352 = .ok (.aload_n 0, 1) := by decide +kernel
theorem dL_law_1353 : decode cL_law 1353 = .ok (.iload 4, 2) := by decide +kernel
theorem dL_law_1355 : decode cL_law 1355 = .ok (.iconst 1, 1) := by decide +kernel
theorem dL_law_1356 : decode cL_law 1356 = .ok (.iadd, 1) := by decide +kernel
theorem dL_law_1357 : decode cL_law 1357 = .ok (.iaload, 1) := by decide +kernel
theorem dL_law_1358 : decode cL_law 1358 = .ok (.aload_n 0, 1) := by decide +kernel
theorem dL_law_1359 : decode cL_law 1359 = .ok (.iload 4, 2) := by decide +kernel
theorem dL_law_1361 : decode cL_law 1361 = .ok (.iconst 2, 1) := by decide +kernel
theorem dL_law_1362 : decode cL_law 1362 = .ok (.iadd, 1) := by decide +kernel
theorem dL_law_1363 : decode cL_law 1363 = .ok (.iaload, 1) := by decide +kernel
theorem dL_law_1364 : decode cL_law 1364 = .ok (.invokevirtual 168, 3) := by decide +kernel
theorem dL_law_1367 : decode cL_law 1367 = .ok (.istore 6, 2) := by decide +kernel
theorem dL_law_1369 : decode cL_law 1369 = .ok (.aload_n 2, 1) := by decide +kernel
theorem dL_law_1370 : decode cL_law 1370 = .ok (.invokevirtual 90, 3) := by decide +kernel
theorem dL_law_1373 : decode cL_law 1373 = .ok (.iload 5, 2) := by decide +kernel
theorem dL_law_1375 : decode cL_law 1375 = .ok (.if_icmp .eq 5, 3) := by decide +kernel
theorem dL_law_1378 : decode cL_law 1378 = .ok (.iconst 0, 1) := by decide +kernel
theorem dL_law_1379 : decode cL_law 1379 = .ok (.ireturn, 1) := by decide +kernel
theorem dL_law_1380 : decode cL_law 1380 = .ok (.iload 5, 2) := by decide +kernel
theorem dL_law_1382 : decode cL_law 1382 = .ok (.ifCond .ne 15, 3) := by decide +kernel
theorem dL_law_1385 : decode cL_law 1385 = .ok (.aload_n 3, 1) := by decide +kernel
theorem dL_law_1386 : decode cL_law 1386 = .ok (.iconst 0, 1) := by decide +kernel
theorem dL_law_1387 : decode cL_law 1387 = .ok (.laload, 1) := by decide +kernel
theorem dL_law_1388 : decode cL_law 1388 = .ok (.iload 6, 2) := by decide +kernel
theorem dL_law_1390 : decode cL_law 1390 = .ok (.i2l, 1) := by decide +kernel
theorem dL_law_1391 : decode cL_law 1391 = .ok (.lcmp, 1) := by decide +kernel
theorem dL_law_1392 : decode cL_law 1392 = .ok (.ifCond .eq 5, 3) := by decide +kernel
theorem dL_law_1395 : decode cL_law 1395 = .ok (.iconst 0, 1) := by decide +kernel
theorem dL_law_1396 : decode cL_law 1396 = .ok (.ireturn, 1) := by decide +kernel
theorem dL_law_1397 : decode cL_law 1397 = .ok (.goto 3, 3) := by decide +kernel
theorem dL_law_1400 : decode cL_law 1400 = .ok (.iinc 4 5, 3) := by decide +kernel
theorem dL_law_1403 : decode cL_law 1403 = .ok (.goto (-1380), 3) := by decide +kernel
theorem dL_law_1406 : decode cL_law 1406 = .ok (.iconst 1, 1) := by decide +kernel
theorem dL_law_1407 : decode cL_law 1407 = .ok (.ireturn, 1) := by decide +kernel
abbrev vwCl : List vw_C := [(RX0, TX0, 13), (RX1, TX1, 9), (RX2, TX2, 19)]
