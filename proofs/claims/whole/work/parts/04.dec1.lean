theorem dX0_init_0 : decode cX0_init 0 = .ok (.aload_n 0, 1) := by decide +kernel
theorem dX0_init_1 : decode cX0_init 1 = .ok (.invokespecial 3, 3) := by decide +kernel
theorem dX0_init_4 : decode cX0_init 4 = .ok (.aload_n 0, 1) := by decide +kernel
theorem dX0_init_5 : decode cX0_init 5 = .ok (.iconst 4, 1) := by decide +kernel
theorem dX0_init_6 : decode cX0_init 6 = .ok (.newarray .int, 2) := by decide +kernel
theorem dX0_init_8 : decode cX0_init 8 = .ok (.putfield 9, 3) := by decide +kernel
theorem dX0_init_11 : decode cX0_init 11 = .ok (.aload_n 0, 1) := by decide +kernel
theorem dX0_init_12 : decode cX0_init 12 = .ok (.iconst 4, 1) := by decide +kernel
theorem dX0_init_13 : decode cX0_init 13 = .ok (.newarray .int, 2) := by decide +kernel
theorem dX0_init_15 : decode cX0_init 15 = .ok (.putfield 15, 3) := by decide +kernel
theorem dX0_init_18 : decode cX0_init 18 = .ok (.aload_n 0, 1) := by decide +kernel
theorem dX0_init_19 : decode cX0_init 19 = .ok (.iload_n 1, 1) := by decide +kernel
theorem dX0_init_20 : decode cX0_init 20 = .ok (.putfield 18, 3) := by decide +kernel
theorem dX0_init_23 : decode cX0_init 23 = .ok (.aload_n 0, 1) := by decide +kernel
theorem dX0_init_24 : decode cX0_init 24 = .ok (.iload_n 2, 1) := by decide +kernel
theorem dX0_init_25 : decode cX0_init 25 = .ok (.putfield 22, 3) := by decide +kernel
theorem dX0_init_28 : decode cX0_init 28 = .ok (.aload_n 0, 1) := by decide +kernel
theorem dX0_init_29 : decode cX0_init 29 = .ok (.iload_n 3, 1) := by decide +kernel
theorem dX0_init_30 : decode cX0_init 30 = .ok (.putfield 25, 3) := by decide +kernel
theorem dX0_init_33 : decode cX0_init 33 = .ok (.aload_n 0, 1) := by decide +kernel
theorem dX0_init_34 : decode cX0_init 34 = .ok (.iload 4, 2) := by decide +kernel
theorem dX0_init_36 : decode cX0_init 36 = .ok (.putfield 28, 3) := by decide +kernel
theorem dX0_init_39 : decode cX0_init 39 = .ok (.return_, 1) := by decide +kernel
theorem dX0_addBreak_0 : decode cX0_addBreak 0 = .ok (.aload_n 0, 1) := by decide +kernel
theorem dX0_addBreak_1 : decode cX0_addBreak 1 = .ok (.getfield 31, 3) := by decide +kernel
theorem dX0_addBreak_4 : decode cX0_addBreak 4 = .ok (.ifCond .lt 11, 3) := by decide +kernel
theorem dX0_addBreak_7 : decode cX0_addBreak 7 = .ok (.aload_n 0, 1) := by decide +kernel
theorem dX0_addBreak_8 : decode cX0_addBreak 8 = .ok (.getfield 31, 3) := by decide +kernel
theorem dX0_addBreak_11 : decode cX0_addBreak 11 = .ok (.iconst 4, 1) := by decide +kernel
theorem dX0_addBreak_12 : decode cX0_addBreak 12 = .ok (.if_icmp .lt 4, 3) := by decide +kernel
theorem dX0_addBreak_15 : decode cX0_addBreak 15 = .ok (.return_, 1) := by decide +kernel
theorem dX0_addBreak_16 : decode cX0_addBreak 16 = .ok (.aload_n 0, 1) := by decide +kernel
theorem dX0_addBreak_17 : decode cX0_addBreak 17 = .ok (.getfield 31, 3) := by decide +kernel
theorem dX0_addBreak_20 : decode cX0_addBreak 20 = .ok (.istore_n 3, 1) := by decide +kernel
theorem dX0_addBreak_21 : decode cX0_addBreak 21 = .ok (.iload_n 3, 1) := by decide +kernel
theorem dX0_addBreak_22 : decode cX0_addBreak 22 = .ok (.ifCond .le 49, 3) := by decide +kernel
theorem dX0_addBreak_25 : decode cX0_addBreak 25 = .ok (.aload_n 0, 1) := by decide +kernel
theorem dX0_addBreak_26 : decode cX0_addBreak 26 = .ok (.getfield 9, 3) := by decide +kernel
theorem dX0_addBreak_29 : decode cX0_addBreak 29 = .ok (.iload_n 3, 1) := by decide +kernel
theorem dX0_addBreak_30 : decode cX0_addBreak 30 = .ok (.iconst 1, 1) := by decide +kernel
theorem dX0_addBreak_31 : decode cX0_addBreak 31 = .ok (.isub, 1) := by decide +kernel
theorem dX0_addBreak_32 : decode cX0_addBreak 32 = .ok (.iaload, 1) := by decide +kernel
theorem dX0_addBreak_33 : decode cX0_addBreak 33 = .ok (.iload_n 1, 1) := by decide +kernel
theorem dX0_addBreak_34 : decode cX0_addBreak 34 = .ok (.if_icmp .le 37, 3) := by decide +kernel
theorem dX0_addBreak_37 : decode cX0_addBreak 37 = .ok (.aload_n 0, 1) := by decide +kernel
theorem dX0_addBreak_38 : decode cX0_addBreak 38 = .ok (.getfield 9, 3) := by decide +kernel
theorem dX0_addBreak_41 : decode cX0_addBreak 41 = .ok (.iload_n 3, 1) := by decide +kernel
theorem dX0_addBreak_42 : decode cX0_addBreak 42 = .ok (.aload_n 0, 1) := by decide +kernel
theorem dX0_addBreak_43 : decode cX0_addBreak 43 = .ok (.getfield 9, 3) := by decide +kernel
theorem dX0_addBreak_46 : decode cX0_addBreak 46 = .ok (.iload_n 3, 1) := by decide +kernel
theorem dX0_addBreak_47 : decode cX0_addBreak 47 = .ok (.iconst 1, 1) := by decide +kernel
theorem dX0_addBreak_48 : decode cX0_addBreak 48 = .ok (.isub, 1) := by decide +kernel
theorem dX0_addBreak_49 : decode cX0_addBreak 49 = .ok (.iaload, 1) := by decide +kernel
theorem dX0_addBreak_50 : decode cX0_addBreak 50 = .ok (.iastore, 1) := by decide +kernel
theorem dX0_addBreak_51 : decode cX0_addBreak 51 = .ok (.aload_n 0, 1) := by decide +kernel
theorem dX0_addBreak_52 : decode cX0_addBreak 52 = .ok (.getfield 15, 3) := by decide +kernel
theorem dX0_addBreak_55 : decode cX0_addBreak 55 = .ok (.iload_n 3, 1) := by decide +kernel
theorem dX0_addBreak_56 : decode cX0_addBreak 56 = .ok (.aload_n 0, 1) := by decide +kernel
theorem dX0_addBreak_57 : decode cX0_addBreak 57 = .ok (.getfield 15, 3) := by decide +kernel
theorem dX0_addBreak_60 : decode cX0_addBreak 60 = .ok (.iload_n 3, 1) := by decide +kernel
theorem dX0_addBreak_61 : decode cX0_addBreak 61 = .ok (.iconst 1, 1) := by decide +kernel
theorem dX0_addBreak_62 : decode cX0_addBreak 62 = .ok (.isub, 1) := by decide +kernel
theorem dX0_addBreak_63 : decode cX0_addBreak 63 = .ok (.iaload, 1) := by decide +kernel
theorem dX0_addBreak_64 : decode cX0_addBreak 64 = .ok (.iastore, 1) := by decide +kernel
theorem dX0_addBreak_65 : decode cX0_addBreak 65 = .ok (.iinc 3 (-1), 3) := by decide +kernel
theorem dX0_addBreak_68 : decode cX0_addBreak 68 = .ok (.goto (-47), 3) := by decide +kernel
theorem dX0_addBreak_71 : decode cX0_addBreak 71 = .ok (.aload_n 0, 1) := by decide +kernel
theorem dX0_addBreak_72 : decode cX0_addBreak 72 = .ok (.getfield 9, 3) := by decide +kernel
theorem dX0_addBreak_75 : decode cX0_addBreak 75 = .ok (.iload_n 3, 1) := by decide +kernel
theorem dX0_addBreak_76 : decode cX0_addBreak 76 = .ok (.iload_n 1, 1) := by decide +kernel
theorem dX0_addBreak_77 : decode cX0_addBreak 77 = .ok (.iastore, 1) := by decide +kernel
theorem dX0_addBreak_78 : decode cX0_addBreak 78 = .ok (.aload_n 0, 1) := by decide +kernel
theorem dX0_addBreak_79 : decode cX0_addBreak 79 = .ok (.getfield 15, 3) := by decide +kernel
theorem dX0_addBreak_82 : decode cX0_addBreak 82 = .ok (.iload_n 3, 1) := by decide +kernel
theorem dX0_addBreak_83 : decode cX0_addBreak 83 = .ok (.iload_n 2, 1) := by decide +kernel
theorem dX0_addBreak_84 : decode cX0_addBreak 84 = .ok (.iastore, 1) := by decide +kernel
theorem dX0_addBreak_85 : decode cX0_addBreak 85 = .ok (.aload_n 0, 1) := by decide +kernel
theorem dX0_addBreak_86 : decode cX0_addBreak 86 = .ok (.dup, 1) := by decide +kernel
theorem dX0_addBreak_87 : decode cX0_addBreak 87 = .ok (.getfield 31, 3) := by decide +kernel
theorem dX0_addBreak_90 : decode cX0_addBreak 90 = .ok (.iconst 1, 1) := by decide +kernel
theorem dX0_addBreak_91 : decode cX0_addBreak 91 = .ok (.iadd, 1) := by decide +kernel
theorem dX0_addBreak_92 : decode cX0_addBreak 92 = .ok (.putfield 31, 3) := by decide +kernel
theorem dX0_addBreak_95 : decode cX0_addBreak 95 = .ok (.return_, 1) := by decide +kernel
theorem dX0_hoursOfBreaks_0 : decode cX0_hoursOfBreaks 0 = .ok (.iconst 0, 1) := by decide +kernel
theorem dX0_hoursOfBreaks_1 : decode cX0_hoursOfBreaks 1 = .ok (.istore_n 1, 1) := by decide +kernel
theorem dX0_hoursOfBreaks_2 : decode cX0_hoursOfBreaks 2 = .ok (.iconst 0, 1) := by decide +kernel
theorem dX0_hoursOfBreaks_3 : decode cX0_hoursOfBreaks 3 = .ok (.istore_n 2, 1) := by decide +kernel
theorem dX0_hoursOfBreaks_4 : decode cX0_hoursOfBreaks 4 = .ok (.iload_n 2, 1) := by decide +kernel
theorem dX0_hoursOfBreaks_5 : decode cX0_hoursOfBreaks 5 = .ok (.aload_n 0, 1) := by decide +kernel
theorem dX0_hoursOfBreaks_6 : decode cX0_hoursOfBreaks 6 = .ok (.getfield 31, 3) := by decide +kernel
theorem dX0_hoursOfBreaks_9 : decode cX0_hoursOfBreaks 9 = .ok (.if_icmp .ge 23, 3) := by decide +kernel
theorem dX0_hoursOfBreaks_12 : decode cX0_hoursOfBreaks 12 = .ok (.iload_n 2, 1) := by decide +kernel
theorem dX0_hoursOfBreaks_13 : decode cX0_hoursOfBreaks 13 = .ok (.iconst 4, 1) := by decide +kernel
theorem dX0_hoursOfBreaks_14 : decode cX0_hoursOfBreaks 14 = .ok (.if_icmp .ge 18, 3) := by decide +kernel
theorem dX0_hoursOfBreaks_17 : decode cX0_hoursOfBreaks 17 = .ok (.iload_n 1, 1) := by decide +kernel
theorem dX0_hoursOfBreaks_18 : decode cX0_hoursOfBreaks 18 = .ok (.aload_n 0, 1) := by decide +kernel
theorem dX0_hoursOfBreaks_19 : decode cX0_hoursOfBreaks 19 = .ok (.getfield 15, 3) := by decide +kernel
theorem dX0_hoursOfBreaks_22 : decode cX0_hoursOfBreaks 22 = .ok (.iload_n 2, 1) := by decide +kernel
theorem dX0_hoursOfBreaks_23 : decode cX0_hoursOfBreaks 23 = .ok (.iaload, 1) := by decide +kernel
theorem dX0_hoursOfBreaks_24 : decode cX0_hoursOfBreaks 24 = .ok (.iadd, 1) := by decide +kernel
theorem dX0_hoursOfBreaks_25 : decode cX0_hoursOfBreaks 25 = .ok (.istore_n 1, 1) := by decide +kernel
theorem dX0_hoursOfBreaks_26 : decode cX0_hoursOfBreaks 26 = .ok (.iinc 2 1, 3) := by decide +kernel
theorem dX0_hoursOfBreaks_29 : decode cX0_hoursOfBreaks 29 = .ok (.goto (-25), 3) := by decide +kernel
theorem dX0_hoursOfBreaks_32 : decode cX0_hoursOfBreaks 32 = .ok (.iload_n 1, 1) := by decide +kernel
theorem dX0_hoursOfBreaks_33 : decode cX0_hoursOfBreaks 33 = .ok (.ireturn, 1) := by decide +kernel
theorem dX0_isBusy_0 : decode cX0_isBusy 0 = .ok (.aload_n 0, 1) := by decide +kernel
theorem dX0_isBusy_1 : decode cX0_isBusy 1 = .ok (.getfield 34, 3) := by decide +kernel
theorem dX0_isBusy_4 : decode cX0_isBusy 4 = .ok (.iload_n 1, 1) := by decide +kernel
theorem dX0_isBusy_5 : decode cX0_isBusy 5 = .ok (.if_icmp .gt 15, 3) := by decide +kernel
theorem dX0_isBusy_8 : decode cX0_isBusy 8 = .ok (.iload_n 1, 1) := by decide +kernel
theorem dX0_isBusy_9 : decode cX0_isBusy 9 = .ok (.aload_n 0, 1) := by decide +kernel
theorem dX0_isBusy_10 : decode cX0_isBusy 10 = .ok (.getfield 37, 3) := by decide +kernel
theorem dX0_isBusy_13 : decode cX0_isBusy 13 = .ok (.if_icmp .ge 7, 3) := by decide +kernel
theorem dX0_isBusy_16 : decode cX0_isBusy 16 = .ok (.iconst 1, 1) := by decide +kernel
theorem dX0_isBusy_17 : decode cX0_isBusy 17 = .ok (.goto 4, 3) := by decide +kernel
theorem dX0_isBusy_20 : decode cX0_isBusy 20 = .ok (.iconst 0, 1) := by decide +kernel
theorem dX0_isBusy_21 : decode cX0_isBusy 21 = .ok (.ireturn, 1) := by decide +kernel
set_option maxRecDepth 20000 in
theorem ggX1_init_J7_fill_53178 : GoodIn wsX1_init wsJ7_fill_53178 := goodIn_r _ [18] (by decide +kernel) (by decide +kernel)
set_option maxRecDepth 20000 in
theorem gX1_init_J7_fill_53178 : GoodIn wsX1_init (va_wsS RX1 41 yJ7_fill_53178 wsJ7_fill_53178) := goodIn_app (goodIn_of _ (by decide +kernel)) ggX1_init_J7_fill_53178
set_option maxRecDepth 20000 in
theorem ggX1_init_X1_sumGains : GoodIn wsX1_init wsX1_sumGains := goodIn_r _ [23, 6, 5, 24, 25, 26, 27, 28, 29, 30, 31, 32, 33, 34, 35, 36] (by decide +kernel) (by decide +kernel)
set_option maxRecDepth 20000 in
theorem gX1_init_X1_sumGains : GoodIn wsX1_init (wsV RX1 47 RX1 yX1_sumGains wsX1_sumGains) := goodIn_app (goodIn_of _ (by decide +kernel)) ggX1_init_X1_sumGains
theorem dX1_init_0 : decode cX1_init 0 = .ok (.aload_n 0, 1) := by decide +kernel
theorem dX1_init_1 : decode cX1_init 1 = .ok (.invokespecial 1, 3) := by decide +kernel
theorem dX1_init_4 : decode cX1_init 4 = .ok (.aload_n 0, 1) := by decide +kernel
theorem dX1_init_5 : decode cX1_init 5 = .ok (.sipush 1000, 3) := by decide +kernel
theorem dX1_init_8 : decode cX1_init 8 = .ok (.newarray .int, 2) := by decide +kernel
theorem dX1_init_10 : decode cX1_init 10 = .ok (.putfield 9, 3) := by decide +kernel
theorem dX1_init_13 : decode cX1_init 13 = .ok (.aload_n 0, 1) := by decide +kernel
theorem dX1_init_14 : decode cX1_init 14 = .ok (.sipush 1001, 3) := by decide +kernel
theorem dX1_init_17 : decode cX1_init 17 = .ok (.newarray .int, 2) := by decide +kernel
theorem dX1_init_19 : decode cX1_init 19 = .ok (.putfield 13, 3) := by decide +kernel
theorem dX1_init_22 : decode cX1_init 22 = .ok (.aload_n 0, 1) := by decide +kernel
theorem dX1_init_23 : decode cX1_init 23 = .ok (.sipush 1000, 3) := by decide +kernel
theorem dX1_init_26 : decode cX1_init 26 = .ok (.newarray .int, 2) := by decide +kernel
theorem dX1_init_28 : decode cX1_init 28 = .ok (.putfield 16, 3) := by decide +kernel
theorem dX1_init_31 : decode cX1_init 31 = .ok (.aload_n 0, 1) := by decide +kernel
theorem dX1_init_32 : decode cX1_init 32 = .ok (.sipush 1001, 3) := by decide +kernel
theorem dX1_init_35 : decode cX1_init 35 = .ok (.newarray .int, 2) := by decide +kernel
theorem dX1_init_37 : decode cX1_init 37 = .ok (.putfield 19, 3) := by decide +kernel
theorem dX1_init_40 : decode cX1_init 40 = .ok (.aload_n 0, 1) := by decide +kernel
theorem dX1_init_41 : decode cX1_init 41 = .ok (.bipush 10, 2) := by decide +kernel
theorem dX1_init_43 : decode cX1_init 43 = .ok (.anewarray 22, 3) := by decide +kernel
theorem dX1_init_46 : decode cX1_init 46 = .ok (.putfield 24, 3) := by decide +kernel
theorem dX1_init_49 : decode cX1_init 49 = .ok (.aload_n 0, 1) := by decide +kernel
theorem dX1_init_50 : decode cX1_init 50 = .ok (.bipush 20, 2) := by decide +kernel
theorem dX1_init_52 : decode cX1_init 52 = .ok (.putfield 28, 3) := by decide +kernel
theorem dX1_init_55 : decode cX1_init 55 = .ok (.aload_n 0, 1) := by decide +kernel
theorem dX1_init_56 : decode cX1_init 56 = .ok (.bipush 10, 2) := by decide +kernel
theorem dX1_init_58 : decode cX1_init 58 = .ok (.putfield 32, 3) := by decide +kernel
theorem dX1_init_61 : decode cX1_init 61 = .ok (.aload_n 0, 1) := by decide +kernel
theorem dX1_init_62 : decode cX1_init 62 = .ok (.iconst 2, 1) := by decide +kernel
theorem dX1_init_63 : decode cX1_init 63 = .ok (.putfield 35, 3) := by decide +kernel
theorem dX1_init_66 : decode cX1_init 66 = .ok (.aload_n 0, 1) := by decide +kernel
theorem dX1_init_67 : decode cX1_init 67 = .ok (.iconst 3, 1) := by decide +kernel
theorem dX1_init_68 : decode cX1_init 68 = .ok (.putfield 38, 3) := by decide +kernel
theorem dX1_init_71 : decode cX1_init 71 = .ok (.aload_n 0, 1) := by decide +kernel
theorem dX1_init_72 : decode cX1_init 72 = .ok (.getfield 9, 3) := by decide +kernel
theorem dX1_init_75 : decode cX1_init 75 = .ok (.bipush 20, 2) := by decide +kernel
theorem dX1_init_77 : decode cX1_init 77 = .ok (.invokestatic 41, 3) := by decide +kernel
theorem dX1_init_80 : decode cX1_init 80 = .ok (.aload_n 0, 1) := by decide +kernel
theorem dX1_init_81 : decode cX1_init 81 = .ok (.invokevirtual 47, 3) := by decide +kernel
theorem dX1_init_84 : decode cX1_init 84 = .ok (.return_, 1) := by decide +kernel
set_option maxRecDepth 20000 in
theorem ggX1_setTemperature_X1_requireHour : GoodIn wsX1_setTemperature wsX1_requireHour := goodIn_ca (goodIn_r _ [5, 6, 7, 8, 9, 4, 10] (by decide +kernel) (by decide +kernel)) (goodIn_sub (fun _ h => List.mem_cons_of_mem _ (List.mem_append_left _ (List.mem_append_right _ h))) (by decide +kernel))
set_option maxRecDepth 20000 in
theorem gX1_setTemperature_X1_requireHour : GoodIn wsX1_setTemperature (va_wsS RX1 50 yX1_requireHour wsX1_requireHour) := goodIn_app (goodIn_of _ (by decide +kernel)) ggX1_setTemperature_X1_requireHour
set_option maxRecDepth 20000 in
theorem ggX1_setTemperature_X1_require : GoodIn wsX1_setTemperature wsX1_require := goodIn_ca (goodIn_r _ [13, 14, 15] (by decide +kernel) (by decide +kernel)) (goodIn_sub (fun _ h => List.mem_cons_of_mem _ (List.mem_append_right _ h)) (by decide +kernel))
set_option maxRecDepth 20000 in
theorem gX1_setTemperature_X1_require : GoodIn wsX1_setTemperature (va_wsS RX1 54 yX1_require wsX1_require) := goodIn_app (goodIn_of _ (by decide +kernel)) ggX1_setTemperature_X1_require
set_option maxRecDepth 20000 in
theorem ggX1_setTemperature_X1_requireRange : GoodIn wsX1_setTemperature wsX1_requireRange := goodIn_ca (goodIn_r _ [18, 11, 12, 4, 13, 14, 15] (by decide +kernel) (by decide +kernel)) (goodIn_sub (fun _ h => List.mem_cons_of_mem _ (List.mem_append_right _ h)) (by decide +kernel))
set_option maxRecDepth 20000 in
theorem gX1_setTemperature_X1_requireRange : GoodIn wsX1_setTemperature (va_wsS RX1 58 yX1_requireRange wsX1_requireRange) := goodIn_app (goodIn_of _ (by decide +kernel)) ggX1_setTemperature_X1_requireRange
set_option maxRecDepth 20000 in
theorem ggX1_setTemperature_X1_sumGains : GoodIn wsX1_setTemperature wsX1_sumGains := goodIn_r _ [22, 23, 1, 24, 25, 26, 27, 77, 78, 79, 80, 81, 82, 83, 84, 85] (by decide +kernel) (by decide +kernel)
set_option maxRecDepth 20000 in
theorem gX1_setTemperature_X1_sumGains : GoodIn wsX1_setTemperature (wsV RX1 47 RX1 yX1_sumGains wsX1_sumGains) := goodIn_app (goodIn_of _ (by decide +kernel)) ggX1_setTemperature_X1_sumGains
set_option maxRecDepth 20000 in
theorem ggX1_setTemperature_X1_scheduleAll : GoodIn wsX1_setTemperature wsX1_scheduleAll := goodIn_r _ [31, 32, 33, 34, 35, 4, 36, 37, 38, 39, 40, 41, 42, 43, 44, 45, 46, 47, 48, 49, 50, 51, 52, 53, 54, 55, 56, 57, 58, 59, 60, 61, 26, 62, 23, 63, 64, 65, 66, 67, 68, 69, 70, 71, 24, 25, 27, 72, 73, 74, 75, 76, 77, 78, 79, 80, 81, 82, 83, 84, 85, 86, 87, 88, 89, 90, 91, 92, 93, 94, 95, 96, 97, 98] (by decide +kernel) (by decide +kernel)
set_option maxRecDepth 20000 in
theorem gX1_setTemperature_X1_scheduleAll : GoodIn wsX1_setTemperature (wsV RX1 62 RX1 yX1_scheduleAll wsX1_scheduleAll) := goodIn_app (goodIn_of _ (by decide +kernel)) ggX1_setTemperature_X1_scheduleAll
theorem dX1_setTemperature_0 : decode cX1_setTemperature 0 = .ok (.iload_n 1, 1) := by decide +kernel
theorem dX1_setTemperature_1 : decode cX1_setTemperature 1 = .ok (.invokestatic 50, 3) := by decide +kernel
theorem dX1_setTemperature_4 : decode cX1_setTemperature 4 = .ok (.iload_n 2, 1) := by decide +kernel
theorem dX1_setTemperature_5 : decode cX1_setTemperature 5 = .ok (.invokestatic 50, 3) := by decide +kernel
theorem dX1_setTemperature_8 : decode cX1_setTemperature 8 = .ok (.iload_n 1, 1) := by decide +kernel
theorem dX1_setTemperature_9 : decode cX1_setTemperature 9 = .ok (.iload_n 2, 1) := by decide +kernel
theorem dX1_setTemperature_10 : decode cX1_setTemperature 10 = .ok (.if_icmp .gt 7, 3) := by decide +kernel
theorem dX1_setTemperature_13 : decode cX1_setTemperature 13 = .ok (.iconst 1, 1) := by decide +kernel
theorem dX1_setTemperature_14 : decode cX1_setTemperature 14 = .ok (.goto 4, 3) := by decide +kernel
theorem dX1_setTemperature_17 : decode cX1_setTemperature 17 = .ok (.iconst 0, 1) := by decide +kernel
theorem dX1_setTemperature_18 : decode cX1_setTemperature 18 = .ok (.invokestatic 54, 3) := by decide +kernel
theorem dX1_setTemperature_21 : decode cX1_setTemperature 21 = .ok (.iload_n 3, 1) := by decide +kernel
theorem dX1_setTemperature_22 : decode cX1_setTemperature 22 = .ok (.bipush (-40), 2) := by decide +kernel
theorem dX1_setTemperature_24 : decode cX1_setTemperature 24 = .ok (.bipush 50, 2) := by decide +kernel
theorem dX1_setTemperature_26 : decode cX1_setTemperature 26 = .ok (.invokestatic 58, 3) := by decide +kernel
theorem dX1_setTemperature_29 : decode cX1_setTemperature 29 = .ok (.iload_n 1, 1) := by decide +kernel
theorem dX1_setTemperature_30 : decode cX1_setTemperature 30 = .ok (.istore 4, 2) := by decide +kernel
theorem dX1_setTemperature_32 : decode cX1_setTemperature 32 = .ok (.iload 4, 2) := by decide +kernel
theorem dX1_setTemperature_34 : decode cX1_setTemperature 34 = .ok (.iload_n 2, 1) := by decide +kernel
theorem dX1_setTemperature_35 : decode cX1_setTemperature 35 = .ok (.if_icmp .gt 25, 3) := by decide +kernel
theorem dX1_setTemperature_38 : decode cX1_setTemperature 38 = .ok (.iload 4, 2) := by decide +kernel
theorem dX1_setTemperature_40 : decode cX1_setTemperature 40 = .ok (.sipush 1000, 3) := by decide +kernel
theorem dX1_setTemperature_43 : decode cX1_setTemperature 43 = .ok (.if_icmp .ge 17, 3) := by decide +kernel
theorem dX1_setTemperature_46 : decode cX1_setTemperature 46 = .ok (.aload_n 0, 1) := by decide +kernel
theorem dX1_setTemperature_47 : decode cX1_setTemperature 47 = .ok (.getfield 9, 3) := by decide +kernel
theorem dX1_setTemperature_50 : decode cX1_setTemperature 50 = .ok (.iload 4, 2) := by decide +kernel
theorem dX1_setTemperature_52 : decode cX1_setTemperature 52 = .ok (.iload_n 3, 1) := by decide +kernel
theorem dX1_setTemperature_53 : decode cX1_setTemperature 53 = .ok (.iastore, 1) := by decide +kernel
theorem dX1_setTemperature_54 : decode cX1_setTemperature 54 = .ok (.iinc 4 1, 3) := by decide +kernel
theorem dX1_setTemperature_57 : decode cX1_setTemperature 57 = .ok (.goto (-25), 3) := by decide +kernel
theorem dX1_setTemperature_60 : decode cX1_setTemperature 60 = .ok (.aload_n 0, 1) := by decide +kernel
theorem dX1_setTemperature_61 : decode cX1_setTemperature 61 = .ok (.invokevirtual 47, 3) := by decide +kernel
theorem dX1_setTemperature_64 : decode cX1_setTemperature 64 = .ok (.aload_n 0, 1) := by decide +kernel
theorem dX1_setTemperature_65 : decode cX1_setTemperature 65 = .ok (.invokevirtual 62, 3) := by decide +kernel
theorem dX1_setTemperature_68 : decode cX1_setTemperature 68 = .ok (.return_, 1) := by decide +kernel
set_option maxRecDepth 20000 in
theorem ggX1_temperature_X1_requireHour : GoodIn wsX1_temperature wsX1_requireHour := goodIn_ca (goodIn_r _ [5, 6, 7, 8, 9, 4, 10] (by decide +kernel) (by decide +kernel)) (goodIn_sub (fun _ h => List.mem_cons_of_mem _ (List.mem_append_right _ h)) (by decide +kernel))
set_option maxRecDepth 20000 in
theorem gX1_temperature_X1_requireHour : GoodIn wsX1_temperature (va_wsS RX1 50 yX1_requireHour wsX1_requireHour) := goodIn_app (goodIn_of _ (by decide +kernel)) ggX1_temperature_X1_requireHour
theorem dX1_temperature_0 : decode cX1_temperature 0 = .ok (.iload_n 1, 1) := by decide +kernel
theorem dX1_temperature_1 : decode cX1_temperature 1 = .ok (.invokestatic 50, 3) := by decide +kernel
theorem dX1_temperature_4 : decode cX1_temperature 4 = .ok (.aload_n 0, 1) := by decide +kernel
theorem dX1_temperature_5 : decode cX1_temperature 5 = .ok (.getfield 9, 3) := by decide +kernel
theorem dX1_temperature_8 : decode cX1_temperature 8 = .ok (.iload_n 1, 1) := by decide +kernel
theorem dX1_temperature_9 : decode cX1_temperature 9 = .ok (.iaload, 1) := by decide +kernel
theorem dX1_temperature_10 : decode cX1_temperature 10 = .ok (.ireturn, 1) := by decide +kernel
set_option maxRecDepth 20000 in
theorem ggX1_maturity_X1_requireHour : GoodIn wsX1_maturity wsX1_requireHour := goodIn_ca (goodIn_r _ [4, 5, 6, 7, 8, 3, 9] (by decide +kernel) (by decide +kernel)) (goodIn_sub (fun _ h => List.mem_cons_of_mem _ (List.mem_append_right _ h)) (by decide +kernel))
set_option maxRecDepth 20000 in
theorem gX1_maturity_X1_requireHour : GoodIn wsX1_maturity (va_wsS RX1 50 yX1_requireHour wsX1_requireHour) := goodIn_app (goodIn_of _ (by decide +kernel)) ggX1_maturity_X1_requireHour
set_option maxRecDepth 20000 in
theorem ggX1_maturity_X1_gainBetween : GoodIn wsX1_maturity wsX1_gainBetween := goodIn_r _ [13, 14, 15, 16, 17, 18, 19, 20, 21, 22, 23, 24, 25, 26, 27] (by decide +kernel) (by decide +kernel)
set_option maxRecDepth 20000 in
theorem gX1_maturity_X1_gainBetween : GoodIn wsX1_maturity (wsV RX1 65 RX1 yX1_gainBetween wsX1_gainBetween) := goodIn_app (goodIn_of _ (by decide +kernel)) ggX1_maturity_X1_gainBetween
theorem dX1_maturity_0 : decode cX1_maturity 0 = .ok (.iload_n 1, 1) := by decide +kernel
theorem dX1_maturity_1 : decode cX1_maturity 1 = .ok (.invokestatic 50, 3) := by decide +kernel
theorem dX1_maturity_4 : decode cX1_maturity 4 = .ok (.iload_n 2, 1) := by decide +kernel
theorem dX1_maturity_5 : decode cX1_maturity 5 = .ok (.invokestatic 50, 3) := by decide +kernel
theorem dX1_maturity_8 : decode cX1_maturity 8 = .ok (.aload_n 0, 1) := by decide +kernel
theorem dX1_maturity_9 : decode cX1_maturity 9 = .ok (.iload_n 1, 1) := by decide +kernel
theorem dX1_maturity_10 : decode cX1_maturity 10 = .ok (.iload_n 2, 1) := by decide +kernel
theorem dX1_maturity_11 : decode cX1_maturity 11 = .ok (.invokevirtual 65, 3) := by decide +kernel
theorem dX1_maturity_14 : decode cX1_maturity 14 = .ok (.ireturn, 1) := by decide +kernel
set_option maxRecDepth 20000 in
theorem ggX1_strength_X1_requireRange : GoodIn wsX1_strength wsX1_requireRange := goodIn_ca (goodIn_r _ [5, 6, 7, 4, 8, 9, 10] (by decide +kernel) (by decide +kernel)) (goodIn_sub (fun _ h => List.mem_cons_of_mem _ (List.mem_append_right _ h)) (by decide +kernel))
set_option maxRecDepth 20000 in
theorem gX1_strength_X1_requireRange : GoodIn wsX1_strength (va_wsS RX1 58 yX1_requireRange wsX1_requireRange) := goodIn_app (goodIn_of _ (by decide +kernel)) ggX1_strength_X1_requireRange
set_option maxRecDepth 20000 in
theorem ggX1_strength_X1_strengthAt : GoodIn wsX1_strength wsX1_strengthAt := goodIn_r _ [13, 14] (by decide +kernel) (by decide +kernel)
set_option maxRecDepth 20000 in
theorem gX1_strength_X1_strengthAt : GoodIn wsX1_strength (va_wsS RX1 70 yX1_strengthAt wsX1_strengthAt) := goodIn_app (goodIn_of _ (by decide +kernel)) ggX1_strength_X1_strengthAt
theorem dX1_strength_0 : decode cX1_strength 0 = .ok (.iload_n 1, 1) := by decide +kernel
theorem dX1_strength_1 : decode cX1_strength 1 = .ok (.iconst 0, 1) := by decide +kernel
theorem dX1_strength_2 : decode cX1_strength 2 = .ok (.ldc 69, 2) := by decide +kernel
theorem dX1_strength_4 : decode cX1_strength 4 = .ok (.invokestatic 58, 3) := by decide +kernel
theorem dX1_strength_7 : decode cX1_strength 7 = .ok (.iload_n 1, 1) := by decide +kernel
theorem dX1_strength_8 : decode cX1_strength 8 = .ok (.invokestatic 70, 3) := by decide +kernel
theorem dX1_strength_11 : decode cX1_strength 11 = .ok (.ireturn, 1) := by decide +kernel
set_option maxRecDepth 20000 in
theorem ggX1_setPanels_X1_requireRange : GoodIn wsX1_setPanels wsX1_requireRange := goodIn_ca (goodIn_r _ [5, 6, 7, 4, 8, 9, 10] (by decide +kernel) (by decide +kernel)) (goodIn_sub (fun _ h => List.mem_cons_of_mem _ (List.mem_append_right _ h)) (by decide +kernel))
set_option maxRecDepth 20000 in
theorem gX1_setPanels_X1_requireRange : GoodIn wsX1_setPanels (va_wsS RX1 58 yX1_requireRange wsX1_requireRange) := goodIn_app (goodIn_of _ (by decide +kernel)) ggX1_setPanels_X1_requireRange
theorem dX1_setPanels_0 : decode cX1_setPanels 0 = .ok (.iload_n 1, 1) := by decide +kernel
theorem dX1_setPanels_1 : decode cX1_setPanels 1 = .ok (.iconst 0, 1) := by decide +kernel
theorem dX1_setPanels_2 : decode cX1_setPanels 2 = .ok (.bipush 60, 2) := by decide +kernel
theorem dX1_setPanels_4 : decode cX1_setPanels 4 = .ok (.invokestatic 58, 3) := by decide +kernel
theorem dX1_setPanels_7 : decode cX1_setPanels 7 = .ok (.aload_n 0, 1) := by decide +kernel
theorem dX1_setPanels_8 : decode cX1_setPanels 8 = .ok (.getfield 28, 3) := by decide +kernel
theorem dX1_setPanels_11 : decode cX1_setPanels 11 = .ok (.istore_n 2, 1) := by decide +kernel
theorem dX1_setPanels_12 : decode cX1_setPanels 12 = .ok (.aload_n 0, 1) := by decide +kernel
theorem dX1_setPanels_13 : decode cX1_setPanels 13 = .ok (.iload_n 1, 1) := by decide +kernel
theorem dX1_setPanels_14 : decode cX1_setPanels 14 = .ok (.putfield 28, 3) := by decide +kernel
theorem dX1_setPanels_17 : decode cX1_setPanels 17 = .ok (.iload_n 2, 1) := by decide +kernel
theorem dX1_setPanels_18 : decode cX1_setPanels 18 = .ok (.ireturn, 1) := by decide +kernel
set_option maxRecDepth 20000 in
theorem ggX1_setRates_X1_requireRange : GoodIn wsX1_setRates wsX1_requireRange := goodIn_ca (goodIn_r _ [9, 10, 11, 8, 12, 13, 14] (by decide +kernel) (by decide +kernel)) (goodIn_sub (fun _ h => List.mem_cons_of_mem _ (List.mem_append_right _ h)) (by decide +kernel))
set_option maxRecDepth 20000 in
theorem gX1_setRates_X1_requireRange : GoodIn wsX1_setRates (va_wsS RX1 58 yX1_requireRange wsX1_requireRange) := goodIn_app (goodIn_of _ (by decide +kernel)) ggX1_setRates_X1_requireRange
set_option maxRecDepth 20000 in
theorem ggX1_setRates_X1_scheduleAll : GoodIn wsX1_setRates wsX1_scheduleAll := goodIn_r _ [18, 19, 20, 21, 22, 8, 23, 24, 25, 26, 27, 5, 28, 29, 30, 31, 32, 33, 34, 35, 36, 37, 38, 39, 40, 41, 42, 43, 44, 45, 1, 2, 3, 4, 46, 47, 48, 49, 50, 51, 52, 53, 54, 55, 56, 57, 58, 59, 60, 61, 62, 63, 64, 65, 66, 67, 68, 69, 70, 71, 72, 73, 74, 75, 76, 77, 78, 79, 80, 81, 82, 83, 84, 85] (by decide +kernel) (by decide +kernel)
set_option maxRecDepth 20000 in
theorem gX1_setRates_X1_scheduleAll : GoodIn wsX1_setRates (wsV RX1 62 RX1 yX1_scheduleAll wsX1_scheduleAll) := goodIn_app (goodIn_of _ (by decide +kernel)) ggX1_setRates_X1_scheduleAll
theorem dX1_setRates_0 : decode cX1_setRates 0 = .ok (.iload_n 1, 1) := by decide +kernel
theorem dX1_setRates_1 : decode cX1_setRates 1 = .ok (.iconst 1, 1) := by decide +kernel
theorem dX1_setRates_2 : decode cX1_setRates 2 = .ok (.bipush 50, 2) := by decide +kernel
theorem dX1_setRates_4 : decode cX1_setRates 4 = .ok (.invokestatic 58, 3) := by decide +kernel
theorem dX1_setRates_7 : decode cX1_setRates 7 = .ok (.iload_n 2, 1) := by decide +kernel
theorem dX1_setRates_8 : decode cX1_setRates 8 = .ok (.iconst 1, 1) := by decide +kernel
theorem dX1_setRates_9 : decode cX1_setRates 9 = .ok (.bipush 50, 2) := by decide +kernel
theorem dX1_setRates_11 : decode cX1_setRates 11 = .ok (.invokestatic 58, 3) := by decide +kernel
theorem dX1_setRates_14 : decode cX1_setRates 14 = .ok (.aload_n 0, 1) := by decide +kernel
theorem dX1_setRates_15 : decode cX1_setRates 15 = .ok (.iload_n 1, 1) := by decide +kernel
theorem dX1_setRates_16 : decode cX1_setRates 16 = .ok (.iload_n 2, 1) := by decide +kernel
theorem dX1_setRates_17 : decode cX1_setRates 17 = .ok (.invokestatic 74, 3) := by decide +kernel
theorem dX1_setRates_20 : decode cX1_setRates 20 = .ok (.putfield 32, 3) := by decide +kernel
theorem dX1_setRates_23 : decode cX1_setRates 23 = .ok (.aload_n 0, 1) := by decide +kernel
theorem dX1_setRates_24 : decode cX1_setRates 24 = .ok (.invokevirtual 62, 3) := by decide +kernel
theorem dX1_setRates_27 : decode cX1_setRates 27 = .ok (.aload_n 0, 1) := by decide +kernel
theorem dX1_setRates_28 : decode cX1_setRates 28 = .ok (.getfield 32, 3) := by decide +kernel
theorem dX1_setRates_31 : decode cX1_setRates 31 = .ok (.ireturn, 1) := by decide +kernel
set_option maxRecDepth 20000 in
theorem ggX1_setCrew_X1_requireRange : GoodIn wsX1_setCrew wsX1_requireRange := goodIn_ca (goodIn_r _ [6, 7, 8, 5, 9, 10, 11] (by decide +kernel) (by decide +kernel)) (goodIn_sub (fun _ h => List.mem_cons_of_mem _ (List.mem_append_right _ h)) (by decide +kernel))
set_option maxRecDepth 20000 in
theorem gX1_setCrew_X1_requireRange : GoodIn wsX1_setCrew (va_wsS RX1 58 yX1_requireRange wsX1_requireRange) := goodIn_app (goodIn_of _ (by decide +kernel)) ggX1_setCrew_X1_requireRange
set_option maxRecDepth 20000 in
theorem ggX1_setCrew_X1_scheduleAll : GoodIn wsX1_setCrew wsX1_scheduleAll := goodIn_r _ [15, 16, 17, 18, 19, 5, 20, 21, 22, 23, 24, 25, 26, 27, 28, 29, 30, 31, 32, 33, 34, 35, 36, 37, 38, 39, 40, 41, 42, 43, 44, 45, 46, 47, 48, 49, 50, 51, 52, 53, 54, 55, 56, 1, 57, 58, 59, 60, 61, 62, 63, 2, 64, 65, 66, 67, 68, 69, 70, 71, 72, 73, 74, 75, 76, 77, 78, 79, 80, 81, 82, 83, 84, 85] (by decide +kernel) (by decide +kernel)
set_option maxRecDepth 20000 in
theorem gX1_setCrew_X1_scheduleAll : GoodIn wsX1_setCrew (wsV RX1 62 RX1 yX1_scheduleAll wsX1_scheduleAll) := goodIn_app (goodIn_of _ (by decide +kernel)) ggX1_setCrew_X1_scheduleAll
theorem dX1_setCrew_0 : decode cX1_setCrew 0 = .ok (.iload_n 1, 1) := by decide +kernel
theorem dX1_setCrew_1 : decode cX1_setCrew 1 = .ok (.iconst 0, 1) := by decide +kernel
theorem dX1_setCrew_2 : decode cX1_setCrew 2 = .ok (.bipush 24, 2) := by decide +kernel
theorem dX1_setCrew_4 : decode cX1_setCrew 4 = .ok (.invokestatic 58, 3) := by decide +kernel
theorem dX1_setCrew_7 : decode cX1_setCrew 7 = .ok (.iload_n 2, 1) := by decide +kernel
theorem dX1_setCrew_8 : decode cX1_setCrew 8 = .ok (.iconst 0, 1) := by decide +kernel
theorem dX1_setCrew_9 : decode cX1_setCrew 9 = .ok (.bipush 24, 2) := by decide +kernel
theorem dX1_setCrew_11 : decode cX1_setCrew 11 = .ok (.invokestatic 58, 3) := by decide +kernel
theorem dX1_setCrew_14 : decode cX1_setCrew 14 = .ok (.aload_n 0, 1) := by decide +kernel
theorem dX1_setCrew_15 : decode cX1_setCrew 15 = .ok (.iload_n 1, 1) := by decide +kernel
theorem dX1_setCrew_16 : decode cX1_setCrew 16 = .ok (.putfield 35, 3) := by decide +kernel
theorem dX1_setCrew_19 : decode cX1_setCrew 19 = .ok (.aload_n 0, 1) := by decide +kernel
theorem dX1_setCrew_20 : decode cX1_setCrew 20 = .ok (.iload_n 2, 1) := by decide +kernel
theorem dX1_setCrew_21 : decode cX1_setCrew 21 = .ok (.putfield 38, 3) := by decide +kernel
theorem dX1_setCrew_24 : decode cX1_setCrew 24 = .ok (.aload_n 0, 1) := by decide +kernel
theorem dX1_setCrew_25 : decode cX1_setCrew 25 = .ok (.invokevirtual 62, 3) := by decide +kernel
theorem dX1_setCrew_28 : decode cX1_setCrew 28 = .ok (.return_, 1) := by decide +kernel
set_option maxRecDepth 20000 in
theorem ggX1_plan_X1_requirePour : GoodIn wsX1_plan wsX1_requirePour := goodIn_ca (goodIn_r _ [10, 11, 12, 9, 13, 14, 15, 16, 17, 18] (by decide +kernel) (by decide +kernel)) (goodIn_sub (fun _ h => List.mem_cons_of_mem _ (List.mem_append_right _ h)) (by decide +kernel))
set_option maxRecDepth 20000 in
theorem gX1_plan_X1_requirePour : GoodIn wsX1_plan (va_wsS RX1 79 yX1_requirePour wsX1_requirePour) := goodIn_app (goodIn_of _ (by decide +kernel)) ggX1_plan_X1_requirePour
set_option maxRecDepth 20000 in
theorem ggX1_plan_X1_freeNumber : GoodIn wsX1_plan wsX1_freeNumber := goodIn_r _ [22, 6, 98, 99, 100, 101, 102, 103, 104, 105, 106] (by decide +kernel) (by decide +kernel)
set_option maxRecDepth 20000 in
theorem gX1_plan_X1_freeNumber : GoodIn wsX1_plan (wsV RX1 83 RX1 yX1_freeNumber wsX1_freeNumber) := goodIn_app (goodIn_of _ (by decide +kernel)) ggX1_plan_X1_freeNumber
set_option maxRecDepth 20000 in
theorem ggX1_plan_X1_isNumber : GoodIn wsX1_plan wsX1_isNumber := goodIn_r _ [25] (by decide +kernel) (by decide +kernel)
set_option maxRecDepth 20000 in
theorem gX1_plan_X1_isNumber : GoodIn wsX1_plan (va_wsS RX1 87 yX1_isNumber wsX1_isNumber) := goodIn_app (goodIn_of _ (by decide +kernel)) ggX1_plan_X1_isNumber
set_option maxRecDepth 20000 in
theorem ggX1_plan_X0_init : GoodIn wsX1_plan wsX0_init := goodIn_r _ [27, 28, 29, 30, 31, 32, 33, 34, 35, 36, 37, 85, 86, 87, 88, 89, 90, 91, 92, 93, 94, 95, 96, 97] (by decide +kernel) (by decide +kernel)
set_option maxRecDepth 20000 in
theorem gX1_plan_X0_init_n94 : GoodIn wsX1_plan (wsX0_init) := ggX1_plan_X0_init
set_option maxRecDepth 20000 in
theorem ggX1_plan_X1_schedule : GoodIn wsX1_plan wsX1_schedule := goodIn_r _ [41, 42, 43, 44, 9, 45, 46, 47, 48, 49, 50, 51, 5, 52, 53, 54, 33, 55, 56, 57, 58, 59, 60, 61, 62, 63, 64, 65, 66, 67, 68, 69, 70, 71, 72, 73, 74, 75, 76, 77, 78, 79, 80, 81, 82, 83, 84, 85, 86, 87, 88, 89, 90, 91, 92, 93, 94, 95, 96, 97, 98, 99, 100, 101, 102, 103, 104, 105, 106] (by decide +kernel) (by decide +kernel)
set_option maxRecDepth 20000 in
theorem gX1_plan_X1_schedule : GoodIn wsX1_plan (wsV RX1 96 RX1 yX1_schedule wsX1_schedule) := goodIn_app (goodIn_of _ (by decide +kernel)) ggX1_plan_X1_schedule
theorem dX1_plan_0 : decode cX1_plan 0 = .ok (.iload_n 1, 1) := by decide +kernel
theorem dX1_plan_1 : decode cX1_plan 1 = .ok (.iload_n 2, 1) := by decide +kernel
theorem dX1_plan_2 : decode cX1_plan 2 = .ok (.iload_n 3, 1) := by decide +kernel
theorem dX1_plan_3 : decode cX1_plan 3 = .ok (.iload 4, 2) := by decide +kernel
theorem dX1_plan_5 : decode cX1_plan 5 = .ok (.invokestatic 79, 3) := by decide +kernel
theorem dX1_plan_8 : decode cX1_plan 8 = .ok (.aload_n 0, 1) := by decide +kernel
theorem dX1_plan_9 : decode cX1_plan 9 = .ok (.invokevirtual 83, 3) := by decide +kernel
theorem dX1_plan_12 : decode cX1_plan 12 = .ok (.istore 5, 2) := by decide +kernel
theorem dX1_plan_14 : decode cX1_plan 14 = .ok (.iload 5, 2) := by decide +kernel
theorem dX1_plan_16 : decode cX1_plan 16 = .ok (.invokestatic 87, 3) := by decide +kernel
theorem dX1_plan_19 : decode cX1_plan 19 = .ok (.ifCond .ne 11, 3) := by decide +kernel
theorem dX1_plan_22 : decode cX1_plan 22 = .ok (.new 91, 3) := by decide +kernel
theorem dX1_plan_25 : decode cX1_plan 25 = .ok (.dup, 1) := by decide +kernel
theorem dX1_plan_26 : decode cX1_plan 26 = .ok (.invokespecial 93, 3) := by decide +kernel
theorem dX1_plan_29 : decode cX1_plan 29 = .ok (.athrow, 1) := by decide +kernel
theorem dX1_plan_30 : decode cX1_plan 30 = .ok (.new 22, 3) := by decide +kernel
theorem dX1_plan_33 : decode cX1_plan 33 = .ok (.dup, 1) := by decide +kernel
theorem dX1_plan_34 : decode cX1_plan 34 = .ok (.iload_n 1, 1) := by decide +kernel
theorem dX1_plan_35 : decode cX1_plan 35 = .ok (.iload_n 2, 1) := by decide +kernel
theorem dX1_plan_36 : decode cX1_plan 36 = .ok (.iload_n 3, 1) := by decide +kernel
theorem dX1_plan_37 : decode cX1_plan 37 = .ok (.iload 4, 2) := by decide +kernel
theorem dX1_plan_39 : decode cX1_plan 39 = .ok (.invokespecial 94, 3) := by decide +kernel
theorem dX1_plan_42 : decode cX1_plan 42 = .ok (.astore 6, 2) := by decide +kernel
theorem dX1_plan_44 : decode cX1_plan 44 = .ok (.aload_n 0, 1) := by decide +kernel
theorem dX1_plan_45 : decode cX1_plan 45 = .ok (.aload 6, 2) := by decide +kernel
theorem dX1_plan_47 : decode cX1_plan 47 = .ok (.invokevirtual 96, 3) := by decide +kernel
theorem dX1_plan_50 : decode cX1_plan 50 = .ok (.aload_n 0, 1) := by decide +kernel
theorem dX1_plan_51 : decode cX1_plan 51 = .ok (.getfield 24, 3) := by decide +kernel
theorem dX1_plan_54 : decode cX1_plan 54 = .ok (.iload 5, 2) := by decide +kernel
theorem dX1_plan_56 : decode cX1_plan 56 = .ok (.aload 6, 2) := by decide +kernel
theorem dX1_plan_58 : decode cX1_plan 58 = .ok (.aastore, 1) := by decide +kernel
theorem dX1_plan_59 : decode cX1_plan 59 = .ok (.iload 5, 2) := by decide +kernel
theorem dX1_plan_61 : decode cX1_plan 61 = .ok (.ireturn, 1) := by decide +kernel
set_option maxRecDepth 20000 in
theorem ggX1_move_X1_existing : GoodIn wsX1_move wsX1_existing := goodIn_ca (goodIn_r _ [5, 6, 7, 8, 9, 10, 4, 11, 82, 83, 84, 85, 86, 87, 88, 89, 90] (by decide +kernel) (by decide +kernel)) (goodIn_sub (fun _ h => List.mem_cons_of_mem _ (List.mem_append_left _ (List.mem_append_right _ h))) (by decide +kernel))
set_option maxRecDepth 20000 in
theorem gX1_move_X1_existing : GoodIn wsX1_move (wsV RX1 100 RX1 yX1_existing wsX1_existing) := goodIn_app (goodIn_of _ (by decide +kernel)) ggX1_move_X1_existing
set_option maxRecDepth 20000 in
theorem ggX1_move_X1_requireRange : GoodIn wsX1_move wsX1_requireRange := goodIn_ca (goodIn_r _ [14, 15, 16, 4, 17, 18, 19] (by decide +kernel) (by decide +kernel)) (goodIn_sub (fun _ h => List.mem_cons_of_mem _ (List.mem_append_right _ h)) (by decide +kernel))
set_option maxRecDepth 20000 in
theorem gX1_move_X1_requireRange : GoodIn wsX1_move (va_wsS RX1 58 yX1_requireRange wsX1_requireRange) := goodIn_app (goodIn_of _ (by decide +kernel)) ggX1_move_X1_requireRange
set_option maxRecDepth 20000 in
theorem ggX1_move_X1_schedule : GoodIn wsX1_move wsX1_schedule := goodIn_r _ [23, 24, 25, 26, 4, 27, 28, 29, 30, 31, 32, 33, 34, 35, 36, 37, 38, 39, 40, 41, 42, 43, 44, 45, 46, 47, 48, 49, 50, 51, 52, 53, 54, 55, 56, 57, 58, 59, 60, 61, 62, 63, 64, 65, 66, 67, 68, 69, 70, 71, 72, 73, 74, 75, 76, 77, 78, 79, 80, 81, 82, 83, 84, 85, 86, 87, 88, 89, 90] (by decide +kernel) (by decide +kernel)
set_option maxRecDepth 20000 in
theorem gX1_move_X1_schedule : GoodIn wsX1_move (wsV RX1 96 RX1 yX1_schedule wsX1_schedule) := goodIn_app (goodIn_of _ (by decide +kernel)) ggX1_move_X1_schedule
theorem dX1_move_0 : decode cX1_move 0 = .ok (.aload_n 0, 1) := by decide +kernel
theorem dX1_move_1 : decode cX1_move 1 = .ok (.iload_n 1, 1) := by decide +kernel
theorem dX1_move_2 : decode cX1_move 2 = .ok (.invokevirtual 100, 3) := by decide +kernel
theorem dX1_move_5 : decode cX1_move 5 = .ok (.astore_n 3, 1) := by decide +kernel
theorem dX1_move_6 : decode cX1_move 6 = .ok (.iload_n 2, 1) := by decide +kernel
theorem dX1_move_7 : decode cX1_move 7 = .ok (.iconst 0, 1) := by decide +kernel
theorem dX1_move_8 : decode cX1_move 8 = .ok (.sipush 900, 3) := by decide +kernel
theorem dX1_move_11 : decode cX1_move 11 = .ok (.invokestatic 58, 3) := by decide +kernel
theorem dX1_move_14 : decode cX1_move 14 = .ok (.aload_n 3, 1) := by decide +kernel
theorem dX1_move_15 : decode cX1_move 15 = .ok (.getfield 104, 3) := by decide +kernel
theorem dX1_move_18 : decode cX1_move 18 = .ok (.istore 4, 2) := by decide +kernel
theorem dX1_move_20 : decode cX1_move 20 = .ok (.aload_n 3, 1) := by decide +kernel
theorem dX1_move_21 : decode cX1_move 21 = .ok (.iload_n 2, 1) := by decide +kernel
theorem dX1_move_22 : decode cX1_move 22 = .ok (.putfield 104, 3) := by decide +kernel
theorem dX1_move_25 : decode cX1_move 25 = .ok (.aload_n 0, 1) := by decide +kernel
theorem dX1_move_26 : decode cX1_move 26 = .ok (.aload_n 3, 1) := by decide +kernel
theorem dX1_move_27 : decode cX1_move 27 = .ok (.invokevirtual 96, 3) := by decide +kernel
theorem dX1_move_30 : decode cX1_move 30 = .ok (.iload 4, 2) := by decide +kernel
theorem dX1_move_32 : decode cX1_move 32 = .ok (.ireturn, 1) := by decide +kernel
set_option maxRecDepth 20000 in
theorem ggX1_cancel_X1_existing : GoodIn wsX1_cancel wsX1_existing := goodIn_ca (goodIn_r _ [6, 7, 8, 1, 9, 10, 5, 11, 12, 13, 14, 15, 16, 17, 18, 19, 20] (by decide +kernel) (by decide +kernel)) (goodIn_sub (fun _ h => List.mem_cons_of_mem _ (List.mem_append_right _ h)) (by decide +kernel))
set_option maxRecDepth 20000 in
theorem gX1_cancel_X1_existing : GoodIn wsX1_cancel (wsV RX1 100 RX1 yX1_existing wsX1_existing) := goodIn_app (goodIn_of _ (by decide +kernel)) ggX1_cancel_X1_existing
theorem dX1_cancel_0 : decode cX1_cancel 0 = .ok (.aload_n 0, 1) := by decide +kernel
theorem dX1_cancel_1 : decode cX1_cancel 1 = .ok (.iload_n 1, 1) := by decide +kernel
theorem dX1_cancel_2 : decode cX1_cancel 2 = .ok (.invokevirtual 100, 3) := by decide +kernel
theorem dX1_cancel_5 : decode cX1_cancel 5 = .ok (.astore_n 2, 1) := by decide +kernel
theorem dX1_cancel_6 : decode cX1_cancel 6 = .ok (.aload_n 0, 1) := by decide +kernel
theorem dX1_cancel_7 : decode cX1_cancel 7 = .ok (.getfield 24, 3) := by decide +kernel
theorem dX1_cancel_10 : decode cX1_cancel 10 = .ok (.iload_n 1, 1) := by decide +kernel
theorem dX1_cancel_11 : decode cX1_cancel 11 = .ok (.aconst_null, 1) := by decide +kernel
theorem dX1_cancel_12 : decode cX1_cancel 12 = .ok (.aastore, 1) := by decide +kernel
theorem dX1_cancel_13 : decode cX1_cancel 13 = .ok (.aload_n 2, 1) := by decide +kernel
theorem dX1_cancel_14 : decode cX1_cancel 14 = .ok (.getfield 107, 3) := by decide +kernel
theorem dX1_cancel_17 : decode cX1_cancel 17 = .ok (.ireturn, 1) := by decide +kernel
set_option maxRecDepth 20000 in
theorem ggX1_delay_X1_existing : GoodIn wsX1_delay wsX1_existing := goodIn_ca (goodIn_r _ [7, 8, 9, 10, 11, 12, 6, 13, 88, 89, 90, 91, 92, 93, 94, 95, 96] (by decide +kernel) (by decide +kernel)) (goodIn_sub (fun _ h => List.mem_cons_of_mem _ (List.mem_append_left _ (List.mem_append_right _ h))) (by decide +kernel))
set_option maxRecDepth 20000 in
theorem gX1_delay_X1_existing : GoodIn wsX1_delay (wsV RX1 100 RX1 yX1_existing wsX1_existing) := goodIn_app (goodIn_of _ (by decide +kernel)) ggX1_delay_X1_existing
set_option maxRecDepth 20000 in
theorem ggX1_delay_X1_requireRange : GoodIn wsX1_delay wsX1_requireRange := goodIn_ca (goodIn_r _ [16, 17, 18, 6, 19, 20, 21] (by decide +kernel) (by decide +kernel)) (goodIn_sub (fun _ h => List.mem_cons_of_mem _ (List.mem_append_right _ h)) (by decide +kernel))
set_option maxRecDepth 20000 in
theorem gX1_delay_X1_requireRange : GoodIn wsX1_delay (va_wsS RX1 58 yX1_requireRange wsX1_requireRange) := goodIn_app (goodIn_of _ (by decide +kernel)) ggX1_delay_X1_requireRange
set_option maxRecDepth 20000 in
theorem ggX1_delay_X0_addBreak : GoodIn wsX1_delay wsX0_addBreak := goodIn_r _ [25, 26, 27, 28, 75, 76, 77, 78, 79, 80, 81, 82, 83, 84, 85, 86, 87] (by decide +kernel) (by decide +kernel)
set_option maxRecDepth 20000 in
theorem gX1_delay_X0_addBreak_n116 : GoodIn wsX1_delay (wsX0_addBreak) := ggX1_delay_X0_addBreak
set_option maxRecDepth 20000 in
theorem ggX1_delay_X1_schedule : GoodIn wsX1_delay wsX1_schedule := goodIn_r _ [32, 33, 34, 35, 6, 36, 37, 38, 39, 40, 41, 42, 23, 43, 44, 26, 28, 45, 46, 47, 48, 49, 50, 51, 52, 53, 54, 55, 56, 57, 58, 59, 60, 61, 62, 63, 64, 65, 66, 67, 68, 69, 70, 71, 72, 73, 74, 75, 76, 77, 78, 79, 80, 81, 82, 83, 84, 85, 86, 87, 88, 89, 90, 91, 92, 93, 94, 95, 96] (by decide +kernel) (by decide +kernel)
set_option maxRecDepth 20000 in
theorem gX1_delay_X1_schedule : GoodIn wsX1_delay (wsV RX1 96 RX1 yX1_schedule wsX1_schedule) := goodIn_app (goodIn_of _ (by decide +kernel)) ggX1_delay_X1_schedule
theorem dX1_delay_0 : decode cX1_delay 0 = .ok (.aload_n 0, 1) := by decide +kernel
theorem dX1_delay_1 : decode cX1_delay 1 = .ok (.iload_n 1, 1) := by decide +kernel
theorem dX1_delay_2 : decode cX1_delay 2 = .ok (.invokevirtual 100, 3) := by decide +kernel
theorem dX1_delay_5 : decode cX1_delay 5 = .ok (.astore 4, 2) := by decide +kernel
theorem dX1_delay_7 : decode cX1_delay 7 = .ok (.iload_n 2, 1) := by decide +kernel
theorem dX1_delay_8 : decode cX1_delay 8 = .ok (.iconst 0, 1) := by decide +kernel
theorem dX1_delay_9 : decode cX1_delay 9 = .ok (.aload 4, 2) := by decide +kernel
theorem dX1_delay_11 : decode cX1_delay 11 = .ok (.getfield 110, 3) := by decide +kernel
theorem dX1_delay_14 : decode cX1_delay 14 = .ok (.iconst 1, 1) := by decide +kernel
theorem dX1_delay_15 : decode cX1_delay 15 = .ok (.isub, 1) := by decide +kernel
theorem dX1_delay_16 : decode cX1_delay 16 = .ok (.invokestatic 58, 3) := by decide +kernel
theorem dX1_delay_19 : decode cX1_delay 19 = .ok (.iload_n 3, 1) := by decide +kernel
theorem dX1_delay_20 : decode cX1_delay 20 = .ok (.iconst 1, 1) := by decide +kernel
theorem dX1_delay_21 : decode cX1_delay 21 = .ok (.bipush 9, 2) := by decide +kernel
theorem dX1_delay_23 : decode cX1_delay 23 = .ok (.invokestatic 58, 3) := by decide +kernel
theorem dX1_delay_26 : decode cX1_delay 26 = .ok (.aload 4, 2) := by decide +kernel
theorem dX1_delay_28 : decode cX1_delay 28 = .ok (.getfield 113, 3) := by decide +kernel
theorem dX1_delay_31 : decode cX1_delay 31 = .ok (.iconst 4, 1) := by decide +kernel
theorem dX1_delay_32 : decode cX1_delay 32 = .ok (.if_icmp .lt 11, 3) := by decide +kernel
theorem dX1_delay_35 : decode cX1_delay 35 = .ok (.new 91, 3) := by decide +kernel
theorem dX1_delay_38 : decode cX1_delay 38 = .ok (.dup, 1) := by decide +kernel
theorem dX1_delay_39 : decode cX1_delay 39 = .ok (.invokespecial 93, 3) := by decide +kernel
theorem dX1_delay_42 : decode cX1_delay 42 = .ok (.athrow, 1) := by decide +kernel
theorem dX1_delay_43 : decode cX1_delay 43 = .ok (.aload 4, 2) := by decide +kernel
theorem dX1_delay_45 : decode cX1_delay 45 = .ok (.iload_n 2, 1) := by decide +kernel
theorem dX1_delay_46 : decode cX1_delay 46 = .ok (.iload_n 3, 1) := by decide +kernel
theorem dX1_delay_47 : decode cX1_delay 47 = .ok (.invokevirtual 116, 3) := by decide +kernel
theorem dX1_delay_50 : decode cX1_delay 50 = .ok (.aload_n 0, 1) := by decide +kernel
theorem dX1_delay_51 : decode cX1_delay 51 = .ok (.aload 4, 2) := by decide +kernel
theorem dX1_delay_53 : decode cX1_delay 53 = .ok (.invokevirtual 96, 3) := by decide +kernel
theorem dX1_delay_56 : decode cX1_delay 56 = .ok (.aload 4, 2) := by decide +kernel
theorem dX1_delay_58 : decode cX1_delay 58 = .ok (.getfield 113, 3) := by decide +kernel
theorem dX1_delay_61 : decode cX1_delay 61 = .ok (.ireturn, 1) := by decide +kernel
theorem dX1_pours_0 : decode cX1_pours 0 = .ok (.iconst 0, 1) := by decide +kernel
theorem dX1_pours_1 : decode cX1_pours 1 = .ok (.istore_n 1, 1) := by decide +kernel
theorem dX1_pours_2 : decode cX1_pours 2 = .ok (.aload_n 0, 1) := by decide +kernel
theorem dX1_pours_3 : decode cX1_pours 3 = .ok (.getfield 24, 3) := by decide +kernel
theorem dX1_pours_6 : decode cX1_pours 6 = .ok (.astore_n 2, 1) := by decide +kernel
theorem dX1_pours_7 : decode cX1_pours 7 = .ok (.aload_n 2, 1) := by decide +kernel
theorem dX1_pours_8 : decode cX1_pours 8 = .ok (.arraylength, 1) := by decide +kernel
theorem dX1_pours_9 : decode cX1_pours 9 = .ok (.istore_n 3, 1) := by decide +kernel
theorem dX1_pours_10 : decode cX1_pours 10 = .ok (.iconst 0, 1) := by decide +kernel
theorem dX1_pours_11 : decode cX1_pours 11 = .ok (.istore 4, 2) := by decide +kernel
theorem dX1_pours_13 : decode cX1_pours 13 = .ok (.iload 4, 2) := by decide +kernel
theorem dX1_pours_15 : decode cX1_pours 15 = .ok (.iload_n 3, 1) := by decide +kernel
theorem dX1_pours_16 : decode cX1_pours 16 = .ok (.if_icmp .ge 23, 3) := by decide +kernel
theorem dX1_pours_19 : decode cX1_pours 19 = .ok (.aload_n 2, 1) := by decide +kernel
theorem dX1_pours_20 : decode cX1_pours 20 = .ok (.iload 4, 2) := by decide +kernel
theorem dX1_pours_22 : decode cX1_pours 22 = .ok (.aaload, 1) := by decide +kernel
theorem dX1_pours_23 : decode cX1_pours 23 = .ok (.astore 5, 2) := by decide +kernel
theorem dX1_pours_25 : decode cX1_pours 25 = .ok (.aload 5, 2) := by decide +kernel
theorem dX1_pours_27 : decode cX1_pours 27 = .ok (.ifnull 6, 3) := by decide +kernel
theorem dX1_pours_30 : decode cX1_pours 30 = .ok (.iinc 1 1, 3) := by decide +kernel
theorem dX1_pours_33 : decode cX1_pours 33 = .ok (.iinc 4 1, 3) := by decide +kernel
theorem dX1_pours_36 : decode cX1_pours 36 = .ok (.goto (-23), 3) := by decide +kernel
theorem dX1_pours_39 : decode cX1_pours 39 = .ok (.iload_n 1, 1) := by decide +kernel
theorem dX1_pours_40 : decode cX1_pours 40 = .ok (.ireturn, 1) := by decide +kernel
set_option maxRecDepth 20000 in
theorem ggX1_endOf_X1_existing : GoodIn wsX1_endOf wsX1_existing := goodIn_ca (goodIn_r _ [5, 6, 7, 8, 9, 10, 4, 11, 25, 26, 27, 28, 29, 30, 31, 32, 33] (by decide +kernel) (by decide +kernel)) (goodIn_sub (fun _ h => List.mem_cons_of_mem _ (List.mem_append_right _ h)) (by decide +kernel))
set_option maxRecDepth 20000 in
theorem gX1_endOf_X1_existing : GoodIn wsX1_endOf (wsV RX1 100 RX1 yX1_existing wsX1_existing) := goodIn_app (goodIn_of _ (by decide +kernel)) ggX1_endOf_X1_existing
theorem dX1_endOf_0 : decode cX1_endOf 0 = .ok (.aload_n 0, 1) := by decide +kernel
theorem dX1_endOf_1 : decode cX1_endOf 1 = .ok (.iload_n 1, 1) := by decide +kernel
theorem dX1_endOf_2 : decode cX1_endOf 2 = .ok (.invokevirtual 100, 3) := by decide +kernel
theorem dX1_endOf_5 : decode cX1_endOf 5 = .ok (.astore_n 2, 1) := by decide +kernel
theorem dX1_endOf_6 : decode cX1_endOf 6 = .ok (.aload_n 2, 1) := by decide +kernel
theorem dX1_endOf_7 : decode cX1_endOf 7 = .ok (.getfield 120, 3) := by decide +kernel
theorem dX1_endOf_10 : decode cX1_endOf 10 = .ok (.ireturn, 1) := by decide +kernel
set_option maxRecDepth 20000 in
theorem ggX1_coldJoints_X1_existing : GoodIn wsX1_coldJoints wsX1_existing := goodIn_ca (goodIn_r _ [5, 6, 7, 8, 9, 10, 4, 11, 39, 40, 41, 42, 43, 44, 45, 46, 47] (by decide +kernel) (by decide +kernel)) (goodIn_sub (fun _ h => List.mem_cons_of_mem _ (List.mem_append_right _ h)) (by decide +kernel))
set_option maxRecDepth 20000 in
theorem gX1_coldJoints_X1_existing : GoodIn wsX1_coldJoints (wsV RX1 100 RX1 yX1_existing wsX1_existing) := goodIn_app (goodIn_of _ (by decide +kernel)) ggX1_coldJoints_X1_existing
set_option maxRecDepth 20000 in
theorem ggX1_coldJoints_X1_fullHours : GoodIn wsX1_coldJoints wsX1_fullHours := goodIn_r _ [15, 16, 39, 40, 41, 42, 43, 44, 45, 46, 47] (by decide +kernel) (by decide +kernel)
set_option maxRecDepth 20000 in
theorem gX1_coldJoints_X1_fullHours : GoodIn wsX1_coldJoints (wsV RX1 126 RX1 yX1_fullHours wsX1_fullHours) := goodIn_app (goodIn_of _ (by decide +kernel)) ggX1_coldJoints_X1_fullHours
set_option maxRecDepth 20000 in
theorem ggX1_coldJoints_X1_gainBetween : GoodIn wsX1_coldJoints wsX1_gainBetween := goodIn_r _ [20, 21, 22, 23, 24, 25, 39, 40, 41, 42, 43, 44, 45, 46, 47] (by decide +kernel) (by decide +kernel)
set_option maxRecDepth 20000 in
theorem gX1_coldJoints_X1_gainBetween : GoodIn wsX1_coldJoints (wsV RX1 65 RX1 yX1_gainBetween wsX1_gainBetween) := goodIn_app (goodIn_of _ (by decide +kernel)) ggX1_coldJoints_X1_gainBetween
theorem dX1_coldJoints_0 : decode cX1_coldJoints 0 = .ok (.aload_n 0, 1) := by decide +kernel
theorem dX1_coldJoints_1 : decode cX1_coldJoints 1 = .ok (.iload_n 1, 1) := by decide +kernel
theorem dX1_coldJoints_2 : decode cX1_coldJoints 2 = .ok (.invokevirtual 100, 3) := by decide +kernel
theorem dX1_coldJoints_5 : decode cX1_coldJoints 5 = .ok (.astore_n 2, 1) := by decide +kernel
theorem dX1_coldJoints_6 : decode cX1_coldJoints 6 = .ok (.iconst 0, 1) := by decide +kernel
theorem dX1_coldJoints_7 : decode cX1_coldJoints 7 = .ok (.istore_n 3, 1) := by decide +kernel
theorem dX1_coldJoints_8 : decode cX1_coldJoints 8 = .ok (.iconst 0, 1) := by decide +kernel
theorem dX1_coldJoints_9 : decode cX1_coldJoints 9 = .ok (.istore 4, 2) := by decide +kernel
theorem dX1_coldJoints_11 : decode cX1_coldJoints 11 = .ok (.iconst 0, 1) := by decide +kernel
theorem dX1_coldJoints_12 : decode cX1_coldJoints 12 = .ok (.istore 5, 2) := by decide +kernel
theorem dX1_coldJoints_14 : decode cX1_coldJoints 14 = .ok (.iload 5, 2) := by decide +kernel
theorem dX1_coldJoints_16 : decode cX1_coldJoints 16 = .ok (.aload_n 2, 1) := by decide +kernel
theorem dX1_coldJoints_17 : decode cX1_coldJoints 17 = .ok (.getfield 113, 3) := by decide +kernel
theorem dX1_coldJoints_20 : decode cX1_coldJoints 20 = .ok (.if_icmp .ge 71, 3) := by decide +kernel
theorem dX1_coldJoints_23 : decode cX1_coldJoints 23 = .ok (.iload 5, 2) := by decide +kernel
theorem dX1_coldJoints_25 : decode cX1_coldJoints 25 = .ok (.iconst 4, 1) := by decide +kernel
theorem dX1_coldJoints_26 : decode cX1_coldJoints 26 = .ok (.if_icmp .ge 65, 3) := by decide +kernel
theorem dX1_coldJoints_29 : decode cX1_coldJoints 29 = .ok (.aload_n 2, 1) := by decide +kernel
theorem dX1_coldJoints_30 : decode cX1_coldJoints 30 = .ok (.getfield 104, 3) := by decide +kernel
theorem dX1_coldJoints_33 : decode cX1_coldJoints 33 = .ok (.aload_n 0, 1) := by decide +kernel
theorem dX1_coldJoints_34 : decode cX1_coldJoints 34 = .ok (.aload_n 2, 1) := by decide +kernel
theorem dX1_coldJoints_35 : decode cX1_coldJoints 35 = .ok (.getfield 123, 3) := by decide +kernel
theorem dX1_coldJoints_38 : decode cX1_coldJoints 38 = .ok (.iload 5, 2) := by decide +kernel
theorem dX1_coldJoints_40 : decode cX1_coldJoints 40 = .ok (.iaload, 1) := by decide +kernel
theorem dX1_coldJoints_41 : decode cX1_coldJoints 41 = .ok (.invokevirtual 126, 3) := by decide +kernel
theorem dX1_coldJoints_44 : decode cX1_coldJoints 44 = .ok (.iadd, 1) := by decide +kernel
theorem dX1_coldJoints_45 : decode cX1_coldJoints 45 = .ok (.iload 4, 2) := by decide +kernel
theorem dX1_coldJoints_47 : decode cX1_coldJoints 47 = .ok (.iadd, 1) := by decide +kernel
theorem dX1_coldJoints_48 : decode cX1_coldJoints 48 = .ok (.istore 6, 2) := by decide +kernel
theorem dX1_coldJoints_50 : decode cX1_coldJoints 50 = .ok (.aload_n 2, 1) := by decide +kernel
theorem dX1_coldJoints_51 : decode cX1_coldJoints 51 = .ok (.getfield 129, 3) := by decide +kernel
theorem dX1_coldJoints_54 : decode cX1_coldJoints 54 = .ok (.iload 5, 2) := by decide +kernel
theorem dX1_coldJoints_56 : decode cX1_coldJoints 56 = .ok (.iaload, 1) := by decide +kernel
theorem dX1_coldJoints_57 : decode cX1_coldJoints 57 = .ok (.istore 7, 2) := by decide +kernel
theorem dX1_coldJoints_59 : decode cX1_coldJoints 59 = .ok (.aload_n 0, 1) := by decide +kernel
theorem dX1_coldJoints_60 : decode cX1_coldJoints 60 = .ok (.iload 6, 2) := by decide +kernel
theorem dX1_coldJoints_62 : decode cX1_coldJoints 62 = .ok (.iload 6, 2) := by decide +kernel
theorem dX1_coldJoints_64 : decode cX1_coldJoints 64 = .ok (.iload 7, 2) := by decide +kernel
theorem dX1_coldJoints_66 : decode cX1_coldJoints 66 = .ok (.iadd, 1) := by decide +kernel
theorem dX1_coldJoints_67 : decode cX1_coldJoints 67 = .ok (.invokevirtual 65, 3) := by decide +kernel
theorem dX1_coldJoints_70 : decode cX1_coldJoints 70 = .ok (.bipush 90, 2) := by decide +kernel
theorem dX1_coldJoints_72 : decode cX1_coldJoints 72 = .ok (.if_icmp .lt 6, 3) := by decide +kernel
theorem dX1_coldJoints_75 : decode cX1_coldJoints 75 = .ok (.iinc 3 1, 3) := by decide +kernel
theorem dX1_coldJoints_78 : decode cX1_coldJoints 78 = .ok (.iload 4, 2) := by decide +kernel
theorem dX1_coldJoints_80 : decode cX1_coldJoints 80 = .ok (.iload 7, 2) := by decide +kernel
theorem dX1_coldJoints_82 : decode cX1_coldJoints 82 = .ok (.iadd, 1) := by decide +kernel
theorem dX1_coldJoints_83 : decode cX1_coldJoints 83 = .ok (.istore 4, 2) := by decide +kernel
theorem dX1_coldJoints_85 : decode cX1_coldJoints 85 = .ok (.iinc 5 1, 3) := by decide +kernel
theorem dX1_coldJoints_88 : decode cX1_coldJoints 88 = .ok (.goto (-74), 3) := by decide +kernel
theorem dX1_coldJoints_91 : decode cX1_coldJoints 91 = .ok (.iload_n 3, 1) := by decide +kernel
theorem dX1_coldJoints_92 : decode cX1_coldJoints 92 = .ok (.ireturn, 1) := by decide +kernel
set_option maxRecDepth 20000 in
theorem ggX1_struck_X1_existing : GoodIn wsX1_struck wsX1_existing := goodIn_ca (goodIn_r _ [5, 6, 7, 8, 9, 10, 4, 11, 25, 26, 27, 28, 29, 30, 31, 32, 33] (by decide +kernel) (by decide +kernel)) (goodIn_sub (fun _ h => List.mem_cons_of_mem _ (List.mem_append_right _ h)) (by decide +kernel))
set_option maxRecDepth 20000 in
theorem gX1_struck_X1_existing : GoodIn wsX1_struck (wsV RX1 100 RX1 yX1_existing wsX1_existing) := goodIn_app (goodIn_of _ (by decide +kernel)) ggX1_struck_X1_existing
theorem dX1_struck_0 : decode cX1_struck 0 = .ok (.aload_n 0, 1) := by decide +kernel
theorem dX1_struck_1 : decode cX1_struck 1 = .ok (.iload_n 1, 1) := by decide +kernel
theorem dX1_struck_2 : decode cX1_struck 2 = .ok (.invokevirtual 100, 3) := by decide +kernel
theorem dX1_struck_5 : decode cX1_struck 5 = .ok (.astore_n 2, 1) := by decide +kernel
theorem dX1_struck_6 : decode cX1_struck 6 = .ok (.aload_n 2, 1) := by decide +kernel
theorem dX1_struck_7 : decode cX1_struck 7 = .ok (.getfield 132, 3) := by decide +kernel
theorem dX1_struck_10 : decode cX1_struck 10 = .ok (.ireturn, 1) := by decide +kernel
set_option maxRecDepth 20000 in
theorem ggX1_freeFrom_X1_existing : GoodIn wsX1_freeFrom wsX1_existing := goodIn_ca (goodIn_r _ [5, 6, 7, 8, 9, 10, 4, 11, 25, 26, 27, 28, 29, 30, 31, 32, 33] (by decide +kernel) (by decide +kernel)) (goodIn_sub (fun _ h => List.mem_cons_of_mem _ (List.mem_append_right _ h)) (by decide +kernel))
set_option maxRecDepth 20000 in
theorem gX1_freeFrom_X1_existing : GoodIn wsX1_freeFrom (wsV RX1 100 RX1 yX1_existing wsX1_existing) := goodIn_app (goodIn_of _ (by decide +kernel)) ggX1_freeFrom_X1_existing
theorem dX1_freeFrom_0 : decode cX1_freeFrom 0 = .ok (.aload_n 0, 1) := by decide +kernel
theorem dX1_freeFrom_1 : decode cX1_freeFrom 1 = .ok (.iload_n 1, 1) := by decide +kernel
theorem dX1_freeFrom_2 : decode cX1_freeFrom 2 = .ok (.invokevirtual 100, 3) := by decide +kernel
theorem dX1_freeFrom_5 : decode cX1_freeFrom 5 = .ok (.astore_n 2, 1) := by decide +kernel
theorem dX1_freeFrom_6 : decode cX1_freeFrom 6 = .ok (.aload_n 2, 1) := by decide +kernel
theorem dX1_freeFrom_7 : decode cX1_freeFrom 7 = .ok (.getfield 135, 3) := by decide +kernel
theorem dX1_freeFrom_10 : decode cX1_freeFrom 10 = .ok (.sipush 1000, 3) := by decide +kernel
theorem dX1_freeFrom_13 : decode cX1_freeFrom 13 = .ok (.if_icmp .ge 10, 3) := by decide +kernel
theorem dX1_freeFrom_16 : decode cX1_freeFrom 16 = .ok (.aload_n 2, 1) := by decide +kernel
theorem dX1_freeFrom_17 : decode cX1_freeFrom 17 = .ok (.getfield 135, 3) := by decide +kernel
theorem dX1_freeFrom_20 : decode cX1_freeFrom 20 = .ok (.goto 4, 3) := by decide +kernel
theorem dX1_freeFrom_23 : decode cX1_freeFrom 23 = .ok (.iconst (-1), 1) := by decide +kernel
theorem dX1_freeFrom_24 : decode cX1_freeFrom 24 = .ok (.ireturn, 1) := by decide +kernel
set_option maxRecDepth 20000 in
theorem ggX1_need_X1_requireHour : GoodIn wsX1_need wsX1_requireHour := goodIn_ca (goodIn_r _ [4, 5, 6, 7, 8, 3, 9] (by decide +kernel) (by decide +kernel)) (goodIn_sub (fun _ h => List.mem_cons_of_mem _ (List.mem_append_right _ h)) (by decide +kernel))
set_option maxRecDepth 20000 in
theorem gX1_need_X1_requireHour : GoodIn wsX1_need (va_wsS RX1 50 yX1_requireHour wsX1_requireHour) := goodIn_app (goodIn_of _ (by decide +kernel)) ggX1_need_X1_requireHour
set_option maxRecDepth 20000 in
theorem ggX1_need_X1_needIn : GoodIn wsX1_need wsX1_needIn := goodIn_r _ [13, 14, 15, 16, 17, 18, 19, 20, 21, 22, 23, 24, 25, 26, 27, 28, 29, 30, 31, 32, 33, 34, 35, 36, 37, 38, 39, 40, 41, 42] (by decide +kernel) (by decide +kernel)
set_option maxRecDepth 20000 in
theorem gX1_need_X1_needIn : GoodIn wsX1_need (wsV RX1 138 RX1 yX1_needIn wsX1_needIn) := goodIn_app (goodIn_of _ (by decide +kernel)) ggX1_need_X1_needIn
theorem dX1_need_0 : decode cX1_need 0 = .ok (.iload_n 1, 1) := by decide +kernel
theorem dX1_need_1 : decode cX1_need 1 = .ok (.invokestatic 50, 3) := by decide +kernel
theorem dX1_need_4 : decode cX1_need 4 = .ok (.aload_n 0, 1) := by decide +kernel
theorem dX1_need_5 : decode cX1_need 5 = .ok (.iload_n 1, 1) := by decide +kernel
theorem dX1_need_6 : decode cX1_need 6 = .ok (.invokevirtual 138, 3) := by decide +kernel
theorem dX1_need_9 : decode cX1_need 9 = .ok (.ireturn, 1) := by decide +kernel
set_option maxRecDepth 20000 in
theorem ggX1_peak_X1_sumNeeds : GoodIn wsX1_peak wsX1_sumNeeds := goodIn_r _ [10, 1, 11, 12, 13, 9, 14, 15, 16, 17, 18, 19, 20, 21, 22, 23, 24, 25, 26, 27, 28, 29, 30, 31, 32, 33, 34, 35, 36, 37, 38, 39, 40, 41, 42, 43] (by decide +kernel) (by decide +kernel)
set_option maxRecDepth 20000 in
theorem gX1_peak_X1_sumNeeds : GoodIn wsX1_peak (wsV RX1 141 RX1 yX1_sumNeeds wsX1_sumNeeds) := goodIn_app (goodIn_of _ (by decide +kernel)) ggX1_peak_X1_sumNeeds
theorem dX1_peak_0 : decode cX1_peak 0 = .ok (.aload_n 0, 1) := by decide +kernel
theorem dX1_peak_1 : decode cX1_peak 1 = .ok (.invokevirtual 141, 3) := by decide +kernel
theorem dX1_peak_4 : decode cX1_peak 4 = .ok (.iconst 0, 1) := by decide +kernel
theorem dX1_peak_5 : decode cX1_peak 5 = .ok (.istore_n 1, 1) := by decide +kernel
theorem dX1_peak_6 : decode cX1_peak 6 = .ok (.aload_n 0, 1) := by decide +kernel
theorem dX1_peak_7 : decode cX1_peak 7 = .ok (.getfield 16, 3) := by decide +kernel
theorem dX1_peak_10 : decode cX1_peak 10 = .ok (.astore_n 2, 1) := by decide +kernel
theorem dX1_peak_11 : decode cX1_peak 11 = .ok (.aload_n 2, 1) := by decide +kernel
theorem dX1_peak_12 : decode cX1_peak 12 = .ok (.arraylength, 1) := by decide +kernel
theorem dX1_peak_13 : decode cX1_peak 13 = .ok (.istore_n 3, 1) := by decide +kernel
theorem dX1_peak_14 : decode cX1_peak 14 = .ok (.iconst 0, 1) := by decide +kernel
theorem dX1_peak_15 : decode cX1_peak 15 = .ok (.istore 4, 2) := by decide +kernel
theorem dX1_peak_17 : decode cX1_peak 17 = .ok (.iload 4, 2) := by decide +kernel
theorem dX1_peak_19 : decode cX1_peak 19 = .ok (.iload_n 3, 1) := by decide +kernel
theorem dX1_peak_20 : decode cX1_peak 20 = .ok (.if_icmp .ge 22, 3) := by decide +kernel
theorem dX1_peak_23 : decode cX1_peak 23 = .ok (.aload_n 2, 1) := by decide +kernel
theorem dX1_peak_24 : decode cX1_peak 24 = .ok (.iload 4, 2) := by decide +kernel
theorem dX1_peak_26 : decode cX1_peak 26 = .ok (.iaload, 1) := by decide +kernel
theorem dX1_peak_27 : decode cX1_peak 27 = .ok (.istore 5, 2) := by decide +kernel
theorem dX1_peak_29 : decode cX1_peak 29 = .ok (.iload_n 1, 1) := by decide +kernel
theorem dX1_peak_30 : decode cX1_peak 30 = .ok (.iload 5, 2) := by decide +kernel
theorem dX1_peak_32 : decode cX1_peak 32 = .ok (.invokestatic 144, 3) := by decide +kernel
theorem dX1_peak_35 : decode cX1_peak 35 = .ok (.istore_n 1, 1) := by decide +kernel
theorem dX1_peak_36 : decode cX1_peak 36 = .ok (.iinc 4 1, 3) := by decide +kernel
theorem dX1_peak_39 : decode cX1_peak 39 = .ok (.goto (-22), 3) := by decide +kernel
theorem dX1_peak_42 : decode cX1_peak 42 = .ok (.iload_n 1, 1) := by decide +kernel
theorem dX1_peak_43 : decode cX1_peak 43 = .ok (.ireturn, 1) := by decide +kernel
set_option maxRecDepth 20000 in
theorem ggX1_peakByOverlaps_X1_needIn : GoodIn wsX1_peakByOverlaps wsX1_needIn := goodIn_r _ [10, 1, 11, 12, 13, 14, 15, 16, 17, 18, 19, 20, 21, 22, 23, 24, 25, 26, 27, 28, 29, 30, 31, 32, 33, 34, 35, 36, 37, 38] (by decide +kernel) (by decide +kernel)
set_option maxRecDepth 20000 in
theorem gX1_peakByOverlaps_X1_needIn : GoodIn wsX1_peakByOverlaps (wsV RX1 138 RX1 yX1_needIn wsX1_needIn) := goodIn_app (goodIn_of _ (by decide +kernel)) ggX1_peakByOverlaps_X1_needIn
theorem dX1_peakByOverlaps_0 : decode cX1_peakByOverlaps 0 = .ok (.iconst 0, 1) := by decide +kernel
theorem dX1_peakByOverlaps_1 : decode cX1_peakByOverlaps 1 = .ok (.istore_n 1, 1) := by decide +kernel
theorem dX1_peakByOverlaps_2 : decode cX1_peakByOverlaps 2 = .ok (.aload_n 0, 1) := by decide +kernel
theorem dX1_peakByOverlaps_3 : decode cX1_peakByOverlaps 3 = .ok (.getfield 24, 3) := by decide +kernel
theorem dX1_peakByOverlaps_6 : decode cX1_peakByOverlaps 6 = .ok (.astore_n 2, 1) := by decide +kernel
theorem dX1_peakByOverlaps_7 : decode cX1_peakByOverlaps 7 = .ok (.aload_n 2, 1) := by decide +kernel
theorem dX1_peakByOverlaps_8 : decode cX1_peakByOverlaps 8 = .ok (.arraylength, 1) := by decide +kernel
theorem dX1_peakByOverlaps_9 : decode cX1_peakByOverlaps 9 = .ok (.istore_n 3, 1) := by decide +kernel
theorem dX1_peakByOverlaps_10 : decode cX1_peakByOverlaps 10 = .ok (.iconst 0, 1) := by decide +kernel
theorem dX1_peakByOverlaps_11 : decode cX1_peakByOverlaps 11 = .ok (.istore 4, 2) := by decide +kernel
theorem dX1_peakByOverlaps_13 : decode cX1_peakByOverlaps 13 = .ok (.iload 4, 2) := by decide +kernel
theorem dX1_peakByOverlaps_15 : decode cX1_peakByOverlaps 15 = .ok (.iload_n 3, 1) := by decide +kernel
theorem dX1_peakByOverlaps_16 : decode cX1_peakByOverlaps 16 = .ok (.if_icmp .ge 34, 3) := by decide +kernel
theorem dX1_peakByOverlaps_19 : decode cX1_peakByOverlaps 19 = .ok (.aload_n 2, 1) := by decide +kernel
theorem dX1_peakByOverlaps_20 : decode cX1_peakByOverlaps 20 = .ok (.iload 4, 2) := by decide +kernel
theorem dX1_peakByOverlaps_22 : decode cX1_peakByOverlaps 22 = .ok (.aaload, 1) := by decide +kernel
theorem dX1_peakByOverlaps_23 : decode cX1_peakByOverlaps 23 = .ok (.astore 5, 2) := by decide +kernel
theorem dX1_peakByOverlaps_25 : decode cX1_peakByOverlaps 25 = .ok (.aload 5, 2) := by decide +kernel
theorem dX1_peakByOverlaps_27 : decode cX1_peakByOverlaps 27 = .ok (.ifnull 17, 3) := by decide +kernel
theorem dX1_peakByOverlaps_30 : decode cX1_peakByOverlaps 30 = .ok (.iload_n 1, 1) := by decide +kernel
theorem dX1_peakByOverlaps_31 : decode cX1_peakByOverlaps 31 = .ok (.aload_n 0, 1) := by decide +kernel
theorem dX1_peakByOverlaps_32 : decode cX1_peakByOverlaps 32 = .ok (.aload 5, 2) := by decide +kernel
theorem dX1_peakByOverlaps_34 : decode cX1_peakByOverlaps 34 = .ok (.getfield 147, 3) := by decide +kernel
theorem dX1_peakByOverlaps_37 : decode cX1_peakByOverlaps 37 = .ok (.invokevirtual 138, 3) := by decide +kernel
theorem dX1_peakByOverlaps_40 : decode cX1_peakByOverlaps 40 = .ok (.invokestatic 144, 3) := by decide +kernel
theorem dX1_peakByOverlaps_43 : decode cX1_peakByOverlaps 43 = .ok (.istore_n 1, 1) := by decide +kernel
theorem dX1_peakByOverlaps_44 : decode cX1_peakByOverlaps 44 = .ok (.iinc 4 1, 3) := by decide +kernel
theorem dX1_peakByOverlaps_47 : decode cX1_peakByOverlaps 47 = .ok (.goto (-34), 3) := by decide +kernel
theorem dX1_peakByOverlaps_50 : decode cX1_peakByOverlaps 50 = .ok (.iload_n 1, 1) := by decide +kernel
theorem dX1_peakByOverlaps_51 : decode cX1_peakByOverlaps 51 = .ok (.ireturn, 1) := by decide +kernel
set_option maxRecDepth 20000 in
theorem ggX1_firstShort_X1_sumNeeds : GoodIn wsX1_firstShort wsX1_sumNeeds := goodIn_r _ [7, 1, 8, 9, 10, 6, 11, 12, 13, 14, 15, 16, 17, 18, 19, 20, 21, 22, 23, 24, 25, 26, 27, 28, 29, 30, 31, 32, 33, 34, 35, 36, 37, 38, 39, 40] (by decide +kernel) (by decide +kernel)
set_option maxRecDepth 20000 in
theorem gX1_firstShort_X1_sumNeeds : GoodIn wsX1_firstShort (wsV RX1 141 RX1 yX1_sumNeeds wsX1_sumNeeds) := goodIn_app (goodIn_of _ (by decide +kernel)) ggX1_firstShort_X1_sumNeeds
theorem dX1_firstShort_0 : decode cX1_firstShort 0 = .ok (.aload_n 0, 1) := by decide +kernel
theorem dX1_firstShort_1 : decode cX1_firstShort 1 = .ok (.invokevirtual 141, 3) := by decide +kernel
theorem dX1_firstShort_4 : decode cX1_firstShort 4 = .ok (.iconst 0, 1) := by decide +kernel
theorem dX1_firstShort_5 : decode cX1_firstShort 5 = .ok (.istore_n 1, 1) := by decide +kernel
theorem dX1_firstShort_6 : decode cX1_firstShort 6 = .ok (.iload_n 1, 1) := by decide +kernel
theorem dX1_firstShort_7 : decode cX1_firstShort 7 = .ok (.sipush 1000, 3) := by decide +kernel
theorem dX1_firstShort_10 : decode cX1_firstShort 10 = .ok (.if_icmp .ge 24, 3) := by decide +kernel
theorem dX1_firstShort_13 : decode cX1_firstShort 13 = .ok (.aload_n 0, 1) := by decide +kernel
theorem dX1_firstShort_14 : decode cX1_firstShort 14 = .ok (.getfield 16, 3) := by decide +kernel
theorem dX1_firstShort_17 : decode cX1_firstShort 17 = .ok (.iload_n 1, 1) := by decide +kernel
theorem dX1_firstShort_18 : decode cX1_firstShort 18 = .ok (.iaload, 1) := by decide +kernel
theorem dX1_firstShort_19 : decode cX1_firstShort 19 = .ok (.aload_n 0, 1) := by decide +kernel
theorem dX1_firstShort_20 : decode cX1_firstShort 20 = .ok (.getfield 28, 3) := by decide +kernel
theorem dX1_firstShort_23 : decode cX1_firstShort 23 = .ok (.if_icmp .le 5, 3) := by decide +kernel
theorem dX1_firstShort_26 : decode cX1_firstShort 26 = .ok (.iload_n 1, 1) := by decide +kernel
theorem dX1_firstShort_27 : decode cX1_firstShort 27 = .ok (.ireturn, 1) := by decide +kernel
theorem dX1_firstShort_28 : decode cX1_firstShort 28 = .ok (.iinc 1 1, 3) := by decide +kernel
theorem dX1_firstShort_31 : decode cX1_firstShort 31 = .ok (.goto (-25), 3) := by decide +kernel
theorem dX1_firstShort_34 : decode cX1_firstShort 34 = .ok (.iconst (-1), 1) := by decide +kernel
theorem dX1_firstShort_35 : decode cX1_firstShort 35 = .ok (.ireturn, 1) := by decide +kernel
set_option maxRecDepth 20000 in
theorem ggX1_earliest_X1_requirePour : GoodIn wsX1_earliest wsX1_requirePour := goodIn_ca (goodIn_r _ [5, 6, 7, 4, 8, 9, 10, 11, 12, 13] (by decide +kernel) (by decide +kernel)) (goodIn_sub (fun _ h => List.mem_cons_of_mem _ (List.mem_append_right _ h)) (by decide +kernel))
set_option maxRecDepth 20000 in
theorem gX1_earliest_X1_requirePour : GoodIn wsX1_earliest (va_wsS RX1 79 yX1_requirePour wsX1_requirePour) := goodIn_app (goodIn_of _ (by decide +kernel)) ggX1_earliest_X1_requirePour
set_option maxRecDepth 20000 in
theorem ggX1_earliest_X1_sumNeeds : GoodIn wsX1_earliest wsX1_sumNeeds := goodIn_r _ [17, 18, 19, 20, 21, 4, 22, 23, 24, 25, 26, 27, 28, 29, 77, 78, 79, 80, 81, 82, 83, 84, 85, 86, 87, 88, 89, 90, 91, 92, 93, 94, 95, 96, 97, 98] (by decide +kernel) (by decide +kernel)
set_option maxRecDepth 20000 in
theorem gX1_earliest_X1_sumNeeds : GoodIn wsX1_earliest (wsV RX1 141 RX1 yX1_sumNeeds wsX1_sumNeeds) := goodIn_app (goodIn_of _ (by decide +kernel)) ggX1_earliest_X1_sumNeeds
set_option maxRecDepth 20000 in
theorem ggX1_earliest_X1_markFullHours : GoodIn wsX1_earliest wsX1_markFullHours := goodIn_r _ [33, 1, 18, 34, 77, 78, 79, 80, 81, 82, 83, 84, 85] (by decide +kernel) (by decide +kernel)
set_option maxRecDepth 20000 in
theorem gX1_earliest_X1_markFullHours : GoodIn wsX1_earliest (wsV RX1 150 RX1 yX1_markFullHours wsX1_markFullHours) := goodIn_app (goodIn_of _ (by decide +kernel)) ggX1_earliest_X1_markFullHours
set_option maxRecDepth 20000 in
theorem ggX1_earliest_X1_startedHours : GoodIn wsX1_earliest wsX1_startedHours := goodIn_r _ [38, 39, 40, 41, 42, 4, 43, 77, 78, 79, 80, 81, 82, 83, 84, 85] (by decide +kernel) (by decide +kernel)
set_option maxRecDepth 20000 in
theorem gX1_earliest_X1_startedHours : GoodIn wsX1_earliest (wsV RX1 153 RX1 yX1_startedHours wsX1_startedHours) := goodIn_app (goodIn_of _ (by decide +kernel)) ggX1_earliest_X1_startedHours
set_option maxRecDepth 20000 in
theorem ggX1_earliest_X1_standHour : GoodIn wsX1_earliest wsX1_standHour := goodIn_r _ [47, 48, 49, 50, 51, 52, 77, 78, 79, 80, 81, 82, 83, 84, 85] (by decide +kernel) (by decide +kernel)
set_option maxRecDepth 20000 in
theorem gX1_earliest_X1_standHour : GoodIn wsX1_earliest (wsV RX1 156 RX1 yX1_standHour wsX1_standHour) := goodIn_app (goodIn_of _ (by decide +kernel)) ggX1_earliest_X1_standHour
set_option maxRecDepth 20000 in
theorem ggX1_earliest_X1_strikeHour : GoodIn wsX1_earliest wsX1_strikeHour := goodIn_r _ [56, 57, 58, 59, 4, 60, 61, 62, 51, 63, 64, 65, 66, 67, 68, 77, 78, 79, 80, 81, 82, 83, 84, 85] (by decide +kernel) (by decide +kernel)
set_option maxRecDepth 20000 in
theorem gX1_earliest_X1_strikeHour : GoodIn wsX1_earliest (wsV RX1 159 RX1 yX1_strikeHour wsX1_strikeHour) := goodIn_app (goodIn_of _ (by decide +kernel)) ggX1_earliest_X1_strikeHour
set_option maxRecDepth 20000 in
theorem ggX1_earliest_X1_releaseHour : GoodIn wsX1_earliest wsX1_releaseHour := goodIn_r _ [72, 73, 61, 62, 51, 63, 77, 78, 79, 80, 81, 82, 83, 84, 85] (by decide +kernel) (by decide +kernel)
set_option maxRecDepth 20000 in
theorem gX1_earliest_X1_releaseHour : GoodIn wsX1_earliest (wsV RX1 162 RX1 yX1_releaseHour wsX1_releaseHour) := goodIn_app (goodIn_of _ (by decide +kernel)) ggX1_earliest_X1_releaseHour
set_option maxRecDepth 20000 in
theorem ggX1_earliest_X1_isHour : GoodIn wsX1_earliest wsX1_isHour := goodIn_r _ [76] (by decide +kernel) (by decide +kernel)
set_option maxRecDepth 20000 in
theorem gX1_earliest_X1_isHour : GoodIn wsX1_earliest (va_wsS RX1 165 yX1_isHour wsX1_isHour) := goodIn_app (goodIn_of _ (by decide +kernel)) ggX1_earliest_X1_isHour
theorem dX1_earliest_0 : decode cX1_earliest 0 = .ok (.iload_n 1, 1) := by decide +kernel
theorem dX1_earliest_1 : decode cX1_earliest 1 = .ok (.iload_n 2, 1) := by decide +kernel
theorem dX1_earliest_2 : decode cX1_earliest 2 = .ok (.iload_n 3, 1) := by decide +kernel
theorem dX1_earliest_3 : decode cX1_earliest 3 = .ok (.iload 4, 2) := by decide +kernel
theorem dX1_earliest_5 : decode cX1_earliest 5 = .ok (.invokestatic 79, 3) := by decide +kernel
theorem dX1_earliest_8 : decode cX1_earliest 8 = .ok (.aload_n 0, 1) := by decide +kernel
theorem dX1_earliest_9 : decode cX1_earliest 9 = .ok (.invokevirtual 141, 3) := by decide +kernel
theorem dX1_earliest_12 : decode cX1_earliest 12 = .ok (.aload_n 0, 1) := by decide +kernel
theorem dX1_earliest_13 : decode cX1_earliest 13 = .ok (.iload_n 3, 1) := by decide +kernel
theorem dX1_earliest_14 : decode cX1_earliest 14 = .ok (.invokevirtual 150, 3) := by decide +kernel
theorem dX1_earliest_17 : decode cX1_earliest 17 = .ok (.aload_n 0, 1) := by decide +kernel
theorem dX1_earliest_18 : decode cX1_earliest 18 = .ok (.iload_n 2, 1) := by decide +kernel
theorem dX1_earliest_19 : decode cX1_earliest 19 = .ok (.invokevirtual 153, 3) := by decide +kernel
theorem dX1_earliest_22 : decode cX1_earliest 22 = .ok (.istore 5, 2) := by decide +kernel
theorem dX1_earliest_24 : decode cX1_earliest 24 = .ok (.iload_n 1, 1) := by decide +kernel
theorem dX1_earliest_25 : decode cX1_earliest 25 = .ok (.istore 6, 2) := by decide +kernel
theorem dX1_earliest_27 : decode cX1_earliest 27 = .ok (.iload 6, 2) := by decide +kernel
theorem dX1_earliest_29 : decode cX1_earliest 29 = .ok (.sipush 900, 3) := by decide +kernel
theorem dX1_earliest_32 : decode cX1_earliest 32 = .ok (.if_icmp .gt 57, 3) := by decide +kernel
theorem dX1_earliest_35 : decode cX1_earliest 35 = .ok (.aload_n 0, 1) := by decide +kernel
theorem dX1_earliest_36 : decode cX1_earliest 36 = .ok (.iload 6, 2) := by decide +kernel
theorem dX1_earliest_38 : decode cX1_earliest 38 = .ok (.invokevirtual 156, 3) := by decide +kernel
theorem dX1_earliest_41 : decode cX1_earliest 41 = .ok (.istore 7, 2) := by decide +kernel
theorem dX1_earliest_43 : decode cX1_earliest 43 = .ok (.aload_n 0, 1) := by decide +kernel
theorem dX1_earliest_44 : decode cX1_earliest 44 = .ok (.aload_n 0, 1) := by decide +kernel
theorem dX1_earliest_45 : decode cX1_earliest 45 = .ok (.iload 6, 2) := by decide +kernel
theorem dX1_earliest_47 : decode cX1_earliest 47 = .ok (.iload 5, 2) := by decide +kernel
theorem dX1_earliest_49 : decode cX1_earliest 49 = .ok (.iadd, 1) := by decide +kernel
theorem dX1_earliest_50 : decode cX1_earliest 50 = .ok (.iload 4, 2) := by decide +kernel
theorem dX1_earliest_52 : decode cX1_earliest 52 = .ok (.invokevirtual 159, 3) := by decide +kernel
theorem dX1_earliest_55 : decode cX1_earliest 55 = .ok (.invokevirtual 162, 3) := by decide +kernel
theorem dX1_earliest_58 : decode cX1_earliest 58 = .ok (.istore 8, 2) := by decide +kernel
theorem dX1_earliest_60 : decode cX1_earliest 60 = .ok (.iload 7, 2) := by decide +kernel
theorem dX1_earliest_62 : decode cX1_earliest 62 = .ok (.invokestatic 165, 3) := by decide +kernel
theorem dX1_earliest_65 : decode cX1_earliest 65 = .ok (.ifCond .eq 18, 3) := by decide +kernel
theorem dX1_earliest_68 : decode cX1_earliest 68 = .ok (.aload_n 0, 1) := by decide +kernel
theorem dX1_earliest_69 : decode cX1_earliest 69 = .ok (.getfield 19, 3) := by decide +kernel
theorem dX1_earliest_72 : decode cX1_earliest 72 = .ok (.iload 7, 2) := by decide +kernel
theorem dX1_earliest_74 : decode cX1_earliest 74 = .ok (.iaload, 1) := by decide +kernel
theorem dX1_earliest_75 : decode cX1_earliest 75 = .ok (.iload 8, 2) := by decide +kernel
theorem dX1_earliest_77 : decode cX1_earliest 77 = .ok (.if_icmp .lt 6, 3) := by decide +kernel
theorem dX1_earliest_80 : decode cX1_earliest 80 = .ok (.iload 6, 2) := by decide +kernel
theorem dX1_earliest_82 : decode cX1_earliest 82 = .ok (.ireturn, 1) := by decide +kernel
theorem dX1_earliest_83 : decode cX1_earliest 83 = .ok (.iinc 6 1, 3) := by decide +kernel
theorem dX1_earliest_86 : decode cX1_earliest 86 = .ok (.goto (-59), 3) := by decide +kernel
theorem dX1_earliest_89 : decode cX1_earliest 89 = .ok (.iconst (-1), 1) := by decide +kernel
theorem dX1_earliest_90 : decode cX1_earliest 90 = .ok (.ireturn, 1) := by decide +kernel
set_option maxRecDepth 20000 in
theorem ggX1_panelsOf_X1_existing : GoodIn wsX1_panelsOf wsX1_existing := goodIn_ca (goodIn_r _ [5, 6, 7, 8, 9, 10, 4, 11, 55, 56, 57, 58, 59, 60, 61, 62, 63] (by decide +kernel) (by decide +kernel)) (goodIn_sub (fun _ h => List.mem_cons_of_mem _ (List.mem_append_right _ h)) (by decide +kernel))
set_option maxRecDepth 20000 in
theorem gX1_panelsOf_X1_existing : GoodIn wsX1_panelsOf (wsV RX1 100 RX1 yX1_existing wsX1_existing) := goodIn_app (goodIn_of _ (by decide +kernel)) ggX1_panelsOf_X1_existing
set_option maxRecDepth 20000 in
theorem ggX1_panelsOf_X1_giveOutPanels : GoodIn wsX1_panelsOf wsX1_giveOutPanels := goodIn_r _ [15, 8, 16, 17, 18, 4, 19, 20, 21, 22, 23, 24, 25, 26, 27, 28, 29, 30, 31, 32, 33, 34, 55, 56, 57, 58, 59, 60, 61, 62, 63, 42, 43, 44, 45, 46, 47, 48, 49, 50, 51, 52, 53, 54] (by decide +kernel) (by decide +kernel)
set_option maxRecDepth 20000 in
theorem gX1_panelsOf_X1_giveOutPanels : GoodIn wsX1_panelsOf (wsV RX1 168 RX1 yX1_giveOutPanels wsX1_giveOutPanels) := goodIn_app (goodIn_of _ (by decide +kernel)) ggX1_panelsOf_X1_giveOutPanels
set_option maxRecDepth 20000 in
theorem ggX1_panelsOf_J13_bitCount_95d88 : GoodIn wsX1_panelsOf wsJ13_bitCount_95d88 := goodIn_r _ [38, 39, 40, 41] (by decide +kernel) (by decide +kernel)
set_option maxRecDepth 20000 in
theorem gX1_panelsOf_J13_bitCount_95d88 : GoodIn wsX1_panelsOf (va_wsS RX1 175 yJ13_bitCount_95d88 wsJ13_bitCount_95d88) := goodIn_app (goodIn_of _ (by decide +kernel)) ggX1_panelsOf_J13_bitCount_95d88
theorem dX1_panelsOf_0 : decode cX1_panelsOf 0 = .ok (.aload_n 0, 1) := by decide +kernel
theorem dX1_panelsOf_1 : decode cX1_panelsOf 1 = .ok (.iload_n 1, 1) := by decide +kernel
theorem dX1_panelsOf_2 : decode cX1_panelsOf 2 = .ok (.invokevirtual 100, 3) := by decide +kernel
theorem dX1_panelsOf_5 : decode cX1_panelsOf 5 = .ok (.astore_n 2, 1) := by decide +kernel
theorem dX1_panelsOf_6 : decode cX1_panelsOf 6 = .ok (.aload_n 0, 1) := by decide +kernel
theorem dX1_panelsOf_7 : decode cX1_panelsOf 7 = .ok (.invokevirtual 168, 3) := by decide +kernel
theorem dX1_panelsOf_10 : decode cX1_panelsOf 10 = .ok (.aload_n 2, 1) := by decide +kernel
theorem dX1_panelsOf_11 : decode cX1_panelsOf 11 = .ok (.getfield 171, 3) := by decide +kernel
theorem dX1_panelsOf_14 : decode cX1_panelsOf 14 = .ok (.invokestatic 175, 3) := by decide +kernel
theorem dX1_panelsOf_17 : decode cX1_panelsOf 17 = .ok (.ireturn, 1) := by decide +kernel
set_option maxRecDepth 20000 in
theorem ggX1_pourOf_X1_requireHour : GoodIn wsX1_pourOf wsX1_requireHour := goodIn_ca (goodIn_r _ [8, 1, 2, 9, 10, 7, 11] (by decide +kernel) (by decide +kernel)) (goodIn_sub (fun _ h => List.mem_cons_of_mem _ (List.mem_append_right _ h)) (by decide +kernel))
set_option maxRecDepth 20000 in
theorem gX1_pourOf_X1_requireHour : GoodIn wsX1_pourOf (va_wsS RX1 50 yX1_requireHour wsX1_requireHour) := goodIn_app (goodIn_of _ (by decide +kernel)) ggX1_pourOf_X1_requireHour
set_option maxRecDepth 20000 in
theorem ggX1_pourOf_X1_giveOutPanels : GoodIn wsX1_pourOf wsX1_giveOutPanels := goodIn_r _ [15, 4, 16, 17, 18, 7, 19, 20, 21, 22, 23, 24, 25, 26, 27, 28, 29, 30, 31, 32, 33, 3, 34, 35, 36, 37, 38, 39, 40, 41, 42, 43, 44, 45, 46, 47, 48, 49, 50, 51, 52, 53, 54, 55] (by decide +kernel) (by decide +kernel)
set_option maxRecDepth 20000 in
theorem gX1_pourOf_X1_giveOutPanels : GoodIn wsX1_pourOf (wsV RX1 168 RX1 yX1_giveOutPanels wsX1_giveOutPanels) := goodIn_app (goodIn_of _ (by decide +kernel)) ggX1_pourOf_X1_giveOutPanels
set_option maxRecDepth 20000 in
theorem ggX1_pourOf_X0_isBusy : GoodIn wsX1_pourOf wsX0_isBusy := goodIn_r _ [27, 28, 29, 43, 44, 45, 46, 47, 48, 49, 50, 51, 52, 53, 54, 55] (by decide +kernel) (by decide +kernel)
set_option maxRecDepth 20000 in
theorem gX1_pourOf_X0_isBusy_n184 : GoodIn wsX1_pourOf (wsX0_isBusy) := ggX1_pourOf_X0_isBusy
theorem dX1_pourOf_0 : decode cX1_pourOf 0 = .ok (.iload_n 1, 1) := by decide +kernel
theorem dX1_pourOf_1 : decode cX1_pourOf 1 = .ok (.ifCond .lt 11, 3) := by decide +kernel
theorem dX1_pourOf_4 : decode cX1_pourOf 4 = .ok (.iload_n 1, 1) := by decide +kernel
theorem dX1_pourOf_5 : decode cX1_pourOf 5 = .ok (.aload_n 0, 1) := by decide +kernel
theorem dX1_pourOf_6 : decode cX1_pourOf 6 = .ok (.getfield 28, 3) := by decide +kernel
theorem dX1_pourOf_9 : decode cX1_pourOf 9 = .ok (.if_icmp .lt 11, 3) := by decide +kernel
theorem dX1_pourOf_12 : decode cX1_pourOf 12 = .ok (.new 181, 3) := by decide +kernel
theorem dX1_pourOf_15 : decode cX1_pourOf 15 = .ok (.dup, 1) := by decide +kernel
theorem dX1_pourOf_16 : decode cX1_pourOf 16 = .ok (.invokespecial 183, 3) := by decide +kernel
theorem dX1_pourOf_19 : decode cX1_pourOf 19 = .ok (.athrow, 1) := by decide +kernel
theorem dX1_pourOf_20 : decode cX1_pourOf 20 = .ok (.iload_n 2, 1) := by decide +kernel
theorem dX1_pourOf_21 : decode cX1_pourOf 21 = .ok (.invokestatic 50, 3) := by decide +kernel
theorem dX1_pourOf_24 : decode cX1_pourOf 24 = .ok (.aload_n 0, 1) := by decide +kernel
theorem dX1_pourOf_25 : decode cX1_pourOf 25 = .ok (.invokevirtual 168, 3) := by decide +kernel
theorem dX1_pourOf_28 : decode cX1_pourOf 28 = .ok (.lconst 1, 1) := by decide +kernel
theorem dX1_pourOf_29 : decode cX1_pourOf 29 = .ok (.iload_n 1, 1) := by decide +kernel
theorem dX1_pourOf_30 : decode cX1_pourOf 30 = .ok (.lshl, 1) := by decide +kernel
theorem dX1_pourOf_31 : decode cX1_pourOf 31 = .ok (.lstore_n 3, 1) := by decide +kernel
theorem dX1_pourOf_32 : decode cX1_pourOf 32 = .ok (.iconst 0, 1) := by decide +kernel
theorem dX1_pourOf_33 : decode cX1_pourOf 33 = .ok (.istore 5, 2) := by decide +kernel
theorem dX1_pourOf_35 : decode cX1_pourOf 35 = .ok (.iload 5, 2) := by decide +kernel
theorem dX1_pourOf_37 : decode cX1_pourOf 37 = .ok (.bipush 10, 2) := by decide +kernel
theorem dX1_pourOf_39 : decode cX1_pourOf 39 = .ok (.if_icmp .ge 47, 3) := by decide +kernel
theorem dX1_pourOf_42 : decode cX1_pourOf 42 = .ok (.aload_n 0, 1) := by decide +kernel
theorem dX1_pourOf_43 : decode cX1_pourOf 43 = .ok (.getfield 24, 3) := by decide +kernel
theorem dX1_pourOf_46 : decode cX1_pourOf 46 = .ok (.iload 5, 2) := by decide +kernel
theorem dX1_pourOf_48 : decode cX1_pourOf 48 = .ok (.aaload, 1) := by decide +kernel
theorem dX1_pourOf_49 : decode cX1_pourOf 49 = .ok (.astore 6, 2) := by decide +kernel
theorem dX1_pourOf_51 : decode cX1_pourOf 51 = .ok (.aload 6, 2) := by decide +kernel
theorem dX1_pourOf_53 : decode cX1_pourOf 53 = .ok (.ifnull 27, 3) := by decide +kernel
theorem dX1_pourOf_56 : decode cX1_pourOf 56 = .ok (.aload 6, 2) := by decide +kernel
theorem dX1_pourOf_58 : decode cX1_pourOf 58 = .ok (.getfield 171, 3) := by decide +kernel
theorem dX1_pourOf_61 : decode cX1_pourOf 61 = .ok (.lload_n 3, 1) := by decide +kernel
theorem dX1_pourOf_62 : decode cX1_pourOf 62 = .ok (.land, 1) := by decide +kernel
theorem dX1_pourOf_63 : decode cX1_pourOf 63 = .ok (.lconst 0, 1) := by decide +kernel
theorem dX1_pourOf_64 : decode cX1_pourOf 64 = .ok (.lcmp, 1) := by decide +kernel
theorem dX1_pourOf_65 : decode cX1_pourOf 65 = .ok (.ifCond .eq 15, 3) := by decide +kernel
theorem dX1_pourOf_68 : decode cX1_pourOf 68 = .ok (.aload 6, 2) := by decide +kernel
theorem dX1_pourOf_70 : decode cX1_pourOf 70 = .ok (.iload_n 2, 1) := by decide +kernel
theorem dX1_pourOf_71 : decode cX1_pourOf 71 = .ok (.invokevirtual 184, 3) := by decide +kernel
theorem dX1_pourOf_74 : decode cX1_pourOf 74 = .ok (.ifCond .eq 6, 3) := by decide +kernel
theorem dX1_pourOf_77 : decode cX1_pourOf 77 = .ok (.iload 5, 2) := by decide +kernel
theorem dX1_pourOf_79 : decode cX1_pourOf 79 = .ok (.ireturn, 1) := by decide +kernel
theorem dX1_pourOf_80 : decode cX1_pourOf 80 = .ok (.iinc 5 1, 3) := by decide +kernel
theorem dX1_pourOf_83 : decode cX1_pourOf 83 = .ok (.goto (-48), 3) := by decide +kernel
theorem dX1_pourOf_86 : decode cX1_pourOf 86 = .ok (.iconst (-1), 1) := by decide +kernel
theorem dX1_pourOf_87 : decode cX1_pourOf 87 = .ok (.ireturn, 1) := by decide +kernel
theorem dX1_isHour_0 : decode cX1_isHour 0 = .ok (.iload_n 0, 1) := by decide +kernel
theorem dX1_isHour_1 : decode cX1_isHour 1 = .ok (.ifCond .lt 14, 3) := by decide +kernel
theorem dX1_isHour_4 : decode cX1_isHour 4 = .ok (.iload_n 0, 1) := by decide +kernel
theorem dX1_isHour_5 : decode cX1_isHour 5 = .ok (.sipush 1000, 3) := by decide +kernel
theorem dX1_isHour_8 : decode cX1_isHour 8 = .ok (.if_icmp .ge 7, 3) := by decide +kernel
theorem dX1_isHour_11 : decode cX1_isHour 11 = .ok (.iconst 1, 1) := by decide +kernel
theorem dX1_isHour_12 : decode cX1_isHour 12 = .ok (.goto 4, 3) := by decide +kernel
theorem dX1_isHour_15 : decode cX1_isHour 15 = .ok (.iconst 0, 1) := by decide +kernel
theorem dX1_isHour_16 : decode cX1_isHour 16 = .ok (.ireturn, 1) := by decide +kernel
theorem dX1_isNumber_0 : decode cX1_isNumber 0 = .ok (.iload_n 0, 1) := by decide +kernel
theorem dX1_isNumber_1 : decode cX1_isNumber 1 = .ok (.ifCond .lt 13, 3) := by decide +kernel
theorem dX1_isNumber_4 : decode cX1_isNumber 4 = .ok (.iload_n 0, 1) := by decide +kernel
theorem dX1_isNumber_5 : decode cX1_isNumber 5 = .ok (.bipush 10, 2) := by decide +kernel
theorem dX1_isNumber_7 : decode cX1_isNumber 7 = .ok (.if_icmp .ge 7, 3) := by decide +kernel
theorem dX1_isNumber_10 : decode cX1_isNumber 10 = .ok (.iconst 1, 1) := by decide +kernel
theorem dX1_isNumber_11 : decode cX1_isNumber 11 = .ok (.goto 4, 3) := by decide +kernel
theorem dX1_isNumber_14 : decode cX1_isNumber 14 = .ok (.iconst 0, 1) := by decide +kernel
theorem dX1_isNumber_15 : decode cX1_isNumber 15 = .ok (.ireturn, 1) := by decide +kernel
set_option maxRecDepth 20000 in
theorem ggX1_requireHour_X1_isHour : GoodIn wsX1_requireHour wsX1_isHour := goodIn_r _ [6] (by decide +kernel) (by decide +kernel)
set_option maxRecDepth 20000 in
theorem gX1_requireHour_X1_isHour : GoodIn wsX1_requireHour (va_wsS RX1 165 yX1_isHour wsX1_isHour) := goodIn_app (goodIn_of _ (by decide +kernel)) ggX1_requireHour_X1_isHour
theorem dX1_requireHour_0 : decode cX1_requireHour 0 = .ok (.iload_n 0, 1) := by decide +kernel
theorem dX1_requireHour_1 : decode cX1_requireHour 1 = .ok (.invokestatic 165, 3) := by decide +kernel
theorem dX1_requireHour_4 : decode cX1_requireHour 4 = .ok (.ifCond .ne 11, 3) := by decide +kernel
theorem dX1_requireHour_7 : decode cX1_requireHour 7 = .ok (.new 181, 3) := by decide +kernel
theorem dX1_requireHour_10 : decode cX1_requireHour 10 = .ok (.dup, 1) := by decide +kernel
theorem dX1_requireHour_11 : decode cX1_requireHour 11 = .ok (.invokespecial 183, 3) := by decide +kernel
theorem dX1_requireHour_14 : decode cX1_requireHour 14 = .ok (.athrow, 1) := by decide +kernel
theorem dX1_requireHour_15 : decode cX1_requireHour 15 = .ok (.return_, 1) := by decide +kernel
theorem dX1_require_0 : decode cX1_require 0 = .ok (.iload_n 0, 1) := by decide +kernel
theorem dX1_require_1 : decode cX1_require 1 = .ok (.ifCond .ne 11, 3) := by decide +kernel
theorem dX1_require_4 : decode cX1_require 4 = .ok (.new 187, 3) := by decide +kernel
theorem dX1_require_7 : decode cX1_require 7 = .ok (.dup, 1) := by decide +kernel
theorem dX1_require_8 : decode cX1_require 8 = .ok (.invokespecial 189, 3) := by decide +kernel
theorem dX1_require_11 : decode cX1_require 11 = .ok (.athrow, 1) := by decide +kernel
theorem dX1_require_12 : decode cX1_require 12 = .ok (.return_, 1) := by decide +kernel
set_option maxRecDepth 20000 in
theorem ggX1_requireRange_X1_require : GoodIn wsX1_requireRange wsX1_require := goodIn_ca (goodIn_r _ [4, 5, 6] (by decide +kernel) (by decide +kernel)) (goodIn_sub (fun _ h => List.mem_cons_of_mem _ (List.mem_append_right _ h)) (by decide +kernel))
set_option maxRecDepth 20000 in
theorem gX1_requireRange_X1_require : GoodIn wsX1_requireRange (va_wsS RX1 54 yX1_require wsX1_require) := goodIn_app (goodIn_of _ (by decide +kernel)) ggX1_requireRange_X1_require
theorem dX1_requireRange_0 : decode cX1_requireRange 0 = .ok (.iload_n 0, 1) := by decide +kernel
theorem dX1_requireRange_1 : decode cX1_requireRange 1 = .ok (.iload_n 1, 1) := by decide +kernel
theorem dX1_requireRange_2 : decode cX1_requireRange 2 = .ok (.if_icmp .lt 12, 3) := by decide +kernel
theorem dX1_requireRange_5 : decode cX1_requireRange 5 = .ok (.iload_n 0, 1) := by decide +kernel
theorem dX1_requireRange_6 : decode cX1_requireRange 6 = .ok (.iload_n 2, 1) := by decide +kernel
theorem dX1_requireRange_7 : decode cX1_requireRange 7 = .ok (.if_icmp .gt 7, 3) := by decide +kernel
theorem dX1_requireRange_10 : decode cX1_requireRange 10 = .ok (.iconst 1, 1) := by decide +kernel
theorem dX1_requireRange_11 : decode cX1_requireRange 11 = .ok (.goto 4, 3) := by decide +kernel
theorem dX1_requireRange_14 : decode cX1_requireRange 14 = .ok (.iconst 0, 1) := by decide +kernel
theorem dX1_requireRange_15 : decode cX1_requireRange 15 = .ok (.invokestatic 54, 3) := by decide +kernel
theorem dX1_requireRange_18 : decode cX1_requireRange 18 = .ok (.return_, 1) := by decide +kernel
set_option maxRecDepth 20000 in
theorem ggX1_requirePour_X1_requireRange : GoodIn wsX1_requirePour wsX1_requireRange := goodIn_ca (goodIn_r _ [4, 5, 6, 3, 7, 8, 9] (by decide +kernel) (by decide +kernel)) (goodIn_sub (fun _ h => List.mem_cons_of_mem _ (List.mem_append_right _ h)) (by decide +kernel))
set_option maxRecDepth 20000 in
theorem gX1_requirePour_X1_requireRange : GoodIn wsX1_requirePour (va_wsS RX1 58 yX1_requireRange wsX1_requireRange) := goodIn_app (goodIn_of _ (by decide +kernel)) ggX1_requirePour_X1_requireRange
theorem dX1_requirePour_0 : decode cX1_requirePour 0 = .ok (.iload_n 0, 1) := by decide +kernel
theorem dX1_requirePour_1 : decode cX1_requirePour 1 = .ok (.iconst 0, 1) := by decide +kernel
theorem dX1_requirePour_2 : decode cX1_requirePour 2 = .ok (.sipush 900, 3) := by decide +kernel
theorem dX1_requirePour_5 : decode cX1_requirePour 5 = .ok (.invokestatic 58, 3) := by decide +kernel
theorem dX1_requirePour_8 : decode cX1_requirePour 8 = .ok (.iload_n 1, 1) := by decide +kernel
theorem dX1_requirePour_9 : decode cX1_requirePour 9 = .ok (.iconst 1, 1) := by decide +kernel
theorem dX1_requirePour_10 : decode cX1_requirePour 10 = .ok (.sipush 200, 3) := by decide +kernel
theorem dX1_requirePour_13 : decode cX1_requirePour 13 = .ok (.invokestatic 58, 3) := by decide +kernel
theorem dX1_requirePour_16 : decode cX1_requirePour 16 = .ok (.iload_n 2, 1) := by decide +kernel
theorem dX1_requirePour_17 : decode cX1_requirePour 17 = .ok (.iconst 1, 1) := by decide +kernel
theorem dX1_requirePour_18 : decode cX1_requirePour 18 = .ok (.bipush 30, 2) := by decide +kernel
theorem dX1_requirePour_20 : decode cX1_requirePour 20 = .ok (.invokestatic 58, 3) := by decide +kernel
theorem dX1_requirePour_23 : decode cX1_requirePour 23 = .ok (.iload_n 3, 1) := by decide +kernel
theorem dX1_requirePour_24 : decode cX1_requirePour 24 = .ok (.iconst 1, 1) := by decide +kernel
theorem dX1_requirePour_25 : decode cX1_requirePour 25 = .ok (.bipush 100, 2) := by decide +kernel
theorem dX1_requirePour_27 : decode cX1_requirePour 27 = .ok (.invokestatic 58, 3) := by decide +kernel
theorem dX1_requirePour_30 : decode cX1_requirePour 30 = .ok (.return_, 1) := by decide +kernel
set_option maxRecDepth 20000 in
theorem ggX1_existing_X1_isNumber : GoodIn wsX1_existing wsX1_isNumber := goodIn_r _ [7] (by decide +kernel) (by decide +kernel)
set_option maxRecDepth 20000 in
theorem gX1_existing_X1_isNumber : GoodIn wsX1_existing (va_wsS RX1 87 yX1_isNumber wsX1_isNumber) := goodIn_app (goodIn_of _ (by decide +kernel)) ggX1_existing_X1_isNumber
theorem dX1_existing_0 : decode cX1_existing 0 = .ok (.iload_n 1, 1) := by decide +kernel
theorem dX1_existing_1 : decode cX1_existing 1 = .ok (.invokestatic 87, 3) := by decide +kernel
theorem dX1_existing_4 : decode cX1_existing 4 = .ok (.ifCond .eq 12, 3) := by decide +kernel
theorem dX1_existing_7 : decode cX1_existing 7 = .ok (.aload_n 0, 1) := by decide +kernel
theorem dX1_existing_8 : decode cX1_existing 8 = .ok (.getfield 24, 3) := by decide +kernel
theorem dX1_existing_11 : decode cX1_existing 11 = .ok (.iload_n 1, 1) := by decide +kernel
theorem dX1_existing_12 : decode cX1_existing 12 = .ok (.aaload, 1) := by decide +kernel
theorem dX1_existing_13 : decode cX1_existing 13 = .ok (.goto 4, 3) := by decide +kernel
theorem dX1_existing_16 : decode cX1_existing 16 = .ok (.aconst_null, 1) := by decide +kernel
theorem dX1_existing_17 : decode cX1_existing 17 = .ok (.astore_n 2, 1) := by decide +kernel
theorem dX1_existing_18 : decode cX1_existing 18 = .ok (.aload_n 2, 1) := by decide +kernel
theorem dX1_existing_19 : decode cX1_existing 19 = .ok (.ifnonnull 11, 3) := by decide +kernel
theorem dX1_existing_22 : decode cX1_existing 22 = .ok (.new 190, 3) := by decide +kernel
theorem dX1_existing_25 : decode cX1_existing 25 = .ok (.dup, 1) := by decide +kernel
theorem dX1_existing_26 : decode cX1_existing 26 = .ok (.invokespecial 192, 3) := by decide +kernel
theorem dX1_existing_29 : decode cX1_existing 29 = .ok (.athrow, 1) := by decide +kernel
theorem dX1_existing_30 : decode cX1_existing 30 = .ok (.aload_n 2, 1) := by decide +kernel
theorem dX1_existing_31 : decode cX1_existing 31 = .ok (.areturn, 1) := by decide +kernel
theorem dX1_freeNumber_0 : decode cX1_freeNumber 0 = .ok (.iconst 0, 1) := by decide +kernel
theorem dX1_freeNumber_1 : decode cX1_freeNumber 1 = .ok (.istore_n 1, 1) := by decide +kernel
theorem dX1_freeNumber_2 : decode cX1_freeNumber 2 = .ok (.iload_n 1, 1) := by decide +kernel
theorem dX1_freeNumber_3 : decode cX1_freeNumber 3 = .ok (.bipush 10, 2) := by decide +kernel
theorem dX1_freeNumber_5 : decode cX1_freeNumber 5 = .ok (.if_icmp .ge 20, 3) := by decide +kernel
theorem dX1_freeNumber_8 : decode cX1_freeNumber 8 = .ok (.aload_n 0, 1) := by decide +kernel
theorem dX1_freeNumber_9 : decode cX1_freeNumber 9 = .ok (.getfield 24, 3) := by decide +kernel
theorem dX1_freeNumber_12 : decode cX1_freeNumber 12 = .ok (.iload_n 1, 1) := by decide +kernel
theorem dX1_freeNumber_13 : decode cX1_freeNumber 13 = .ok (.aaload, 1) := by decide +kernel
theorem dX1_freeNumber_14 : decode cX1_freeNumber 14 = .ok (.ifnonnull 5, 3) := by decide +kernel
theorem dX1_freeNumber_17 : decode cX1_freeNumber 17 = .ok (.iload_n 1, 1) := by decide +kernel
theorem dX1_freeNumber_18 : decode cX1_freeNumber 18 = .ok (.ireturn, 1) := by decide +kernel
theorem dX1_freeNumber_19 : decode cX1_freeNumber 19 = .ok (.iinc 1 1, 3) := by decide +kernel
theorem dX1_freeNumber_22 : decode cX1_freeNumber 22 = .ok (.goto (-20), 3) := by decide +kernel
theorem dX1_freeNumber_25 : decode cX1_freeNumber 25 = .ok (.iconst (-1), 1) := by decide +kernel
theorem dX1_freeNumber_26 : decode cX1_freeNumber 26 = .ok (.ireturn, 1) := by decide +kernel
theorem dX1_sumGains_0 : decode cX1_sumGains 0 = .ok (.aload_n 0, 1) := by decide +kernel
theorem dX1_sumGains_1 : decode cX1_sumGains 1 = .ok (.getfield 13, 3) := by decide +kernel
theorem dX1_sumGains_4 : decode cX1_sumGains 4 = .ok (.iconst 0, 1) := by decide +kernel
theorem dX1_sumGains_5 : decode cX1_sumGains 5 = .ok (.iconst 0, 1) := by decide +kernel
theorem dX1_sumGains_6 : decode cX1_sumGains 6 = .ok (.iastore, 1) := by decide +kernel
theorem dX1_sumGains_7 : decode cX1_sumGains 7 = .ok (.iconst 0, 1) := by decide +kernel
theorem dX1_sumGains_8 : decode cX1_sumGains 8 = .ok (.istore_n 1, 1) := by decide +kernel
theorem dX1_sumGains_9 : decode cX1_sumGains 9 = .ok (.iload_n 1, 1) := by decide +kernel
theorem dX1_sumGains_10 : decode cX1_sumGains 10 = .ok (.sipush 1000, 3) := by decide +kernel
theorem dX1_sumGains_13 : decode cX1_sumGains 13 = .ok (.if_icmp .ge 37, 3) := by decide +kernel
theorem dX1_sumGains_16 : decode cX1_sumGains 16 = .ok (.aload_n 0, 1) := by decide +kernel
theorem dX1_sumGains_17 : decode cX1_sumGains 17 = .ok (.getfield 13, 3) := by decide +kernel
theorem dX1_sumGains_20 : decode cX1_sumGains 20 = .ok (.iload_n 1, 1) := by decide +kernel
theorem dX1_sumGains_21 : decode cX1_sumGains 21 = .ok (.iconst 1, 1) := by decide +kernel
theorem dX1_sumGains_22 : decode cX1_sumGains 22 = .ok (.iadd, 1) := by decide +kernel
theorem dX1_sumGains_23 : decode cX1_sumGains 23 = .ok (.aload_n 0, 1) := by decide +kernel
theorem dX1_sumGains_24 : decode cX1_sumGains 24 = .ok (.getfield 13, 3) := by decide +kernel
theorem dX1_sumGains_27 : decode cX1_sumGains 27 = .ok (.iload_n 1, 1) := by decide +kernel
theorem dX1_sumGains_28 : decode cX1_sumGains 28 = .ok (.iaload, 1) := by decide +kernel
theorem dX1_sumGains_29 : decode cX1_sumGains 29 = .ok (.iconst 0, 1) := by decide +kernel
theorem dX1_sumGains_30 : decode cX1_sumGains 30 = .ok (.aload_n 0, 1) := by decide +kernel
theorem dX1_sumGains_31 : decode cX1_sumGains 31 = .ok (.getfield 9, 3) := by decide +kernel
theorem dX1_sumGains_34 : decode cX1_sumGains 34 = .ok (.iload_n 1, 1) := by decide +kernel
theorem dX1_sumGains_35 : decode cX1_sumGains 35 = .ok (.iaload, 1) := by decide +kernel
theorem dX1_sumGains_36 : decode cX1_sumGains 36 = .ok (.bipush 10, 2) := by decide +kernel
theorem dX1_sumGains_38 : decode cX1_sumGains 38 = .ok (.iadd, 1) := by decide +kernel
theorem dX1_sumGains_39 : decode cX1_sumGains 39 = .ok (.invokestatic 144, 3) := by decide +kernel
theorem dX1_sumGains_42 : decode cX1_sumGains 42 = .ok (.iadd, 1) := by decide +kernel
theorem dX1_sumGains_43 : decode cX1_sumGains 43 = .ok (.iastore, 1) := by decide +kernel
theorem dX1_sumGains_44 : decode cX1_sumGains 44 = .ok (.iinc 1 1, 3) := by decide +kernel
theorem dX1_sumGains_47 : decode cX1_sumGains 47 = .ok (.goto (-38), 3) := by decide +kernel
theorem dX1_sumGains_50 : decode cX1_sumGains 50 = .ok (.return_, 1) := by decide +kernel
theorem dX1_gainBetween_0 : decode cX1_gainBetween 0 = .ok (.iload_n 2, 1) := by decide +kernel
theorem dX1_gainBetween_1 : decode cX1_gainBetween 1 = .ok (.sipush 1000, 3) := by decide +kernel
theorem dX1_gainBetween_4 : decode cX1_gainBetween 4 = .ok (.invokestatic 74, 3) := by decide +kernel
theorem dX1_gainBetween_7 : decode cX1_gainBetween 7 = .ok (.istore_n 3, 1) := by decide +kernel
theorem dX1_gainBetween_8 : decode cX1_gainBetween 8 = .ok (.iload_n 1, 1) := by decide +kernel
theorem dX1_gainBetween_9 : decode cX1_gainBetween 9 = .ok (.ifCond .lt 24, 3) := by decide +kernel
theorem dX1_gainBetween_12 : decode cX1_gainBetween 12 = .ok (.iload_n 1, 1) := by decide +kernel
theorem dX1_gainBetween_13 : decode cX1_gainBetween 13 = .ok (.iload_n 3, 1) := by decide +kernel
theorem dX1_gainBetween_14 : decode cX1_gainBetween 14 = .ok (.if_icmp .ge 19, 3) := by decide +kernel
theorem dX1_gainBetween_17 : decode cX1_gainBetween 17 = .ok (.aload_n 0, 1) := by decide +kernel
theorem dX1_gainBetween_18 : decode cX1_gainBetween 18 = .ok (.getfield 13, 3) := by decide +kernel
theorem dX1_gainBetween_21 : decode cX1_gainBetween 21 = .ok (.iload_n 3, 1) := by decide +kernel
theorem dX1_gainBetween_22 : decode cX1_gainBetween 22 = .ok (.iaload, 1) := by decide +kernel
theorem dX1_gainBetween_23 : decode cX1_gainBetween 23 = .ok (.aload_n 0, 1) := by decide +kernel
theorem dX1_gainBetween_24 : decode cX1_gainBetween 24 = .ok (.getfield 13, 3) := by decide +kernel
theorem dX1_gainBetween_27 : decode cX1_gainBetween 27 = .ok (.iload_n 1, 1) := by decide +kernel
theorem dX1_gainBetween_28 : decode cX1_gainBetween 28 = .ok (.iaload, 1) := by decide +kernel
theorem dX1_gainBetween_29 : decode cX1_gainBetween 29 = .ok (.isub, 1) := by decide +kernel
theorem dX1_gainBetween_30 : decode cX1_gainBetween 30 = .ok (.goto 4, 3) := by decide +kernel
theorem dX1_gainBetween_33 : decode cX1_gainBetween 33 = .ok (.iconst 0, 1) := by decide +kernel
theorem dX1_gainBetween_34 : decode cX1_gainBetween 34 = .ok (.ireturn, 1) := by decide +kernel
theorem dX1_strengthAt_0 : decode cX1_strengthAt 0 = .ok (.iconst 1, 1) := by decide +kernel
theorem dX1_strengthAt_1 : decode cX1_strengthAt 1 = .ok (.istore_n 1, 1) := by decide +kernel
theorem dX1_strengthAt_2 : decode cX1_strengthAt 2 = .ok (.iload_n 1, 1) := by decide +kernel
theorem dX1_strengthAt_3 : decode cX1_strengthAt 3 = .ok (.getstatic 193, 3) := by decide +kernel
theorem dX1_strengthAt_6 : decode cX1_strengthAt 6 = .ok (.arraylength, 1) := by decide +kernel
theorem dX1_strengthAt_7 : decode cX1_strengthAt 7 = .ok (.if_icmp .ge 54, 3) := by decide +kernel
theorem dX1_strengthAt_10 : decode cX1_strengthAt 10 = .ok (.getstatic 193, 3) := by decide +kernel
theorem dX1_strengthAt_13 : decode cX1_strengthAt 13 = .ok (.iload_n 1, 1) := by decide +kernel
theorem dX1_strengthAt_14 : decode cX1_strengthAt 14 = .ok (.iconst 1, 1) := by decide +kernel
theorem dX1_strengthAt_15 : decode cX1_strengthAt 15 = .ok (.isub, 1) := by decide +kernel
theorem dX1_strengthAt_16 : decode cX1_strengthAt 16 = .ok (.iaload, 1) := by decide +kernel
theorem dX1_strengthAt_17 : decode cX1_strengthAt 17 = .ok (.istore_n 2, 1) := by decide +kernel
theorem dX1_strengthAt_18 : decode cX1_strengthAt 18 = .ok (.getstatic 193, 3) := by decide +kernel
theorem dX1_strengthAt_21 : decode cX1_strengthAt 21 = .ok (.iload_n 1, 1) := by decide +kernel
theorem dX1_strengthAt_22 : decode cX1_strengthAt 22 = .ok (.iaload, 1) := by decide +kernel
theorem dX1_strengthAt_23 : decode cX1_strengthAt 23 = .ok (.iload_n 2, 1) := by decide +kernel
theorem dX1_strengthAt_24 : decode cX1_strengthAt 24 = .ok (.isub, 1) := by decide +kernel
theorem dX1_strengthAt_25 : decode cX1_strengthAt 25 = .ok (.istore_n 3, 1) := by decide +kernel
theorem dX1_strengthAt_26 : decode cX1_strengthAt 26 = .ok (.iload_n 0, 1) := by decide +kernel
theorem dX1_strengthAt_27 : decode cX1_strengthAt 27 = .ok (.getstatic 193, 3) := by decide +kernel
theorem dX1_strengthAt_30 : decode cX1_strengthAt 30 = .ok (.iload_n 1, 1) := by decide +kernel
theorem dX1_strengthAt_31 : decode cX1_strengthAt 31 = .ok (.iaload, 1) := by decide +kernel
theorem dX1_strengthAt_32 : decode cX1_strengthAt 32 = .ok (.if_icmp .ge 23, 3) := by decide +kernel
theorem dX1_strengthAt_35 : decode cX1_strengthAt 35 = .ok (.iload_n 3, 1) := by decide +kernel
theorem dX1_strengthAt_36 : decode cX1_strengthAt 36 = .ok (.ifCond .le 19, 3) := by decide +kernel
theorem dX1_strengthAt_39 : decode cX1_strengthAt 39 = .ok (.bipush 25, 2) := by decide +kernel
theorem dX1_strengthAt_41 : decode cX1_strengthAt 41 = .ok (.iload_n 1, 1) := by decide +kernel
theorem dX1_strengthAt_42 : decode cX1_strengthAt 42 = .ok (.iconst 1, 1) := by decide +kernel
theorem dX1_strengthAt_43 : decode cX1_strengthAt 43 = .ok (.isub, 1) := by decide +kernel
theorem dX1_strengthAt_44 : decode cX1_strengthAt 44 = .ok (.imul, 1) := by decide +kernel
theorem dX1_strengthAt_45 : decode cX1_strengthAt 45 = .ok (.bipush 25, 2) := by decide +kernel
theorem dX1_strengthAt_47 : decode cX1_strengthAt 47 = .ok (.iload_n 0, 1) := by decide +kernel
theorem dX1_strengthAt_48 : decode cX1_strengthAt 48 = .ok (.iload_n 2, 1) := by decide +kernel
theorem dX1_strengthAt_49 : decode cX1_strengthAt 49 = .ok (.isub, 1) := by decide +kernel
theorem dX1_strengthAt_50 : decode cX1_strengthAt 50 = .ok (.imul, 1) := by decide +kernel
theorem dX1_strengthAt_51 : decode cX1_strengthAt 51 = .ok (.iload_n 3, 1) := by decide +kernel
theorem dX1_strengthAt_52 : decode cX1_strengthAt 52 = .ok (.idiv, 1) := by decide +kernel
theorem dX1_strengthAt_53 : decode cX1_strengthAt 53 = .ok (.iadd, 1) := by decide +kernel
theorem dX1_strengthAt_54 : decode cX1_strengthAt 54 = .ok (.ireturn, 1) := by decide +kernel
theorem dX1_strengthAt_55 : decode cX1_strengthAt 55 = .ok (.iinc 1 1, 3) := by decide +kernel
theorem dX1_strengthAt_58 : decode cX1_strengthAt 58 = .ok (.goto (-56), 3) := by decide +kernel
theorem dX1_strengthAt_61 : decode cX1_strengthAt 61 = .ok (.bipush 100, 2) := by decide +kernel
theorem dX1_strengthAt_63 : decode cX1_strengthAt 63 = .ok (.ireturn, 1) := by decide +kernel
theorem dX1_fullHours_0 : decode cX1_fullHours 0 = .ok (.aload_n 0, 1) := by decide +kernel
theorem dX1_fullHours_1 : decode cX1_fullHours 1 = .ok (.getfield 32, 3) := by decide +kernel
theorem dX1_fullHours_4 : decode cX1_fullHours 4 = .ok (.ifCond .le 12, 3) := by decide +kernel
theorem dX1_fullHours_7 : decode cX1_fullHours 7 = .ok (.iload_n 1, 1) := by decide +kernel
theorem dX1_fullHours_8 : decode cX1_fullHours 8 = .ok (.aload_n 0, 1) := by decide +kernel
theorem dX1_fullHours_9 : decode cX1_fullHours 9 = .ok (.getfield 32, 3) := by decide +kernel
theorem dX1_fullHours_12 : decode cX1_fullHours 12 = .ok (.idiv, 1) := by decide +kernel
theorem dX1_fullHours_13 : decode cX1_fullHours 13 = .ok (.goto 4, 3) := by decide +kernel
theorem dX1_fullHours_16 : decode cX1_fullHours 16 = .ok (.iconst 0, 1) := by decide +kernel
theorem dX1_fullHours_17 : decode cX1_fullHours 17 = .ok (.ireturn, 1) := by decide +kernel
set_option maxRecDepth 20000 in
theorem ggX1_startedHours_X1_fullHours : GoodIn wsX1_startedHours wsX1_fullHours := goodIn_r _ [6, 1, 7, 8, 9, 10, 11, 12, 13, 14, 15] (by decide +kernel) (by decide +kernel)
set_option maxRecDepth 20000 in
theorem gX1_startedHours_X1_fullHours : GoodIn wsX1_startedHours (wsV RX1 126 RX1 yX1_fullHours wsX1_fullHours) := goodIn_app (goodIn_of _ (by decide +kernel)) ggX1_startedHours_X1_fullHours
theorem dX1_startedHours_0 : decode cX1_startedHours 0 = .ok (.aload_n 0, 1) := by decide +kernel
theorem dX1_startedHours_1 : decode cX1_startedHours 1 = .ok (.iload_n 1, 1) := by decide +kernel
theorem dX1_startedHours_2 : decode cX1_startedHours 2 = .ok (.aload_n 0, 1) := by decide +kernel
theorem dX1_startedHours_3 : decode cX1_startedHours 3 = .ok (.getfield 32, 3) := by decide +kernel
theorem dX1_startedHours_6 : decode cX1_startedHours 6 = .ok (.iadd, 1) := by decide +kernel
theorem dX1_startedHours_7 : decode cX1_startedHours 7 = .ok (.iconst 1, 1) := by decide +kernel
theorem dX1_startedHours_8 : decode cX1_startedHours 8 = .ok (.isub, 1) := by decide +kernel
theorem dX1_startedHours_9 : decode cX1_startedHours 9 = .ok (.invokevirtual 126, 3) := by decide +kernel
theorem dX1_startedHours_12 : decode cX1_startedHours 12 = .ok (.ireturn, 1) := by decide +kernel
theorem dX1_standHour_0 : decode cX1_standHour 0 = .ok (.iconst 0, 1) := by decide +kernel
theorem dX1_standHour_1 : decode cX1_standHour 1 = .ok (.iload_n 1, 1) := by decide +kernel
theorem dX1_standHour_2 : decode cX1_standHour 2 = .ok (.aload_n 0, 1) := by decide +kernel
theorem dX1_standHour_3 : decode cX1_standHour 3 = .ok (.getfield 35, 3) := by decide +kernel
theorem dX1_standHour_6 : decode cX1_standHour 6 = .ok (.isub, 1) := by decide +kernel
theorem dX1_standHour_7 : decode cX1_standHour 7 = .ok (.invokestatic 144, 3) := by decide +kernel
theorem dX1_standHour_10 : decode cX1_standHour 10 = .ok (.ireturn, 1) := by decide +kernel
set_option maxRecDepth 20000 in
theorem ggX1_strikeHour_X1_gainBetween : GoodIn wsX1_strikeHour wsX1_gainBetween := goodIn_r _ [5, 6, 7, 8, 9, 10, 15, 16, 17, 18, 19, 20, 21, 22, 23] (by decide +kernel) (by decide +kernel)
set_option maxRecDepth 20000 in
theorem gX1_strikeHour_X1_gainBetween : GoodIn wsX1_strikeHour (wsV RX1 65 RX1 yX1_gainBetween wsX1_gainBetween) := goodIn_app (goodIn_of _ (by decide +kernel)) ggX1_strikeHour_X1_gainBetween
set_option maxRecDepth 20000 in
theorem ggX1_strikeHour_X1_strengthAt : GoodIn wsX1_strikeHour wsX1_strengthAt := goodIn_r _ [13, 14] (by decide +kernel) (by decide +kernel)
set_option maxRecDepth 20000 in
theorem gX1_strikeHour_X1_strengthAt : GoodIn wsX1_strikeHour (va_wsS RX1 70 yX1_strengthAt wsX1_strengthAt) := goodIn_app (goodIn_of _ (by decide +kernel)) ggX1_strikeHour_X1_strengthAt
theorem dX1_strikeHour_0 : decode cX1_strikeHour 0 = .ok (.iload_n 1, 1) := by decide +kernel
theorem dX1_strikeHour_1 : decode cX1_strikeHour 1 = .ok (.iconst 1, 1) := by decide +kernel
theorem dX1_strikeHour_2 : decode cX1_strikeHour 2 = .ok (.isub, 1) := by decide +kernel
theorem dX1_strikeHour_3 : decode cX1_strikeHour 3 = .ok (.istore_n 3, 1) := by decide +kernel
theorem dX1_strikeHour_4 : decode cX1_strikeHour 4 = .ok (.sipush 512, 3) := by decide +kernel
theorem dX1_strikeHour_7 : decode cX1_strikeHour 7 = .ok (.istore 4, 2) := by decide +kernel
theorem dX1_strikeHour_9 : decode cX1_strikeHour 9 = .ok (.iload 4, 2) := by decide +kernel
theorem dX1_strikeHour_11 : decode cX1_strikeHour 11 = .ok (.ifCond .le 43, 3) := by decide +kernel
theorem dX1_strikeHour_14 : decode cX1_strikeHour 14 = .ok (.iload_n 3, 1) := by decide +kernel
theorem dX1_strikeHour_15 : decode cX1_strikeHour 15 = .ok (.iload 4, 2) := by decide +kernel
theorem dX1_strikeHour_17 : decode cX1_strikeHour 17 = .ok (.iadd, 1) := by decide +kernel
theorem dX1_strikeHour_18 : decode cX1_strikeHour 18 = .ok (.istore 5, 2) := by decide +kernel
theorem dX1_strikeHour_20 : decode cX1_strikeHour 20 = .ok (.iload 5, 2) := by decide +kernel
theorem dX1_strikeHour_22 : decode cX1_strikeHour 22 = .ok (.sipush 1000, 3) := by decide +kernel
theorem dX1_strikeHour_25 : decode cX1_strikeHour 25 = .ok (.if_icmp .ge 20, 3) := by decide +kernel
theorem dX1_strikeHour_28 : decode cX1_strikeHour 28 = .ok (.aload_n 0, 1) := by decide +kernel
theorem dX1_strikeHour_29 : decode cX1_strikeHour 29 = .ok (.iload_n 1, 1) := by decide +kernel
theorem dX1_strikeHour_30 : decode cX1_strikeHour 30 = .ok (.iload 5, 2) := by decide +kernel
theorem dX1_strikeHour_32 : decode cX1_strikeHour 32 = .ok (.invokevirtual 65, 3) := by decide +kernel
theorem dX1_strikeHour_35 : decode cX1_strikeHour 35 = .ok (.invokestatic 70, 3) := by decide +kernel
theorem dX1_strikeHour_38 : decode cX1_strikeHour 38 = .ok (.iload_n 2, 1) := by decide +kernel
theorem dX1_strikeHour_39 : decode cX1_strikeHour 39 = .ok (.if_icmp .ge 6, 3) := by decide +kernel
theorem dX1_strikeHour_42 : decode cX1_strikeHour 42 = .ok (.iload 5, 2) := by decide +kernel
theorem dX1_strikeHour_44 : decode cX1_strikeHour 44 = .ok (.istore_n 3, 1) := by decide +kernel
theorem dX1_strikeHour_45 : decode cX1_strikeHour 45 = .ok (.iload 4, 2) := by decide +kernel
theorem dX1_strikeHour_47 : decode cX1_strikeHour 47 = .ok (.iconst 2, 1) := by decide +kernel
theorem dX1_strikeHour_48 : decode cX1_strikeHour 48 = .ok (.idiv, 1) := by decide +kernel
theorem dX1_strikeHour_49 : decode cX1_strikeHour 49 = .ok (.istore 4, 2) := by decide +kernel
theorem dX1_strikeHour_51 : decode cX1_strikeHour 51 = .ok (.goto (-42), 3) := by decide +kernel
theorem dX1_strikeHour_54 : decode cX1_strikeHour 54 = .ok (.iload_n 3, 1) := by decide +kernel
theorem dX1_strikeHour_55 : decode cX1_strikeHour 55 = .ok (.iconst 1, 1) := by decide +kernel
theorem dX1_strikeHour_56 : decode cX1_strikeHour 56 = .ok (.iadd, 1) := by decide +kernel
theorem dX1_strikeHour_57 : decode cX1_strikeHour 57 = .ok (.istore 4, 2) := by decide +kernel
theorem dX1_strikeHour_59 : decode cX1_strikeHour 59 = .ok (.iload 4, 2) := by decide +kernel
theorem dX1_strikeHour_61 : decode cX1_strikeHour 61 = .ok (.sipush 1000, 3) := by decide +kernel
theorem dX1_strikeHour_64 : decode cX1_strikeHour 64 = .ok (.if_icmp .ge 8, 3) := by decide +kernel
theorem dX1_strikeHour_67 : decode cX1_strikeHour 67 = .ok (.iload 4, 2) := by decide +kernel
theorem dX1_strikeHour_69 : decode cX1_strikeHour 69 = .ok (.goto 4, 3) := by decide +kernel
theorem dX1_strikeHour_72 : decode cX1_strikeHour 72 = .ok (.iconst (-1), 1) := by decide +kernel
theorem dX1_strikeHour_73 : decode cX1_strikeHour 73 = .ok (.ireturn, 1) := by decide +kernel
theorem dX1_releaseHour_0 : decode cX1_releaseHour 0 = .ok (.iload_n 1, 1) := by decide +kernel
theorem dX1_releaseHour_1 : decode cX1_releaseHour 1 = .ok (.iconst (-1), 1) := by decide +kernel
theorem dX1_releaseHour_2 : decode cX1_releaseHour 2 = .ok (.if_icmp .ne 9, 3) := by decide +kernel
theorem dX1_releaseHour_5 : decode cX1_releaseHour 5 = .ok (.sipush 1000, 3) := by decide +kernel
theorem dX1_releaseHour_8 : decode cX1_releaseHour 8 = .ok (.goto 15, 3) := by decide +kernel
theorem dX1_releaseHour_11 : decode cX1_releaseHour 11 = .ok (.sipush 1000, 3) := by decide +kernel
theorem dX1_releaseHour_14 : decode cX1_releaseHour 14 = .ok (.iload_n 1, 1) := by decide +kernel
theorem dX1_releaseHour_15 : decode cX1_releaseHour 15 = .ok (.aload_n 0, 1) := by decide +kernel
theorem dX1_releaseHour_16 : decode cX1_releaseHour 16 = .ok (.getfield 38, 3) := by decide +kernel
theorem dX1_releaseHour_19 : decode cX1_releaseHour 19 = .ok (.iadd, 1) := by decide +kernel
theorem dX1_releaseHour_20 : decode cX1_releaseHour 20 = .ok (.invokestatic 74, 3) := by decide +kernel
theorem dX1_releaseHour_23 : decode cX1_releaseHour 23 = .ok (.ireturn, 1) := by decide +kernel
set_option maxRecDepth 20000 in
theorem ggX1_schedule_X1_startedHours : GoodIn wsX1_schedule wsX1_startedHours := goodIn_r _ [5, 6, 7, 8, 9, 4, 10, 60, 61, 62, 63, 64, 65, 66, 67, 68] (by decide +kernel) (by decide +kernel)
set_option maxRecDepth 20000 in
theorem gX1_schedule_X1_startedHours : GoodIn wsX1_schedule (wsV RX1 153 RX1 yX1_startedHours wsX1_startedHours) := goodIn_app (goodIn_of _ (by decide +kernel)) ggX1_schedule_X1_startedHours
set_option maxRecDepth 20000 in
theorem ggX1_schedule_X0_hoursOfBreaks : GoodIn wsX1_schedule wsX0_hoursOfBreaks := goodIn_r _ [14, 15, 16, 47, 48, 49, 50, 51, 52, 53, 54, 55, 56, 57, 58, 59] (by decide +kernel) (by decide +kernel)
set_option maxRecDepth 20000 in
theorem gX1_schedule_X0_hoursOfBreaks_n196 : GoodIn wsX1_schedule (wsX0_hoursOfBreaks) := ggX1_schedule_X0_hoursOfBreaks
set_option maxRecDepth 20000 in
theorem ggX1_schedule_X1_strikeHour : GoodIn wsX1_schedule wsX1_strikeHour := goodIn_r _ [20, 21, 22, 23, 4, 24, 25, 26, 27, 28, 29, 30, 31, 32, 33, 60, 61, 62, 63, 64, 65, 66, 67, 68] (by decide +kernel) (by decide +kernel)
set_option maxRecDepth 20000 in
theorem gX1_schedule_X1_strikeHour : GoodIn wsX1_schedule (wsV RX1 159 RX1 yX1_strikeHour wsX1_strikeHour) := goodIn_app (goodIn_of _ (by decide +kernel)) ggX1_schedule_X1_strikeHour
set_option maxRecDepth 20000 in
theorem ggX1_schedule_X1_standHour : GoodIn wsX1_schedule wsX1_standHour := goodIn_r _ [37, 38, 39, 40, 27, 41, 60, 61, 62, 63, 64, 65, 66, 67, 68] (by decide +kernel) (by decide +kernel)
set_option maxRecDepth 20000 in
theorem gX1_schedule_X1_standHour : GoodIn wsX1_schedule (wsV RX1 156 RX1 yX1_standHour wsX1_standHour) := goodIn_app (goodIn_of _ (by decide +kernel)) ggX1_schedule_X1_standHour
set_option maxRecDepth 20000 in
theorem ggX1_schedule_X1_releaseHour : GoodIn wsX1_schedule wsX1_releaseHour := goodIn_r _ [45, 46, 25, 26, 27, 28, 60, 61, 62, 63, 64, 65, 66, 67, 68] (by decide +kernel) (by decide +kernel)
set_option maxRecDepth 20000 in
theorem gX1_schedule_X1_releaseHour : GoodIn wsX1_schedule (wsV RX1 162 RX1 yX1_releaseHour wsX1_releaseHour) := goodIn_app (goodIn_of _ (by decide +kernel)) ggX1_schedule_X1_releaseHour
theorem dX1_schedule_0 : decode cX1_schedule 0 = .ok (.aload_n 1, 1) := by decide +kernel
theorem dX1_schedule_1 : decode cX1_schedule 1 = .ok (.aload_n 1, 1) := by decide +kernel
theorem dX1_schedule_2 : decode cX1_schedule 2 = .ok (.getfield 104, 3) := by decide +kernel
theorem dX1_schedule_5 : decode cX1_schedule 5 = .ok (.aload_n 0, 1) := by decide +kernel
theorem dX1_schedule_6 : decode cX1_schedule 6 = .ok (.aload_n 1, 1) := by decide +kernel
theorem dX1_schedule_7 : decode cX1_schedule 7 = .ok (.getfield 110, 3) := by decide +kernel
theorem dX1_schedule_10 : decode cX1_schedule 10 = .ok (.invokevirtual 153, 3) := by decide +kernel
theorem dX1_schedule_13 : decode cX1_schedule 13 = .ok (.iadd, 1) := by decide +kernel
theorem dX1_schedule_14 : decode cX1_schedule 14 = .ok (.aload_n 1, 1) := by decide +kernel
theorem dX1_schedule_15 : decode cX1_schedule 15 = .ok (.invokevirtual 196, 3) := by decide +kernel
theorem dX1_schedule_18 : decode cX1_schedule 18 = .ok (.iadd, 1) := by decide +kernel
theorem dX1_schedule_19 : decode cX1_schedule 19 = .ok (.putfield 120, 3) := by decide +kernel
theorem dX1_schedule_22 : decode cX1_schedule 22 = .ok (.aload_n 1, 1) := by decide +kernel
theorem dX1_schedule_23 : decode cX1_schedule 23 = .ok (.aload_n 0, 1) := by decide +kernel
theorem dX1_schedule_24 : decode cX1_schedule 24 = .ok (.aload_n 1, 1) := by decide +kernel
theorem dX1_schedule_25 : decode cX1_schedule 25 = .ok (.getfield 120, 3) := by decide +kernel
theorem dX1_schedule_28 : decode cX1_schedule 28 = .ok (.aload_n 1, 1) := by decide +kernel
theorem dX1_schedule_29 : decode cX1_schedule 29 = .ok (.getfield 199, 3) := by decide +kernel
theorem dX1_schedule_32 : decode cX1_schedule 32 = .ok (.invokevirtual 159, 3) := by decide +kernel
theorem dX1_schedule_35 : decode cX1_schedule 35 = .ok (.putfield 132, 3) := by decide +kernel
theorem dX1_schedule_38 : decode cX1_schedule 38 = .ok (.aload_n 1, 1) := by decide +kernel
theorem dX1_schedule_39 : decode cX1_schedule 39 = .ok (.aload_n 0, 1) := by decide +kernel
theorem dX1_schedule_40 : decode cX1_schedule 40 = .ok (.aload_n 1, 1) := by decide +kernel
theorem dX1_schedule_41 : decode cX1_schedule 41 = .ok (.getfield 104, 3) := by decide +kernel
theorem dX1_schedule_44 : decode cX1_schedule 44 = .ok (.invokevirtual 156, 3) := by decide +kernel
theorem dX1_schedule_47 : decode cX1_schedule 47 = .ok (.putfield 147, 3) := by decide +kernel
theorem dX1_schedule_50 : decode cX1_schedule 50 = .ok (.aload_n 1, 1) := by decide +kernel
theorem dX1_schedule_51 : decode cX1_schedule 51 = .ok (.aload_n 0, 1) := by decide +kernel
theorem dX1_schedule_52 : decode cX1_schedule 52 = .ok (.aload_n 1, 1) := by decide +kernel
theorem dX1_schedule_53 : decode cX1_schedule 53 = .ok (.getfield 132, 3) := by decide +kernel
theorem dX1_schedule_56 : decode cX1_schedule 56 = .ok (.invokevirtual 162, 3) := by decide +kernel
theorem dX1_schedule_59 : decode cX1_schedule 59 = .ok (.putfield 135, 3) := by decide +kernel
theorem dX1_schedule_62 : decode cX1_schedule 62 = .ok (.return_, 1) := by decide +kernel
set_option maxRecDepth 20000 in
theorem ggX1_scheduleAll_X1_schedule : GoodIn wsX1_scheduleAll wsX1_schedule := goodIn_r _ [6, 7, 8, 9, 5, 10, 11, 12, 13, 14, 15, 16, 17, 18, 19, 20, 21, 22, 23, 24, 25, 26, 27, 28, 29, 30, 31, 32, 33, 34, 35, 36, 37, 38, 39, 40, 41, 42, 43, 44, 45, 46, 47, 48, 49, 50, 51, 61, 62, 63, 64, 65, 66, 67, 68, 69, 70, 71, 72, 73, 52, 53, 54, 55, 56, 57, 58, 59, 60] (by decide +kernel) (by decide +kernel)
set_option maxRecDepth 20000 in
theorem gX1_scheduleAll_X1_schedule : GoodIn wsX1_scheduleAll (wsV RX1 96 RX1 yX1_schedule wsX1_schedule) := goodIn_app (goodIn_of _ (by decide +kernel)) ggX1_scheduleAll_X1_schedule
theorem dX1_scheduleAll_0 : decode cX1_scheduleAll 0 = .ok (.aload_n 0, 1) := by decide +kernel
theorem dX1_scheduleAll_1 : decode cX1_scheduleAll 1 = .ok (.getfield 24, 3) := by decide +kernel
theorem dX1_scheduleAll_4 : decode cX1_scheduleAll 4 = .ok (.astore_n 1, 1) := by decide +kernel
theorem dX1_scheduleAll_5 : decode cX1_scheduleAll 5 = .ok (.aload_n 1, 1) := by decide +kernel
theorem dX1_scheduleAll_6 : decode cX1_scheduleAll 6 = .ok (.arraylength, 1) := by decide +kernel
theorem dX1_scheduleAll_7 : decode cX1_scheduleAll 7 = .ok (.istore_n 2, 1) := by decide +kernel
theorem dX1_scheduleAll_8 : decode cX1_scheduleAll 8 = .ok (.iconst 0, 1) := by decide +kernel
theorem dX1_scheduleAll_9 : decode cX1_scheduleAll 9 = .ok (.istore_n 3, 1) := by decide +kernel
theorem dX1_scheduleAll_10 : decode cX1_scheduleAll 10 = .ok (.iload_n 3, 1) := by decide +kernel
theorem dX1_scheduleAll_11 : decode cX1_scheduleAll 11 = .ok (.iload_n 2, 1) := by decide +kernel
theorem dX1_scheduleAll_12 : decode cX1_scheduleAll 12 = .ok (.if_icmp .ge 25, 3) := by decide +kernel
theorem dX1_scheduleAll_15 : decode cX1_scheduleAll 15 = .ok (.aload_n 1, 1) := by decide +kernel
theorem dX1_scheduleAll_16 : decode cX1_scheduleAll 16 = .ok (.iload_n 3, 1) := by decide +kernel
theorem dX1_scheduleAll_17 : decode cX1_scheduleAll 17 = .ok (.aaload, 1) := by decide +kernel
theorem dX1_scheduleAll_18 : decode cX1_scheduleAll 18 = .ok (.astore 4, 2) := by decide +kernel
theorem dX1_scheduleAll_20 : decode cX1_scheduleAll 20 = .ok (.aload 4, 2) := by decide +kernel
theorem dX1_scheduleAll_22 : decode cX1_scheduleAll 22 = .ok (.ifnull 9, 3) := by decide +kernel
theorem dX1_scheduleAll_25 : decode cX1_scheduleAll 25 = .ok (.aload_n 0, 1) := by decide +kernel
theorem dX1_scheduleAll_26 : decode cX1_scheduleAll 26 = .ok (.aload 4, 2) := by decide +kernel
theorem dX1_scheduleAll_28 : decode cX1_scheduleAll 28 = .ok (.invokevirtual 96, 3) := by decide +kernel
theorem dX1_scheduleAll_31 : decode cX1_scheduleAll 31 = .ok (.iinc 3 1, 3) := by decide +kernel
theorem dX1_scheduleAll_34 : decode cX1_scheduleAll 34 = .ok (.goto (-24), 3) := by decide +kernel
theorem dX1_scheduleAll_37 : decode cX1_scheduleAll 37 = .ok (.return_, 1) := by decide +kernel
set_option maxRecDepth 20000 in
theorem ggX1_needIn_X0_isBusy : GoodIn wsX1_needIn wsX0_isBusy := goodIn_r _ [5, 6, 7, 17, 18, 19, 20, 21, 22, 23, 24, 25, 26, 27, 28, 29] (by decide +kernel) (by decide +kernel)
set_option maxRecDepth 20000 in
theorem gX1_needIn_X0_isBusy_n184 : GoodIn wsX1_needIn (wsX0_isBusy) := ggX1_needIn_X0_isBusy
theorem dX1_needIn_0 : decode cX1_needIn 0 = .ok (.iconst 0, 1) := by decide +kernel
theorem dX1_needIn_1 : decode cX1_needIn 1 = .ok (.istore_n 2, 1) := by decide +kernel
theorem dX1_needIn_2 : decode cX1_needIn 2 = .ok (.aload_n 0, 1) := by decide +kernel
theorem dX1_needIn_3 : decode cX1_needIn 3 = .ok (.getfield 24, 3) := by decide +kernel
theorem dX1_needIn_6 : decode cX1_needIn 6 = .ok (.astore_n 3, 1) := by decide +kernel
theorem dX1_needIn_7 : decode cX1_needIn 7 = .ok (.aload_n 3, 1) := by decide +kernel
theorem dX1_needIn_8 : decode cX1_needIn 8 = .ok (.arraylength, 1) := by decide +kernel
theorem dX1_needIn_9 : decode cX1_needIn 9 = .ok (.istore 4, 2) := by decide +kernel
theorem dX1_needIn_11 : decode cX1_needIn 11 = .ok (.iconst 0, 1) := by decide +kernel
theorem dX1_needIn_12 : decode cX1_needIn 12 = .ok (.istore 5, 2) := by decide +kernel
theorem dX1_needIn_14 : decode cX1_needIn 14 = .ok (.iload 5, 2) := by decide +kernel
theorem dX1_needIn_16 : decode cX1_needIn 16 = .ok (.iload 4, 2) := by decide +kernel
theorem dX1_needIn_18 : decode cX1_needIn 18 = .ok (.if_icmp .ge 37, 3) := by decide +kernel
theorem dX1_needIn_21 : decode cX1_needIn 21 = .ok (.aload_n 3, 1) := by decide +kernel
theorem dX1_needIn_22 : decode cX1_needIn 22 = .ok (.iload 5, 2) := by decide +kernel
theorem dX1_needIn_24 : decode cX1_needIn 24 = .ok (.aaload, 1) := by decide +kernel
theorem dX1_needIn_25 : decode cX1_needIn 25 = .ok (.astore 6, 2) := by decide +kernel
theorem dX1_needIn_27 : decode cX1_needIn 27 = .ok (.aload 6, 2) := by decide +kernel
theorem dX1_needIn_29 : decode cX1_needIn 29 = .ok (.ifnull 20, 3) := by decide +kernel
theorem dX1_needIn_32 : decode cX1_needIn 32 = .ok (.aload 6, 2) := by decide +kernel
theorem dX1_needIn_34 : decode cX1_needIn 34 = .ok (.iload_n 1, 1) := by decide +kernel
theorem dX1_needIn_35 : decode cX1_needIn 35 = .ok (.invokevirtual 184, 3) := by decide +kernel
theorem dX1_needIn_38 : decode cX1_needIn 38 = .ok (.ifCond .eq 11, 3) := by decide +kernel
theorem dX1_needIn_41 : decode cX1_needIn 41 = .ok (.iload_n 2, 1) := by decide +kernel
theorem dX1_needIn_42 : decode cX1_needIn 42 = .ok (.aload 6, 2) := by decide +kernel
theorem dX1_needIn_44 : decode cX1_needIn 44 = .ok (.getfield 107, 3) := by decide +kernel
theorem dX1_needIn_47 : decode cX1_needIn 47 = .ok (.iadd, 1) := by decide +kernel
theorem dX1_needIn_48 : decode cX1_needIn 48 = .ok (.istore_n 2, 1) := by decide +kernel
theorem dX1_needIn_49 : decode cX1_needIn 49 = .ok (.iinc 5 1, 3) := by decide +kernel
theorem dX1_needIn_52 : decode cX1_needIn 52 = .ok (.goto (-38), 3) := by decide +kernel
theorem dX1_needIn_55 : decode cX1_needIn 55 = .ok (.iload_n 2, 1) := by decide +kernel
theorem dX1_needIn_56 : decode cX1_needIn 56 = .ok (.ireturn, 1) := by decide +kernel
set_option maxRecDepth 20000 in
theorem ggX1_sumNeeds_X1_needIn : GoodIn wsX1_sumNeeds wsX1_needIn := goodIn_r _ [6, 7, 8, 9, 10, 11, 12, 13, 14, 15, 16, 17, 18, 19, 20, 21, 22, 23, 24, 25, 26, 27, 28, 29, 30, 31, 32, 33, 34, 35] (by decide +kernel) (by decide +kernel)
set_option maxRecDepth 20000 in
theorem gX1_sumNeeds_X1_needIn : GoodIn wsX1_sumNeeds (wsV RX1 138 RX1 yX1_needIn wsX1_needIn) := goodIn_app (goodIn_of _ (by decide +kernel)) ggX1_sumNeeds_X1_needIn
theorem dX1_sumNeeds_0 : decode cX1_sumNeeds 0 = .ok (.iconst 0, 1) := by decide +kernel
theorem dX1_sumNeeds_1 : decode cX1_sumNeeds 1 = .ok (.istore_n 1, 1) := by decide +kernel
theorem dX1_sumNeeds_2 : decode cX1_sumNeeds 2 = .ok (.iload_n 1, 1) := by decide +kernel
theorem dX1_sumNeeds_3 : decode cX1_sumNeeds 3 = .ok (.sipush 1000, 3) := by decide +kernel
theorem dX1_sumNeeds_6 : decode cX1_sumNeeds 6 = .ok (.if_icmp .ge 20, 3) := by decide +kernel
theorem dX1_sumNeeds_9 : decode cX1_sumNeeds 9 = .ok (.aload_n 0, 1) := by decide +kernel
theorem dX1_sumNeeds_10 : decode cX1_sumNeeds 10 = .ok (.getfield 16, 3) := by decide +kernel
theorem dX1_sumNeeds_13 : decode cX1_sumNeeds 13 = .ok (.iload_n 1, 1) := by decide +kernel
theorem dX1_sumNeeds_14 : decode cX1_sumNeeds 14 = .ok (.aload_n 0, 1) := by decide +kernel
theorem dX1_sumNeeds_15 : decode cX1_sumNeeds 15 = .ok (.iload_n 1, 1) := by decide +kernel
theorem dX1_sumNeeds_16 : decode cX1_sumNeeds 16 = .ok (.invokevirtual 138, 3) := by decide +kernel
theorem dX1_sumNeeds_19 : decode cX1_sumNeeds 19 = .ok (.iastore, 1) := by decide +kernel
theorem dX1_sumNeeds_20 : decode cX1_sumNeeds 20 = .ok (.iinc 1 1, 3) := by decide +kernel
theorem dX1_sumNeeds_23 : decode cX1_sumNeeds 23 = .ok (.goto (-21), 3) := by decide +kernel
theorem dX1_sumNeeds_26 : decode cX1_sumNeeds 26 = .ok (.return_, 1) := by decide +kernel
theorem dX1_markFullHours_0 : decode cX1_markFullHours 0 = .ok (.aload_n 0, 1) := by decide +kernel
theorem dX1_markFullHours_1 : decode cX1_markFullHours 1 = .ok (.getfield 19, 3) := by decide +kernel
theorem dX1_markFullHours_4 : decode cX1_markFullHours 4 = .ok (.sipush 1000, 3) := by decide +kernel
theorem dX1_markFullHours_7 : decode cX1_markFullHours 7 = .ok (.sipush 1000, 3) := by decide +kernel
theorem dX1_markFullHours_10 : decode cX1_markFullHours 10 = .ok (.iastore, 1) := by decide +kernel
theorem dX1_markFullHours_11 : decode cX1_markFullHours 11 = .ok (.sipush 999, 3) := by decide +kernel
theorem dX1_markFullHours_14 : decode cX1_markFullHours 14 = .ok (.istore_n 2, 1) := by decide +kernel
theorem dX1_markFullHours_15 : decode cX1_markFullHours 15 = .ok (.iload_n 2, 1) := by decide +kernel
theorem dX1_markFullHours_16 : decode cX1_markFullHours 16 = .ok (.ifCond .lt 52, 3) := by decide +kernel
theorem dX1_markFullHours_19 : decode cX1_markFullHours 19 = .ok (.aload_n 0, 1) := by decide +kernel
theorem dX1_markFullHours_20 : decode cX1_markFullHours 20 = .ok (.getfield 16, 3) := by decide +kernel
theorem dX1_markFullHours_23 : decode cX1_markFullHours 23 = .ok (.iload_n 2, 1) := by decide +kernel
theorem dX1_markFullHours_24 : decode cX1_markFullHours 24 = .ok (.iaload, 1) := by decide +kernel
theorem dX1_markFullHours_25 : decode cX1_markFullHours 25 = .ok (.iload_n 1, 1) := by decide +kernel
theorem dX1_markFullHours_26 : decode cX1_markFullHours 26 = .ok (.iadd, 1) := by decide +kernel
theorem dX1_markFullHours_27 : decode cX1_markFullHours 27 = .ok (.aload_n 0, 1) := by decide +kernel
theorem dX1_markFullHours_28 : decode cX1_markFullHours 28 = .ok (.getfield 28, 3) := by decide +kernel
theorem dX1_markFullHours_31 : decode cX1_markFullHours 31 = .ok (.if_icmp .le 7, 3) := by decide +kernel
theorem dX1_markFullHours_34 : decode cX1_markFullHours 34 = .ok (.iconst 1, 1) := by decide +kernel
theorem dX1_markFullHours_35 : decode cX1_markFullHours 35 = .ok (.goto 4, 3) := by decide +kernel
theorem dX1_markFullHours_38 : decode cX1_markFullHours 38 = .ok (.iconst 0, 1) := by decide +kernel
theorem dX1_markFullHours_39 : decode cX1_markFullHours 39 = .ok (.istore_n 3, 1) := by decide +kernel
theorem dX1_markFullHours_40 : decode cX1_markFullHours 40 = .ok (.aload_n 0, 1) := by decide +kernel
theorem dX1_markFullHours_41 : decode cX1_markFullHours 41 = .ok (.getfield 19, 3) := by decide +kernel
theorem dX1_markFullHours_44 : decode cX1_markFullHours 44 = .ok (.iload_n 2, 1) := by decide +kernel
theorem dX1_markFullHours_45 : decode cX1_markFullHours 45 = .ok (.iload_n 3, 1) := by decide +kernel
theorem dX1_markFullHours_46 : decode cX1_markFullHours 46 = .ok (.ifCond .eq 7, 3) := by decide +kernel
theorem dX1_markFullHours_49 : decode cX1_markFullHours 49 = .ok (.iload_n 2, 1) := by decide +kernel
theorem dX1_markFullHours_50 : decode cX1_markFullHours 50 = .ok (.goto 11, 3) := by decide +kernel
theorem dX1_markFullHours_53 : decode cX1_markFullHours 53 = .ok (.aload_n 0, 1) := by decide +kernel
theorem dX1_markFullHours_54 : decode cX1_markFullHours 54 = .ok (.getfield 19, 3) := by decide +kernel
theorem dX1_markFullHours_57 : decode cX1_markFullHours 57 = .ok (.iload_n 2, 1) := by decide +kernel
theorem dX1_markFullHours_58 : decode cX1_markFullHours 58 = .ok (.iconst 1, 1) := by decide +kernel
theorem dX1_markFullHours_59 : decode cX1_markFullHours 59 = .ok (.iadd, 1) := by decide +kernel
theorem dX1_markFullHours_60 : decode cX1_markFullHours 60 = .ok (.iaload, 1) := by decide +kernel
theorem dX1_markFullHours_61 : decode cX1_markFullHours 61 = .ok (.iastore, 1) := by decide +kernel
theorem dX1_markFullHours_62 : decode cX1_markFullHours 62 = .ok (.iinc 2 (-1), 3) := by decide +kernel
theorem dX1_markFullHours_65 : decode cX1_markFullHours 65 = .ok (.goto (-50), 3) := by decide +kernel
theorem dX1_markFullHours_68 : decode cX1_markFullHours 68 = .ok (.return_, 1) := by decide +kernel
set_option maxRecDepth 20000 in
theorem ggX1_giveOutPanels_X1_nextToServe : GoodIn wsX1_giveOutPanels wsX1_nextToServe := goodIn_r _ [6, 1, 22, 23, 24, 25, 26, 27, 28, 29, 30, 31, 32, 33, 34, 35, 36, 37, 38, 39, 40, 41, 42, 43] (by decide +kernel) (by decide +kernel)
set_option maxRecDepth 20000 in
theorem gX1_giveOutPanels_X1_nextToServe : GoodIn wsX1_giveOutPanels (wsV RX1 206 RX1 yX1_nextToServe wsX1_nextToServe) := goodIn_app (goodIn_of _ (by decide +kernel)) ggX1_giveOutPanels_X1_nextToServe
set_option maxRecDepth 20000 in
theorem ggX1_giveOutPanels_X1_panelsBusyIn : GoodIn wsX1_giveOutPanels wsX1_panelsBusyIn := goodIn_r _ [10, 1, 11, 12, 13, 14, 15, 16, 22, 23, 24, 25, 26, 27, 28, 29, 30, 31, 32, 33, 34, 35, 36, 37, 38, 39, 40, 41, 42, 43] (by decide +kernel) (by decide +kernel)
set_option maxRecDepth 20000 in
theorem gX1_giveOutPanels_X1_panelsBusyIn : GoodIn wsX1_giveOutPanels (wsV RX1 210 RX1 yX1_panelsBusyIn wsX1_panelsBusyIn) := goodIn_app (goodIn_of _ (by decide +kernel)) ggX1_giveOutPanels_X1_panelsBusyIn
set_option maxRecDepth 20000 in
theorem ggX1_giveOutPanels_X1_lowestPanels : GoodIn wsX1_giveOutPanels wsX1_lowestPanels := goodIn_r _ [20, 21, 22, 23, 24, 25, 26, 27, 28, 29, 30] (by decide +kernel) (by decide +kernel)
set_option maxRecDepth 20000 in
theorem gX1_giveOutPanels_X1_lowestPanels : GoodIn wsX1_giveOutPanels (wsV RX1 214 RX1 yX1_lowestPanels wsX1_lowestPanels) := goodIn_app (goodIn_of _ (by decide +kernel)) ggX1_giveOutPanels_X1_lowestPanels
theorem dX1_giveOutPanels_0 : decode cX1_giveOutPanels 0 = .ok (.aload_n 0, 1) := by decide +kernel
theorem dX1_giveOutPanels_1 : decode cX1_giveOutPanels 1 = .ok (.getfield 24, 3) := by decide +kernel
theorem dX1_giveOutPanels_4 : decode cX1_giveOutPanels 4 = .ok (.astore_n 1, 1) := by decide +kernel
theorem dX1_giveOutPanels_5 : decode cX1_giveOutPanels 5 = .ok (.aload_n 1, 1) := by decide +kernel
theorem dX1_giveOutPanels_6 : decode cX1_giveOutPanels 6 = .ok (.arraylength, 1) := by decide +kernel
theorem dX1_giveOutPanels_7 : decode cX1_giveOutPanels 7 = .ok (.istore_n 2, 1) := by decide +kernel
theorem dX1_giveOutPanels_8 : decode cX1_giveOutPanels 8 = .ok (.iconst 0, 1) := by decide +kernel
theorem dX1_giveOutPanels_9 : decode cX1_giveOutPanels 9 = .ok (.istore_n 3, 1) := by decide +kernel
theorem dX1_giveOutPanels_10 : decode cX1_giveOutPanels 10 = .ok (.iload_n 3, 1) := by decide +kernel
theorem dX1_giveOutPanels_11 : decode cX1_giveOutPanels 11 = .ok (.iload_n 2, 1) := by decide +kernel
theorem dX1_giveOutPanels_12 : decode cX1_giveOutPanels 12 = .ok (.if_icmp .ge 31, 3) := by decide +kernel
theorem dX1_giveOutPanels_15 : decode cX1_giveOutPanels 15 = .ok (.aload_n 1, 1) := by decide +kernel
theorem dX1_giveOutPanels_16 : decode cX1_giveOutPanels 16 = .ok (.iload_n 3, 1) := by decide +kernel
theorem dX1_giveOutPanels_17 : decode cX1_giveOutPanels 17 = .ok (.aaload, 1) := by decide +kernel
theorem dX1_giveOutPanels_18 : decode cX1_giveOutPanels 18 = .ok (.astore 4, 2) := by decide +kernel
theorem dX1_giveOutPanels_20 : decode cX1_giveOutPanels 20 = .ok (.aload 4, 2) := by decide +kernel
theorem dX1_giveOutPanels_22 : decode cX1_giveOutPanels 22 = .ok (.ifnull 15, 3) := by decide +kernel
theorem dX1_giveOutPanels_25 : decode cX1_giveOutPanels 25 = .ok (.aload 4, 2) := by decide +kernel
theorem dX1_giveOutPanels_27 : decode cX1_giveOutPanels 27 = .ok (.lconst 0, 1) := by decide +kernel
theorem dX1_giveOutPanels_28 : decode cX1_giveOutPanels 28 = .ok (.putfield 171, 3) := by decide +kernel
theorem dX1_giveOutPanels_31 : decode cX1_giveOutPanels 31 = .ok (.aload 4, 2) := by decide +kernel
theorem dX1_giveOutPanels_33 : decode cX1_giveOutPanels 33 = .ok (.iconst 0, 1) := by decide +kernel
theorem dX1_giveOutPanels_34 : decode cX1_giveOutPanels 34 = .ok (.putfield 202, 3) := by decide +kernel
theorem dX1_giveOutPanels_37 : decode cX1_giveOutPanels 37 = .ok (.iinc 3 1, 3) := by decide +kernel
theorem dX1_giveOutPanels_40 : decode cX1_giveOutPanels 40 = .ok (.goto (-30), 3) := by decide +kernel
theorem dX1_giveOutPanels_43 : decode cX1_giveOutPanels 43 = .ok (.iconst 0, 1) := by decide +kernel
theorem dX1_giveOutPanels_44 : decode cX1_giveOutPanels 44 = .ok (.istore_n 1, 1) := by decide +kernel
theorem dX1_giveOutPanels_45 : decode cX1_giveOutPanels 45 = .ok (.iload_n 1, 1) := by decide +kernel
theorem dX1_giveOutPanels_46 : decode cX1_giveOutPanels 46 = .ok (.bipush 10, 2) := by decide +kernel
theorem dX1_giveOutPanels_48 : decode cX1_giveOutPanels 48 = .ok (.if_icmp .ge 44, 3) := by decide +kernel
theorem dX1_giveOutPanels_51 : decode cX1_giveOutPanels 51 = .ok (.aload_n 0, 1) := by decide +kernel
theorem dX1_giveOutPanels_52 : decode cX1_giveOutPanels 52 = .ok (.invokevirtual 206, 3) := by decide +kernel
theorem dX1_giveOutPanels_55 : decode cX1_giveOutPanels 55 = .ok (.astore_n 2, 1) := by decide +kernel
theorem dX1_giveOutPanels_56 : decode cX1_giveOutPanels 56 = .ok (.aload_n 2, 1) := by decide +kernel
theorem dX1_giveOutPanels_57 : decode cX1_giveOutPanels 57 = .ok (.ifnonnull 4, 3) := by decide +kernel
theorem dX1_giveOutPanels_60 : decode cX1_giveOutPanels 60 = .ok (.return_, 1) := by decide +kernel
theorem dX1_giveOutPanels_61 : decode cX1_giveOutPanels 61 = .ok (.aload_n 2, 1) := by decide +kernel
theorem dX1_giveOutPanels_62 : decode cX1_giveOutPanels 62 = .ok (.aload_n 0, 1) := by decide +kernel
theorem dX1_giveOutPanels_63 : decode cX1_giveOutPanels 63 = .ok (.aload_n 0, 1) := by decide +kernel
theorem dX1_giveOutPanels_64 : decode cX1_giveOutPanels 64 = .ok (.aload_n 2, 1) := by decide +kernel
theorem dX1_giveOutPanels_65 : decode cX1_giveOutPanels 65 = .ok (.getfield 147, 3) := by decide +kernel
theorem dX1_giveOutPanels_68 : decode cX1_giveOutPanels 68 = .ok (.invokevirtual 210, 3) := by decide +kernel
theorem dX1_giveOutPanels_71 : decode cX1_giveOutPanels 71 = .ok (.aload_n 2, 1) := by decide +kernel
theorem dX1_giveOutPanels_72 : decode cX1_giveOutPanels 72 = .ok (.getfield 107, 3) := by decide +kernel
theorem dX1_giveOutPanels_75 : decode cX1_giveOutPanels 75 = .ok (.invokevirtual 214, 3) := by decide +kernel
theorem dX1_giveOutPanels_78 : decode cX1_giveOutPanels 78 = .ok (.putfield 171, 3) := by decide +kernel
theorem dX1_giveOutPanels_81 : decode cX1_giveOutPanels 81 = .ok (.aload_n 2, 1) := by decide +kernel
theorem dX1_giveOutPanels_82 : decode cX1_giveOutPanels 82 = .ok (.iconst 1, 1) := by decide +kernel
theorem dX1_giveOutPanels_83 : decode cX1_giveOutPanels 83 = .ok (.putfield 202, 3) := by decide +kernel
theorem dX1_giveOutPanels_86 : decode cX1_giveOutPanels 86 = .ok (.iinc 1 1, 3) := by decide +kernel
theorem dX1_giveOutPanels_89 : decode cX1_giveOutPanels 89 = .ok (.goto (-44), 3) := by decide +kernel
theorem dX1_giveOutPanels_92 : decode cX1_giveOutPanels 92 = .ok (.return_, 1) := by decide +kernel
theorem dX1_nextToServe_0 : decode cX1_nextToServe 0 = .ok (.aconst_null, 1) := by decide +kernel
theorem dX1_nextToServe_1 : decode cX1_nextToServe 1 = .ok (.astore_n 1, 1) := by decide +kernel
theorem dX1_nextToServe_2 : decode cX1_nextToServe 2 = .ok (.aload_n 0, 1) := by decide +kernel
theorem dX1_nextToServe_3 : decode cX1_nextToServe 3 = .ok (.getfield 24, 3) := by decide +kernel
theorem dX1_nextToServe_6 : decode cX1_nextToServe 6 = .ok (.astore_n 2, 1) := by decide +kernel
theorem dX1_nextToServe_7 : decode cX1_nextToServe 7 = .ok (.aload_n 2, 1) := by decide +kernel
theorem dX1_nextToServe_8 : decode cX1_nextToServe 8 = .ok (.arraylength, 1) := by decide +kernel
theorem dX1_nextToServe_9 : decode cX1_nextToServe 9 = .ok (.istore_n 3, 1) := by decide +kernel
theorem dX1_nextToServe_10 : decode cX1_nextToServe 10 = .ok (.iconst 0, 1) := by decide +kernel
theorem dX1_nextToServe_11 : decode cX1_nextToServe 11 = .ok (.istore 4, 2) := by decide +kernel
theorem dX1_nextToServe_13 : decode cX1_nextToServe 13 = .ok (.iload 4, 2) := by decide +kernel
theorem dX1_nextToServe_15 : decode cX1_nextToServe 15 = .ok (.iload_n 3, 1) := by decide +kernel
theorem dX1_nextToServe_16 : decode cX1_nextToServe 16 = .ok (.if_icmp .ge 47, 3) := by decide +kernel
theorem dX1_nextToServe_19 : decode cX1_nextToServe 19 = .ok (.aload_n 2, 1) := by decide +kernel
theorem dX1_nextToServe_20 : decode cX1_nextToServe 20 = .ok (.iload 4, 2) := by decide +kernel
theorem dX1_nextToServe_22 : decode cX1_nextToServe 22 = .ok (.aaload, 1) := by decide +kernel
theorem dX1_nextToServe_23 : decode cX1_nextToServe 23 = .ok (.astore 5, 2) := by decide +kernel
theorem dX1_nextToServe_25 : decode cX1_nextToServe 25 = .ok (.aload 5, 2) := by decide +kernel
theorem dX1_nextToServe_27 : decode cX1_nextToServe 27 = .ok (.ifnull 30, 3) := by decide +kernel
theorem dX1_nextToServe_30 : decode cX1_nextToServe 30 = .ok (.aload 5, 2) := by decide +kernel
theorem dX1_nextToServe_32 : decode cX1_nextToServe 32 = .ok (.getfield 202, 3) := by decide +kernel
theorem dX1_nextToServe_35 : decode cX1_nextToServe 35 = .ok (.ifCond .ne 22, 3) := by decide +kernel
theorem dX1_nextToServe_38 : decode cX1_nextToServe 38 = .ok (.aload_n 1, 1) := by decide +kernel
theorem dX1_nextToServe_39 : decode cX1_nextToServe 39 = .ok (.ifnull 15, 3) := by decide +kernel
theorem dX1_nextToServe_42 : decode cX1_nextToServe 42 = .ok (.aload 5, 2) := by decide +kernel
theorem dX1_nextToServe_44 : decode cX1_nextToServe 44 = .ok (.getfield 147, 3) := by decide +kernel
theorem dX1_nextToServe_47 : decode cX1_nextToServe 47 = .ok (.aload_n 1, 1) := by decide +kernel
theorem dX1_nextToServe_48 : decode cX1_nextToServe 48 = .ok (.getfield 147, 3) := by decide +kernel
theorem dX1_nextToServe_51 : decode cX1_nextToServe 51 = .ok (.if_icmp .ge 6, 3) := by decide +kernel
theorem dX1_nextToServe_54 : decode cX1_nextToServe 54 = .ok (.aload 5, 2) := by decide +kernel
theorem dX1_nextToServe_56 : decode cX1_nextToServe 56 = .ok (.astore_n 1, 1) := by decide +kernel
theorem dX1_nextToServe_57 : decode cX1_nextToServe 57 = .ok (.iinc 4 1, 3) := by decide +kernel
theorem dX1_nextToServe_60 : decode cX1_nextToServe 60 = .ok (.goto (-47), 3) := by decide +kernel
theorem dX1_nextToServe_63 : decode cX1_nextToServe 63 = .ok (.aload_n 1, 1) := by decide +kernel
theorem dX1_nextToServe_64 : decode cX1_nextToServe 64 = .ok (.areturn, 1) := by decide +kernel
set_option maxRecDepth 20000 in
theorem ggX1_panelsBusyIn_X0_isBusy : GoodIn wsX1_panelsBusyIn wsX0_isBusy := goodIn_r _ [5, 6, 7, 17, 18, 19, 20, 21, 22, 23, 24, 25, 26, 27, 28, 29] (by decide +kernel) (by decide +kernel)
set_option maxRecDepth 20000 in
theorem gX1_panelsBusyIn_X0_isBusy_n184 : GoodIn wsX1_panelsBusyIn (wsX0_isBusy) := ggX1_panelsBusyIn_X0_isBusy
theorem dX1_panelsBusyIn_0 : decode cX1_panelsBusyIn 0 = .ok (.lconst 0, 1) := by decide +kernel
theorem dX1_panelsBusyIn_1 : decode cX1_panelsBusyIn 1 = .ok (.lstore_n 2, 1) := by decide +kernel
theorem dX1_panelsBusyIn_2 : decode cX1_panelsBusyIn 2 = .ok (.aload_n 0, 1) := by decide +kernel
theorem dX1_panelsBusyIn_3 : decode cX1_panelsBusyIn 3 = .ok (.getfield 24, 3) := by decide +kernel
theorem dX1_panelsBusyIn_6 : decode cX1_panelsBusyIn 6 = .ok (.astore 4, 2) := by decide +kernel
theorem dX1_panelsBusyIn_8 : decode cX1_panelsBusyIn 8 = .ok (.aload 4, 2) := by decide +kernel
theorem dX1_panelsBusyIn_10 : decode cX1_panelsBusyIn 10 = .ok (.arraylength, 1) := by decide +kernel
theorem dX1_panelsBusyIn_11 : decode cX1_panelsBusyIn 11 = .ok (.istore 5, 2) := by decide +kernel
theorem dX1_panelsBusyIn_13 : decode cX1_panelsBusyIn 13 = .ok (.iconst 0, 1) := by decide +kernel
theorem dX1_panelsBusyIn_14 : decode cX1_panelsBusyIn 14 = .ok (.istore 6, 2) := by decide +kernel
theorem dX1_panelsBusyIn_16 : decode cX1_panelsBusyIn 16 = .ok (.iload 6, 2) := by decide +kernel
theorem dX1_panelsBusyIn_18 : decode cX1_panelsBusyIn 18 = .ok (.iload 5, 2) := by decide +kernel
theorem dX1_panelsBusyIn_20 : decode cX1_panelsBusyIn 20 = .ok (.if_icmp .ge 38, 3) := by decide +kernel
theorem dX1_panelsBusyIn_23 : decode cX1_panelsBusyIn 23 = .ok (.aload 4, 2) := by decide +kernel
theorem dX1_panelsBusyIn_25 : decode cX1_panelsBusyIn 25 = .ok (.iload 6, 2) := by decide +kernel
theorem dX1_panelsBusyIn_27 : decode cX1_panelsBusyIn 27 = .ok (.aaload, 1) := by decide +kernel
theorem dX1_panelsBusyIn_28 : decode cX1_panelsBusyIn 28 = .ok (.astore 7, 2) := by decide +kernel
theorem dX1_panelsBusyIn_30 : decode cX1_panelsBusyIn 30 = .ok (.aload 7, 2) := by decide +kernel
theorem dX1_panelsBusyIn_32 : decode cX1_panelsBusyIn 32 = .ok (.ifnull 20, 3) := by decide +kernel
theorem dX1_panelsBusyIn_35 : decode cX1_panelsBusyIn 35 = .ok (.aload 7, 2) := by decide +kernel
theorem dX1_panelsBusyIn_37 : decode cX1_panelsBusyIn 37 = .ok (.iload_n 1, 1) := by decide +kernel
theorem dX1_panelsBusyIn_38 : decode cX1_panelsBusyIn 38 = .ok (.invokevirtual 184, 3) := by decide +kernel
theorem dX1_panelsBusyIn_41 : decode cX1_panelsBusyIn 41 = .ok (.ifCond .eq 11, 3) := by decide +kernel
theorem dX1_panelsBusyIn_44 : decode cX1_panelsBusyIn 44 = .ok (.lload_n 2, 1) := by decide +kernel
theorem dX1_panelsBusyIn_45 : decode cX1_panelsBusyIn 45 = .ok (.aload 7, 2) := by decide +kernel
theorem dX1_panelsBusyIn_47 : decode cX1_panelsBusyIn 47 = .ok (.getfield 171, 3) := by decide +kernel
theorem dX1_panelsBusyIn_50 : decode cX1_panelsBusyIn 50 = .ok (.lor, 1) := by decide +kernel
theorem dX1_panelsBusyIn_51 : decode cX1_panelsBusyIn 51 = .ok (.lstore_n 2, 1) := by decide +kernel
theorem dX1_panelsBusyIn_52 : decode cX1_panelsBusyIn 52 = .ok (.iinc 6 1, 3) := by decide +kernel
theorem dX1_panelsBusyIn_55 : decode cX1_panelsBusyIn 55 = .ok (.goto (-39), 3) := by decide +kernel
theorem dX1_panelsBusyIn_58 : decode cX1_panelsBusyIn 58 = .ok (.lload_n 2, 1) := by decide +kernel
theorem dX1_panelsBusyIn_59 : decode cX1_panelsBusyIn 59 = .ok (.lreturn, 1) := by decide +kernel
theorem dX1_lowestPanels_0 : decode cX1_lowestPanels 0 = .ok (.lconst 0, 1) := by decide +kernel
theorem dX1_lowestPanels_1 : decode cX1_lowestPanels 1 = .ok (.lstore 4, 2) := by decide +kernel
theorem dX1_lowestPanels_3 : decode cX1_lowestPanels 3 = .ok (.iconst 0, 1) := by decide +kernel
theorem dX1_lowestPanels_4 : decode cX1_lowestPanels 4 = .ok (.istore 6, 2) := by decide +kernel
theorem dX1_lowestPanels_6 : decode cX1_lowestPanels 6 = .ok (.iconst 0, 1) := by decide +kernel
theorem dX1_lowestPanels_7 : decode cX1_lowestPanels 7 = .ok (.istore 7, 2) := by decide +kernel
theorem dX1_lowestPanels_9 : decode cX1_lowestPanels 9 = .ok (.iload 7, 2) := by decide +kernel
theorem dX1_lowestPanels_11 : decode cX1_lowestPanels 11 = .ok (.aload_n 0, 1) := by decide +kernel
theorem dX1_lowestPanels_12 : decode cX1_lowestPanels 12 = .ok (.getfield 28, 3) := by decide +kernel
theorem dX1_lowestPanels_15 : decode cX1_lowestPanels 15 = .ok (.if_icmp .ge 40, 3) := by decide +kernel
theorem dX1_lowestPanels_18 : decode cX1_lowestPanels 18 = .ok (.iload 6, 2) := by decide +kernel
theorem dX1_lowestPanels_20 : decode cX1_lowestPanels 20 = .ok (.iload_n 3, 1) := by decide +kernel
theorem dX1_lowestPanels_21 : decode cX1_lowestPanels 21 = .ok (.if_icmp .ge 34, 3) := by decide +kernel
theorem dX1_lowestPanels_24 : decode cX1_lowestPanels 24 = .ok (.lconst 1, 1) := by decide +kernel
theorem dX1_lowestPanels_25 : decode cX1_lowestPanels 25 = .ok (.iload 7, 2) := by decide +kernel
theorem dX1_lowestPanels_27 : decode cX1_lowestPanels 27 = .ok (.lshl, 1) := by decide +kernel
theorem dX1_lowestPanels_28 : decode cX1_lowestPanels 28 = .ok (.lstore 8, 2) := by decide +kernel
theorem dX1_lowestPanels_30 : decode cX1_lowestPanels 30 = .ok (.lload_n 1, 1) := by decide +kernel
theorem dX1_lowestPanels_31 : decode cX1_lowestPanels 31 = .ok (.lload 8, 2) := by decide +kernel
theorem dX1_lowestPanels_33 : decode cX1_lowestPanels 33 = .ok (.land, 1) := by decide +kernel
theorem dX1_lowestPanels_34 : decode cX1_lowestPanels 34 = .ok (.lconst 0, 1) := by decide +kernel
theorem dX1_lowestPanels_35 : decode cX1_lowestPanels 35 = .ok (.lcmp, 1) := by decide +kernel
theorem dX1_lowestPanels_36 : decode cX1_lowestPanels 36 = .ok (.ifCond .ne 13, 3) := by decide +kernel
theorem dX1_lowestPanels_39 : decode cX1_lowestPanels 39 = .ok (.lload 4, 2) := by decide +kernel
theorem dX1_lowestPanels_41 : decode cX1_lowestPanels 41 = .ok (.lload 8, 2) := by decide +kernel
theorem dX1_lowestPanels_43 : decode cX1_lowestPanels 43 = .ok (.lor, 1) := by decide +kernel
theorem dX1_lowestPanels_44 : decode cX1_lowestPanels 44 = .ok (.lstore 4, 2) := by decide +kernel
theorem dX1_lowestPanels_46 : decode cX1_lowestPanels 46 = .ok (.iinc 6 1, 3) := by decide +kernel
theorem dX1_lowestPanels_49 : decode cX1_lowestPanels 49 = .ok (.iinc 7 1, 3) := by decide +kernel
theorem dX1_lowestPanels_52 : decode cX1_lowestPanels 52 = .ok (.goto (-43), 3) := by decide +kernel
theorem dX1_lowestPanels_55 : decode cX1_lowestPanels 55 = .ok (.lload 4, 2) := by decide +kernel
theorem dX1_lowestPanels_57 : decode cX1_lowestPanels 57 = .ok (.lreturn, 1) := by decide +kernel
theorem dX2_init_0 : decode cX2_init 0 = .ok (.aload_n 0, 1) := by decide +kernel
theorem dX2_init_1 : decode cX2_init 1 = .ok (.invokespecial 1, 3) := by decide +kernel
theorem dX2_init_4 : decode cX2_init 4 = .ok (.aload_n 0, 1) := by decide +kernel
theorem dX2_init_5 : decode cX2_init 5 = .ok (.sipush 1000, 3) := by decide +kernel
theorem dX2_init_8 : decode cX2_init 8 = .ok (.newarray .int, 2) := by decide +kernel
theorem dX2_init_10 : decode cX2_init 10 = .ok (.putfield 7, 3) := by decide +kernel
theorem dX2_init_13 : decode cX2_init 13 = .ok (.aload_n 0, 1) := by decide +kernel
theorem dX2_init_14 : decode cX2_init 14 = .ok (.bipush 20, 2) := by decide +kernel
theorem dX2_init_16 : decode cX2_init 16 = .ok (.putfield 13, 3) := by decide +kernel
theorem dX2_init_19 : decode cX2_init 19 = .ok (.aload_n 0, 1) := by decide +kernel
theorem dX2_init_20 : decode cX2_init 20 = .ok (.bipush 10, 2) := by decide +kernel
theorem dX2_init_22 : decode cX2_init 22 = .ok (.putfield 17, 3) := by decide +kernel
theorem dX2_init_25 : decode cX2_init 25 = .ok (.aload_n 0, 1) := by decide +kernel
theorem dX2_init_26 : decode cX2_init 26 = .ok (.bipush 12, 2) := by decide +kernel
theorem dX2_init_28 : decode cX2_init 28 = .ok (.putfield 20, 3) := by decide +kernel
theorem dX2_init_31 : decode cX2_init 31 = .ok (.aload_n 0, 1) := by decide +kernel
theorem dX2_init_32 : decode cX2_init 32 = .ok (.iconst 2, 1) := by decide +kernel
theorem dX2_init_33 : decode cX2_init 33 = .ok (.putfield 23, 3) := by decide +kernel
theorem dX2_init_36 : decode cX2_init 36 = .ok (.aload_n 0, 1) := by decide +kernel
theorem dX2_init_37 : decode cX2_init 37 = .ok (.iconst 3, 1) := by decide +kernel
theorem dX2_init_38 : decode cX2_init 38 = .ok (.putfield 26, 3) := by decide +kernel
theorem dX2_init_41 : decode cX2_init 41 = .ok (.aload_n 0, 1) := by decide +kernel
theorem dX2_init_42 : decode cX2_init 42 = .ok (.bipush 11, 2) := by decide +kernel
theorem dX2_init_44 : decode cX2_init 44 = .ok (.newarray .boolean, 2) := by decide +kernel
theorem dX2_init_46 : decode cX2_init 46 = .ok (.putfield 29, 3) := by decide +kernel
theorem dX2_init_49 : decode cX2_init 49 = .ok (.aload_n 0, 1) := by decide +kernel
theorem dX2_init_50 : decode cX2_init 50 = .ok (.bipush 11, 2) := by decide +kernel
theorem dX2_init_52 : decode cX2_init 52 = .ok (.newarray .int, 2) := by decide +kernel
theorem dX2_init_54 : decode cX2_init 54 = .ok (.putfield 33, 3) := by decide +kernel
theorem dX2_init_57 : decode cX2_init 57 = .ok (.aload_n 0, 1) := by decide +kernel
theorem dX2_init_58 : decode cX2_init 58 = .ok (.bipush 11, 2) := by decide +kernel
theorem dX2_init_60 : decode cX2_init 60 = .ok (.newarray .int, 2) := by decide +kernel
